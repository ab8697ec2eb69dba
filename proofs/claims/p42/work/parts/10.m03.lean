/-! WarByHoursModel.treaties (I)J -/
def rX12_treaties : Room := { frames := 5, cells := 0, slots := 0, locals := 114 }
def f_X12_treaties_60 (K23 : Int64 × Int32 × St → Option (Int64 × St)) (v4 : Int32) (k0 : Int64) (k1 : Int64) (σ : St) : Option (Int64 × St) :=
  bnd ((k1 ||| k0)) fun x1 =>
  bnd (v4 + (1 : Int32)) fun x2 =>
  K23 (x1, x2, σ)
theorem b_X12_treaties_60 {Γ : CX} (K23 : Int64 × Int32 × St → Option (Int64 × St)) (hK23 : ∀ (v2 : Int64) (v4 : Int32) (σ : St), RR vL Γ (K23 (v2, v4, σ)) → WW Γ cX12_treaties 5 RX12 (some .long) rX12_treaties σ 23 [(0, .ref (xd Γ 58)), (2, .long v2), (4, .int v4)] []) (v4 : Int32) (k0 : Int64) (k1 : Int64) (σ : St) (h : RR vL Γ (f_X12_treaties_60 K23 v4 k0 k1 σ)) : WW Γ cX12_treaties 5 RX12 (some .long) rX12_treaties σ 60 [(0, .ref (xd Γ 58)), (4, .int v4)] [.long k0, .long k1] := by
  unfold f_X12_treaties_60 at h
  refine w_lor dX12_treaties_60 rfl ?_
  refine w_nmL (fun x1 ex1 => ?_)
  replace h := h.bnd ex1
  clear ex1
  refine w_lstore_n [(2, .long x1), (0, .ref (xd Γ 58)), (4, .int v4)] dX12_treaties_61 rfl (by decide) rfl rfl ?_
  obtain ⟨x2, ex2⟩ : ∃ y : Int32, y = (v4 + (1 : Int32)) := ⟨_, rfl⟩
  replace h := h.bnd ex2
  refine w_iinc 2 x2 [(4, .int x2), (2, .long x1), (0, .ref (xd Γ 58))] dX12_treaties_62 rfl (by rw [ex2, ic_iconst_1]) (by decide) rfl rfl ?_
  clear ex2
  refine w_goto (tgt := 23) dX12_treaties_65 (by decide) ?_
  exact w_sub [2, 1, 0] rfl (hK23 x1 x2 σ h)
def g_X12_treaties_23 (K23 : Int64 × Int32 × St → Option (Int64 × St)) (x : Int64 × Int32 × St) : Option (Int64 × St) := match x with
  | (v2, v4, σ) =>
  gd (inb (0 : Int32) (ln 59)) <|
  if (gr σ 59 (0 : Int32).toNatClampNeg) < v4 then
    some (v2, σ)
  else
    gd (inb (2 : Int32) (ln 59)) <|
    bd (f_X12_isTreaty v4 (gr σ 59 (2 : Int32).toNatClampNeg) σ) fun r3 s4 =>
    if r3 = 0 then
      f_X12_treaties_60 K23 v4 (0 : Int64) v2 s4
    else
      f_X12_treaties_60 K23 v4 ((1 : Int64) <<< ((v4 - (1 : Int32)).toInt64 &&& 63)) v2 s4
theorem l_X12_treaties_23 {Γ : CX} : ∀ (n : Nat) (v2 : Int64) (v4 : Int32) (σ : St), RR vL Γ (itr (g_X12_treaties_23) n (v2, v4, σ)) → WW Γ cX12_treaties 5 RX12 (some .long) rX12_treaties σ 23 [(0, .ref (xd Γ 58)), (2, .long v2), (4, .int v4)] [] := by
  intro n
  induction n with
  | zero => intro v2 v4 σ h; exact RR.no h
  | succ n hK23 =>
  intro v2 v4 σ h
  have h : RR vL Γ (g_X12_treaties_23 (itr (g_X12_treaties_23) n) (v2, v4, σ)) := h
  generalize itr (g_X12_treaties_23) n = K23 at h hK23
  unfold g_X12_treaties_23 at h
  dsimp only at h
  refine w_iload 2 dX12_treaties_23 rfl rfl ?_
  refine w_aload_n 0 dX12_treaties_25 rfl rfl rfl ?_
  refine gf_RX12_9 dX12_treaties_26 rfl ?_
  refine w_iconst (0 : Int32) dX12_treaties_29 ic_iconst_0 rfl ?_
  obtain ⟨hi1, h⟩ := h.gd
  refine w_iald (i := 59) (lt_lit (by decide)) rfl hi1 dX12_treaties_30 rfl ?_
  refine w_icmp_gt (tgt := 68) dX12_treaties_31 (by decide) rfl (fun q => ?_) (fun q => ?_)
  · have h := h.tt q
    refine w_lload_n 1 dX12_treaties_68 rfl rfl rfl ?_
    exact w_lreturn dX12_treaties_69 h
  · have h := h.ff q
    refine w_lload_n 1 dX12_treaties_34 rfl rfl rfl ?_
    refine w_aload_n 0 dX12_treaties_35 rfl rfl rfl ?_
    refine w_iload 2 dX12_treaties_36 rfl rfl ?_
    refine w_aload_n 0 dX12_treaties_38 rfl rfl rfl ?_
    refine gf_RX12_9 dX12_treaties_39 rfl ?_
    refine w_iconst (2 : Int32) dX12_treaties_42 ic_iconst_2 rfl ?_
    obtain ⟨hi2, h⟩ := h.gd
    refine w_iald (i := 59) (lt_lit (by decide)) rfl hi2 dX12_treaties_43 rfl ?_
    obtain ⟨r3, s4, h5, h⟩ := h.bd
    refine k_X12_isTreaty ml_RX12_413 (Nat.le_of_ble_eq_true rfl) ⟨Nat.le_of_ble_eq_true rfl, Nat.le_of_ble_eq_true rfl⟩ dX12_treaties_44 rfl h5 ?_
    refine w_if_eq (tgt := 59) dX12_treaties_47 (by decide) rfl (fun q => ?_) (fun q => ?_)
    · have h := h.tt q
      refine w_lconst (0 : Int64) dX12_treaties_59 rfl rfl ?_
      exact w_sub [0, 2] rfl (b_X12_treaties_60 K23 hK23 v4 (0 : Int64) v2 s4 h)
    · have h := h.ff q
      refine w_lconst (1 : Int64) dX12_treaties_50 rfl rfl ?_
      refine w_iload 2 dX12_treaties_51 rfl rfl ?_
      refine w_iconst (1 : Int32) dX12_treaties_53 ic_iconst_1 rfl ?_
      refine w_isub dX12_treaties_54 rfl ?_
      refine w_lshl dX12_treaties_55 rfl ?_
      refine w_goto (tgt := 60) dX12_treaties_56 (by decide) ?_
      exact w_sub [0, 2] rfl (b_X12_treaties_60 K23 hK23 v4 ((1 : Int64) <<< ((v4 - (1 : Int32)).toInt64 &&& 63)) v2 s4 h)
def f_X12_treaties (p0 : Int32) (σ : St) : Option (Int64 × St) :=
  bd (f_X12_areTrains p0 σ) fun r1 s2 =>
  if r1 = 0 then
    some ((-2 : Int64), s2)
  else
    bd (f_X12_lastFront p0 s2) fun r4 s5 =>
    itr (g_X12_treaties_23) FU ((0 : Int64), (1 : Int32), s5)
theorem e_X12_treaties {Γ : CX} (p0 : Int32) (σ : St) (h : RR vL Γ (f_X12_treaties p0 σ)) : WW Γ cX12_treaties 5 RX12 (some .long) rX12_treaties σ 0 [(0, .ref (xd Γ 58)), (1, .int p0)] [] := by
  unfold f_X12_treaties at h
  refine w_aload_n 0 dX12_treaties_0 rfl rfl rfl ?_
  refine w_iload_n 1 dX12_treaties_1 rfl rfl rfl ?_
  obtain ⟨r1, s2, h3, h⟩ := h.bd
  refine k_X12_areTrains ml_RX12_266 (Nat.le_of_ble_eq_true rfl) ⟨Nat.le_of_ble_eq_true rfl, Nat.le_of_ble_eq_true rfl⟩ dX12_treaties_2 rfl h3 ?_
  refine w_if_ne (tgt := 12) dX12_treaties_5 (by decide) rfl (fun q => ?_) (fun q => ?_)
  · have h := h.ff q
    refine w_aload_n 0 dX12_treaties_12 rfl rfl rfl ?_
    refine w_iload_n 1 dX12_treaties_13 rfl rfl rfl ?_
    obtain ⟨r4, s5, h6, h⟩ := h.bd
    refine k_X12_lastFront ml_RX12_258 (Nat.le_of_ble_eq_true rfl) ⟨Nat.le_of_ble_eq_true rfl, Nat.le_of_ble_eq_true rfl⟩ dX12_treaties_14 rfl h6 ?_
    refine w_pop dX12_treaties_17 rfl rfl ?_
    refine w_lconst (0 : Int64) dX12_treaties_18 rfl rfl ?_
    refine w_lstore_n [(2, .long (0 : Int64)), (0, .ref (xd Γ 58)), (1, .int p0)] dX12_treaties_19 rfl (by decide) rfl rfl ?_
    refine w_iconst (1 : Int32) dX12_treaties_20 ic_iconst_1 rfl ?_
    refine w_istore [(4, .int (1 : Int32)), (2, .long (0 : Int64)), (0, .ref (xd Γ 58)), (1, .int p0)] dX12_treaties_21 (by decide) rfl rfl ?_
    exact w_sub [2, 1, 0] rfl (l_X12_treaties_23 FU (0 : Int64) (1 : Int32) s5 h)
  · have h := h.tt q
    refine w_ldc2_w (-2 : Int64) dX12_treaties_8 cl_RX12_275 rfl ?_
    exact w_lreturn dX12_treaties_11 h
theorem c_X12_treaties {l : Launch} {D : va_G} {cy : Nat → ClassId} {ad : Nat → Nat} {p0 : Int32} {σ σ' : St} {r : Int64} (hf : f_X12_treaties p0 σ = some (r, σ')) : CT l D cy ad yX12_treaties cX12_treaties 5 (some .long) rX12_treaties [.ref (ad 58), .int p0] σ (some (.long r)) σ' :=
  ct_of (by decide) (Nat.le_of_ble_eq_true rfl) (fun p e s m args below meth c A => e_X12_treaties (Γ := (p, l, e, rX12_treaties, s, m, args, below, meth, c, D, cy, ad, A, 0, 0, MQ below (QC D cy ad (some (.long r)) σ' A) args s 0 0 A)) p0 σ ⟨_, hf, rfl⟩)
theorem k_X12_treaties {Γ : CX} {cc : ByteArray} {nL : Nat} {own : String} {ret : Option FieldType} {rm : Room} {σ σ' : St} {pc pc' idx : Nat} {lv : List (Nat × Value)} {rest : List Value} {p0 : Int32} {r : Int64} (hl : Cond.methodLink own idx yX12_treaties ∈ TB) (hw : (rest.map fun v => v.category).sum ≤ 8) (hR : rX12_treaties.frames + 1 ≤ rm.frames ∧ 8 + (5 + 11) + rX12_treaties.locals ≤ rm.locals) (hd : decode cc pc = .ok (.invokevirtual idx, 3)) (hp : pc + 3 = pc') (hf : f_X12_treaties p0 σ = some (r, σ')) (h : WW Γ cc nL own ret rm σ' pc' lv (.long r :: rest)) : WW Γ cc nL own ret rm σ pc lv (.int p0 :: .ref (xd Γ 58) :: rest) :=
  w_callV (nn := 1) (i := 58) (As := [.int p0]) (v := (some (.long r))) (T := TX12) (N := 32) (c_X12_treaties hf) hl mw_X12_treaties (by decide +kernel) ⟨rfl, rfl⟩ hR (lt_lit (by decide)) cel_58 rfl rfl hw hd rfl hp h
/-! WarByHoursModel.price (II)I -/
def rX12_price : Room := { frames := 5, cells := 0, slots := 0, locals := 114 }
def f_X12_price_24 (σ : St) : Option (Int32 × St) :=
  some ((-2 : Int32), σ)
theorem b_X12_price_24 {Γ : CX} (σ : St) (h : RR vI Γ (f_X12_price_24 σ)) : WW Γ cX12_price 4 RX12 (some .int) rX12_price σ 24 [] [] := by
  unfold f_X12_price_24 at h
  refine w_bipush (-2 : Int32) dX12_price_24 ic_bipush_m2 rfl ?_
  exact w_ireturn dX12_price_26 h
def g_X12_price_35 (K35 : Int32 × Int32 × St → Option (Int32 × St)) (x : Int32 × Int32 × St) : Option (Int32 × St) := match x with
  | (v1, v3, σ) =>
  if (60 : Int32) < v3 then
    some ((-1 : Int32), σ)
  else
    bd (f_X12_isTreaty v1 v3 σ) fun r1 s2 =>
    if r1 = 0 then
      bnd (v3 + (1 : Int32)) fun x4 =>
      K35 (v1, x4, s2)
    else
      some (v3, s2)
theorem l_X12_price_35 {Γ : CX} : ∀ (n : Nat) (v1 : Int32) (v3 : Int32) (σ : St), RR vI Γ (itr (g_X12_price_35) n (v1, v3, σ)) → WW Γ cX12_price 4 RX12 (some .int) rX12_price σ 35 [(0, .ref (xd Γ 58)), (1, .int v1), (3, .int v3)] [] := by
  intro n
  induction n with
  | zero => intro v1 v3 σ h; exact RR.no h
  | succ n hK35 =>
  intro v1 v3 σ h
  have h : RR vI Γ (g_X12_price_35 (itr (g_X12_price_35) n) (v1, v3, σ)) := h
  generalize itr (g_X12_price_35) n = K35 at h hK35
  unfold g_X12_price_35 at h
  dsimp only at h
  refine w_iload_n 2 dX12_price_35 rfl rfl rfl ?_
  refine w_bipush (60 : Int32) dX12_price_36 ic_bipush_60 rfl ?_
  refine w_icmp_gt (tgt := 58) dX12_price_38 (by decide) rfl (fun q => ?_) (fun q => ?_)
  · have h := h.tt q
    refine w_iconst (-1 : Int32) dX12_price_58 ic_iconst_m1 rfl ?_
    exact w_ireturn dX12_price_59 h
  · have h := h.ff q
    refine w_aload_n 0 dX12_price_41 rfl rfl rfl ?_
    refine w_iload_n 1 dX12_price_42 rfl rfl rfl ?_
    refine w_iload_n 2 dX12_price_43 rfl rfl rfl ?_
    obtain ⟨r1, s2, h3, h⟩ := h.bd
    refine k_X12_isTreaty ml_RX12_413 (Nat.le_of_ble_eq_true rfl) ⟨Nat.le_of_ble_eq_true rfl, Nat.le_of_ble_eq_true rfl⟩ dX12_price_44 rfl h3 ?_
    refine w_if_eq (tgt := 52) dX12_price_47 (by decide) rfl (fun q => ?_) (fun q => ?_)
    · have h := h.tt q
      obtain ⟨x4, ex4⟩ : ∃ y : Int32, y = (v3 + (1 : Int32)) := ⟨_, rfl⟩
      replace h := h.bnd ex4
      refine w_iinc 2 x4 [(3, .int x4), (0, .ref (xd Γ 58)), (1, .int v1)] dX12_price_52 rfl (by rw [ex4, ic_iconst_1]) (by decide) rfl rfl ?_
      clear ex4
      refine w_goto (tgt := 35) dX12_price_55 (by decide) ?_
      exact w_sub [1, 2, 0] rfl (hK35 v1 x4 s2 h)
    · have h := h.ff q
      refine w_iload_n 2 dX12_price_50 rfl rfl rfl ?_
      exact w_ireturn dX12_price_51 h
def f_X12_price (p0 : Int32) (p1 : Int32) (σ : St) : Option (Int32 × St) :=
  bd (f_X12_areTrains p1 σ) fun r1 s2 =>
  if r1 = 0 then
    f_X12_price_24 s2
  else
    gd (inb (0 : Int32) (ln 59)) <|
    bd (f_X12_in p0.toInt64 (1 : Int64) (gr s2 59 (0 : Int32).toNatClampNeg).toInt64 s2) fun r5 s6 =>
    if r5 = 0 then
      f_X12_price_24 s6
    else
      bd (f_X12_lastFront p1 s6) fun r8 s9 =>
      itr (g_X12_price_35) FU (p0, (0 : Int32), s9)
theorem e_X12_price {Γ : CX} (p0 : Int32) (p1 : Int32) (σ : St) (h : RR vI Γ (f_X12_price p0 p1 σ)) : WW Γ cX12_price 4 RX12 (some .int) rX12_price σ 0 [(0, .ref (xd Γ 58)), (1, .int p0), (2, .int p1)] [] := by
  unfold f_X12_price at h
  refine w_aload_n 0 dX12_price_0 rfl rfl rfl ?_
  refine w_iload_n 2 dX12_price_1 rfl rfl rfl ?_
  obtain ⟨r1, s2, h3, h⟩ := h.bd
  refine k_X12_areTrains ml_RX12_266 (Nat.le_of_ble_eq_true rfl) ⟨Nat.le_of_ble_eq_true rfl, Nat.le_of_ble_eq_true rfl⟩ dX12_price_2 rfl h3 ?_
  refine w_if_eq (tgt := 24) dX12_price_5 (by decide) rfl (fun q => ?_) (fun q => ?_)
  · have h := h.tt q
    exact w_sub [] rfl (b_X12_price_24 s2 h)
  · have h := h.ff q
    refine w_iload_n 1 dX12_price_8 rfl rfl rfl ?_
    refine w_i2l dX12_price_9 rfl ?_
    refine w_lconst (1 : Int64) dX12_price_10 rfl rfl ?_
    refine w_aload_n 0 dX12_price_11 rfl rfl rfl ?_
    refine gf_RX12_9 dX12_price_12 rfl ?_
    refine w_iconst (0 : Int32) dX12_price_15 ic_iconst_0 rfl ?_
    obtain ⟨hi4, h⟩ := h.gd
    refine w_iald (i := 59) (lt_lit (by decide)) rfl hi4 dX12_price_16 rfl ?_
    refine w_i2l dX12_price_17 rfl ?_
    obtain ⟨r5, s6, h7, h⟩ := h.bd
    refine k_X12_in ml_RX12_70 (Nat.le_of_ble_eq_true rfl) ⟨Nat.le_of_ble_eq_true rfl, Nat.le_of_ble_eq_true rfl⟩ dX12_price_18 rfl h7 ?_
    refine w_if_ne (tgt := 27) dX12_price_21 (by decide) rfl (fun q => ?_) (fun q => ?_)
    · have h := h.ff q
      refine w_aload_n 0 dX12_price_27 rfl rfl rfl ?_
      refine w_iload_n 2 dX12_price_28 rfl rfl rfl ?_
      obtain ⟨r8, s9, h10, h⟩ := h.bd
      refine k_X12_lastFront ml_RX12_258 (Nat.le_of_ble_eq_true rfl) ⟨Nat.le_of_ble_eq_true rfl, Nat.le_of_ble_eq_true rfl⟩ dX12_price_29 rfl h10 ?_
      refine w_pop dX12_price_32 rfl rfl ?_
      refine w_iconst (0 : Int32) dX12_price_33 ic_iconst_0 rfl ?_
      refine w_istore_n [(3, .int (0 : Int32)), (0, .ref (xd Γ 58)), (1, .int p0), (2, .int p1)] dX12_price_34 rfl (by decide) rfl rfl ?_
      exact w_sub [1, 2, 0] rfl (l_X12_price_35 FU p0 (0 : Int32) s9 h)
    · have h := h.tt q
      exact w_sub [] rfl (b_X12_price_24 s6 h)
theorem c_X12_price {l : Launch} {D : va_G} {cy : Nat → ClassId} {ad : Nat → Nat} {p0 : Int32} {p1 : Int32} {σ σ' : St} {r : Int32} (hf : f_X12_price p0 p1 σ = some (r, σ')) : CT l D cy ad yX12_price cX12_price 4 (some .int) rX12_price [.ref (ad 58), .int p0, .int p1] σ (some (.int r)) σ' :=
  ct_of (by decide) (Nat.le_of_ble_eq_true rfl) (fun p e s m args below meth c A => e_X12_price (Γ := (p, l, e, rX12_price, s, m, args, below, meth, c, D, cy, ad, A, 0, 0, MQ below (QC D cy ad (some (.int r)) σ' A) args s 0 0 A)) p0 p1 σ ⟨_, hf, rfl⟩)
theorem k_X12_price {Γ : CX} {cc : ByteArray} {nL : Nat} {own : String} {ret : Option FieldType} {rm : Room} {σ σ' : St} {pc pc' idx : Nat} {lv : List (Nat × Value)} {rest : List Value} {p0 : Int32} {p1 : Int32} {r : Int32} (hl : Cond.methodLink own idx yX12_price ∈ TB) (hw : (rest.map fun v => v.category).sum ≤ 8) (hR : rX12_price.frames + 1 ≤ rm.frames ∧ 8 + (4 + 11) + rX12_price.locals ≤ rm.locals) (hd : decode cc pc = .ok (.invokevirtual idx, 3)) (hp : pc + 3 = pc') (hf : f_X12_price p0 p1 σ = some (r, σ')) (h : WW Γ cc nL own ret rm σ' pc' lv (.int r :: rest)) : WW Γ cc nL own ret rm σ pc lv (.int p1 :: .int p0 :: .ref (xd Γ 58) :: rest) :=
  w_callV (nn := 2) (i := 58) (As := [.int p0, .int p1]) (v := (some (.int r))) (T := TX12) (N := 32) (c_X12_price hf) hl mw_X12_price (by decide +kernel) ⟨rfl, rfl⟩ hR (lt_lit (by decide)) cel_58 rfl rfl hw hd rfl hp h
/-! WarByHoursModel.spiesBy (I)I -/
def rX12_spiesBy : Room := { frames := 0, cells := 0, slots := 0, locals := 0 }
def f_X12_spiesBy_39 (K4 : Int32 × Int32 × Int32 × St → Option (Int32 × St)) (v1 : Int32) (v3 : Int32) (k0 : Int32) (k1 : Int32) (σ : St) : Option (Int32 × St) :=
  bnd ((k1 ||| k0)) fun x1 =>
  bnd (v3 + (1 : Int32)) fun x2 =>
  K4 (v1, x1, x2, σ)
theorem b_X12_spiesBy_39 {Γ : CX} (K4 : Int32 × Int32 × Int32 × St → Option (Int32 × St)) (hK4 : ∀ (v1 : Int32) (v2 : Int32) (v3 : Int32) (σ : St), RR vI Γ (K4 (v1, v2, v3, σ)) → WW Γ cX12_spiesBy 4 RX12 (some .int) rX12_spiesBy σ 4 [(0, .ref (xd Γ 58)), (1, .int v1), (2, .int v2), (3, .int v3)] []) (v1 : Int32) (v3 : Int32) (k0 : Int32) (k1 : Int32) (σ : St) (h : RR vI Γ (f_X12_spiesBy_39 K4 v1 v3 k0 k1 σ)) : WW Γ cX12_spiesBy 4 RX12 (some .int) rX12_spiesBy σ 39 [(0, .ref (xd Γ 58)), (1, .int v1), (3, .int v3)] [.int k0, .int k1] := by
  unfold f_X12_spiesBy_39 at h
  refine w_ior dX12_spiesBy_39 rfl ?_
  refine w_nmI (fun x1 ex1 => ?_)
  replace h := h.bnd ex1
  clear ex1
  refine w_istore_n [(2, .int x1), (0, .ref (xd Γ 58)), (1, .int v1), (3, .int v3)] dX12_spiesBy_40 rfl (by decide) rfl rfl ?_
  obtain ⟨x2, ex2⟩ : ∃ y : Int32, y = (v3 + (1 : Int32)) := ⟨_, rfl⟩
  replace h := h.bnd ex2
  refine w_iinc 3 x2 [(3, .int x2), (2, .int x1), (0, .ref (xd Γ 58)), (1, .int v1)] dX12_spiesBy_41 rfl (by rw [ex2, ic_iconst_1]) (by decide) rfl rfl ?_
  clear ex2
  refine w_goto (tgt := 4) dX12_spiesBy_44 (by decide) ?_
  exact w_sub [2, 3, 1, 0] rfl (hK4 v1 x1 x2 σ h)
def g_X12_spiesBy_4 (K4 : Int32 × Int32 × Int32 × St → Option (Int32 × St)) (x : Int32 × Int32 × Int32 × St) : Option (Int32 × St) := match x with
  | (v1, v2, v3, σ) =>
  gd (inb (8 : Int32) (ln 59)) <|
  if (gr σ 59 (8 : Int32).toNatClampNeg) ≤ v3 then
    some (v2, σ)
  else
    gd (inb ((115 : Int32) + v3) (ln 59)) <|
    if (v1 &&& ((gr σ 59 ((115 : Int32) + v3).toNatClampNeg) ^^^ (-1 : Int32))) = 0 then
      f_X12_spiesBy_39 K4 v1 v3 ((1 : Int32) <<< (v3 &&& 31)) v2 σ
    else
      f_X12_spiesBy_39 K4 v1 v3 (0 : Int32) v2 σ
theorem l_X12_spiesBy_4 {Γ : CX} : ∀ (n : Nat) (v1 : Int32) (v2 : Int32) (v3 : Int32) (σ : St), RR vI Γ (itr (g_X12_spiesBy_4) n (v1, v2, v3, σ)) → WW Γ cX12_spiesBy 4 RX12 (some .int) rX12_spiesBy σ 4 [(0, .ref (xd Γ 58)), (1, .int v1), (2, .int v2), (3, .int v3)] [] := by
  intro n
  induction n with
  | zero => intro v1 v2 v3 σ h; exact RR.no h
  | succ n hK4 =>
  intro v1 v2 v3 σ h
  have h : RR vI Γ (g_X12_spiesBy_4 (itr (g_X12_spiesBy_4) n) (v1, v2, v3, σ)) := h
  generalize itr (g_X12_spiesBy_4) n = K4 at h hK4
  unfold g_X12_spiesBy_4 at h
  dsimp only at h
  refine w_iload_n 3 dX12_spiesBy_4 rfl rfl rfl ?_
  refine w_aload_n 0 dX12_spiesBy_5 rfl rfl rfl ?_
  refine gf_RX12_9 dX12_spiesBy_6 rfl ?_
  refine w_bipush (8 : Int32) dX12_spiesBy_9 ic_bipush_8 rfl ?_
  obtain ⟨hi1, h⟩ := h.gd
  refine w_iald (i := 59) (lt_lit (by decide)) rfl hi1 dX12_spiesBy_11 rfl ?_
  refine w_icmp_ge (tgt := 47) dX12_spiesBy_12 (by decide) rfl (fun q => ?_) (fun q => ?_)
  · have h := h.tt q
    refine w_iload_n 2 dX12_spiesBy_47 rfl rfl rfl ?_
    exact w_ireturn dX12_spiesBy_48 h
  · have h := h.ff q
    refine w_iload_n 2 dX12_spiesBy_15 rfl rfl rfl ?_
    refine w_iload_n 1 dX12_spiesBy_16 rfl rfl rfl ?_
    refine w_aload_n 0 dX12_spiesBy_17 rfl rfl rfl ?_
    refine gf_RX12_9 dX12_spiesBy_18 rfl ?_
    refine w_bipush (115 : Int32) dX12_spiesBy_21 ic_bipush_115 rfl ?_
    refine w_iload_n 3 dX12_spiesBy_23 rfl rfl rfl ?_
    refine w_iadd dX12_spiesBy_24 rfl ?_
    obtain ⟨hi2, h⟩ := h.gd
    refine w_iald (i := 59) (lt_lit (by decide)) rfl hi2 dX12_spiesBy_25 rfl ?_
    refine w_iconst (-1 : Int32) dX12_spiesBy_26 ic_iconst_m1 rfl ?_
    refine w_ixor dX12_spiesBy_27 rfl ?_
    refine w_iand dX12_spiesBy_28 rfl ?_
    refine w_if_ne (tgt := 38) dX12_spiesBy_29 (by decide) rfl (fun q => ?_) (fun q => ?_)
    · have h := h.ff q
      refine w_iconst (0 : Int32) dX12_spiesBy_38 ic_iconst_0 rfl ?_
      exact w_sub [0, 1, 3] rfl (b_X12_spiesBy_39 K4 hK4 v1 v3 (0 : Int32) v2 σ h)
    · have h := h.tt q
      refine w_iconst (1 : Int32) dX12_spiesBy_32 ic_iconst_1 rfl ?_
      refine w_iload_n 3 dX12_spiesBy_33 rfl rfl rfl ?_
      refine w_ishl dX12_spiesBy_34 rfl ?_
      refine w_goto (tgt := 39) dX12_spiesBy_35 (by decide) ?_
      exact w_sub [0, 1, 3] rfl (b_X12_spiesBy_39 K4 hK4 v1 v3 ((1 : Int32) <<< (v3 &&& 31)) v2 σ h)
def f_X12_spiesBy (p0 : Int32) (σ : St) : Option (Int32 × St) :=
  itr (g_X12_spiesBy_4) FU (p0, (0 : Int32), (0 : Int32), σ)
theorem e_X12_spiesBy {Γ : CX} (p0 : Int32) (σ : St) (h : RR vI Γ (f_X12_spiesBy p0 σ)) : WW Γ cX12_spiesBy 4 RX12 (some .int) rX12_spiesBy σ 0 [(0, .ref (xd Γ 58)), (1, .int p0)] [] := by
  unfold f_X12_spiesBy at h
  refine w_iconst (0 : Int32) dX12_spiesBy_0 ic_iconst_0 rfl ?_
  refine w_istore_n [(2, .int (0 : Int32)), (0, .ref (xd Γ 58)), (1, .int p0)] dX12_spiesBy_1 rfl (by decide) rfl rfl ?_
  refine w_iconst (0 : Int32) dX12_spiesBy_2 ic_iconst_0 rfl ?_
  refine w_istore_n [(3, .int (0 : Int32)), (2, .int (0 : Int32)), (0, .ref (xd Γ 58)), (1, .int p0)] dX12_spiesBy_3 rfl (by decide) rfl rfl ?_
  exact w_sub [2, 3, 1, 0] rfl (l_X12_spiesBy_4 FU p0 (0 : Int32) (0 : Int32) σ h)
theorem c_X12_spiesBy {l : Launch} {D : va_G} {cy : Nat → ClassId} {ad : Nat → Nat} {p0 : Int32} {σ σ' : St} {r : Int32} (hf : f_X12_spiesBy p0 σ = some (r, σ')) : CT l D cy ad yX12_spiesBy cX12_spiesBy 4 (some .int) rX12_spiesBy [.ref (ad 58), .int p0] σ (some (.int r)) σ' :=
  ct_of (by decide) (Nat.le_of_ble_eq_true rfl) (fun p e s m args below meth c A => e_X12_spiesBy (Γ := (p, l, e, rX12_spiesBy, s, m, args, below, meth, c, D, cy, ad, A, 0, 0, MQ below (QC D cy ad (some (.int r)) σ' A) args s 0 0 A)) p0 σ ⟨_, hf, rfl⟩)
theorem k_X12_spiesBy {Γ : CX} {cc : ByteArray} {nL : Nat} {own : String} {ret : Option FieldType} {rm : Room} {σ σ' : St} {pc pc' idx : Nat} {lv : List (Nat × Value)} {rest : List Value} {p0 : Int32} {r : Int32} (hl : Cond.methodLink own idx yX12_spiesBy ∈ TB) (hw : (rest.map fun v => v.category).sum ≤ 8) (hR : rX12_spiesBy.frames + 1 ≤ rm.frames ∧ 8 + (4 + 11) + rX12_spiesBy.locals ≤ rm.locals) (hd : decode cc pc = .ok (.invokevirtual idx, 3)) (hp : pc + 3 = pc') (hf : f_X12_spiesBy p0 σ = some (r, σ')) (h : WW Γ cc nL own ret rm σ' pc' lv (.int r :: rest)) : WW Γ cc nL own ret rm σ pc lv (.int p0 :: .ref (xd Γ 58) :: rest) :=
  w_callV (nn := 1) (i := 58) (As := [.int p0]) (v := (some (.int r))) (T := TX12) (N := 32) (c_X12_spiesBy hf) hl mw_X12_spiesBy (by decide +kernel) ⟨rfl, rfl⟩ hR (lt_lit (by decide)) cel_58 rfl rfl hw hd rfl hp h
/-! WarByHoursModel.knowing (II)I -/
def rX12_knowing : Room := { frames := 1, cells := 0, slots := 0, locals := 21 }
def g_X12_knowing_5 (K5 : Int32 × Int32 × Int32 × Int32 × St → Option (Int32 × St)) (x : Int32 × Int32 × Int32 × Int32 × St) : Option (Int32 × St) := match x with
  | (v1, v2, v3, v4, σ) =>
  gd (inb (8 : Int32) (ln 59)) <|
  if (gr σ 59 (8 : Int32).toNatClampNeg) ≤ v4 then
    some (v3, σ)
  else
    bd (f_X12_bit v1 v4 σ) fun r2 s3 =>
    gd (inb ((115 : Int32) + v4) (ln 59)) <|
    bd (f_X12_bit (gr s3 59 ((115 : Int32) + v4).toNatClampNeg) v2 s3) fun r6 s7 =>
    bnd ((v3 + (r2 * r6))) fun x9 =>
    bnd (v4 + (1 : Int32)) fun x10 =>
    K5 (v1, v2, x9, x10, s7)
theorem l_X12_knowing_5 {Γ : CX} : ∀ (n : Nat) (v1 : Int32) (v2 : Int32) (v3 : Int32) (v4 : Int32) (σ : St), RR vI Γ (itr (g_X12_knowing_5) n (v1, v2, v3, v4, σ)) → WW Γ cX12_knowing 5 RX12 (some .int) rX12_knowing σ 5 [(0, .ref (xd Γ 58)), (1, .int v1), (2, .int v2), (3, .int v3), (4, .int v4)] [] := by
  intro n
  induction n with
  | zero => intro v1 v2 v3 v4 σ h; exact RR.no h
  | succ n hK5 =>
  intro v1 v2 v3 v4 σ h
  have h : RR vI Γ (g_X12_knowing_5 (itr (g_X12_knowing_5) n) (v1, v2, v3, v4, σ)) := h
  generalize itr (g_X12_knowing_5) n = K5 at h hK5
  unfold g_X12_knowing_5 at h
  dsimp only at h
  refine w_iload 4 dX12_knowing_5 rfl rfl ?_
  refine w_aload_n 0 dX12_knowing_7 rfl rfl rfl ?_
  refine gf_RX12_9 dX12_knowing_8 rfl ?_
  refine w_bipush (8 : Int32) dX12_knowing_11 ic_bipush_8 rfl ?_
  obtain ⟨hi1, h⟩ := h.gd
  refine w_iald (i := 59) (lt_lit (by decide)) rfl hi1 dX12_knowing_13 rfl ?_
  refine w_icmp_ge (tgt := 47) dX12_knowing_14 (by decide) rfl (fun q => ?_) (fun q => ?_)
  · have h := h.tt q
    refine w_iload_n 3 dX12_knowing_47 rfl rfl rfl ?_
    exact w_ireturn dX12_knowing_48 h
  · have h := h.ff q
    refine w_iload_n 3 dX12_knowing_17 rfl rfl rfl ?_
    refine w_iload_n 1 dX12_knowing_18 rfl rfl rfl ?_
    refine w_iload 4 dX12_knowing_19 rfl rfl ?_
    obtain ⟨r2, s3, h4, h⟩ := h.bd
    refine k_X12_bit ml_RX12_86 (Nat.le_of_ble_eq_true rfl) ⟨Nat.le_of_ble_eq_true rfl, Nat.le_of_ble_eq_true rfl⟩ dX12_knowing_21 rfl h4 ?_
    refine w_aload_n 0 dX12_knowing_24 rfl rfl rfl ?_
    refine gf_RX12_9 dX12_knowing_25 rfl ?_
    refine w_bipush (115 : Int32) dX12_knowing_28 ic_bipush_115 rfl ?_
    refine w_iload 4 dX12_knowing_30 rfl rfl ?_
    refine w_iadd dX12_knowing_32 rfl ?_
    obtain ⟨hi5, h⟩ := h.gd
    refine w_iald (i := 59) (lt_lit (by decide)) rfl hi5 dX12_knowing_33 rfl ?_
    refine w_iload_n 2 dX12_knowing_34 rfl rfl rfl ?_
    obtain ⟨r6, s7, h8, h⟩ := h.bd
    refine k_X12_bit ml_RX12_86 (Nat.le_of_ble_eq_true rfl) ⟨Nat.le_of_ble_eq_true rfl, Nat.le_of_ble_eq_true rfl⟩ dX12_knowing_35 rfl h8 ?_
    refine w_imul dX12_knowing_38 rfl ?_
    refine w_iadd dX12_knowing_39 rfl ?_
    refine w_nmI (fun x9 ex9 => ?_)
    replace h := h.bnd ex9
    clear ex9
    refine w_istore_n [(3, .int x9), (0, .ref (xd Γ 58)), (1, .int v1), (2, .int v2), (4, .int v4)] dX12_knowing_40 rfl (by decide) rfl rfl ?_
    obtain ⟨x10, ex10⟩ : ∃ y : Int32, y = (v4 + (1 : Int32)) := ⟨_, rfl⟩
    replace h := h.bnd ex10
    refine w_iinc 4 x10 [(4, .int x10), (3, .int x9), (0, .ref (xd Γ 58)), (1, .int v1), (2, .int v2)] dX12_knowing_41 rfl (by rw [ex10, ic_iconst_1]) (by decide) rfl rfl ?_
    clear ex10
    refine w_goto (tgt := 5) dX12_knowing_44 (by decide) ?_
    exact w_sub [2, 3, 4, 1, 0] rfl (hK5 v1 v2 x9 x10 s7 h)
def f_X12_knowing (p0 : Int32) (p1 : Int32) (σ : St) : Option (Int32 × St) :=
  itr (g_X12_knowing_5) FU (p0, p1, (0 : Int32), (0 : Int32), σ)
theorem e_X12_knowing {Γ : CX} (p0 : Int32) (p1 : Int32) (σ : St) (h : RR vI Γ (f_X12_knowing p0 p1 σ)) : WW Γ cX12_knowing 5 RX12 (some .int) rX12_knowing σ 0 [(0, .ref (xd Γ 58)), (1, .int p0), (2, .int p1)] [] := by
  unfold f_X12_knowing at h
  refine w_iconst (0 : Int32) dX12_knowing_0 ic_iconst_0 rfl ?_
  refine w_istore_n [(3, .int (0 : Int32)), (0, .ref (xd Γ 58)), (1, .int p0), (2, .int p1)] dX12_knowing_1 rfl (by decide) rfl rfl ?_
  refine w_iconst (0 : Int32) dX12_knowing_2 ic_iconst_0 rfl ?_
  refine w_istore [(4, .int (0 : Int32)), (3, .int (0 : Int32)), (0, .ref (xd Γ 58)), (1, .int p0), (2, .int p1)] dX12_knowing_3 (by decide) rfl rfl ?_
  exact w_sub [2, 3, 4, 1, 0] rfl (l_X12_knowing_5 FU p0 p1 (0 : Int32) (0 : Int32) σ h)
theorem c_X12_knowing {l : Launch} {D : va_G} {cy : Nat → ClassId} {ad : Nat → Nat} {p0 : Int32} {p1 : Int32} {σ σ' : St} {r : Int32} (hf : f_X12_knowing p0 p1 σ = some (r, σ')) : CT l D cy ad yX12_knowing cX12_knowing 5 (some .int) rX12_knowing [.ref (ad 58), .int p0, .int p1] σ (some (.int r)) σ' :=
  ct_of (by decide) (Nat.le_of_ble_eq_true rfl) (fun p e s m args below meth c A => e_X12_knowing (Γ := (p, l, e, rX12_knowing, s, m, args, below, meth, c, D, cy, ad, A, 0, 0, MQ below (QC D cy ad (some (.int r)) σ' A) args s 0 0 A)) p0 p1 σ ⟨_, hf, rfl⟩)
theorem k_X12_knowing {Γ : CX} {cc : ByteArray} {nL : Nat} {own : String} {ret : Option FieldType} {rm : Room} {σ σ' : St} {pc pc' idx : Nat} {lv : List (Nat × Value)} {rest : List Value} {p0 : Int32} {p1 : Int32} {r : Int32} (hl : Cond.methodLink own idx yX12_knowing ∈ TB) (hw : (rest.map fun v => v.category).sum ≤ 8) (hR : rX12_knowing.frames + 1 ≤ rm.frames ∧ 8 + (5 + 11) + rX12_knowing.locals ≤ rm.locals) (hd : decode cc pc = .ok (.invokevirtual idx, 3)) (hp : pc + 3 = pc') (hf : f_X12_knowing p0 p1 σ = some (r, σ')) (h : WW Γ cc nL own ret rm σ' pc' lv (.int r :: rest)) : WW Γ cc nL own ret rm σ pc lv (.int p1 :: .int p0 :: .ref (xd Γ 58) :: rest) :=
  w_callV (nn := 2) (i := 58) (As := [.int p0, .int p1]) (v := (some (.int r))) (T := TX12) (N := 32) (c_X12_knowing hf) hl mw_X12_knowing (by decide +kernel) ⟨rfl, rfl⟩ hR (lt_lit (by decide)) cel_58 rfl rfl hw hd rfl hp h
/-! WarByHoursModel.spies (I)I -/
def rX12_spies : Room := { frames := 2, cells := 0, slots := 0, locals := 46 }
def f_X12_spies_18 (k0 : Int32) (σ : St) : Option (Int32 × St) :=
  some (k0, σ)
theorem b_X12_spies_18 {Γ : CX} (k0 : Int32) (σ : St) (h : RR vI Γ (f_X12_spies_18 k0 σ)) : WW Γ cX12_spies 2 RX12 (some .int) rX12_spies σ 18 [] [.int k0] := by
  unfold f_X12_spies_18 at h
  exact w_ireturn dX12_spies_18 h
def f_X12_spies (p0 : Int32) (σ : St) : Option (Int32 × St) :=
  bd (f_X12_areTrains p0 σ) fun r1 s2 =>
  if r1 = 0 then
    f_X12_spies_18 (-2 : Int32) s2
  else
    bd (f_X12_spiesBy p0 s2) fun r4 s5 =>
    f_X12_spies_18 r4 s5
theorem e_X12_spies {Γ : CX} (p0 : Int32) (σ : St) (h : RR vI Γ (f_X12_spies p0 σ)) : WW Γ cX12_spies 2 RX12 (some .int) rX12_spies σ 0 [(0, .ref (xd Γ 58)), (1, .int p0)] [] := by
  unfold f_X12_spies at h
  refine w_aload_n 0 dX12_spies_0 rfl rfl rfl ?_
  refine w_iload_n 1 dX12_spies_1 rfl rfl rfl ?_
  obtain ⟨r1, s2, h3, h⟩ := h.bd
  refine k_X12_areTrains ml_RX12_266 (Nat.le_of_ble_eq_true rfl) ⟨Nat.le_of_ble_eq_true rfl, Nat.le_of_ble_eq_true rfl⟩ dX12_spies_2 rfl h3 ?_
  refine w_if_eq (tgt := 16) dX12_spies_5 (by decide) rfl (fun q => ?_) (fun q => ?_)
  · have h := h.tt q
    refine w_bipush (-2 : Int32) dX12_spies_16 ic_bipush_m2 rfl ?_
    exact w_sub [] rfl (b_X12_spies_18 (-2 : Int32) s2 h)
  · have h := h.ff q
    refine w_aload_n 0 dX12_spies_8 rfl rfl rfl ?_
    refine w_iload_n 1 dX12_spies_9 rfl rfl rfl ?_
    obtain ⟨r4, s5, h6, h⟩ := h.bd
    refine k_X12_spiesBy ml_RX12_416 (Nat.le_of_ble_eq_true rfl) ⟨Nat.le_of_ble_eq_true rfl, Nat.le_of_ble_eq_true rfl⟩ dX12_spies_10 rfl h6 ?_
    refine w_goto (tgt := 18) dX12_spies_13 (by decide) ?_
    exact w_sub [] rfl (b_X12_spies_18 r4 s5 h)
theorem c_X12_spies {l : Launch} {D : va_G} {cy : Nat → ClassId} {ad : Nat → Nat} {p0 : Int32} {σ σ' : St} {r : Int32} (hf : f_X12_spies p0 σ = some (r, σ')) : CT l D cy ad yX12_spies cX12_spies 2 (some .int) rX12_spies [.ref (ad 58), .int p0] σ (some (.int r)) σ' :=
  ct_of (by decide) (Nat.le_of_ble_eq_true rfl) (fun p e s m args below meth c A => e_X12_spies (Γ := (p, l, e, rX12_spies, s, m, args, below, meth, c, D, cy, ad, A, 0, 0, MQ below (QC D cy ad (some (.int r)) σ' A) args s 0 0 A)) p0 σ ⟨_, hf, rfl⟩)
theorem k_X12_spies {Γ : CX} {cc : ByteArray} {nL : Nat} {own : String} {ret : Option FieldType} {rm : Room} {σ σ' : St} {pc pc' idx : Nat} {lv : List (Nat × Value)} {rest : List Value} {p0 : Int32} {r : Int32} (hl : Cond.methodLink own idx yX12_spies ∈ TB) (hw : (rest.map fun v => v.category).sum ≤ 8) (hR : rX12_spies.frames + 1 ≤ rm.frames ∧ 8 + (2 + 11) + rX12_spies.locals ≤ rm.locals) (hd : decode cc pc = .ok (.invokevirtual idx, 3)) (hp : pc + 3 = pc') (hf : f_X12_spies p0 σ = some (r, σ')) (h : WW Γ cc nL own ret rm σ' pc' lv (.int r :: rest)) : WW Γ cc nL own ret rm σ pc lv (.int p0 :: .ref (xd Γ 58) :: rest) :=
  w_callV (nn := 1) (i := 58) (As := [.int p0]) (v := (some (.int r))) (T := TX12) (N := 32) (c_X12_spies hf) hl mw_X12_spies (by decide +kernel) ⟨rfl, rfl⟩ hR (lt_lit (by decide)) cel_58 rfl rfl hw hd rfl hp h
/-! WarByHoursModel.watchOf (I)I -/
def rX12_watchOf : Room := { frames := 2, cells := 0, slots := 0, locals := 45 }
def f_X12_watchOf_85 (K19 : Int32 × Int32 × Int32 × Int32 × St → Option (Int32 × St)) (v1 : Int32) (v2 : Int32) (v3 : Int32) (v4 : Int32) (σ : St) : Option (Int32 × St) :=
  bnd (v4 + (1 : Int32)) fun x1 =>
  K19 (v1, v2, v3, x1, σ)
theorem b_X12_watchOf_85 {Γ : CX} (K19 : Int32 × Int32 × Int32 × Int32 × St → Option (Int32 × St)) (hK19 : ∀ (v1 : Int32) (v2 : Int32) (v3 : Int32) (v4 : Int32) (σ : St), RR vI Γ (K19 (v1, v2, v3, v4, σ)) → WW Γ cX12_watchOf 6 RX12 (some .int) rX12_watchOf σ 19 [(0, .ref (xd Γ 58)), (1, .int v1), (2, .int v2), (3, .int v3), (4, .int v4)] []) (v1 : Int32) (v2 : Int32) (v3 : Int32) (v4 : Int32) (σ : St) (h : RR vI Γ (f_X12_watchOf_85 K19 v1 v2 v3 v4 σ)) : WW Γ cX12_watchOf 6 RX12 (some .int) rX12_watchOf σ 85 [(0, .ref (xd Γ 58)), (1, .int v1), (2, .int v2), (3, .int v3), (4, .int v4)] [] := by
  unfold f_X12_watchOf_85 at h
  obtain ⟨x1, ex1⟩ : ∃ y : Int32, y = (v4 + (1 : Int32)) := ⟨_, rfl⟩
  replace h := h.bnd ex1
  refine w_iinc 4 x1 [(4, .int x1), (0, .ref (xd Γ 58)), (1, .int v1), (2, .int v2), (3, .int v3)] dX12_watchOf_85 rfl (by rw [ex1, ic_iconst_1]) (by decide) rfl rfl ?_
  clear ex1
  refine w_goto (tgt := 19) dX12_watchOf_88 (by decide) ?_
  exact w_sub [1, 2, 3, 4, 0] rfl (hK19 v1 v2 v3 x1 σ h)
def g_X12_watchOf_19 (K19 : Int32 × Int32 × Int32 × Int32 × St → Option (Int32 × St)) (x : Int32 × Int32 × Int32 × Int32 × St) : Option (Int32 × St) := match x with
  | (v1, v2, v3, v4, σ) =>
  gd (inb (4 : Int32) (ln 59)) <|
  if (gr σ 59 (4 : Int32).toNatClampNeg) ≤ v4 then
    some (v3, σ)
  else
    bd (f_X12_knowing v2 v4 σ) fun r2 s3 =>
    bd (f_X12_bits v2 s3) fun r5 s6 =>
    bd (f_X12_knowing v2 v4 s6) fun r8 s9 =>
    bnd ((if r2 < (r5 - r8) then (r5 - r8) else r2)) fun x11 =>
    bd (f_X12_bit v1 v4 s9) fun r12 s13 =>
    if r12 = (1 : Int32) then
      f_X12_watchOf_85 K19 v1 v2 v3 v4 s13
    else
      if x11 < (gf s13 58 26) then
        bnd (sf s13 58 26 x11) fun s15 =>
        f_X12_watchOf_85 K19 v1 v2 v4 v4 s15
      else
        f_X12_watchOf_85 K19 v1 v2 v3 v4 s13
theorem l_X12_watchOf_19 {Γ : CX} : ∀ (n : Nat) (v1 : Int32) (v2 : Int32) (v3 : Int32) (v4 : Int32) (σ : St), RR vI Γ (itr (g_X12_watchOf_19) n (v1, v2, v3, v4, σ)) → WW Γ cX12_watchOf 6 RX12 (some .int) rX12_watchOf σ 19 [(0, .ref (xd Γ 58)), (1, .int v1), (2, .int v2), (3, .int v3), (4, .int v4)] [] := by
  intro n
  induction n with
  | zero => intro v1 v2 v3 v4 σ h; exact RR.no h
  | succ n hK19 =>
  intro v1 v2 v3 v4 σ h
  have h : RR vI Γ (g_X12_watchOf_19 (itr (g_X12_watchOf_19) n) (v1, v2, v3, v4, σ)) := h
  generalize itr (g_X12_watchOf_19) n = K19 at h hK19
  unfold g_X12_watchOf_19 at h
  dsimp only at h
  refine w_iload 4 dX12_watchOf_19 rfl rfl ?_
  refine w_aload_n 0 dX12_watchOf_21 rfl rfl rfl ?_
  refine gf_RX12_9 dX12_watchOf_22 rfl ?_
  refine w_iconst (4 : Int32) dX12_watchOf_25 ic_iconst_4 rfl ?_
  obtain ⟨hi1, h⟩ := h.gd
  refine w_iald (i := 59) (lt_lit (by decide)) rfl hi1 dX12_watchOf_26 rfl ?_
  refine w_icmp_ge (tgt := 91) dX12_watchOf_27 (by decide) rfl (fun q => ?_) (fun q => ?_)
  · have h := h.tt q
    refine w_iload_n 3 dX12_watchOf_91 rfl rfl rfl ?_
    exact w_ireturn dX12_watchOf_92 h
  · have h := h.ff q
    refine w_aload_n 0 dX12_watchOf_30 rfl rfl rfl ?_
    refine w_iload_n 2 dX12_watchOf_31 rfl rfl rfl ?_
    refine w_iload 4 dX12_watchOf_32 rfl rfl ?_
    obtain ⟨r2, s3, h4, h⟩ := h.bd
    refine k_X12_knowing ml_RX12_422 (Nat.le_of_ble_eq_true rfl) ⟨Nat.le_of_ble_eq_true rfl, Nat.le_of_ble_eq_true rfl⟩ dX12_watchOf_34 rfl h4 ?_
    refine w_iload_n 2 dX12_watchOf_37 rfl rfl rfl ?_
    obtain ⟨r5, s6, h7, h⟩ := h.bd
    refine k_X12_bits ml_RX12_281 (Nat.le_of_ble_eq_true rfl) ⟨Nat.le_of_ble_eq_true rfl, Nat.le_of_ble_eq_true rfl⟩ dX12_watchOf_38 rfl h7 ?_
    refine w_aload_n 0 dX12_watchOf_41 rfl rfl rfl ?_
    refine w_iload_n 2 dX12_watchOf_42 rfl rfl rfl ?_
    refine w_iload 4 dX12_watchOf_43 rfl rfl ?_
    obtain ⟨r8, s9, h10, h⟩ := h.bd
    refine k_X12_knowing ml_RX12_422 (Nat.le_of_ble_eq_true rfl) ⟨Nat.le_of_ble_eq_true rfl, Nat.le_of_ble_eq_true rfl⟩ dX12_watchOf_45 rfl h10 ?_
    refine w_isub dX12_watchOf_48 rfl ?_
    refine w_mmax ml_RX12_373 (Nat.le_of_ble_eq_true rfl) ⟨Nat.le_of_ble_eq_true rfl, Nat.le_of_ble_eq_true rfl⟩ dX12_watchOf_49 rfl ?_
    refine w_nmI (fun x11 ex11 => ?_)
    replace h := h.bnd ex11
    clear ex11
    refine w_istore [(5, .int x11), (0, .ref (xd Γ 58)), (1, .int v1), (2, .int v2), (3, .int v3), (4, .int v4)] dX12_watchOf_52 (by decide) rfl rfl ?_
    refine w_iload_n 2 dX12_watchOf_54 rfl rfl rfl ?_
    refine w_iload 5 dX12_watchOf_55 rfl rfl ?_
    obtain ⟨r12, s13, h14, h⟩ := h.bd
    refine k_X12_bit ml_RX12_86 (Nat.le_of_ble_eq_true rfl) ⟨Nat.le_of_ble_eq_true rfl, Nat.le_of_ble_eq_true rfl⟩ dX12_watchOf_57 rfl h14 ?_
    refine w_iconst (1 : Int32) dX12_watchOf_60 ic_iconst_1 rfl ?_
    refine w_icmp_eq (tgt := 85) dX12_watchOf_61 (by decide) rfl (fun q => ?_) (fun q => ?_)
    · have h := h.tt q
      exact w_sub [1, 2, 3, 4, 5] rfl (b_X12_watchOf_85 K19 hK19 v1 v2 v3 v4 s13 h)
    · have h := h.ff q
      refine w_iload 0 dX12_watchOf_64 rfl rfl ?_
      refine w_aload_n 1 dX12_watchOf_66 rfl rfl rfl ?_
      refine gf_RX12_419 dX12_watchOf_67 rfl ?_
      refine w_icmp_lt (tgt := 76) dX12_watchOf_70 (by decide) rfl (fun q => ?_) (fun q => ?_)
      · have h := h.tt q
        refine w_aload_n 1 dX12_watchOf_76 rfl rfl rfl ?_
        refine w_iload 0 dX12_watchOf_77 rfl rfl ?_
        refine pf_RX12_419 dX12_watchOf_79 rfl ?_
        obtain ⟨s15, es15⟩ : ∃ y : St, y = (sf s13 58 26 x11) := ⟨_, rfl⟩
        rw [← es15]
        replace h := h.bnd es15
        clear es15
        refine w_iload 5 dX12_watchOf_82 rfl rfl ?_
        refine w_istore_n [(3, .int v4), (5, .int x11), (0, .ref (xd Γ 58)), (1, .int v1), (2, .int v2), (4, .int v4)] dX12_watchOf_84 rfl (by decide) rfl rfl ?_
        exact w_sub [2, 3, 4, 0, 5] rfl (b_X12_watchOf_85 K19 hK19 v1 v2 v4 v4 s15 h)
      · have h := h.ff q
        refine w_goto (tgt := 85) dX12_watchOf_73 (by decide) ?_
        exact w_sub [1, 2, 3, 4, 5] rfl (b_X12_watchOf_85 K19 hK19 v1 v2 v3 v4 s13 h)
def f_X12_watchOf (p0 : Int32) (σ : St) : Option (Int32 × St) :=
  bd (f_X12_spiesBy p0 σ) fun r1 s2 =>
  bd (f_X12_bits r1 s2) fun r4 s5 =>
  bnd (sf s5 58 26 r4) fun s7 =>
  itr (g_X12_watchOf_19) FU (p0, r1, (-1 : Int32), (0 : Int32), s7)
theorem e_X12_watchOf {Γ : CX} (p0 : Int32) (σ : St) (h : RR vI Γ (f_X12_watchOf p0 σ)) : WW Γ cX12_watchOf 6 RX12 (some .int) rX12_watchOf σ 0 [(0, .ref (xd Γ 58)), (1, .int p0)] [] := by
  unfold f_X12_watchOf at h
  refine w_aload_n 0 dX12_watchOf_0 rfl rfl rfl ?_
  refine w_iload_n 1 dX12_watchOf_1 rfl rfl rfl ?_
  obtain ⟨r1, s2, h3, h⟩ := h.bd
  refine k_X12_spiesBy ml_RX12_416 (Nat.le_of_ble_eq_true rfl) ⟨Nat.le_of_ble_eq_true rfl, Nat.le_of_ble_eq_true rfl⟩ dX12_watchOf_2 rfl h3 ?_
  refine w_istore_n [(2, .int r1), (0, .ref (xd Γ 58)), (1, .int p0)] dX12_watchOf_5 rfl (by decide) rfl rfl ?_
  refine w_aload_n 1 dX12_watchOf_6 rfl rfl rfl ?_
  refine w_iload_n 0 dX12_watchOf_7 rfl rfl rfl ?_
  obtain ⟨r4, s5, h6, h⟩ := h.bd
  refine k_X12_bits ml_RX12_281 (Nat.le_of_ble_eq_true rfl) ⟨Nat.le_of_ble_eq_true rfl, Nat.le_of_ble_eq_true rfl⟩ dX12_watchOf_8 rfl h6 ?_
  refine pf_RX12_419 dX12_watchOf_11 rfl ?_
  obtain ⟨s7, es7⟩ : ∃ y : St, y = (sf s5 58 26 r4) := ⟨_, rfl⟩
  rw [← es7]
  replace h := h.bnd es7
  clear es7
  refine w_iconst (-1 : Int32) dX12_watchOf_14 ic_iconst_m1 rfl ?_
  refine w_istore_n [(3, .int (-1 : Int32)), (2, .int r1), (0, .ref (xd Γ 58)), (1, .int p0)] dX12_watchOf_15 rfl (by decide) rfl rfl ?_
  refine w_iconst (0 : Int32) dX12_watchOf_16 ic_iconst_0 rfl ?_
  refine w_istore [(4, .int (0 : Int32)), (3, .int (-1 : Int32)), (2, .int r1), (0, .ref (xd Γ 58)), (1, .int p0)] dX12_watchOf_17 (by decide) rfl rfl ?_
  exact w_sub [3, 4, 2, 1, 0] rfl (l_X12_watchOf_19 FU p0 r1 (-1 : Int32) (0 : Int32) s7 h)
theorem c_X12_watchOf {l : Launch} {D : va_G} {cy : Nat → ClassId} {ad : Nat → Nat} {p0 : Int32} {σ σ' : St} {r : Int32} (hf : f_X12_watchOf p0 σ = some (r, σ')) : CT l D cy ad yX12_watchOf cX12_watchOf 6 (some .int) rX12_watchOf [.ref (ad 58), .int p0] σ (some (.int r)) σ' :=
  ct_of (by decide) (Nat.le_of_ble_eq_true rfl) (fun p e s m args below meth c A => e_X12_watchOf (Γ := (p, l, e, rX12_watchOf, s, m, args, below, meth, c, D, cy, ad, A, 0, 0, MQ below (QC D cy ad (some (.int r)) σ' A) args s 0 0 A)) p0 σ ⟨_, hf, rfl⟩)
theorem k_X12_watchOf {Γ : CX} {cc : ByteArray} {nL : Nat} {own : String} {ret : Option FieldType} {rm : Room} {σ σ' : St} {pc pc' idx : Nat} {lv : List (Nat × Value)} {rest : List Value} {p0 : Int32} {r : Int32} (hl : Cond.methodLink own idx yX12_watchOf ∈ TB) (hw : (rest.map fun v => v.category).sum ≤ 8) (hR : rX12_watchOf.frames + 1 ≤ rm.frames ∧ 8 + (6 + 11) + rX12_watchOf.locals ≤ rm.locals) (hd : decode cc pc = .ok (.invokevirtual idx, 3)) (hp : pc + 3 = pc') (hf : f_X12_watchOf p0 σ = some (r, σ')) (h : WW Γ cc nL own ret rm σ' pc' lv (.int r :: rest)) : WW Γ cc nL own ret rm σ pc lv (.int p0 :: .ref (xd Γ 58) :: rest) :=
  w_callV (nn := 1) (i := 58) (As := [.int p0]) (v := (some (.int r))) (T := TX12) (N := 32) (c_X12_watchOf hf) hl mw_X12_watchOf (by decide +kernel) ⟨rfl, rfl⟩ hR (lt_lit (by decide)) cel_58 rfl rfl hw hd rfl hp h
/-! WarByHoursModel.watch (I)I -/
def rX12_watch : Room := { frames := 3, cells := 0, slots := 0, locals := 70 }
def f_X12_watch_18 (k0 : Int32) (σ : St) : Option (Int32 × St) :=
  some (k0, σ)
theorem b_X12_watch_18 {Γ : CX} (k0 : Int32) (σ : St) (h : RR vI Γ (f_X12_watch_18 k0 σ)) : WW Γ cX12_watch 2 RX12 (some .int) rX12_watch σ 18 [] [.int k0] := by
  unfold f_X12_watch_18 at h
  exact w_ireturn dX12_watch_18 h
def f_X12_watch (p0 : Int32) (σ : St) : Option (Int32 × St) :=
  bd (f_X12_areTrains p0 σ) fun r1 s2 =>
  if r1 = 0 then
    f_X12_watch_18 (-2 : Int32) s2
  else
    bd (f_X12_watchOf p0 s2) fun r4 s5 =>
    f_X12_watch_18 r4 s5
theorem e_X12_watch {Γ : CX} (p0 : Int32) (σ : St) (h : RR vI Γ (f_X12_watch p0 σ)) : WW Γ cX12_watch 2 RX12 (some .int) rX12_watch σ 0 [(0, .ref (xd Γ 58)), (1, .int p0)] [] := by
  unfold f_X12_watch at h
  refine w_aload_n 0 dX12_watch_0 rfl rfl rfl ?_
  refine w_iload_n 1 dX12_watch_1 rfl rfl rfl ?_
  obtain ⟨r1, s2, h3, h⟩ := h.bd
  refine k_X12_areTrains ml_RX12_266 (Nat.le_of_ble_eq_true rfl) ⟨Nat.le_of_ble_eq_true rfl, Nat.le_of_ble_eq_true rfl⟩ dX12_watch_2 rfl h3 ?_
  refine w_if_eq (tgt := 16) dX12_watch_5 (by decide) rfl (fun q => ?_) (fun q => ?_)
  · have h := h.tt q
    refine w_bipush (-2 : Int32) dX12_watch_16 ic_bipush_m2 rfl ?_
    exact w_sub [] rfl (b_X12_watch_18 (-2 : Int32) s2 h)
  · have h := h.ff q
    refine w_aload_n 0 dX12_watch_8 rfl rfl rfl ?_
    refine w_iload_n 1 dX12_watch_9 rfl rfl rfl ?_
    obtain ⟨r4, s5, h6, h⟩ := h.bd
    refine k_X12_watchOf ml_RX12_425 (Nat.le_of_ble_eq_true rfl) ⟨Nat.le_of_ble_eq_true rfl, Nat.le_of_ble_eq_true rfl⟩ dX12_watch_10 rfl h6 ?_
    refine w_goto (tgt := 18) dX12_watch_13 (by decide) ?_
    exact w_sub [] rfl (b_X12_watch_18 r4 s5 h)
theorem c_X12_watch {l : Launch} {D : va_G} {cy : Nat → ClassId} {ad : Nat → Nat} {p0 : Int32} {σ σ' : St} {r : Int32} (hf : f_X12_watch p0 σ = some (r, σ')) : CT l D cy ad yX12_watch cX12_watch 2 (some .int) rX12_watch [.ref (ad 58), .int p0] σ (some (.int r)) σ' :=
  ct_of (by decide) (Nat.le_of_ble_eq_true rfl) (fun p e s m args below meth c A => e_X12_watch (Γ := (p, l, e, rX12_watch, s, m, args, below, meth, c, D, cy, ad, A, 0, 0, MQ below (QC D cy ad (some (.int r)) σ' A) args s 0 0 A)) p0 σ ⟨_, hf, rfl⟩)
theorem k_X12_watch {Γ : CX} {cc : ByteArray} {nL : Nat} {own : String} {ret : Option FieldType} {rm : Room} {σ σ' : St} {pc pc' idx : Nat} {lv : List (Nat × Value)} {rest : List Value} {p0 : Int32} {r : Int32} (hl : Cond.methodLink own idx yX12_watch ∈ TB) (hw : (rest.map fun v => v.category).sum ≤ 8) (hR : rX12_watch.frames + 1 ≤ rm.frames ∧ 8 + (2 + 11) + rX12_watch.locals ≤ rm.locals) (hd : decode cc pc = .ok (.invokevirtual idx, 3)) (hp : pc + 3 = pc') (hf : f_X12_watch p0 σ = some (r, σ')) (h : WW Γ cc nL own ret rm σ' pc' lv (.int r :: rest)) : WW Γ cc nL own ret rm σ pc lv (.int p0 :: .ref (xd Γ 58) :: rest) :=
  w_callV (nn := 1) (i := 58) (As := [.int p0]) (v := (some (.int r))) (T := TX12) (N := 32) (c_X12_watch hf) hl mw_X12_watch (by decide +kernel) ⟨rfl, rfl⟩ hR (lt_lit (by decide)) cel_58 rfl rfl hw hd rfl hp h
/-! WarByHoursModel.leaves (I)I -/
def rX12_leaves : Room := { frames := 3, cells := 0, slots := 0, locals := 70 }
def f_X12_leaves (p0 : Int32) (σ : St) : Option (Int32 × St) :=
  bd (f_X12_areTrains p0 σ) fun r1 s2 =>
  if r1 = 0 then
    some ((-2 : Int32), s2)
  else
    bd (f_X12_watchOf p0 s2) fun r4 s5 =>
    some ((gf s5 58 26), s5)
theorem e_X12_leaves {Γ : CX} (p0 : Int32) (σ : St) (h : RR vI Γ (f_X12_leaves p0 σ)) : WW Γ cX12_leaves 2 RX12 (some .int) rX12_leaves σ 0 [(0, .ref (xd Γ 58)), (1, .int p0)] [] := by
  unfold f_X12_leaves at h
  refine w_aload_n 0 dX12_leaves_0 rfl rfl rfl ?_
  refine w_iload_n 1 dX12_leaves_1 rfl rfl rfl ?_
  obtain ⟨r1, s2, h3, h⟩ := h.bd
  refine k_X12_areTrains ml_RX12_266 (Nat.le_of_ble_eq_true rfl) ⟨Nat.le_of_ble_eq_true rfl, Nat.le_of_ble_eq_true rfl⟩ dX12_leaves_2 rfl h3 ?_
  refine w_if_ne (tgt := 11) dX12_leaves_5 (by decide) rfl (fun q => ?_) (fun q => ?_)
  · have h := h.ff q
    refine w_aload_n 0 dX12_leaves_11 rfl rfl rfl ?_
    refine w_iload_n 1 dX12_leaves_12 rfl rfl rfl ?_
    obtain ⟨r4, s5, h6, h⟩ := h.bd
    refine k_X12_watchOf ml_RX12_425 (Nat.le_of_ble_eq_true rfl) ⟨Nat.le_of_ble_eq_true rfl, Nat.le_of_ble_eq_true rfl⟩ dX12_leaves_13 rfl h6 ?_
    refine w_pop dX12_leaves_16 rfl rfl ?_
    refine w_aload_n 0 dX12_leaves_17 rfl rfl rfl ?_
    refine gf_RX12_419 dX12_leaves_18 rfl ?_
    exact w_ireturn dX12_leaves_21 h
  · have h := h.tt q
    refine w_bipush (-2 : Int32) dX12_leaves_8 ic_bipush_m2 rfl ?_
    exact w_ireturn dX12_leaves_10 h
theorem c_X12_leaves {l : Launch} {D : va_G} {cy : Nat → ClassId} {ad : Nat → Nat} {p0 : Int32} {σ σ' : St} {r : Int32} (hf : f_X12_leaves p0 σ = some (r, σ')) : CT l D cy ad yX12_leaves cX12_leaves 2 (some .int) rX12_leaves [.ref (ad 58), .int p0] σ (some (.int r)) σ' :=
  ct_of (by decide) (Nat.le_of_ble_eq_true rfl) (fun p e s m args below meth c A => e_X12_leaves (Γ := (p, l, e, rX12_leaves, s, m, args, below, meth, c, D, cy, ad, A, 0, 0, MQ below (QC D cy ad (some (.int r)) σ' A) args s 0 0 A)) p0 σ ⟨_, hf, rfl⟩)
theorem k_X12_leaves {Γ : CX} {cc : ByteArray} {nL : Nat} {own : String} {ret : Option FieldType} {rm : Room} {σ σ' : St} {pc pc' idx : Nat} {lv : List (Nat × Value)} {rest : List Value} {p0 : Int32} {r : Int32} (hl : Cond.methodLink own idx yX12_leaves ∈ TB) (hw : (rest.map fun v => v.category).sum ≤ 8) (hR : rX12_leaves.frames + 1 ≤ rm.frames ∧ 8 + (2 + 11) + rX12_leaves.locals ≤ rm.locals) (hd : decode cc pc = .ok (.invokevirtual idx, 3)) (hp : pc + 3 = pc') (hf : f_X12_leaves p0 σ = some (r, σ')) (h : WW Γ cc nL own ret rm σ' pc' lv (.int r :: rest)) : WW Γ cc nL own ret rm σ pc lv (.int p0 :: .ref (xd Γ 58) :: rest) :=
  w_callV (nn := 1) (i := 58) (As := [.int p0]) (v := (some (.int r))) (T := TX12) (N := 32) (c_X12_leaves hf) hl mw_X12_leaves (by decide +kernel) ⟨rfl, rfl⟩ hR (lt_lit (by decide)) cel_58 rfl rfl hw hd rfl hp h
/-! WarByHoursModel.known (II)I -/
def rX12_known : Room := { frames := 2, cells := 0, slots := 0, locals := 46 }
def f_X12_known_18 (σ : St) : Option (Int32 × St) :=
  some ((-2 : Int32), σ)
theorem b_X12_known_18 {Γ : CX} (σ : St) (h : RR vI Γ (f_X12_known_18 σ)) : WW Γ cX12_known 6 RX12 (some .int) rX12_known σ 18 [] [] := by
  unfold f_X12_known_18 at h
  refine w_bipush (-2 : Int32) dX12_known_18 ic_bipush_m2 rfl ?_
  exact w_ireturn dX12_known_20 h
def f_X12_known_83 (K33 : Int32 × Int32 × Int32 × Int32 × St → Option (Int32 × St)) (v2 : Int32) (v3 : Int32) (v4 : Int32) (v5 : Int32) (σ : St) : Option (Int32 × St) :=
  bnd (v5 + (1 : Int32)) fun x1 =>
  K33 (v2, v3, v4, x1, σ)
theorem b_X12_known_83 {Γ : CX} (K33 : Int32 × Int32 × Int32 × Int32 × St → Option (Int32 × St)) (hK33 : ∀ (v2 : Int32) (v3 : Int32) (v4 : Int32) (v5 : Int32) (σ : St), RR vI Γ (K33 (v2, v3, v4, v5, σ)) → WW Γ cX12_known 6 RX12 (some .int) rX12_known σ 33 [(0, .ref (xd Γ 58)), (2, .int v2), (3, .int v3), (4, .int v4), (5, .int v5)] []) (v2 : Int32) (v3 : Int32) (v4 : Int32) (v5 : Int32) (σ : St) (h : RR vI Γ (f_X12_known_83 K33 v2 v3 v4 v5 σ)) : WW Γ cX12_known 6 RX12 (some .int) rX12_known σ 83 [(0, .ref (xd Γ 58)), (2, .int v2), (3, .int v3), (4, .int v4), (5, .int v5)] [] := by
  unfold f_X12_known_83 at h
  obtain ⟨x1, ex1⟩ : ∃ y : Int32, y = (v5 + (1 : Int32)) := ⟨_, rfl⟩
  replace h := h.bnd ex1
  refine w_iinc 4 x1 [(5, .int x1), (0, .ref (xd Γ 58)), (2, .int v2), (3, .int v3), (4, .int v4)] dX12_known_83 rfl (by rw [ex1, ic_iconst_1]) (by decide) rfl rfl ?_
  clear ex1
  refine w_goto (tgt := 33) dX12_known_86 (by decide) ?_
  exact w_sub [1, 2, 3, 4, 0] rfl (hK33 v2 v3 v4 x1 σ h)
def f_X12_known_80 (K33 : Int32 × Int32 × Int32 × Int32 × St → Option (Int32 × St)) (v2 : Int32) (v3 : Int32) (v5 : Int32) (k0 : Int32) (k1 : Int32) (σ : St) : Option (Int32 × St) :=
  bnd ((k1 ||| k0)) fun x1 =>
  f_X12_known_83 K33 v2 v3 x1 v5 σ
theorem b_X12_known_80 {Γ : CX} (K33 : Int32 × Int32 × Int32 × Int32 × St → Option (Int32 × St)) (hK33 : ∀ (v2 : Int32) (v3 : Int32) (v4 : Int32) (v5 : Int32) (σ : St), RR vI Γ (K33 (v2, v3, v4, v5, σ)) → WW Γ cX12_known 6 RX12 (some .int) rX12_known σ 33 [(0, .ref (xd Γ 58)), (2, .int v2), (3, .int v3), (4, .int v4), (5, .int v5)] []) (v2 : Int32) (v3 : Int32) (v5 : Int32) (k0 : Int32) (k1 : Int32) (σ : St) (h : RR vI Γ (f_X12_known_80 K33 v2 v3 v5 k0 k1 σ)) : WW Γ cX12_known 6 RX12 (some .int) rX12_known σ 80 [(0, .ref (xd Γ 58)), (2, .int v2), (3, .int v3), (5, .int v5)] [.int k0, .int k1] := by
  unfold f_X12_known_80 at h
  refine w_ior dX12_known_80 rfl ?_
  refine w_nmI (fun x1 ex1 => ?_)
  replace h := h.bnd ex1
  clear ex1
  refine w_istore [(4, .int x1), (0, .ref (xd Γ 58)), (2, .int v2), (3, .int v3), (5, .int v5)] dX12_known_81 (by decide) rfl rfl ?_
  exact w_sub [1, 2, 3, 0, 4] rfl (b_X12_known_83 K33 hK33 v2 v3 x1 v5 σ h)
def f_X12_known_69 (K33 : Int32 × Int32 × Int32 × Int32 × St → Option (Int32 × St)) (v2 : Int32) (v3 : Int32) (v5 : Int32) (k0 : Int32) (k1 : Int32) (k2 : Int32) (σ : St) : Option (Int32 × St) :=
  if k1 < k0 then
    f_X12_known_80 K33 v2 v3 v5 (0 : Int32) k2 σ
  else
    f_X12_known_80 K33 v2 v3 v5 ((1 : Int32) <<< (v5 &&& 31)) k2 σ
theorem b_X12_known_69 {Γ : CX} (K33 : Int32 × Int32 × Int32 × Int32 × St → Option (Int32 × St)) (hK33 : ∀ (v2 : Int32) (v3 : Int32) (v4 : Int32) (v5 : Int32) (σ : St), RR vI Γ (K33 (v2, v3, v4, v5, σ)) → WW Γ cX12_known 6 RX12 (some .int) rX12_known σ 33 [(0, .ref (xd Γ 58)), (2, .int v2), (3, .int v3), (4, .int v4), (5, .int v5)] []) (v2 : Int32) (v3 : Int32) (v5 : Int32) (k0 : Int32) (k1 : Int32) (k2 : Int32) (σ : St) (h : RR vI Γ (f_X12_known_69 K33 v2 v3 v5 k0 k1 k2 σ)) : WW Γ cX12_known 6 RX12 (some .int) rX12_known σ 69 [(0, .ref (xd Γ 58)), (2, .int v2), (3, .int v3), (5, .int v5)] [.int k0, .int k1, .int k2] := by
  unfold f_X12_known_69 at h
  refine w_icmp_lt (tgt := 79) dX12_known_69 (by decide) rfl (fun q => ?_) (fun q => ?_)
  · have h := h.tt q
    refine w_iconst (0 : Int32) dX12_known_79 ic_iconst_0 rfl ?_
    exact w_sub [0, 1, 2, 3] rfl (b_X12_known_80 K33 hK33 v2 v3 v5 (0 : Int32) k2 σ h)
  · have h := h.ff q
    refine w_iconst (1 : Int32) dX12_known_72 ic_iconst_1 rfl ?_
    refine w_iload 3 dX12_known_73 rfl rfl ?_
    refine w_ishl dX12_known_75 rfl ?_
    refine w_goto (tgt := 80) dX12_known_76 (by decide) ?_
    exact w_sub [0, 1, 2, 3] rfl (b_X12_known_80 K33 hK33 v2 v3 v5 ((1 : Int32) <<< (v5 &&& 31)) k2 σ h)
def g_X12_known_33 (K33 : Int32 × Int32 × Int32 × Int32 × St → Option (Int32 × St)) (x : Int32 × Int32 × Int32 × Int32 × St) : Option (Int32 × St) := match x with
  | (v2, v3, v4, v5, σ) =>
  gd (inb (4 : Int32) (ln 59)) <|
  if (gr σ 59 (4 : Int32).toNatClampNeg) ≤ v5 then
    some (v4, σ)
  else
    if v3 = 0 then
      f_X12_known_83 K33 v2 v3 v4 v5 σ
    else
      bd (f_X12_knowing v3 v5 σ) fun r2 s3 =>
      if v2 = 0 then
        bd (f_X12_bits v3 s3) fun r5 s6 =>
        f_X12_known_69 K33 v2 v3 v5 r5 r2 v4 s6
      else
        f_X12_known_69 K33 v2 v3 v5 (1 : Int32) r2 v4 s3
theorem l_X12_known_33 {Γ : CX} : ∀ (n : Nat) (v2 : Int32) (v3 : Int32) (v4 : Int32) (v5 : Int32) (σ : St), RR vI Γ (itr (g_X12_known_33) n (v2, v3, v4, v5, σ)) → WW Γ cX12_known 6 RX12 (some .int) rX12_known σ 33 [(0, .ref (xd Γ 58)), (2, .int v2), (3, .int v3), (4, .int v4), (5, .int v5)] [] := by
  intro n
  induction n with
  | zero => intro v2 v3 v4 v5 σ h; exact RR.no h
  | succ n hK33 =>
  intro v2 v3 v4 v5 σ h
  have h : RR vI Γ (g_X12_known_33 (itr (g_X12_known_33) n) (v2, v3, v4, v5, σ)) := h
  generalize itr (g_X12_known_33) n = K33 at h hK33
  unfold g_X12_known_33 at h
  dsimp only at h
  refine w_iload 4 dX12_known_33 rfl rfl ?_
  refine w_aload_n 0 dX12_known_35 rfl rfl rfl ?_
  refine gf_RX12_9 dX12_known_36 rfl ?_
  refine w_iconst (4 : Int32) dX12_known_39 ic_iconst_4 rfl ?_
  obtain ⟨hi1, h⟩ := h.gd
  refine w_iald (i := 59) (lt_lit (by decide)) rfl hi1 dX12_known_40 rfl ?_
  refine w_icmp_ge (tgt := 89) dX12_known_41 (by decide) rfl (fun q => ?_) (fun q => ?_)
  · have h := h.tt q
    refine w_iload 3 dX12_known_89 rfl rfl ?_
    exact w_ireturn dX12_known_91 h
  · have h := h.ff q
    refine w_iload_n 2 dX12_known_44 rfl rfl rfl ?_
    refine w_if_eq (tgt := 83) dX12_known_45 (by decide) rfl (fun q => ?_) (fun q => ?_)
    · have h := h.tt q
      exact w_sub [0, 1, 2, 3, 4] rfl (b_X12_known_83 K33 hK33 v2 v3 v4 v5 σ h)
    · have h := h.ff q
      refine w_iload 3 dX12_known_48 rfl rfl ?_
      refine w_aload_n 0 dX12_known_50 rfl rfl rfl ?_
      refine w_iload_n 2 dX12_known_51 rfl rfl rfl ?_
      refine w_iload 4 dX12_known_52 rfl rfl ?_
      obtain ⟨r2, s3, h4, h⟩ := h.bd
      refine k_X12_knowing ml_RX12_422 (Nat.le_of_ble_eq_true rfl) ⟨Nat.le_of_ble_eq_true rfl, Nat.le_of_ble_eq_true rfl⟩ dX12_known_54 rfl h4 ?_
      refine w_iload_n 1 dX12_known_57 rfl rfl rfl ?_
      refine w_if_ne (tgt := 68) dX12_known_58 (by decide) rfl (fun q => ?_) (fun q => ?_)
      · have h := h.ff q
        refine w_iconst (1 : Int32) dX12_known_68 ic_iconst_1 rfl ?_
        exact w_sub [0, 1, 2, 4] rfl (b_X12_known_69 K33 hK33 v2 v3 v5 (1 : Int32) r2 v4 s3 h)
      · have h := h.tt q
        refine w_iload_n 2 dX12_known_61 rfl rfl rfl ?_
        obtain ⟨r5, s6, h7, h⟩ := h.bd
        refine k_X12_bits ml_RX12_281 (Nat.le_of_ble_eq_true rfl) ⟨Nat.le_of_ble_eq_true rfl, Nat.le_of_ble_eq_true rfl⟩ dX12_known_62 rfl h7 ?_
        refine w_goto (tgt := 69) dX12_known_65 (by decide) ?_
        exact w_sub [0, 1, 2, 4] rfl (b_X12_known_69 K33 hK33 v2 v3 v5 r5 r2 v4 s6 h)
def f_X12_known (p0 : Int32) (p1 : Int32) (σ : St) : Option (Int32 × St) :=
  bd (f_X12_areTrains p0 σ) fun r1 s2 =>
  if r1 = 0 then
    f_X12_known_18 s2
  else
    bd (f_X12_in p1.toInt64 (0 : Int64) (1 : Int64) s2) fun r4 s5 =>
    if r4 = 0 then
      f_X12_known_18 s5
    else
      bd (f_X12_spiesBy p0 s5) fun r7 s8 =>
      itr (g_X12_known_33) FU (p1, r7, (0 : Int32), (0 : Int32), s8)
theorem e_X12_known {Γ : CX} (p0 : Int32) (p1 : Int32) (σ : St) (h : RR vI Γ (f_X12_known p0 p1 σ)) : WW Γ cX12_known 6 RX12 (some .int) rX12_known σ 0 [(0, .ref (xd Γ 58)), (1, .int p0), (2, .int p1)] [] := by
  unfold f_X12_known at h
  refine w_aload_n 0 dX12_known_0 rfl rfl rfl ?_
  refine w_iload_n 1 dX12_known_1 rfl rfl rfl ?_
  obtain ⟨r1, s2, h3, h⟩ := h.bd
  refine k_X12_areTrains ml_RX12_266 (Nat.le_of_ble_eq_true rfl) ⟨Nat.le_of_ble_eq_true rfl, Nat.le_of_ble_eq_true rfl⟩ dX12_known_2 rfl h3 ?_
  refine w_if_eq (tgt := 18) dX12_known_5 (by decide) rfl (fun q => ?_) (fun q => ?_)
  · have h := h.tt q
    exact w_sub [] rfl (b_X12_known_18 s2 h)
  · have h := h.ff q
    refine w_iload_n 2 dX12_known_8 rfl rfl rfl ?_
    refine w_i2l dX12_known_9 rfl ?_
    refine w_lconst (0 : Int64) dX12_known_10 rfl rfl ?_
    refine w_lconst (1 : Int64) dX12_known_11 rfl rfl ?_
    obtain ⟨r4, s5, h6, h⟩ := h.bd
    refine k_X12_in ml_RX12_70 (Nat.le_of_ble_eq_true rfl) ⟨Nat.le_of_ble_eq_true rfl, Nat.le_of_ble_eq_true rfl⟩ dX12_known_12 rfl h6 ?_
    refine w_if_ne (tgt := 21) dX12_known_15 (by decide) rfl (fun q => ?_) (fun q => ?_)
    · have h := h.ff q
      refine w_aload_n 0 dX12_known_21 rfl rfl rfl ?_
      refine w_iload_n 1 dX12_known_22 rfl rfl rfl ?_
      obtain ⟨r7, s8, h9, h⟩ := h.bd
      refine k_X12_spiesBy ml_RX12_416 (Nat.le_of_ble_eq_true rfl) ⟨Nat.le_of_ble_eq_true rfl, Nat.le_of_ble_eq_true rfl⟩ dX12_known_23 rfl h9 ?_
      refine w_istore_n [(3, .int r7), (0, .ref (xd Γ 58)), (1, .int p0), (2, .int p1)] dX12_known_26 rfl (by decide) rfl rfl ?_
      refine w_iconst (0 : Int32) dX12_known_27 ic_iconst_0 rfl ?_
      refine w_istore [(4, .int (0 : Int32)), (3, .int r7), (0, .ref (xd Γ 58)), (1, .int p0), (2, .int p1)] dX12_known_28 (by decide) rfl rfl ?_
      refine w_iconst (0 : Int32) dX12_known_30 ic_iconst_0 rfl ?_
      refine w_istore [(5, .int (0 : Int32)), (4, .int (0 : Int32)), (3, .int r7), (0, .ref (xd Γ 58)), (1, .int p0), (2, .int p1)] dX12_known_31 (by decide) rfl rfl ?_
      exact w_sub [3, 5, 2, 1, 0] rfl (l_X12_known_33 FU p1 r7 (0 : Int32) (0 : Int32) s8 h)
    · have h := h.tt q
      exact w_sub [] rfl (b_X12_known_18 s5 h)
theorem c_X12_known {l : Launch} {D : va_G} {cy : Nat → ClassId} {ad : Nat → Nat} {p0 : Int32} {p1 : Int32} {σ σ' : St} {r : Int32} (hf : f_X12_known p0 p1 σ = some (r, σ')) : CT l D cy ad yX12_known cX12_known 6 (some .int) rX12_known [.ref (ad 58), .int p0, .int p1] σ (some (.int r)) σ' :=
  ct_of (by decide) (Nat.le_of_ble_eq_true rfl) (fun p e s m args below meth c A => e_X12_known (Γ := (p, l, e, rX12_known, s, m, args, below, meth, c, D, cy, ad, A, 0, 0, MQ below (QC D cy ad (some (.int r)) σ' A) args s 0 0 A)) p0 p1 σ ⟨_, hf, rfl⟩)
theorem k_X12_known {Γ : CX} {cc : ByteArray} {nL : Nat} {own : String} {ret : Option FieldType} {rm : Room} {σ σ' : St} {pc pc' idx : Nat} {lv : List (Nat × Value)} {rest : List Value} {p0 : Int32} {p1 : Int32} {r : Int32} (hl : Cond.methodLink own idx yX12_known ∈ TB) (hw : (rest.map fun v => v.category).sum ≤ 8) (hR : rX12_known.frames + 1 ≤ rm.frames ∧ 8 + (6 + 11) + rX12_known.locals ≤ rm.locals) (hd : decode cc pc = .ok (.invokevirtual idx, 3)) (hp : pc + 3 = pc') (hf : f_X12_known p0 p1 σ = some (r, σ')) (h : WW Γ cc nL own ret rm σ' pc' lv (.int r :: rest)) : WW Γ cc nL own ret rm σ pc lv (.int p1 :: .int p0 :: .ref (xd Γ 58) :: rest) :=
  w_callV (nn := 2) (i := 58) (As := [.int p0, .int p1]) (v := (some (.int r))) (T := TX12) (N := 32) (c_X12_known hf) hl mw_X12_known (by decide +kernel) ⟨rfl, rfl⟩ hR (lt_lit (by decide)) cel_58 rfl rfl hw hd rfl hp h
/-! WarByHoursModel.ofAsk (II)I -/
def rX12_ofAsk : Room := { frames := 0, cells := 0, slots := 0, locals := 0 }
def f_X12_ofAsk (p0 : Int32) (p1 : Int32) (σ : St) : Option (Int32 × St) :=
  gd (inb (((75 : Int32) + ((4 : Int32) * p0)) + p1) (ln 59)) <|
  some ((gr σ 59 (((75 : Int32) + ((4 : Int32) * p0)) + p1).toNatClampNeg), σ)
theorem e_X12_ofAsk {Γ : CX} (p0 : Int32) (p1 : Int32) (σ : St) (h : RR vI Γ (f_X12_ofAsk p0 p1 σ)) : WW Γ cX12_ofAsk 3 RX12 (some .int) rX12_ofAsk σ 0 [(0, .ref (xd Γ 58)), (1, .int p0), (2, .int p1)] [] := by
  unfold f_X12_ofAsk at h
  refine w_aload_n 0 dX12_ofAsk_0 rfl rfl rfl ?_
  refine gf_RX12_9 dX12_ofAsk_1 rfl ?_
  refine w_bipush (75 : Int32) dX12_ofAsk_4 ic_bipush_75 rfl ?_
  refine w_iconst (4 : Int32) dX12_ofAsk_6 ic_iconst_4 rfl ?_
  refine w_iload_n 1 dX12_ofAsk_7 rfl rfl rfl ?_
  refine w_imul dX12_ofAsk_8 rfl ?_
  refine w_iadd dX12_ofAsk_9 rfl ?_
  refine w_iload_n 2 dX12_ofAsk_10 rfl rfl rfl ?_
  refine w_iadd dX12_ofAsk_11 rfl ?_
  obtain ⟨hi1, h⟩ := h.gd
  refine w_iald (i := 59) (lt_lit (by decide)) rfl hi1 dX12_ofAsk_12 rfl ?_
  exact w_ireturn dX12_ofAsk_13 h
theorem c_X12_ofAsk {l : Launch} {D : va_G} {cy : Nat → ClassId} {ad : Nat → Nat} {p0 : Int32} {p1 : Int32} {σ σ' : St} {r : Int32} (hf : f_X12_ofAsk p0 p1 σ = some (r, σ')) : CT l D cy ad yX12_ofAsk cX12_ofAsk 3 (some .int) rX12_ofAsk [.ref (ad 58), .int p0, .int p1] σ (some (.int r)) σ' :=
  ct_of (by decide) (Nat.le_of_ble_eq_true rfl) (fun p e s m args below meth c A => e_X12_ofAsk (Γ := (p, l, e, rX12_ofAsk, s, m, args, below, meth, c, D, cy, ad, A, 0, 0, MQ below (QC D cy ad (some (.int r)) σ' A) args s 0 0 A)) p0 p1 σ ⟨_, hf, rfl⟩)
theorem k_X12_ofAsk {Γ : CX} {cc : ByteArray} {nL : Nat} {own : String} {ret : Option FieldType} {rm : Room} {σ σ' : St} {pc pc' idx : Nat} {lv : List (Nat × Value)} {rest : List Value} {p0 : Int32} {p1 : Int32} {r : Int32} (hl : Cond.methodLink own idx yX12_ofAsk ∈ TB) (hw : (rest.map fun v => v.category).sum ≤ 8) (hR : rX12_ofAsk.frames + 1 ≤ rm.frames ∧ 8 + (3 + 11) + rX12_ofAsk.locals ≤ rm.locals) (hd : decode cc pc = .ok (.invokevirtual idx, 3)) (hp : pc + 3 = pc') (hf : f_X12_ofAsk p0 p1 σ = some (r, σ')) (h : WW Γ cc nL own ret rm σ' pc' lv (.int r :: rest)) : WW Γ cc nL own ret rm σ pc lv (.int p1 :: .int p0 :: .ref (xd Γ 58) :: rest) :=
  w_callV (nn := 2) (i := 58) (As := [.int p0, .int p1]) (v := (some (.int r))) (T := TX12) (N := 32) (c_X12_ofAsk hf) hl mw_X12_ofAsk (by decide +kernel) ⟨rfl, rfl⟩ hR (lt_lit (by decide)) cel_58 rfl rfl hw hd rfl hp h
/-! WarByHoursModel.endOf (I)I -/
def rX12_endOf : Room := { frames := 1, cells := 0, slots := 0, locals := 22 }
def f_X12_endOf (p0 : Int32) (σ : St) : Option (Int32 × St) :=
  bd (f_X12_ofAsk p0 (1 : Int32) σ) fun r1 s2 =>
  bd (f_X12_ofAsk p0 (2 : Int32) s2) fun r4 s5 =>
  some ((r1 + r4), s5)
theorem e_X12_endOf {Γ : CX} (p0 : Int32) (σ : St) (h : RR vI Γ (f_X12_endOf p0 σ)) : WW Γ cX12_endOf 2 RX12 (some .int) rX12_endOf σ 0 [(0, .ref (xd Γ 58)), (1, .int p0)] [] := by
  unfold f_X12_endOf at h
  refine w_aload_n 0 dX12_endOf_0 rfl rfl rfl ?_
  refine w_iload_n 1 dX12_endOf_1 rfl rfl rfl ?_
  refine w_iconst (1 : Int32) dX12_endOf_2 ic_iconst_1 rfl ?_
  obtain ⟨r1, s2, h3, h⟩ := h.bd
  refine k_X12_ofAsk ml_RX12_428 (Nat.le_of_ble_eq_true rfl) ⟨Nat.le_of_ble_eq_true rfl, Nat.le_of_ble_eq_true rfl⟩ dX12_endOf_3 rfl h3 ?_
  refine w_aload_n 0 dX12_endOf_6 rfl rfl rfl ?_
  refine w_iload_n 1 dX12_endOf_7 rfl rfl rfl ?_
  refine w_iconst (2 : Int32) dX12_endOf_8 ic_iconst_2 rfl ?_
  obtain ⟨r4, s5, h6, h⟩ := h.bd
  refine k_X12_ofAsk ml_RX12_428 (Nat.le_of_ble_eq_true rfl) ⟨Nat.le_of_ble_eq_true rfl, Nat.le_of_ble_eq_true rfl⟩ dX12_endOf_9 rfl h6 ?_
  refine w_iadd dX12_endOf_12 rfl ?_
  exact w_ireturn dX12_endOf_13 h
theorem c_X12_endOf {l : Launch} {D : va_G} {cy : Nat → ClassId} {ad : Nat → Nat} {p0 : Int32} {σ σ' : St} {r : Int32} (hf : f_X12_endOf p0 σ = some (r, σ')) : CT l D cy ad yX12_endOf cX12_endOf 2 (some .int) rX12_endOf [.ref (ad 58), .int p0] σ (some (.int r)) σ' :=
  ct_of (by decide) (Nat.le_of_ble_eq_true rfl) (fun p e s m args below meth c A => e_X12_endOf (Γ := (p, l, e, rX12_endOf, s, m, args, below, meth, c, D, cy, ad, A, 0, 0, MQ below (QC D cy ad (some (.int r)) σ' A) args s 0 0 A)) p0 σ ⟨_, hf, rfl⟩)
theorem k_X12_endOf {Γ : CX} {cc : ByteArray} {nL : Nat} {own : String} {ret : Option FieldType} {rm : Room} {σ σ' : St} {pc pc' idx : Nat} {lv : List (Nat × Value)} {rest : List Value} {p0 : Int32} {r : Int32} (hl : Cond.methodLink own idx yX12_endOf ∈ TB) (hw : (rest.map fun v => v.category).sum ≤ 8) (hR : rX12_endOf.frames + 1 ≤ rm.frames ∧ 8 + (2 + 11) + rX12_endOf.locals ≤ rm.locals) (hd : decode cc pc = .ok (.invokevirtual idx, 3)) (hp : pc + 3 = pc') (hf : f_X12_endOf p0 σ = some (r, σ')) (h : WW Γ cc nL own ret rm σ' pc' lv (.int r :: rest)) : WW Γ cc nL own ret rm σ pc lv (.int p0 :: .ref (xd Γ 58) :: rest) :=
  w_callV (nn := 1) (i := 58) (As := [.int p0]) (v := (some (.int r))) (T := TX12) (N := 32) (c_X12_endOf hf) hl mw_X12_endOf (by decide +kernel) ⟨rfl, rfl⟩ hR (lt_lit (by decide)) cel_58 rfl rfl hw hd rfl hp h
/-! WarByHoursModel.nextAsk (II)I -/
def rX12_nextAsk : Room := { frames := 1, cells := 0, slots := 0, locals := 22 }
def f_X12_nextAsk_62 (K5 : Int32 × Int32 × Int32 × Int32 × St → Option (Int32 × St)) (v1 : Int32) (v2 : Int32) (v3 : Int32) (v4 : Int32) (σ : St) : Option (Int32 × St) :=
  bnd (v4 + (1 : Int32)) fun x1 =>
  K5 (v1, v2, v3, x1, σ)
theorem b_X12_nextAsk_62 {Γ : CX} (K5 : Int32 × Int32 × Int32 × Int32 × St → Option (Int32 × St)) (hK5 : ∀ (v1 : Int32) (v2 : Int32) (v3 : Int32) (v4 : Int32) (σ : St), RR vI Γ (K5 (v1, v2, v3, v4, σ)) → WW Γ cX12_nextAsk 5 RX12 (some .int) rX12_nextAsk σ 5 [(0, .ref (xd Γ 58)), (1, .int v1), (2, .int v2), (3, .int v3), (4, .int v4)] []) (v1 : Int32) (v2 : Int32) (v3 : Int32) (v4 : Int32) (σ : St) (h : RR vI Γ (f_X12_nextAsk_62 K5 v1 v2 v3 v4 σ)) : WW Γ cX12_nextAsk 5 RX12 (some .int) rX12_nextAsk σ 62 [(0, .ref (xd Γ 58)), (1, .int v1), (2, .int v2), (3, .int v3), (4, .int v4)] [] := by
  unfold f_X12_nextAsk_62 at h
  obtain ⟨x1, ex1⟩ : ∃ y : Int32, y = (v4 + (1 : Int32)) := ⟨_, rfl⟩
  replace h := h.bnd ex1
  refine w_iinc 4 x1 [(4, .int x1), (0, .ref (xd Γ 58)), (1, .int v1), (2, .int v2), (3, .int v3)] dX12_nextAsk_62 rfl (by rw [ex1, ic_iconst_1]) (by decide) rfl rfl ?_
  clear ex1
  refine w_goto (tgt := 5) dX12_nextAsk_65 (by decide) ?_
  exact w_sub [1, 2, 3, 4, 0] rfl (hK5 v1 v2 v3 x1 σ h)
def f_X12_nextAsk_59 (K5 : Int32 × Int32 × Int32 × Int32 × St → Option (Int32 × St)) (v1 : Int32) (v2 : Int32) (v4 : Int32) (σ : St) : Option (Int32 × St) :=
  f_X12_nextAsk_62 K5 v1 v2 v4 v4 σ
theorem b_X12_nextAsk_59 {Γ : CX} (K5 : Int32 × Int32 × Int32 × Int32 × St → Option (Int32 × St)) (hK5 : ∀ (v1 : Int32) (v2 : Int32) (v3 : Int32) (v4 : Int32) (σ : St), RR vI Γ (K5 (v1, v2, v3, v4, σ)) → WW Γ cX12_nextAsk 5 RX12 (some .int) rX12_nextAsk σ 5 [(0, .ref (xd Γ 58)), (1, .int v1), (2, .int v2), (3, .int v3), (4, .int v4)] []) (v1 : Int32) (v2 : Int32) (v4 : Int32) (σ : St) (h : RR vI Γ (f_X12_nextAsk_59 K5 v1 v2 v4 σ)) : WW Γ cX12_nextAsk 5 RX12 (some .int) rX12_nextAsk σ 59 [(0, .ref (xd Γ 58)), (1, .int v1), (2, .int v2), (4, .int v4)] [] := by
  unfold f_X12_nextAsk_59 at h
  refine w_iload 3 dX12_nextAsk_59 rfl rfl ?_
  refine w_istore_n [(3, .int v4), (0, .ref (xd Γ 58)), (1, .int v1), (2, .int v2), (4, .int v4)] dX12_nextAsk_61 rfl (by decide) rfl rfl ?_
  exact w_sub [1, 2, 3, 0, 4] rfl (b_X12_nextAsk_62 K5 hK5 v1 v2 v4 v4 σ h)
def g_X12_nextAsk_5 (K5 : Int32 × Int32 × Int32 × Int32 × St → Option (Int32 × St)) (x : Int32 × Int32 × Int32 × Int32 × St) : Option (Int32 × St) := match x with
  | (v1, v2, v3, v4, σ) =>
  gd (inb (6 : Int32) (ln 59)) <|
  if (gr σ 59 (6 : Int32).toNatClampNeg) ≤ v4 then
    some (v3, σ)
  else
    bd (f_X12_bit v1 v4 σ) fun r2 s3 =>
    if r2 = (1 : Int32) then
      bd (f_X12_ofAsk v4 (1 : Int32) s3) fun r5 s6 =>
      if r5 < v2 then
        f_X12_nextAsk_62 K5 v1 v2 v3 v4 s6
      else
        if v3 = (-1 : Int32) then
          f_X12_nextAsk_59 K5 v1 v2 v4 s6
        else
          bd (f_X12_ofAsk v4 (1 : Int32) s6) fun r8 s9 =>
          bd (f_X12_ofAsk v3 (1 : Int32) s9) fun r11 s12 =>
          if r11 ≤ r8 then
            f_X12_nextAsk_62 K5 v1 v2 v3 v4 s12
          else
            f_X12_nextAsk_59 K5 v1 v2 v4 s12
    else
      f_X12_nextAsk_62 K5 v1 v2 v3 v4 s3
theorem l_X12_nextAsk_5 {Γ : CX} : ∀ (n : Nat) (v1 : Int32) (v2 : Int32) (v3 : Int32) (v4 : Int32) (σ : St), RR vI Γ (itr (g_X12_nextAsk_5) n (v1, v2, v3, v4, σ)) → WW Γ cX12_nextAsk 5 RX12 (some .int) rX12_nextAsk σ 5 [(0, .ref (xd Γ 58)), (1, .int v1), (2, .int v2), (3, .int v3), (4, .int v4)] [] := by
  intro n
  induction n with
  | zero => intro v1 v2 v3 v4 σ h; exact RR.no h
  | succ n hK5 =>
  intro v1 v2 v3 v4 σ h
  have h : RR vI Γ (g_X12_nextAsk_5 (itr (g_X12_nextAsk_5) n) (v1, v2, v3, v4, σ)) := h
  generalize itr (g_X12_nextAsk_5) n = K5 at h hK5
  unfold g_X12_nextAsk_5 at h
  dsimp only at h
  refine w_iload 4 dX12_nextAsk_5 rfl rfl ?_
  refine w_aload_n 0 dX12_nextAsk_7 rfl rfl rfl ?_
  refine gf_RX12_9 dX12_nextAsk_8 rfl ?_
  refine w_bipush (6 : Int32) dX12_nextAsk_11 ic_bipush_6 rfl ?_
  obtain ⟨hi1, h⟩ := h.gd
  refine w_iald (i := 59) (lt_lit (by decide)) rfl hi1 dX12_nextAsk_13 rfl ?_
  refine w_icmp_ge (tgt := 68) dX12_nextAsk_14 (by decide) rfl (fun q => ?_) (fun q => ?_)
  · have h := h.tt q
    refine w_iload_n 3 dX12_nextAsk_68 rfl rfl rfl ?_
    exact w_ireturn dX12_nextAsk_69 h
  · have h := h.ff q
    refine w_iload_n 1 dX12_nextAsk_17 rfl rfl rfl ?_
    refine w_iload 4 dX12_nextAsk_18 rfl rfl ?_
    obtain ⟨r2, s3, h4, h⟩ := h.bd
    refine k_X12_bit ml_RX12_86 (Nat.le_of_ble_eq_true rfl) ⟨Nat.le_of_ble_eq_true rfl, Nat.le_of_ble_eq_true rfl⟩ dX12_nextAsk_20 rfl h4 ?_
    refine w_iconst (1 : Int32) dX12_nextAsk_23 ic_iconst_1 rfl ?_
    refine w_icmp_ne (tgt := 62) dX12_nextAsk_24 (by decide) rfl (fun q => ?_) (fun q => ?_)
    · have h := h.ff q
      exact w_sub [0, 1, 2, 3, 4] rfl (b_X12_nextAsk_62 K5 hK5 v1 v2 v3 v4 s3 h)
    · have h := h.tt q
      refine w_aload_n 0 dX12_nextAsk_27 rfl rfl rfl ?_
      refine w_iload 4 dX12_nextAsk_28 rfl rfl ?_
      refine w_iconst (1 : Int32) dX12_nextAsk_30 ic_iconst_1 rfl ?_
      obtain ⟨r5, s6, h7, h⟩ := h.bd
      refine k_X12_ofAsk ml_RX12_428 (Nat.le_of_ble_eq_true rfl) ⟨Nat.le_of_ble_eq_true rfl, Nat.le_of_ble_eq_true rfl⟩ dX12_nextAsk_31 rfl h7 ?_
      refine w_iload_n 2 dX12_nextAsk_34 rfl rfl rfl ?_
      refine w_icmp_lt (tgt := 62) dX12_nextAsk_35 (by decide) rfl (fun q => ?_) (fun q => ?_)
      · have h := h.tt q
        exact w_sub [0, 1, 2, 3, 4] rfl (b_X12_nextAsk_62 K5 hK5 v1 v2 v3 v4 s6 h)
      · have h := h.ff q
        refine w_iload_n 3 dX12_nextAsk_38 rfl rfl rfl ?_
        refine w_iconst (-1 : Int32) dX12_nextAsk_39 ic_iconst_m1 rfl ?_
        refine w_icmp_eq (tgt := 59) dX12_nextAsk_40 (by decide) rfl (fun q => ?_) (fun q => ?_)
        · have h := h.tt q
          exact w_sub [0, 1, 2, 4] rfl (b_X12_nextAsk_59 K5 hK5 v1 v2 v4 s6 h)
        · have h := h.ff q
          refine w_aload_n 0 dX12_nextAsk_43 rfl rfl rfl ?_
          refine w_iload 4 dX12_nextAsk_44 rfl rfl ?_
          refine w_iconst (1 : Int32) dX12_nextAsk_46 ic_iconst_1 rfl ?_
          obtain ⟨r8, s9, h10, h⟩ := h.bd
          refine k_X12_ofAsk ml_RX12_428 (Nat.le_of_ble_eq_true rfl) ⟨Nat.le_of_ble_eq_true rfl, Nat.le_of_ble_eq_true rfl⟩ dX12_nextAsk_47 rfl h10 ?_
          refine w_aload_n 0 dX12_nextAsk_50 rfl rfl rfl ?_
          refine w_iload_n 3 dX12_nextAsk_51 rfl rfl rfl ?_
          refine w_iconst (1 : Int32) dX12_nextAsk_52 ic_iconst_1 rfl ?_
          obtain ⟨r11, s12, h13, h⟩ := h.bd
          refine k_X12_ofAsk ml_RX12_428 (Nat.le_of_ble_eq_true rfl) ⟨Nat.le_of_ble_eq_true rfl, Nat.le_of_ble_eq_true rfl⟩ dX12_nextAsk_53 rfl h13 ?_
          refine w_icmp_ge (tgt := 62) dX12_nextAsk_56 (by decide) rfl (fun q => ?_) (fun q => ?_)
          · have h := h.tt q
            exact w_sub [0, 1, 2, 3, 4] rfl (b_X12_nextAsk_62 K5 hK5 v1 v2 v3 v4 s12 h)
          · have h := h.ff q
            exact w_sub [0, 1, 2, 4] rfl (b_X12_nextAsk_59 K5 hK5 v1 v2 v4 s12 h)
def f_X12_nextAsk (p0 : Int32) (p1 : Int32) (σ : St) : Option (Int32 × St) :=
  itr (g_X12_nextAsk_5) FU (p0, p1, (-1 : Int32), (0 : Int32), σ)
theorem e_X12_nextAsk {Γ : CX} (p0 : Int32) (p1 : Int32) (σ : St) (h : RR vI Γ (f_X12_nextAsk p0 p1 σ)) : WW Γ cX12_nextAsk 5 RX12 (some .int) rX12_nextAsk σ 0 [(0, .ref (xd Γ 58)), (1, .int p0), (2, .int p1)] [] := by
  unfold f_X12_nextAsk at h
  refine w_iconst (-1 : Int32) dX12_nextAsk_0 ic_iconst_m1 rfl ?_
  refine w_istore_n [(3, .int (-1 : Int32)), (0, .ref (xd Γ 58)), (1, .int p0), (2, .int p1)] dX12_nextAsk_1 rfl (by decide) rfl rfl ?_
  refine w_iconst (0 : Int32) dX12_nextAsk_2 ic_iconst_0 rfl ?_
  refine w_istore [(4, .int (0 : Int32)), (3, .int (-1 : Int32)), (0, .ref (xd Γ 58)), (1, .int p0), (2, .int p1)] dX12_nextAsk_3 (by decide) rfl rfl ?_
  exact w_sub [2, 3, 4, 1, 0] rfl (l_X12_nextAsk_5 FU p0 p1 (-1 : Int32) (0 : Int32) σ h)
theorem c_X12_nextAsk {l : Launch} {D : va_G} {cy : Nat → ClassId} {ad : Nat → Nat} {p0 : Int32} {p1 : Int32} {σ σ' : St} {r : Int32} (hf : f_X12_nextAsk p0 p1 σ = some (r, σ')) : CT l D cy ad yX12_nextAsk cX12_nextAsk 5 (some .int) rX12_nextAsk [.ref (ad 58), .int p0, .int p1] σ (some (.int r)) σ' :=
  ct_of (by decide) (Nat.le_of_ble_eq_true rfl) (fun p e s m args below meth c A => e_X12_nextAsk (Γ := (p, l, e, rX12_nextAsk, s, m, args, below, meth, c, D, cy, ad, A, 0, 0, MQ below (QC D cy ad (some (.int r)) σ' A) args s 0 0 A)) p0 p1 σ ⟨_, hf, rfl⟩)
theorem k_X12_nextAsk {Γ : CX} {cc : ByteArray} {nL : Nat} {own : String} {ret : Option FieldType} {rm : Room} {σ σ' : St} {pc pc' idx : Nat} {lv : List (Nat × Value)} {rest : List Value} {p0 : Int32} {p1 : Int32} {r : Int32} (hl : Cond.methodLink own idx yX12_nextAsk ∈ TB) (hw : (rest.map fun v => v.category).sum ≤ 8) (hR : rX12_nextAsk.frames + 1 ≤ rm.frames ∧ 8 + (5 + 11) + rX12_nextAsk.locals ≤ rm.locals) (hd : decode cc pc = .ok (.invokevirtual idx, 3)) (hp : pc + 3 = pc') (hf : f_X12_nextAsk p0 p1 σ = some (r, σ')) (h : WW Γ cc nL own ret rm σ' pc' lv (.int r :: rest)) : WW Γ cc nL own ret rm σ pc lv (.int p1 :: .int p0 :: .ref (xd Γ 58) :: rest) :=
  w_callV (nn := 2) (i := 58) (As := [.int p0, .int p1]) (v := (some (.int r))) (T := TX12) (N := 32) (c_X12_nextAsk hf) hl mw_X12_nextAsk (by decide +kernel) ⟨rfl, rfl⟩ hR (lt_lit (by decide)) cel_58 rfl rfl hw hd rfl hp h
/-! WarByHoursModel.canGrant (IZ)Z -/
def rX12_canGrant : Room := { frames := 2, cells := 0, slots := 0, locals := 46 }
def f_X12_canGrant_41 (K17 : Int32 × Int32 × Int32 × Int32 × Int32 × St → Option (Int32 × St)) (v1 : Int32) (v2 : Int32) (v3 : Int32) (v6 : Int32) (σ : St) : Option (Int32 × St) :=
  bd (f_X12_ofAsk v6 (0 : Int32) σ) fun r1 s2 =>
  bd (f_X12_endOf v6 s2) fun r4 s5 =>
  bnd (v3 + (1 : Int32)) fun x7 =>
  bd (f_X12_nextAsk v1 r4 s5) fun r8 s9 =>
  K17 (v1, v2, x7, r1, r8, s9)
theorem b_X12_canGrant_41 {Γ : CX} (K17 : Int32 × Int32 × Int32 × Int32 × Int32 × St → Option (Int32 × St)) (hK17 : ∀ (v1 : Int32) (v2 : Int32) (v3 : Int32) (v4 : Int32) (v6 : Int32) (σ : St), RR vI Γ (K17 (v1, v2, v3, v4, v6, σ)) → WW Γ cX12_canGrant 7 RX12 (some .boolean) rX12_canGrant σ 17 [(0, .ref (xd Γ 58)), (1, .int v1), (2, .int v2), (3, .int v3), (4, .int v4), (6, .int v6)] []) (v1 : Int32) (v2 : Int32) (v3 : Int32) (v6 : Int32) (σ : St) (h : RR vI Γ (f_X12_canGrant_41 K17 v1 v2 v3 v6 σ)) : WW Γ cX12_canGrant 7 RX12 (some .boolean) rX12_canGrant σ 41 [(0, .ref (xd Γ 58)), (1, .int v1), (2, .int v2), (3, .int v3), (6, .int v6)] [] := by
  unfold f_X12_canGrant_41 at h
  refine w_aload_n 0 dX12_canGrant_41 rfl rfl rfl ?_
  refine w_iload 4 dX12_canGrant_42 rfl rfl ?_
  refine w_iconst (0 : Int32) dX12_canGrant_44 ic_iconst_0 rfl ?_
  obtain ⟨r1, s2, h3, h⟩ := h.bd
  refine k_X12_ofAsk ml_RX12_428 (Nat.le_of_ble_eq_true rfl) ⟨Nat.le_of_ble_eq_true rfl, Nat.le_of_ble_eq_true rfl⟩ dX12_canGrant_45 rfl h3 ?_
  refine w_istore [(4, .int r1), (0, .ref (xd Γ 58)), (1, .int v1), (2, .int v2), (3, .int v3), (6, .int v6)] dX12_canGrant_48 (by decide) rfl rfl ?_
  refine w_aload_n 1 dX12_canGrant_50 rfl rfl rfl ?_
  refine w_iload 5 dX12_canGrant_51 rfl rfl ?_
  obtain ⟨r4, s5, h6, h⟩ := h.bd
  refine k_X12_endOf ml_RX12_434 (Nat.le_of_ble_eq_true rfl) ⟨Nat.le_of_ble_eq_true rfl, Nat.le_of_ble_eq_true rfl⟩ dX12_canGrant_53 rfl h6 ?_
  refine w_istore [(5, .int r4), (4, .int r1), (0, .ref (xd Γ 58)), (1, .int v1), (2, .int v2), (3, .int v3), (6, .int v6)] dX12_canGrant_56 (by decide) rfl rfl ?_
  obtain ⟨x7, ex7⟩ : ∃ y : Int32, y = (v3 + (1 : Int32)) := ⟨_, rfl⟩
  replace h := h.bnd ex7
  refine w_iinc 5 x7 [(3, .int x7), (5, .int r4), (4, .int r1), (0, .ref (xd Γ 58)), (1, .int v1), (2, .int v2), (6, .int v6)] dX12_canGrant_58 rfl (by rw [ex7, ic_iconst_1]) (by decide) rfl rfl ?_
  clear ex7
  refine w_aload_n 3 dX12_canGrant_61 rfl rfl rfl ?_
  refine w_iload_n 4 dX12_canGrant_62 rfl rfl rfl ?_
  refine w_iload 1 dX12_canGrant_63 rfl rfl ?_
  obtain ⟨r8, s9, h10, h⟩ := h.bd
  refine k_X12_nextAsk ml_RX12_431 (Nat.le_of_ble_eq_true rfl) ⟨Nat.le_of_ble_eq_true rfl, Nat.le_of_ble_eq_true rfl⟩ dX12_canGrant_65 rfl h10 ?_
  refine w_istore [(6, .int r8), (3, .int x7), (5, .int r4), (4, .int r1), (0, .ref (xd Γ 58)), (1, .int v1), (2, .int v2)] dX12_canGrant_68 (by decide) rfl rfl ?_
  refine w_goto (tgt := 17) dX12_canGrant_70 (by decide) ?_
  exact w_sub [4, 5, 6, 1, 3, 0] rfl (hK17 v1 v2 x7 r1 r8 s9 h)
def f_X12_canGrant_86 (k0 : Int32) (σ : St) : Option (Int32 × St) :=
  gd (bz k0) <| some (k0, σ)
theorem b_X12_canGrant_86 {Γ : CX} (k0 : Int32) (σ : St) (h : RR vI Γ (f_X12_canGrant_86 k0 σ)) : WW Γ cX12_canGrant 7 RX12 (some .boolean) rX12_canGrant σ 86 [] [.int k0] := by
  unfold f_X12_canGrant_86 at h
  obtain ⟨hb, h⟩ := h.gd
  exact w_zreturn dX12_canGrant_86 hb h
def g_X12_canGrant_17 (K17 : Int32 × Int32 × Int32 × Int32 × Int32 × St → Option (Int32 × St)) (x : Int32 × Int32 × Int32 × Int32 × Int32 × St) : Option (Int32 × St) := match x with
  | (v1, v2, v3, v4, v6, σ) =>
  if v6 = (-1 : Int32) then
    bd (f_X12_bits v1 σ) fun r1 s2 =>
    if v3 = r1 then
      f_X12_canGrant_86 (1 : Int32) s2
    else
      f_X12_canGrant_86 (0 : Int32) s2
  else
    if v2 = 0 then
      f_X12_canGrant_41 K17 v1 v2 v3 v6 σ
    else
      bd (f_X12_ofAsk v6 (0 : Int32) σ) fun r4 s5 =>
      if r4 = v4 then
        gd (bz (0 : Int32)) <| some ((0 : Int32), s5)
      else
        f_X12_canGrant_41 K17 v1 v2 v3 v6 s5
theorem l_X12_canGrant_17 {Γ : CX} : ∀ (n : Nat) (v1 : Int32) (v2 : Int32) (v3 : Int32) (v4 : Int32) (v6 : Int32) (σ : St), RR vI Γ (itr (g_X12_canGrant_17) n (v1, v2, v3, v4, v6, σ)) → WW Γ cX12_canGrant 7 RX12 (some .boolean) rX12_canGrant σ 17 [(0, .ref (xd Γ 58)), (1, .int v1), (2, .int v2), (3, .int v3), (4, .int v4), (6, .int v6)] [] := by
  intro n
  induction n with
  | zero => intro v1 v2 v3 v4 v6 σ h; exact RR.no h
  | succ n hK17 =>
  intro v1 v2 v3 v4 v6 σ h
  have h : RR vI Γ (g_X12_canGrant_17 (itr (g_X12_canGrant_17) n) (v1, v2, v3, v4, v6, σ)) := h
  generalize itr (g_X12_canGrant_17) n = K17 at h hK17
  unfold g_X12_canGrant_17 at h
  dsimp only at h
  refine w_iload 5 dX12_canGrant_17 rfl rfl ?_
  refine w_iconst (-1 : Int32) dX12_canGrant_19 ic_iconst_m1 rfl ?_
  refine w_icmp_eq (tgt := 73) dX12_canGrant_20 (by decide) rfl (fun q => ?_) (fun q => ?_)
  · have h := h.tt q
    refine w_iload_n 3 dX12_canGrant_73 rfl rfl rfl ?_
    refine w_iload_n 1 dX12_canGrant_74 rfl rfl rfl ?_
    obtain ⟨r1, s2, h3, h⟩ := h.bd
    refine k_X12_bits ml_RX12_281 (Nat.le_of_ble_eq_true rfl) ⟨Nat.le_of_ble_eq_true rfl, Nat.le_of_ble_eq_true rfl⟩ dX12_canGrant_75 rfl h3 ?_
    refine w_icmp_ne (tgt := 85) dX12_canGrant_78 (by decide) rfl (fun q => ?_) (fun q => ?_)
    · have h := h.ff q
      refine w_iconst (0 : Int32) dX12_canGrant_85 ic_iconst_0 rfl ?_
      exact w_sub [] rfl (b_X12_canGrant_86 (0 : Int32) s2 h)
    · have h := h.tt q
      refine w_iconst (1 : Int32) dX12_canGrant_81 ic_iconst_1 rfl ?_
      refine w_goto (tgt := 86) dX12_canGrant_82 (by decide) ?_
      exact w_sub [] rfl (b_X12_canGrant_86 (1 : Int32) s2 h)
  · have h := h.ff q
    refine w_iload_n 2 dX12_canGrant_23 rfl rfl rfl ?_
    refine w_if_eq (tgt := 41) dX12_canGrant_24 (by decide) rfl (fun q => ?_) (fun q => ?_)
    · have h := h.tt q
      exact w_sub [0, 1, 2, 3, 5] rfl (b_X12_canGrant_41 K17 hK17 v1 v2 v3 v6 σ h)
    · have h := h.ff q
      refine w_aload_n 0 dX12_canGrant_27 rfl rfl rfl ?_
      refine w_iload 5 dX12_canGrant_28 rfl rfl ?_
      refine w_iconst (0 : Int32) dX12_canGrant_30 ic_iconst_0 rfl ?_
      obtain ⟨r4, s5, h6, h⟩ := h.bd
      refine k_X12_ofAsk ml_RX12_428 (Nat.le_of_ble_eq_true rfl) ⟨Nat.le_of_ble_eq_true rfl, Nat.le_of_ble_eq_true rfl⟩ dX12_canGrant_31 rfl h6 ?_
      refine w_iload 4 dX12_canGrant_34 rfl rfl ?_
      refine w_icmp_ne (tgt := 41) dX12_canGrant_36 (by decide) rfl (fun q => ?_) (fun q => ?_)
      · have h := h.ff q
        exact w_sub [0, 1, 2, 3, 5] rfl (b_X12_canGrant_41 K17 hK17 v1 v2 v3 v6 s5 h)
      · have h := h.tt q
        refine w_iconst (0 : Int32) dX12_canGrant_39 ic_iconst_0 rfl ?_
        obtain ⟨hb, h⟩ := h.gd
        exact w_zreturn dX12_canGrant_40 hb h
def f_X12_canGrant (p0 : Int32) (p1 : Int32) (σ : St) : Option (Int32 × St) :=
  bd (f_X12_nextAsk p0 (0 : Int32) σ) fun r1 s2 =>
  itr (g_X12_canGrant_17) FU (p0, p1, (0 : Int32), (-1 : Int32), r1, s2)
theorem e_X12_canGrant {Γ : CX} (p0 : Int32) (p1 : Int32) (σ : St) (h : RR vI Γ (f_X12_canGrant p0 p1 σ)) : WW Γ cX12_canGrant 7 RX12 (some .boolean) rX12_canGrant σ 0 [(0, .ref (xd Γ 58)), (1, .int p0), (2, .int p1)] [] := by
  unfold f_X12_canGrant at h
  refine w_iconst (0 : Int32) dX12_canGrant_0 ic_iconst_0 rfl ?_
  refine w_istore_n [(3, .int (0 : Int32)), (0, .ref (xd Γ 58)), (1, .int p0), (2, .int p1)] dX12_canGrant_1 rfl (by decide) rfl rfl ?_
  refine w_iconst (-1 : Int32) dX12_canGrant_2 ic_iconst_m1 rfl ?_
  refine w_istore [(4, .int (-1 : Int32)), (3, .int (0 : Int32)), (0, .ref (xd Γ 58)), (1, .int p0), (2, .int p1)] dX12_canGrant_3 (by decide) rfl rfl ?_
  refine w_iconst (0 : Int32) dX12_canGrant_5 ic_iconst_0 rfl ?_
  refine w_istore [(5, .int (0 : Int32)), (4, .int (-1 : Int32)), (3, .int (0 : Int32)), (0, .ref (xd Γ 58)), (1, .int p0), (2, .int p1)] dX12_canGrant_6 (by decide) rfl rfl ?_
  refine w_aload_n 3 dX12_canGrant_8 rfl rfl rfl ?_
  refine w_iload_n 4 dX12_canGrant_9 rfl rfl rfl ?_
  refine w_iload 0 dX12_canGrant_10 rfl rfl ?_
  obtain ⟨r1, s2, h3, h⟩ := h.bd
  refine k_X12_nextAsk ml_RX12_431 (Nat.le_of_ble_eq_true rfl) ⟨Nat.le_of_ble_eq_true rfl, Nat.le_of_ble_eq_true rfl⟩ dX12_canGrant_12 rfl h3 ?_
  refine w_istore [(6, .int r1), (5, .int (0 : Int32)), (4, .int (-1 : Int32)), (3, .int (0 : Int32)), (0, .ref (xd Γ 58)), (1, .int p0), (2, .int p1)] dX12_canGrant_15 (by decide) rfl rfl ?_
  exact w_sub [4, 5, 6, 3, 2, 0] rfl (l_X12_canGrant_17 FU p0 p1 (0 : Int32) (-1 : Int32) r1 s2 h)
theorem c_X12_canGrant {l : Launch} {D : va_G} {cy : Nat → ClassId} {ad : Nat → Nat} {p0 : Int32} {p1 : Int32} {σ σ' : St} {r : Int32} (hf : f_X12_canGrant p0 p1 σ = some (r, σ')) : CT l D cy ad yX12_canGrant cX12_canGrant 7 (some .boolean) rX12_canGrant [.ref (ad 58), .int p0, .int p1] σ (some (.int r)) σ' :=
  ct_of (by decide) (Nat.le_of_ble_eq_true rfl) (fun p e s m args below meth c A => e_X12_canGrant (Γ := (p, l, e, rX12_canGrant, s, m, args, below, meth, c, D, cy, ad, A, 0, 0, MQ below (QC D cy ad (some (.int r)) σ' A) args s 0 0 A)) p0 p1 σ ⟨_, hf, rfl⟩)
theorem k_X12_canGrant {Γ : CX} {cc : ByteArray} {nL : Nat} {own : String} {ret : Option FieldType} {rm : Room} {σ σ' : St} {pc pc' idx : Nat} {lv : List (Nat × Value)} {rest : List Value} {p0 : Int32} {p1 : Int32} {r : Int32} (hl : Cond.methodLink own idx yX12_canGrant ∈ TB) (hw : (rest.map fun v => v.category).sum ≤ 8) (hR : rX12_canGrant.frames + 1 ≤ rm.frames ∧ 8 + (7 + 11) + rX12_canGrant.locals ≤ rm.locals) (hd : decode cc pc = .ok (.invokevirtual idx, 3)) (hp : pc + 3 = pc') (hf : f_X12_canGrant p0 p1 σ = some (r, σ')) (h : WW Γ cc nL own ret rm σ' pc' lv (.int r :: rest)) : WW Γ cc nL own ret rm σ pc lv (.int p1 :: .int p0 :: .ref (xd Γ 58) :: rest) :=
  w_callV (nn := 2) (i := 58) (As := [.int p0, .int p1]) (v := (some (.int r))) (T := TX12) (N := 32) (c_X12_canGrant hf) hl mw_X12_canGrant (by decide +kernel) ⟨rfl, rfl⟩ hR (lt_lit (by decide)) cel_58 rfl rfl hw hd rfl hp h
/-! WarByHoursModel.grantOf (Z)I -/
def rX12_grantOf : Room := { frames := 3, cells := 0, slots := 0, locals := 72 }
def f_X12_grantOf_86 (K4 : Int32 × Int32 × Int32 × St → Option (Int32 × St)) (v1 : Int32) (v2 : Int32) (v3 : Int32) (σ : St) : Option (Int32 × St) :=
  bnd (v3 + (1 : Int32)) fun x1 =>
  K4 (v1, v2, x1, σ)
theorem b_X12_grantOf_86 {Γ : CX} (K4 : Int32 × Int32 × Int32 × St → Option (Int32 × St)) (hK4 : ∀ (v1 : Int32) (v2 : Int32) (v3 : Int32) (σ : St), RR vI Γ (K4 (v1, v2, v3, σ)) → WW Γ cX12_grantOf 6 RX12 (some .int) rX12_grantOf σ 4 [(0, .ref (xd Γ 58)), (1, .int v1), (2, .int v2), (3, .int v3)] []) (v1 : Int32) (v2 : Int32) (v3 : Int32) (σ : St) (h : RR vI Γ (f_X12_grantOf_86 K4 v1 v2 v3 σ)) : WW Γ cX12_grantOf 6 RX12 (some .int) rX12_grantOf σ 86 [(0, .ref (xd Γ 58)), (1, .int v1), (2, .int v2), (3, .int v3)] [] := by
  unfold f_X12_grantOf_86 at h
  obtain ⟨x1, ex1⟩ : ∃ y : Int32, y = (v3 + (1 : Int32)) := ⟨_, rfl⟩
  replace h := h.bnd ex1
  refine w_iinc 3 x1 [(3, .int x1), (0, .ref (xd Γ 58)), (1, .int v1), (2, .int v2)] dX12_grantOf_86 rfl (by rw [ex1, ic_iconst_1]) (by decide) rfl rfl ?_
  clear ex1
  refine w_goto (tgt := 4) dX12_grantOf_89 (by decide) ?_
  exact w_sub [1, 2, 3, 0] rfl (hK4 v1 v2 x1 σ h)
def g_X12_grantOf_23 (K4 : Int32 × Int32 × Int32 × St → Option (Int32 × St)) (K23 : Int32 × Int32 × Int32 × Int32 × Int32 × St → Option (Int32 × St)) (x : Int32 × Int32 × Int32 × Int32 × Int32 × St) : Option (Int32 × St) := match x with
  | (v1, v2, v3, v4, v5, σ) =>
  gd (inb (6 : Int32) (ln 59)) <|
  if (gr σ 59 (6 : Int32).toNatClampNeg) ≤ v5 then
    if v4 ≤ v2 then
      f_X12_grantOf_86 K4 v1 v2 v3 σ
    else
      bd (f_X12_canGrant v3 v1 σ) fun r2 s3 =>
      if r2 = 0 then
        f_X12_grantOf_86 K4 v1 v2 v3 s3
      else
        bnd (sf s3 58 27 v3) fun s5 =>
        f_X12_grantOf_86 K4 v1 v4 v3 s5
  else
    bd (f_X12_bit v3 v5 σ) fun r6 s7 =>
    bd (f_X12_ofAsk v5 (3 : Int32) s7) fun r9 s10 =>
    bnd ((v4 + (r6 * r9))) fun x12 =>
    bnd (v5 + (1 : Int32)) fun x13 =>
    K23 (v1, v2, v3, x12, x13, s10)
theorem l_X12_grantOf_23 {Γ : CX} (K4 : Int32 × Int32 × Int32 × St → Option (Int32 × St)) (hK4 : ∀ (v1 : Int32) (v2 : Int32) (v3 : Int32) (σ : St), RR vI Γ (K4 (v1, v2, v3, σ)) → WW Γ cX12_grantOf 6 RX12 (some .int) rX12_grantOf σ 4 [(0, .ref (xd Γ 58)), (1, .int v1), (2, .int v2), (3, .int v3)] []) : ∀ (n : Nat) (v1 : Int32) (v2 : Int32) (v3 : Int32) (v4 : Int32) (v5 : Int32) (σ : St), RR vI Γ (itr (g_X12_grantOf_23 K4) n (v1, v2, v3, v4, v5, σ)) → WW Γ cX12_grantOf 6 RX12 (some .int) rX12_grantOf σ 23 [(0, .ref (xd Γ 58)), (1, .int v1), (2, .int v2), (3, .int v3), (4, .int v4), (5, .int v5)] [] := by
  intro n
  induction n with
  | zero => intro v1 v2 v3 v4 v5 σ h; exact RR.no h
  | succ n hK23 =>
  intro v1 v2 v3 v4 v5 σ h
  have h : RR vI Γ (g_X12_grantOf_23 K4 (itr (g_X12_grantOf_23 K4) n) (v1, v2, v3, v4, v5, σ)) := h
  generalize itr (g_X12_grantOf_23 K4) n = K23 at h hK23
  unfold g_X12_grantOf_23 at h
  dsimp only at h
  refine w_iload 5 dX12_grantOf_23 rfl rfl ?_
  refine w_aload_n 0 dX12_grantOf_25 rfl rfl rfl ?_
  refine gf_RX12_9 dX12_grantOf_26 rfl ?_
  refine w_bipush (6 : Int32) dX12_grantOf_29 ic_bipush_6 rfl ?_
  obtain ⟨hi1, h⟩ := h.gd
  refine w_iald (i := 59) (lt_lit (by decide)) rfl hi1 dX12_grantOf_31 rfl ?_
  refine w_icmp_ge (tgt := 60) dX12_grantOf_32 (by decide) rfl (fun q => ?_) (fun q => ?_)
  · have h := h.tt q
    refine w_iload 4 dX12_grantOf_60 rfl rfl ?_
    refine w_iload_n 2 dX12_grantOf_62 rfl rfl rfl ?_
    refine w_icmp_le (tgt := 86) dX12_grantOf_63 (by decide) rfl (fun q => ?_) (fun q => ?_)
    · have h := h.tt q
      exact w_sub [0, 1, 2, 3] rfl (b_X12_grantOf_86 K4 hK4 v1 v2 v3 σ h)
    · have h := h.ff q
      refine w_aload_n 0 dX12_grantOf_66 rfl rfl rfl ?_
      refine w_iload_n 3 dX12_grantOf_67 rfl rfl rfl ?_
      refine w_iload_n 1 dX12_grantOf_68 rfl rfl rfl ?_
      obtain ⟨r2, s3, h4, h⟩ := h.bd
      refine k_X12_canGrant ml_RX12_437 (Nat.le_of_ble_eq_true rfl) ⟨Nat.le_of_ble_eq_true rfl, Nat.le_of_ble_eq_true rfl⟩ dX12_grantOf_69 rfl h4 ?_
      refine w_if_ne (tgt := 78) dX12_grantOf_72 (by decide) rfl (fun q => ?_) (fun q => ?_)
      · have h := h.ff q
        refine w_iload 4 dX12_grantOf_78 rfl rfl ?_
        refine w_istore_n [(2, .int v4), (0, .ref (xd Γ 58)), (1, .int v1), (3, .int v3), (4, .int v4), (5, .int v5)] dX12_grantOf_80 rfl (by decide) rfl rfl ?_
        refine w_aload_n 1 dX12_grantOf_81 rfl rfl rfl ?_
        refine w_iload_n 3 dX12_grantOf_82 rfl rfl rfl ?_
        refine pf_RX12_441 dX12_grantOf_83 rfl ?_
        obtain ⟨s5, es5⟩ : ∃ y : St, y = (sf s3 58 27 v3) := ⟨_, rfl⟩
        rw [← es5]
        replace h := h.bnd es5
        clear es5
        exact w_sub [1, 2, 0, 3] rfl (b_X12_grantOf_86 K4 hK4 v1 v4 v3 s5 h)
      · have h := h.tt q
        refine w_goto (tgt := 86) dX12_grantOf_75 (by decide) ?_
        exact w_sub [0, 1, 2, 3] rfl (b_X12_grantOf_86 K4 hK4 v1 v2 v3 s3 h)
  · have h := h.ff q
    refine w_iload 4 dX12_grantOf_35 rfl rfl ?_
    refine w_iload_n 3 dX12_grantOf_37 rfl rfl rfl ?_
    refine w_iload 5 dX12_grantOf_38 rfl rfl ?_
    obtain ⟨r6, s7, h8, h⟩ := h.bd
    refine k_X12_bit ml_RX12_86 (Nat.le_of_ble_eq_true rfl) ⟨Nat.le_of_ble_eq_true rfl, Nat.le_of_ble_eq_true rfl⟩ dX12_grantOf_40 rfl h8 ?_
    refine w_aload_n 0 dX12_grantOf_43 rfl rfl rfl ?_
    refine w_iload 5 dX12_grantOf_44 rfl rfl ?_
    refine w_iconst (3 : Int32) dX12_grantOf_46 ic_iconst_3 rfl ?_
    obtain ⟨r9, s10, h11, h⟩ := h.bd
    refine k_X12_ofAsk ml_RX12_428 (Nat.le_of_ble_eq_true rfl) ⟨Nat.le_of_ble_eq_true rfl, Nat.le_of_ble_eq_true rfl⟩ dX12_grantOf_47 rfl h11 ?_
    refine w_imul dX12_grantOf_50 rfl ?_
    refine w_iadd dX12_grantOf_51 rfl ?_
    refine w_nmI (fun x12 ex12 => ?_)
    replace h := h.bnd ex12
    clear ex12
    refine w_istore [(4, .int x12), (0, .ref (xd Γ 58)), (1, .int v1), (2, .int v2), (3, .int v3), (5, .int v5)] dX12_grantOf_52 (by decide) rfl rfl ?_
    obtain ⟨x13, ex13⟩ : ∃ y : Int32, y = (v5 + (1 : Int32)) := ⟨_, rfl⟩
    replace h := h.bnd ex13
    refine w_iinc 5 x13 [(5, .int x13), (4, .int x12), (0, .ref (xd Γ 58)), (1, .int v1), (2, .int v2), (3, .int v3)] dX12_grantOf_54 rfl (by rw [ex13, ic_iconst_1]) (by decide) rfl rfl ?_
    clear ex13
    refine w_goto (tgt := 23) dX12_grantOf_57 (by decide) ?_
    exact w_sub [2, 3, 4, 5, 1, 0] rfl (hK23 v1 v2 v3 x12 x13 s10 h)
def g_X12_grantOf_4 (K4 : Int32 × Int32 × Int32 × St → Option (Int32 × St)) (x : Int32 × Int32 × Int32 × St) : Option (Int32 × St) := match x with
  | (v1, v2, v3, σ) =>
  gd (inb (6 : Int32) (ln 59)) <|
  if ((1 : Int32) <<< ((gr σ 59 (6 : Int32).toNatClampNeg) &&& 31)) ≤ v3 then
    some (v2, σ)
  else
    itr (g_X12_grantOf_23 K4) FU (v1, v2, v3, (0 : Int32), (0 : Int32), σ)
theorem l_X12_grantOf_4 {Γ : CX} : ∀ (n : Nat) (v1 : Int32) (v2 : Int32) (v3 : Int32) (σ : St), RR vI Γ (itr (g_X12_grantOf_4) n (v1, v2, v3, σ)) → WW Γ cX12_grantOf 6 RX12 (some .int) rX12_grantOf σ 4 [(0, .ref (xd Γ 58)), (1, .int v1), (2, .int v2), (3, .int v3)] [] := by
  intro n
  induction n with
  | zero => intro v1 v2 v3 σ h; exact RR.no h
  | succ n hK4 =>
  intro v1 v2 v3 σ h
  have h : RR vI Γ (g_X12_grantOf_4 (itr (g_X12_grantOf_4) n) (v1, v2, v3, σ)) := h
  generalize itr (g_X12_grantOf_4) n = K4 at h hK4
  unfold g_X12_grantOf_4 at h
  dsimp only at h
  refine w_iload_n 3 dX12_grantOf_4 rfl rfl rfl ?_
  refine w_iconst (1 : Int32) dX12_grantOf_5 ic_iconst_1 rfl ?_
  refine w_aload_n 0 dX12_grantOf_6 rfl rfl rfl ?_
  refine gf_RX12_9 dX12_grantOf_7 rfl ?_
  refine w_bipush (6 : Int32) dX12_grantOf_10 ic_bipush_6 rfl ?_
  obtain ⟨hi1, h⟩ := h.gd
  refine w_iald (i := 59) (lt_lit (by decide)) rfl hi1 dX12_grantOf_12 rfl ?_
  refine w_ishl dX12_grantOf_13 rfl ?_
  refine w_icmp_ge (tgt := 92) dX12_grantOf_14 (by decide) rfl (fun q => ?_) (fun q => ?_)
  · have h := h.tt q
    refine w_iload_n 2 dX12_grantOf_92 rfl rfl rfl ?_
    exact w_ireturn dX12_grantOf_93 h
  · have h := h.ff q
    refine w_iconst (0 : Int32) dX12_grantOf_17 ic_iconst_0 rfl ?_
    refine w_istore [(4, .int (0 : Int32)), (0, .ref (xd Γ 58)), (1, .int v1), (2, .int v2), (3, .int v3)] dX12_grantOf_18 (by decide) rfl rfl ?_
    refine w_iconst (0 : Int32) dX12_grantOf_20 ic_iconst_0 rfl ?_
    refine w_istore [(5, .int (0 : Int32)), (4, .int (0 : Int32)), (0, .ref (xd Γ 58)), (1, .int v1), (2, .int v2), (3, .int v3)] dX12_grantOf_21 (by decide) rfl rfl ?_
    exact w_sub [2, 3, 4, 5, 1, 0] rfl (l_X12_grantOf_23 K4 hK4 FU v1 v2 v3 (0 : Int32) (0 : Int32) σ h)
def f_X12_grantOf (p0 : Int32) (σ : St) : Option (Int32 × St) :=
  itr (g_X12_grantOf_4) FU (p0, (-1 : Int32), (0 : Int32), σ)
theorem e_X12_grantOf {Γ : CX} (p0 : Int32) (σ : St) (h : RR vI Γ (f_X12_grantOf p0 σ)) : WW Γ cX12_grantOf 6 RX12 (some .int) rX12_grantOf σ 0 [(0, .ref (xd Γ 58)), (1, .int p0)] [] := by
  unfold f_X12_grantOf at h
  refine w_iconst (-1 : Int32) dX12_grantOf_0 ic_iconst_m1 rfl ?_
  refine w_istore_n [(2, .int (-1 : Int32)), (0, .ref (xd Γ 58)), (1, .int p0)] dX12_grantOf_1 rfl (by decide) rfl rfl ?_
  refine w_iconst (0 : Int32) dX12_grantOf_2 ic_iconst_0 rfl ?_
  refine w_istore_n [(3, .int (0 : Int32)), (2, .int (-1 : Int32)), (0, .ref (xd Γ 58)), (1, .int p0)] dX12_grantOf_3 rfl (by decide) rfl rfl ?_
  exact w_sub [2, 3, 1, 0] rfl (l_X12_grantOf_4 FU p0 (-1 : Int32) (0 : Int32) σ h)
theorem c_X12_grantOf {l : Launch} {D : va_G} {cy : Nat → ClassId} {ad : Nat → Nat} {p0 : Int32} {σ σ' : St} {r : Int32} (hf : f_X12_grantOf p0 σ = some (r, σ')) : CT l D cy ad yX12_grantOf cX12_grantOf 6 (some .int) rX12_grantOf [.ref (ad 58), .int p0] σ (some (.int r)) σ' :=
  ct_of (by decide) (Nat.le_of_ble_eq_true rfl) (fun p e s m args below meth c A => e_X12_grantOf (Γ := (p, l, e, rX12_grantOf, s, m, args, below, meth, c, D, cy, ad, A, 0, 0, MQ below (QC D cy ad (some (.int r)) σ' A) args s 0 0 A)) p0 σ ⟨_, hf, rfl⟩)
theorem k_X12_grantOf {Γ : CX} {cc : ByteArray} {nL : Nat} {own : String} {ret : Option FieldType} {rm : Room} {σ σ' : St} {pc pc' idx : Nat} {lv : List (Nat × Value)} {rest : List Value} {p0 : Int32} {r : Int32} (hl : Cond.methodLink own idx yX12_grantOf ∈ TB) (hw : (rest.map fun v => v.category).sum ≤ 8) (hR : rX12_grantOf.frames + 1 ≤ rm.frames ∧ 8 + (6 + 11) + rX12_grantOf.locals ≤ rm.locals) (hd : decode cc pc = .ok (.invokevirtual idx, 3)) (hp : pc + 3 = pc') (hf : f_X12_grantOf p0 σ = some (r, σ')) (h : WW Γ cc nL own ret rm σ' pc' lv (.int r :: rest)) : WW Γ cc nL own ret rm σ pc lv (.int p0 :: .ref (xd Γ 58) :: rest) :=
  w_callV (nn := 1) (i := 58) (As := [.int p0]) (v := (some (.int r))) (T := TX12) (N := 32) (c_X12_grantOf hf) hl mw_X12_grantOf (by decide +kernel) ⟨rfl, rfl⟩ hR (lt_lit (by decide)) cel_58 rfl rfl hw hd rfl hp h
/-! WarByHoursModel.grant ()I -/
def rX12_grant : Room := { frames := 4, cells := 0, slots := 0, locals := 97 }
def f_X12_grant_17 (k0 : Int32) (σ : St) : Option (Int32 × St) :=
  some (k0, σ)
theorem b_X12_grant_17 {Γ : CX} (k0 : Int32) (σ : St) (h : RR vI Γ (f_X12_grant_17 k0 σ)) : WW Γ cX12_grant 1 RX12 (some .int) rX12_grant σ 17 [] [.int k0] := by
  unfold f_X12_grant_17 at h
  exact w_ireturn dX12_grant_17 h
def f_X12_grant (σ : St) : Option (Int32 × St) :=
  bd (f_X12_isWar σ) fun r1 s2 =>
  if r1 = 0 then
    f_X12_grant_17 (-2 : Int32) s2
  else
    bd (f_X12_grantOf (0 : Int32) s2) fun r4 s5 =>
    f_X12_grant_17 r4 s5
theorem e_X12_grant {Γ : CX} (σ : St) (h : RR vI Γ (f_X12_grant σ)) : WW Γ cX12_grant 1 RX12 (some .int) rX12_grant σ 0 [(0, .ref (xd Γ 58))] [] := by
  unfold f_X12_grant at h
  refine w_aload_n 0 dX12_grant_0 rfl rfl rfl ?_
  obtain ⟨r1, s2, h3, h⟩ := h.bd
  refine k_X12_isWar ml_RX12_74 (Nat.le_of_ble_eq_true rfl) ⟨Nat.le_of_ble_eq_true rfl, Nat.le_of_ble_eq_true rfl⟩ dX12_grant_1 rfl h3 ?_
  refine w_if_eq (tgt := 15) dX12_grant_4 (by decide) rfl (fun q => ?_) (fun q => ?_)
  · have h := h.tt q
    refine w_bipush (-2 : Int32) dX12_grant_15 ic_bipush_m2 rfl ?_
    exact w_sub [] rfl (b_X12_grant_17 (-2 : Int32) s2 h)
  · have h := h.ff q
    refine w_aload_n 0 dX12_grant_7 rfl rfl rfl ?_
    refine w_iconst (0 : Int32) dX12_grant_8 ic_iconst_0 rfl ?_
    obtain ⟨r4, s5, h6, h⟩ := h.bd
    refine k_X12_grantOf ml_RX12_444 (Nat.le_of_ble_eq_true rfl) ⟨Nat.le_of_ble_eq_true rfl, Nat.le_of_ble_eq_true rfl⟩ dX12_grant_9 rfl h6 ?_
    refine w_goto (tgt := 17) dX12_grant_12 (by decide) ?_
    exact w_sub [] rfl (b_X12_grant_17 r4 s5 h)
theorem c_X12_grant {l : Launch} {D : va_G} {cy : Nat → ClassId} {ad : Nat → Nat}  {σ σ' : St} {r : Int32} (hf : f_X12_grant σ = some (r, σ')) : CT l D cy ad yX12_grant cX12_grant 1 (some .int) rX12_grant [.ref (ad 58)] σ (some (.int r)) σ' :=
  ct_of (by decide) (Nat.le_of_ble_eq_true rfl) (fun p e s m args below meth c A => e_X12_grant (Γ := (p, l, e, rX12_grant, s, m, args, below, meth, c, D, cy, ad, A, 0, 0, MQ below (QC D cy ad (some (.int r)) σ' A) args s 0 0 A)) σ ⟨_, hf, rfl⟩)
theorem k_X12_grant {Γ : CX} {cc : ByteArray} {nL : Nat} {own : String} {ret : Option FieldType} {rm : Room} {σ σ' : St} {pc pc' idx : Nat} {lv : List (Nat × Value)} {rest : List Value}  {r : Int32} (hl : Cond.methodLink own idx yX12_grant ∈ TB) (hw : (rest.map fun v => v.category).sum ≤ 8) (hR : rX12_grant.frames + 1 ≤ rm.frames ∧ 8 + (1 + 11) + rX12_grant.locals ≤ rm.locals) (hd : decode cc pc = .ok (.invokevirtual idx, 3)) (hp : pc + 3 = pc') (hf : f_X12_grant σ = some (r, σ')) (h : WW Γ cc nL own ret rm σ' pc' lv (.int r :: rest)) : WW Γ cc nL own ret rm σ pc lv (.ref (xd Γ 58) :: rest) :=
  w_callV (nn := 0) (i := 58) (As := []) (v := (some (.int r))) (T := TX12) (N := 32) (c_X12_grant hf) hl mw_X12_grant (by decide +kernel) ⟨rfl, rfl⟩ hR (lt_lit (by decide)) cel_58 rfl rfl hw hd rfl hp h
/-! WarByHoursModel.granted ()I -/
def rX12_granted : Room := { frames := 4, cells := 0, slots := 0, locals := 97 }
def f_X12_granted (σ : St) : Option (Int32 × St) :=
  bd (f_X12_isWar σ) fun r1 s2 =>
  if r1 = 0 then
    some ((-2 : Int32), s2)
  else
    bd (f_X12_grantOf (0 : Int32) s2) fun r4 s5 =>
    some ((gf s5 58 27), s5)
theorem e_X12_granted {Γ : CX} (σ : St) (h : RR vI Γ (f_X12_granted σ)) : WW Γ cX12_granted 1 RX12 (some .int) rX12_granted σ 0 [(0, .ref (xd Γ 58))] [] := by
  unfold f_X12_granted at h
  refine w_aload_n 0 dX12_granted_0 rfl rfl rfl ?_
  obtain ⟨r1, s2, h3, h⟩ := h.bd
  refine k_X12_isWar ml_RX12_74 (Nat.le_of_ble_eq_true rfl) ⟨Nat.le_of_ble_eq_true rfl, Nat.le_of_ble_eq_true rfl⟩ dX12_granted_1 rfl h3 ?_
  refine w_if_ne (tgt := 10) dX12_granted_4 (by decide) rfl (fun q => ?_) (fun q => ?_)
  · have h := h.ff q
    refine w_aload_n 0 dX12_granted_10 rfl rfl rfl ?_
    refine w_iconst (0 : Int32) dX12_granted_11 ic_iconst_0 rfl ?_
    obtain ⟨r4, s5, h6, h⟩ := h.bd
    refine k_X12_grantOf ml_RX12_444 (Nat.le_of_ble_eq_true rfl) ⟨Nat.le_of_ble_eq_true rfl, Nat.le_of_ble_eq_true rfl⟩ dX12_granted_12 rfl h6 ?_
    refine w_pop dX12_granted_15 rfl rfl ?_
    refine w_aload_n 0 dX12_granted_16 rfl rfl rfl ?_
    refine gf_RX12_441 dX12_granted_17 rfl ?_
    exact w_ireturn dX12_granted_20 h
  · have h := h.tt q
    refine w_bipush (-2 : Int32) dX12_granted_7 ic_bipush_m2 rfl ?_
    exact w_ireturn dX12_granted_9 h
theorem c_X12_granted {l : Launch} {D : va_G} {cy : Nat → ClassId} {ad : Nat → Nat}  {σ σ' : St} {r : Int32} (hf : f_X12_granted σ = some (r, σ')) : CT l D cy ad yX12_granted cX12_granted 1 (some .int) rX12_granted [.ref (ad 58)] σ (some (.int r)) σ' :=
  ct_of (by decide) (Nat.le_of_ble_eq_true rfl) (fun p e s m args below meth c A => e_X12_granted (Γ := (p, l, e, rX12_granted, s, m, args, below, meth, c, D, cy, ad, A, 0, 0, MQ below (QC D cy ad (some (.int r)) σ' A) args s 0 0 A)) σ ⟨_, hf, rfl⟩)
theorem k_X12_granted {Γ : CX} {cc : ByteArray} {nL : Nat} {own : String} {ret : Option FieldType} {rm : Room} {σ σ' : St} {pc pc' idx : Nat} {lv : List (Nat × Value)} {rest : List Value}  {r : Int32} (hl : Cond.methodLink own idx yX12_granted ∈ TB) (hw : (rest.map fun v => v.category).sum ≤ 8) (hR : rX12_granted.frames + 1 ≤ rm.frames ∧ 8 + (1 + 11) + rX12_granted.locals ≤ rm.locals) (hd : decode cc pc = .ok (.invokevirtual idx, 3)) (hp : pc + 3 = pc') (hf : f_X12_granted σ = some (r, σ')) (h : WW Γ cc nL own ret rm σ' pc' lv (.int r :: rest)) : WW Γ cc nL own ret rm σ pc lv (.ref (xd Γ 58) :: rest) :=
  w_callV (nn := 0) (i := 58) (As := []) (v := (some (.int r))) (T := TX12) (N := 32) (c_X12_granted hf) hl mw_X12_granted (by decide +kernel) ⟨rfl, rfl⟩ hR (lt_lit (by decide)) cel_58 rfl rfl hw hd rfl hp h
/-! WarByHoursModel.halves ()I -/
def rX12_halves : Room := { frames := 4, cells := 0, slots := 0, locals := 97 }
def f_X12_halves_17 (k0 : Int32) (σ : St) : Option (Int32 × St) :=
  some (k0, σ)
theorem b_X12_halves_17 {Γ : CX} (k0 : Int32) (σ : St) (h : RR vI Γ (f_X12_halves_17 k0 σ)) : WW Γ cX12_halves 1 RX12 (some .int) rX12_halves σ 17 [] [.int k0] := by
  unfold f_X12_halves_17 at h
  exact w_ireturn dX12_halves_17 h
def f_X12_halves (σ : St) : Option (Int32 × St) :=
  bd (f_X12_isWar σ) fun r1 s2 =>
  if r1 = 0 then
    f_X12_halves_17 (-2 : Int32) s2
  else
    bd (f_X12_grantOf (1 : Int32) s2) fun r4 s5 =>
    f_X12_halves_17 r4 s5
theorem e_X12_halves {Γ : CX} (σ : St) (h : RR vI Γ (f_X12_halves σ)) : WW Γ cX12_halves 1 RX12 (some .int) rX12_halves σ 0 [(0, .ref (xd Γ 58))] [] := by
  unfold f_X12_halves at h
  refine w_aload_n 0 dX12_halves_0 rfl rfl rfl ?_
  obtain ⟨r1, s2, h3, h⟩ := h.bd
  refine k_X12_isWar ml_RX12_74 (Nat.le_of_ble_eq_true rfl) ⟨Nat.le_of_ble_eq_true rfl, Nat.le_of_ble_eq_true rfl⟩ dX12_halves_1 rfl h3 ?_
  refine w_if_eq (tgt := 15) dX12_halves_4 (by decide) rfl (fun q => ?_) (fun q => ?_)
  · have h := h.tt q
    refine w_bipush (-2 : Int32) dX12_halves_15 ic_bipush_m2 rfl ?_
    exact w_sub [] rfl (b_X12_halves_17 (-2 : Int32) s2 h)
  · have h := h.ff q
    refine w_aload_n 0 dX12_halves_7 rfl rfl rfl ?_
    refine w_iconst (1 : Int32) dX12_halves_8 ic_iconst_1 rfl ?_
    obtain ⟨r4, s5, h6, h⟩ := h.bd
    refine k_X12_grantOf ml_RX12_444 (Nat.le_of_ble_eq_true rfl) ⟨Nat.le_of_ble_eq_true rfl, Nat.le_of_ble_eq_true rfl⟩ dX12_halves_9 rfl h6 ?_
    refine w_goto (tgt := 17) dX12_halves_12 (by decide) ?_
    exact w_sub [] rfl (b_X12_halves_17 r4 s5 h)
theorem c_X12_halves {l : Launch} {D : va_G} {cy : Nat → ClassId} {ad : Nat → Nat}  {σ σ' : St} {r : Int32} (hf : f_X12_halves σ = some (r, σ')) : CT l D cy ad yX12_halves cX12_halves 1 (some .int) rX12_halves [.ref (ad 58)] σ (some (.int r)) σ' :=
  ct_of (by decide) (Nat.le_of_ble_eq_true rfl) (fun p e s m args below meth c A => e_X12_halves (Γ := (p, l, e, rX12_halves, s, m, args, below, meth, c, D, cy, ad, A, 0, 0, MQ below (QC D cy ad (some (.int r)) σ' A) args s 0 0 A)) σ ⟨_, hf, rfl⟩)
theorem k_X12_halves {Γ : CX} {cc : ByteArray} {nL : Nat} {own : String} {ret : Option FieldType} {rm : Room} {σ σ' : St} {pc pc' idx : Nat} {lv : List (Nat × Value)} {rest : List Value}  {r : Int32} (hl : Cond.methodLink own idx yX12_halves ∈ TB) (hw : (rest.map fun v => v.category).sum ≤ 8) (hR : rX12_halves.frames + 1 ≤ rm.frames ∧ 8 + (1 + 11) + rX12_halves.locals ≤ rm.locals) (hd : decode cc pc = .ok (.invokevirtual idx, 3)) (hp : pc + 3 = pc') (hf : f_X12_halves σ = some (r, σ')) (h : WW Γ cc nL own ret rm σ' pc' lv (.int r :: rest)) : WW Γ cc nL own ret rm σ pc lv (.ref (xd Γ 58) :: rest) :=
  w_callV (nn := 0) (i := 58) (As := []) (v := (some (.int r))) (T := TX12) (N := 32) (c_X12_halves hf) hl mw_X12_halves (by decide +kernel) ⟨rfl, rfl⟩ hR (lt_lit (by decide)) cel_58 rfl rfl hw hd rfl hp h
/-! WarByHoursModel.halved ()I -/
def rX12_halved : Room := { frames := 4, cells := 0, slots := 0, locals := 97 }
def f_X12_halved (σ : St) : Option (Int32 × St) :=
  bd (f_X12_isWar σ) fun r1 s2 =>
  if r1 = 0 then
    some ((-2 : Int32), s2)
  else
    bd (f_X12_grantOf (1 : Int32) s2) fun r4 s5 =>
    some ((gf s5 58 27), s5)
theorem e_X12_halved {Γ : CX} (σ : St) (h : RR vI Γ (f_X12_halved σ)) : WW Γ cX12_halved 1 RX12 (some .int) rX12_halved σ 0 [(0, .ref (xd Γ 58))] [] := by
  unfold f_X12_halved at h
  refine w_aload_n 0 dX12_halved_0 rfl rfl rfl ?_
  obtain ⟨r1, s2, h3, h⟩ := h.bd
  refine k_X12_isWar ml_RX12_74 (Nat.le_of_ble_eq_true rfl) ⟨Nat.le_of_ble_eq_true rfl, Nat.le_of_ble_eq_true rfl⟩ dX12_halved_1 rfl h3 ?_
  refine w_if_ne (tgt := 10) dX12_halved_4 (by decide) rfl (fun q => ?_) (fun q => ?_)
  · have h := h.ff q
    refine w_aload_n 0 dX12_halved_10 rfl rfl rfl ?_
    refine w_iconst (1 : Int32) dX12_halved_11 ic_iconst_1 rfl ?_
    obtain ⟨r4, s5, h6, h⟩ := h.bd
    refine k_X12_grantOf ml_RX12_444 (Nat.le_of_ble_eq_true rfl) ⟨Nat.le_of_ble_eq_true rfl, Nat.le_of_ble_eq_true rfl⟩ dX12_halved_12 rfl h6 ?_
    refine w_pop dX12_halved_15 rfl rfl ?_
    refine w_aload_n 0 dX12_halved_16 rfl rfl rfl ?_
    refine gf_RX12_441 dX12_halved_17 rfl ?_
    exact w_ireturn dX12_halved_20 h
  · have h := h.tt q
    refine w_bipush (-2 : Int32) dX12_halved_7 ic_bipush_m2 rfl ?_
    exact w_ireturn dX12_halved_9 h
theorem c_X12_halved {l : Launch} {D : va_G} {cy : Nat → ClassId} {ad : Nat → Nat}  {σ σ' : St} {r : Int32} (hf : f_X12_halved σ = some (r, σ')) : CT l D cy ad yX12_halved cX12_halved 1 (some .int) rX12_halved [.ref (ad 58)] σ (some (.int r)) σ' :=
  ct_of (by decide) (Nat.le_of_ble_eq_true rfl) (fun p e s m args below meth c A => e_X12_halved (Γ := (p, l, e, rX12_halved, s, m, args, below, meth, c, D, cy, ad, A, 0, 0, MQ below (QC D cy ad (some (.int r)) σ' A) args s 0 0 A)) σ ⟨_, hf, rfl⟩)
theorem k_X12_halved {Γ : CX} {cc : ByteArray} {nL : Nat} {own : String} {ret : Option FieldType} {rm : Room} {σ σ' : St} {pc pc' idx : Nat} {lv : List (Nat × Value)} {rest : List Value}  {r : Int32} (hl : Cond.methodLink own idx yX12_halved ∈ TB) (hw : (rest.map fun v => v.category).sum ≤ 8) (hR : rX12_halved.frames + 1 ≤ rm.frames ∧ 8 + (1 + 11) + rX12_halved.locals ≤ rm.locals) (hd : decode cc pc = .ok (.invokevirtual idx, 3)) (hp : pc + 3 = pc') (hf : f_X12_halved σ = some (r, σ')) (h : WW Γ cc nL own ret rm σ' pc' lv (.int r :: rest)) : WW Γ cc nL own ret rm σ pc lv (.ref (xd Γ 58) :: rest) :=
  w_callV (nn := 0) (i := 58) (As := []) (v := (some (.int r))) (T := TX12) (N := 32) (c_X12_halved hf) hl mw_X12_halved (by decide +kernel) ⟨rfl, rfl⟩ hR (lt_lit (by decide)) cel_58 rfl rfl hw hd rfl hp h
/-! WarByHoursModel.dry (III)J -/
def rX12_dry : Room := { frames := 2, cells := 0, slots := 0, locals := 53 }
def f_X12_dry_40 (σ : St) : Option (Int64 × St) :=
  some ((-2 : Int64), σ)
theorem b_X12_dry_40 {Γ : CX} (σ : St) (h : RR vL Γ (f_X12_dry_40 σ)) : WW Γ cX12_dry 9 RX12 (some .long) rX12_dry σ 40 [] [] := by
  unfold f_X12_dry_40 at h
  refine w_ldc2_w (-2 : Int64) dX12_dry_40 cl_RX12_275 rfl ?_
  exact w_lreturn dX12_dry_43 h
def f_X12_dry_118 (K84 : Int32 × Int32 × Int32 × Int64 × Int64 × Int32 × St → Option (Int64 × St)) (v1 : Int32) (v2 : Int32) (v3 : Int32) (v6 : Int64) (v8 : Int32) (k0 : Int64) (k1 : Int64) (σ : St) : Option (Int64 × St) :=
  bnd ((k1 * k0)) fun x1 =>
  bnd ((v6 * (100 : Int64))) fun x2 =>
  bnd (v8 + (1 : Int32)) fun x3 =>
  K84 (v1, v2, v3, x1, x2, x3, σ)
theorem b_X12_dry_118 {Γ : CX} (K84 : Int32 × Int32 × Int32 × Int64 × Int64 × Int32 × St → Option (Int64 × St)) (hK84 : ∀ (v1 : Int32) (v2 : Int32) (v3 : Int32) (v4 : Int64) (v6 : Int64) (v8 : Int32) (σ : St), RR vL Γ (K84 (v1, v2, v3, v4, v6, v8, σ)) → WW Γ cX12_dry 9 RX12 (some .long) rX12_dry σ 84 [(0, .ref (xd Γ 58)), (1, .int v1), (2, .int v2), (3, .int v3), (4, .long v4), (6, .long v6), (8, .int v8)] []) (v1 : Int32) (v2 : Int32) (v3 : Int32) (v6 : Int64) (v8 : Int32) (k0 : Int64) (k1 : Int64) (σ : St) (h : RR vL Γ (f_X12_dry_118 K84 v1 v2 v3 v6 v8 k0 k1 σ)) : WW Γ cX12_dry 9 RX12 (some .long) rX12_dry σ 118 [(0, .ref (xd Γ 58)), (1, .int v1), (2, .int v2), (3, .int v3), (6, .long v6), (8, .int v8)] [.long k0, .long k1] := by
  unfold f_X12_dry_118 at h
  refine w_lmul dX12_dry_118 rfl ?_
  refine w_nmL (fun x1 ex1 => ?_)
  replace h := h.bnd ex1
  clear ex1
  refine w_lstore [(4, .long x1), (0, .ref (xd Γ 58)), (1, .int v1), (2, .int v2), (3, .int v3), (6, .long v6), (8, .int v8)] dX12_dry_119 (by decide) rfl rfl ?_
  refine w_lload 5 dX12_dry_121 rfl rfl ?_
  refine w_ldc2_w (100 : Int64) dX12_dry_123 cl_RX12_291 rfl ?_
  refine w_lmul dX12_dry_126 rfl ?_
  refine w_nmL (fun x2 ex2 => ?_)
  replace h := h.bnd ex2
  clear ex2
  refine w_lstore [(6, .long x2), (4, .long x1), (0, .ref (xd Γ 58)), (1, .int v1), (2, .int v2), (3, .int v3), (8, .int v8)] dX12_dry_127 (by decide) rfl rfl ?_
  obtain ⟨x3, ex3⟩ : ∃ y : Int32, y = (v8 + (1 : Int32)) := ⟨_, rfl⟩
  replace h := h.bnd ex3
  refine w_iinc 6 x3 [(8, .int x3), (6, .long x2), (4, .long x1), (0, .ref (xd Γ 58)), (1, .int v1), (2, .int v2), (3, .int v3)] dX12_dry_129 rfl (by rw [ex3, ic_iconst_1]) (by decide) rfl rfl ?_
  clear ex3
  refine w_goto (tgt := 84) dX12_dry_132 (by decide) ?_
  exact w_sub [3, 4, 5, 6, 2, 1, 0] rfl (hK84 v1 v2 v3 x1 x2 x3 σ h)
def g_X12_dry_84 (K84 : Int32 × Int32 × Int32 × Int64 × Int64 × Int32 × St → Option (Int64 × St)) (x : Int32 × Int32 × Int32 × Int64 × Int64 × Int32 × St) : Option (Int64 × St) := match x with
  | (v1, v2, v3, v4, v6, v8, σ) =>
  if v1 ≤ v8 then
    bd (f_X12_part v4 v6 v3 σ) fun r1 s2 =>
    some (r1, s2)
  else
    if v2 ≤ v8 then
      gd (inb (3 : Int32) (ln 59)) <|
      f_X12_dry_118 K84 v1 v2 v3 v6 v8 (gr σ 59 (3 : Int32).toNatClampNeg).toInt64 v4 σ
    else
      gd (inb (3 : Int32) (ln 59)) <|
      f_X12_dry_118 K84 v1 v2 v3 v6 v8 ((100 : Int32) - (gr σ 59 (3 : Int32).toNatClampNeg)).toInt64 v4 σ
theorem l_X12_dry_84 {Γ : CX} : ∀ (n : Nat) (v1 : Int32) (v2 : Int32) (v3 : Int32) (v4 : Int64) (v6 : Int64) (v8 : Int32) (σ : St), RR vL Γ (itr (g_X12_dry_84) n (v1, v2, v3, v4, v6, v8, σ)) → WW Γ cX12_dry 9 RX12 (some .long) rX12_dry σ 84 [(0, .ref (xd Γ 58)), (1, .int v1), (2, .int v2), (3, .int v3), (4, .long v4), (6, .long v6), (8, .int v8)] [] := by
  intro n
  induction n with
  | zero => intro v1 v2 v3 v4 v6 v8 σ h; exact RR.no h
  | succ n hK84 =>
  intro v1 v2 v3 v4 v6 v8 σ h
  have h : RR vL Γ (g_X12_dry_84 (itr (g_X12_dry_84) n) (v1, v2, v3, v4, v6, v8, σ)) := h
  generalize itr (g_X12_dry_84) n = K84 at h hK84
  unfold g_X12_dry_84 at h
  dsimp only at h
  refine w_iload 6 dX12_dry_84 rfl rfl ?_
  refine w_iload_n 1 dX12_dry_86 rfl rfl rfl ?_
  refine w_icmp_ge (tgt := 135) dX12_dry_87 (by decide) rfl (fun q => ?_) (fun q => ?_)
  · have h := h.tt q
    refine w_lload 4 dX12_dry_135 rfl rfl ?_
    refine w_lload 5 dX12_dry_137 rfl rfl ?_
    refine w_iload_n 3 dX12_dry_139 rfl rfl rfl ?_
    obtain ⟨r1, s2, h3, h⟩ := h.bd
    refine k_X12_part ml_RX12_301 (Nat.le_of_ble_eq_true rfl) ⟨Nat.le_of_ble_eq_true rfl, Nat.le_of_ble_eq_true rfl⟩ dX12_dry_140 rfl h3 ?_
    exact w_lreturn dX12_dry_143 h
  · have h := h.ff q
    refine w_lload 4 dX12_dry_90 rfl rfl ?_
    refine w_iload 6 dX12_dry_92 rfl rfl ?_
    refine w_iload_n 2 dX12_dry_94 rfl rfl rfl ?_
    refine w_icmp_ge (tgt := 111) dX12_dry_95 (by decide) rfl (fun q => ?_) (fun q => ?_)
    · have h := h.tt q
      refine w_aload_n 0 dX12_dry_111 rfl rfl rfl ?_
      refine gf_RX12_9 dX12_dry_112 rfl ?_
      refine w_iconst (3 : Int32) dX12_dry_115 ic_iconst_3 rfl ?_
      obtain ⟨hi4, h⟩ := h.gd
      refine w_iald (i := 59) (lt_lit (by decide)) rfl hi4 dX12_dry_116 rfl ?_
      refine w_i2l dX12_dry_117 rfl ?_
      exact w_sub [0, 1, 2, 3, 5, 6] rfl (b_X12_dry_118 K84 hK84 v1 v2 v3 v6 v8 (gr σ 59 (3 : Int32).toNatClampNeg).toInt64 v4 σ h)
    · have h := h.ff q
      refine w_bipush (100 : Int32) dX12_dry_98 ic_bipush_100 rfl ?_
      refine w_aload_n 0 dX12_dry_100 rfl rfl rfl ?_
      refine gf_RX12_9 dX12_dry_101 rfl ?_
      refine w_iconst (3 : Int32) dX12_dry_104 ic_iconst_3 rfl ?_
      obtain ⟨hi5, h⟩ := h.gd
      refine w_iald (i := 59) (lt_lit (by decide)) rfl hi5 dX12_dry_105 rfl ?_
      refine w_isub dX12_dry_106 rfl ?_
      refine w_i2l dX12_dry_107 rfl ?_
      refine w_goto (tgt := 118) dX12_dry_108 (by decide) ?_
      exact w_sub [0, 1, 2, 3, 5, 6] rfl (b_X12_dry_118 K84 hK84 v1 v2 v3 v6 v8 ((100 : Int32) - (gr σ 59 (3 : Int32).toNatClampNeg)).toInt64 v4 σ h)
def g_X12_dry_53 (K53 : Int32 × Int32 × Int32 × Int64 × Int64 × Int32 × St → Option (Int64 × St)) (x : Int32 × Int32 × Int32 × Int64 × Int64 × Int32 × St) : Option (Int64 × St) := match x with
  | (v1, v2, v3, v4, v6, v8, σ) =>
  if v2 ≤ v8 then
    itr (g_X12_dry_84) FU (v1, v2, v3, v4, v6, (0 : Int32), σ)
  else
    gd (!decide ((v8 + (1 : Int32)).toInt64 = 0)) <|
    bnd (((v4 * (v1 - v8).toInt64) / (v8 + (1 : Int32)).toInt64)) fun x2 =>
    bnd (v8 + (1 : Int32)) fun x3 =>
    K53 (v1, v2, v3, x2, v6, x3, σ)
theorem l_X12_dry_53 {Γ : CX} : ∀ (n : Nat) (v1 : Int32) (v2 : Int32) (v3 : Int32) (v4 : Int64) (v6 : Int64) (v8 : Int32) (σ : St), RR vL Γ (itr (g_X12_dry_53) n (v1, v2, v3, v4, v6, v8, σ)) → WW Γ cX12_dry 9 RX12 (some .long) rX12_dry σ 53 [(0, .ref (xd Γ 58)), (1, .int v1), (2, .int v2), (3, .int v3), (4, .long v4), (6, .long v6), (8, .int v8)] [] := by
  intro n
  induction n with
  | zero => intro v1 v2 v3 v4 v6 v8 σ h; exact RR.no h
  | succ n hK53 =>
  intro v1 v2 v3 v4 v6 v8 σ h
  have h : RR vL Γ (g_X12_dry_53 (itr (g_X12_dry_53) n) (v1, v2, v3, v4, v6, v8, σ)) := h
  generalize itr (g_X12_dry_53) n = K53 at h hK53
  unfold g_X12_dry_53 at h
  dsimp only at h
  refine w_iload 6 dX12_dry_53 rfl rfl ?_
  refine w_iload_n 2 dX12_dry_55 rfl rfl rfl ?_
  refine w_icmp_ge (tgt := 81) dX12_dry_56 (by decide) rfl (fun q => ?_) (fun q => ?_)
  · have h := h.tt q
    refine w_iconst (0 : Int32) dX12_dry_81 ic_iconst_0 rfl ?_
    refine w_istore [(8, .int (0 : Int32)), (0, .ref (xd Γ 58)), (1, .int v1), (2, .int v2), (3, .int v3), (4, .long v4), (6, .long v6)] dX12_dry_82 (by decide) rfl rfl ?_
    exact w_sub [1, 2, 3, 4, 5, 6, 0] rfl (l_X12_dry_84 FU v1 v2 v3 v4 v6 (0 : Int32) σ h)
  · have h := h.ff q
    refine w_lload 4 dX12_dry_59 rfl rfl ?_
    refine w_iload_n 1 dX12_dry_61 rfl rfl rfl ?_
    refine w_iload 6 dX12_dry_62 rfl rfl ?_
    refine w_isub dX12_dry_64 rfl ?_
    refine w_i2l dX12_dry_65 rfl ?_
    refine w_lmul dX12_dry_66 rfl ?_
    refine w_iload 6 dX12_dry_67 rfl rfl ?_
    refine w_iconst (1 : Int32) dX12_dry_69 ic_iconst_1 rfl ?_
    refine w_iadd dX12_dry_70 rfl ?_
    refine w_i2l dX12_dry_71 rfl ?_
    obtain ⟨hz1, h⟩ := h.gd
    refine w_ldiv dX12_dry_72 (ne_of_gd hz1) rfl ?_
    refine w_nmL (fun x2 ex2 => ?_)
    replace h := h.bnd ex2
    clear ex2
    refine w_lstore [(4, .long x2), (0, .ref (xd Γ 58)), (1, .int v1), (2, .int v2), (3, .int v3), (6, .long v6), (8, .int v8)] dX12_dry_73 (by decide) rfl rfl ?_
    obtain ⟨x3, ex3⟩ : ∃ y : Int32, y = (v8 + (1 : Int32)) := ⟨_, rfl⟩
    replace h := h.bnd ex3
    refine w_iinc 6 x3 [(8, .int x3), (4, .long x2), (0, .ref (xd Γ 58)), (1, .int v1), (2, .int v2), (3, .int v3), (6, .long v6)] dX12_dry_75 rfl (by rw [ex3, ic_iconst_1]) (by decide) rfl rfl ?_
    clear ex3
    refine w_goto (tgt := 53) dX12_dry_78 (by decide) ?_
    exact w_sub [2, 3, 4, 5, 1, 6, 0] rfl (hK53 v1 v2 v3 x2 v6 x3 σ h)
def f_X12_dry (p0 : Int32) (p1 : Int32) (p2 : Int32) (σ : St) : Option (Int64 × St) :=
  bd (f_X12_isWar σ) fun r1 s2 =>
  if r1 = 0 then
    f_X12_dry_40 s2
  else
    bd (f_X12_in p0.toInt64 (1 : Int64) (9 : Int64) s2) fun r4 s5 =>
    if r4 = 0 then
      f_X12_dry_40 s5
    else
      bd (f_X12_in p1.toInt64 (0 : Int64) p0.toInt64 s5) fun r7 s8 =>
      if r7 = 0 then
        f_X12_dry_40 s8
      else
        bd (f_X12_in p2.toInt64 (0 : Int64) (1 : Int64) s8) fun r10 s11 =>
        if r10 = 0 then
          f_X12_dry_40 s11
        else
          itr (g_X12_dry_53) FU (p0, p1, p2, (1 : Int64), (1 : Int64), (0 : Int32), s11)
theorem e_X12_dry {Γ : CX} (p0 : Int32) (p1 : Int32) (p2 : Int32) (σ : St) (h : RR vL Γ (f_X12_dry p0 p1 p2 σ)) : WW Γ cX12_dry 9 RX12 (some .long) rX12_dry σ 0 [(0, .ref (xd Γ 58)), (1, .int p0), (2, .int p1), (3, .int p2)] [] := by
  unfold f_X12_dry at h
  refine w_aload_n 0 dX12_dry_0 rfl rfl rfl ?_
  obtain ⟨r1, s2, h3, h⟩ := h.bd
  refine k_X12_isWar ml_RX12_74 (Nat.le_of_ble_eq_true rfl) ⟨Nat.le_of_ble_eq_true rfl, Nat.le_of_ble_eq_true rfl⟩ dX12_dry_1 rfl h3 ?_
  refine w_if_eq (tgt := 40) dX12_dry_4 (by decide) rfl (fun q => ?_) (fun q => ?_)
  · have h := h.tt q
    exact w_sub [] rfl (b_X12_dry_40 s2 h)
  · have h := h.ff q
    refine w_iload_n 1 dX12_dry_7 rfl rfl rfl ?_
    refine w_i2l dX12_dry_8 rfl ?_
    refine w_lconst (1 : Int64) dX12_dry_9 rfl rfl ?_
    refine w_ldc2_w (9 : Int64) dX12_dry_10 cl_RX12_385 rfl ?_
    obtain ⟨r4, s5, h6, h⟩ := h.bd
    refine k_X12_in ml_RX12_70 (Nat.le_of_ble_eq_true rfl) ⟨Nat.le_of_ble_eq_true rfl, Nat.le_of_ble_eq_true rfl⟩ dX12_dry_13 rfl h6 ?_
    refine w_if_eq (tgt := 40) dX12_dry_16 (by decide) rfl (fun q => ?_) (fun q => ?_)
    · have h := h.tt q
      exact w_sub [] rfl (b_X12_dry_40 s5 h)
    · have h := h.ff q
      refine w_iload_n 2 dX12_dry_19 rfl rfl rfl ?_
      refine w_i2l dX12_dry_20 rfl ?_
      refine w_lconst (0 : Int64) dX12_dry_21 rfl rfl ?_
      refine w_iload_n 1 dX12_dry_22 rfl rfl rfl ?_
      refine w_i2l dX12_dry_23 rfl ?_
      obtain ⟨r7, s8, h9, h⟩ := h.bd
      refine k_X12_in ml_RX12_70 (Nat.le_of_ble_eq_true rfl) ⟨Nat.le_of_ble_eq_true rfl, Nat.le_of_ble_eq_true rfl⟩ dX12_dry_24 rfl h9 ?_
      refine w_if_eq (tgt := 40) dX12_dry_27 (by decide) rfl (fun q => ?_) (fun q => ?_)
      · have h := h.tt q
        exact w_sub [] rfl (b_X12_dry_40 s8 h)
      · have h := h.ff q
        refine w_iload_n 3 dX12_dry_30 rfl rfl rfl ?_
        refine w_i2l dX12_dry_31 rfl ?_
        refine w_lconst (0 : Int64) dX12_dry_32 rfl rfl ?_
        refine w_lconst (1 : Int64) dX12_dry_33 rfl rfl ?_
        obtain ⟨r10, s11, h12, h⟩ := h.bd
        refine k_X12_in ml_RX12_70 (Nat.le_of_ble_eq_true rfl) ⟨Nat.le_of_ble_eq_true rfl, Nat.le_of_ble_eq_true rfl⟩ dX12_dry_34 rfl h12 ?_
        refine w_if_ne (tgt := 44) dX12_dry_37 (by decide) rfl (fun q => ?_) (fun q => ?_)
        · have h := h.ff q
          refine w_lconst (1 : Int64) dX12_dry_44 rfl rfl ?_
          refine w_lstore [(4, .long (1 : Int64)), (0, .ref (xd Γ 58)), (1, .int p0), (2, .int p1), (3, .int p2)] dX12_dry_45 (by decide) rfl rfl ?_
          refine w_lconst (1 : Int64) dX12_dry_47 rfl rfl ?_
          refine w_lstore [(6, .long (1 : Int64)), (4, .long (1 : Int64)), (0, .ref (xd Γ 58)), (1, .int p0), (2, .int p1), (3, .int p2)] dX12_dry_48 (by decide) rfl rfl ?_
          refine w_iconst (0 : Int32) dX12_dry_50 ic_iconst_0 rfl ?_
          refine w_istore [(8, .int (0 : Int32)), (6, .long (1 : Int64)), (4, .long (1 : Int64)), (0, .ref (xd Γ 58)), (1, .int p0), (2, .int p1), (3, .int p2)] dX12_dry_51 (by decide) rfl rfl ?_
          exact w_sub [3, 4, 5, 6, 2, 1, 0] rfl (l_X12_dry_53 FU p0 p1 p2 (1 : Int64) (1 : Int64) (0 : Int32) s11 h)
        · have h := h.tt q
          exact w_sub [] rfl (b_X12_dry_40 s11 h)
theorem c_X12_dry {l : Launch} {D : va_G} {cy : Nat → ClassId} {ad : Nat → Nat} {p0 : Int32} {p1 : Int32} {p2 : Int32} {σ σ' : St} {r : Int64} (hf : f_X12_dry p0 p1 p2 σ = some (r, σ')) : CT l D cy ad yX12_dry cX12_dry 9 (some .long) rX12_dry [.ref (ad 58), .int p0, .int p1, .int p2] σ (some (.long r)) σ' :=
  ct_of (by decide) (Nat.le_of_ble_eq_true rfl) (fun p e s m args below meth c A => e_X12_dry (Γ := (p, l, e, rX12_dry, s, m, args, below, meth, c, D, cy, ad, A, 0, 0, MQ below (QC D cy ad (some (.long r)) σ' A) args s 0 0 A)) p0 p1 p2 σ ⟨_, hf, rfl⟩)
theorem k_X12_dry {Γ : CX} {cc : ByteArray} {nL : Nat} {own : String} {ret : Option FieldType} {rm : Room} {σ σ' : St} {pc pc' idx : Nat} {lv : List (Nat × Value)} {rest : List Value} {p0 : Int32} {p1 : Int32} {p2 : Int32} {r : Int64} (hl : Cond.methodLink own idx yX12_dry ∈ TB) (hw : (rest.map fun v => v.category).sum ≤ 8) (hR : rX12_dry.frames + 1 ≤ rm.frames ∧ 8 + (9 + 11) + rX12_dry.locals ≤ rm.locals) (hd : decode cc pc = .ok (.invokevirtual idx, 3)) (hp : pc + 3 = pc') (hf : f_X12_dry p0 p1 p2 σ = some (r, σ')) (h : WW Γ cc nL own ret rm σ' pc' lv (.long r :: rest)) : WW Γ cc nL own ret rm σ pc lv (.int p2 :: .int p1 :: .int p0 :: .ref (xd Γ 58) :: rest) :=
  w_callV (nn := 3) (i := 58) (As := [.int p0, .int p1, .int p2]) (v := (some (.long r))) (T := TX12) (N := 32) (c_X12_dry hf) hl mw_X12_dry (by decide +kernel) ⟨rfl, rfl⟩ hR (lt_lit (by decide)) cel_58 rfl rfl hw hd rfl hp h
/-! WarByHoursModel.insist (I)I -/
def rX12_insist : Room := { frames := 1, cells := 0, slots := 0, locals := 25 }
def f_X12_insist_19 (σ : St) : Option (Int32 × St) :=
  some ((-2 : Int32), σ)
theorem b_X12_insist_19 {Γ : CX} (σ : St) (h : RR vI Γ (f_X12_insist_19 σ)) : WW Γ cX12_insist 4 RX12 (some .int) rX12_insist σ 19 [] [] := by
  unfold f_X12_insist_19 at h
  refine w_bipush (-2 : Int32) dX12_insist_19 ic_bipush_m2 rfl ?_
  exact w_ireturn dX12_insist_21 h
def g_X12_insist_28 (K28 : Int32 × Int32 × Int32 × St → Option (Int32 × St)) (x : Int32 × Int32 × Int32 × St) : Option (Int32 × St) := match x with
  | (v1, v2, v3, σ) =>
  if (60 : Int32) < v3 then
    some ((-1 : Int32), σ)
  else
    gd (inb (3 : Int32) (ln 59)) <|
    bnd (((v2 * (gr σ 59 (3 : Int32).toNatClampNeg)) / (100 : Int32))) fun x2 =>
    if ((10000 : Int32) * ((100 : Int32) - v1)) < x2 then
      bnd (v3 + (1 : Int32)) fun x3 =>
      K28 (v1, x2, x3, σ)
    else
      some (v3, σ)
theorem l_X12_insist_28 {Γ : CX} : ∀ (n : Nat) (v1 : Int32) (v2 : Int32) (v3 : Int32) (σ : St), RR vI Γ (itr (g_X12_insist_28) n (v1, v2, v3, σ)) → WW Γ cX12_insist 4 RX12 (some .int) rX12_insist σ 28 [(0, .ref (xd Γ 58)), (1, .int v1), (2, .int v2), (3, .int v3)] [] := by
  intro n
  induction n with
  | zero => intro v1 v2 v3 σ h; exact RR.no h
  | succ n hK28 =>
  intro v1 v2 v3 σ h
  have h : RR vI Γ (g_X12_insist_28 (itr (g_X12_insist_28) n) (v1, v2, v3, σ)) := h
  generalize itr (g_X12_insist_28) n = K28 at h hK28
  unfold g_X12_insist_28 at h
  dsimp only at h
  refine w_iload_n 3 dX12_insist_28 rfl rfl rfl ?_
  refine w_bipush (60 : Int32) dX12_insist_29 ic_bipush_60 rfl ?_
  refine w_icmp_gt (tgt := 66) dX12_insist_31 (by decide) rfl (fun q => ?_) (fun q => ?_)
  · have h := h.tt q
    refine w_iconst (-1 : Int32) dX12_insist_66 ic_iconst_m1 rfl ?_
    exact w_ireturn dX12_insist_67 h
  · have h := h.ff q
    refine w_iload_n 2 dX12_insist_34 rfl rfl rfl ?_
    refine w_aload_n 0 dX12_insist_35 rfl rfl rfl ?_
    refine gf_RX12_9 dX12_insist_36 rfl ?_
    refine w_iconst (3 : Int32) dX12_insist_39 ic_iconst_3 rfl ?_
    obtain ⟨hi1, h⟩ := h.gd
    refine w_iald (i := 59) (lt_lit (by decide)) rfl hi1 dX12_insist_40 rfl ?_
    refine w_imul dX12_insist_41 rfl ?_
    refine w_bipush (100 : Int32) dX12_insist_42 ic_bipush_100 rfl ?_
    refine w_idiv dX12_insist_44 (by decide) rfl ?_
    refine w_nmI (fun x2 ex2 => ?_)
    replace h := h.bnd ex2
    clear ex2
    refine w_istore_n [(2, .int x2), (0, .ref (xd Γ 58)), (1, .int v1), (3, .int v3)] dX12_insist_45 rfl (by decide) rfl rfl ?_
    refine w_iload_n 0 dX12_insist_46 rfl rfl rfl ?_
    refine w_sipush (10000 : Int32) dX12_insist_47 ic_sipush_10000 rfl ?_
    refine w_bipush (100 : Int32) dX12_insist_50 ic_bipush_100 rfl ?_
    refine w_iload_n 2 dX12_insist_52 rfl rfl rfl ?_
    refine w_isub dX12_insist_53 rfl ?_
    refine w_imul dX12_insist_54 rfl ?_
    refine w_icmp_gt (tgt := 60) dX12_insist_55 (by decide) rfl (fun q => ?_) (fun q => ?_)
    · have h := h.tt q
      obtain ⟨x3, ex3⟩ : ∃ y : Int32, y = (v3 + (1 : Int32)) := ⟨_, rfl⟩
      replace h := h.bnd ex3
      refine w_iinc 3 x3 [(3, .int x3), (2, .int x2), (0, .ref (xd Γ 58)), (1, .int v1)] dX12_insist_60 rfl (by rw [ex3, ic_iconst_1]) (by decide) rfl rfl ?_
      clear ex3
      refine w_goto (tgt := 28) dX12_insist_63 (by decide) ?_
      exact w_sub [2, 3, 1, 0] rfl (hK28 v1 x2 x3 σ h)
    · have h := h.ff q
      refine w_iload_n 3 dX12_insist_58 rfl rfl rfl ?_
      exact w_ireturn dX12_insist_59 h
def f_X12_insist (p0 : Int32) (σ : St) : Option (Int32 × St) :=
  bd (f_X12_isWar σ) fun r1 s2 =>
  if r1 = 0 then
    f_X12_insist_19 s2
  else
    bd (f_X12_in p0.toInt64 (0 : Int64) (100 : Int64) s2) fun r4 s5 =>
    if r4 = 0 then
      f_X12_insist_19 s5
    else
      itr (g_X12_insist_28) FU (p0, (1000000 : Int32), (1 : Int32), s5)
theorem e_X12_insist {Γ : CX} (p0 : Int32) (σ : St) (h : RR vI Γ (f_X12_insist p0 σ)) : WW Γ cX12_insist 4 RX12 (some .int) rX12_insist σ 0 [(0, .ref (xd Γ 58)), (1, .int p0)] [] := by
  unfold f_X12_insist at h
  refine w_aload_n 0 dX12_insist_0 rfl rfl rfl ?_
  obtain ⟨r1, s2, h3, h⟩ := h.bd
  refine k_X12_isWar ml_RX12_74 (Nat.le_of_ble_eq_true rfl) ⟨Nat.le_of_ble_eq_true rfl, Nat.le_of_ble_eq_true rfl⟩ dX12_insist_1 rfl h3 ?_
  refine w_if_eq (tgt := 19) dX12_insist_4 (by decide) rfl (fun q => ?_) (fun q => ?_)
  · have h := h.tt q
    exact w_sub [] rfl (b_X12_insist_19 s2 h)
  · have h := h.ff q
    refine w_iload_n 1 dX12_insist_7 rfl rfl rfl ?_
    refine w_i2l dX12_insist_8 rfl ?_
    refine w_lconst (0 : Int64) dX12_insist_9 rfl rfl ?_
    refine w_ldc2_w (100 : Int64) dX12_insist_10 cl_RX12_291 rfl ?_
    obtain ⟨r4, s5, h6, h⟩ := h.bd
    refine k_X12_in ml_RX12_70 (Nat.le_of_ble_eq_true rfl) ⟨Nat.le_of_ble_eq_true rfl, Nat.le_of_ble_eq_true rfl⟩ dX12_insist_13 rfl h6 ?_
    refine w_if_ne (tgt := 22) dX12_insist_16 (by decide) rfl (fun q => ?_) (fun q => ?_)
    · have h := h.ff q
      refine w_ldc_w (1000000 : Int32) dX12_insist_22 cn_RX12_280 rfl ?_
      refine w_istore_n [(2, .int (1000000 : Int32)), (0, .ref (xd Γ 58)), (1, .int p0)] dX12_insist_25 rfl (by decide) rfl rfl ?_
      refine w_iconst (1 : Int32) dX12_insist_26 ic_iconst_1 rfl ?_
      refine w_istore_n [(3, .int (1 : Int32)), (2, .int (1000000 : Int32)), (0, .ref (xd Γ 58)), (1, .int p0)] dX12_insist_27 rfl (by decide) rfl rfl ?_
      exact w_sub [2, 3, 1, 0] rfl (l_X12_insist_28 FU p0 (1000000 : Int32) (1 : Int32) s5 h)
    · have h := h.tt q
      exact w_sub [] rfl (b_X12_insist_19 s5 h)
theorem c_X12_insist {l : Launch} {D : va_G} {cy : Nat → ClassId} {ad : Nat → Nat} {p0 : Int32} {σ σ' : St} {r : Int32} (hf : f_X12_insist p0 σ = some (r, σ')) : CT l D cy ad yX12_insist cX12_insist 4 (some .int) rX12_insist [.ref (ad 58), .int p0] σ (some (.int r)) σ' :=
  ct_of (by decide) (Nat.le_of_ble_eq_true rfl) (fun p e s m args below meth c A => e_X12_insist (Γ := (p, l, e, rX12_insist, s, m, args, below, meth, c, D, cy, ad, A, 0, 0, MQ below (QC D cy ad (some (.int r)) σ' A) args s 0 0 A)) p0 σ ⟨_, hf, rfl⟩)
theorem k_X12_insist {Γ : CX} {cc : ByteArray} {nL : Nat} {own : String} {ret : Option FieldType} {rm : Room} {σ σ' : St} {pc pc' idx : Nat} {lv : List (Nat × Value)} {rest : List Value} {p0 : Int32} {r : Int32} (hl : Cond.methodLink own idx yX12_insist ∈ TB) (hw : (rest.map fun v => v.category).sum ≤ 8) (hR : rX12_insist.frames + 1 ≤ rm.frames ∧ 8 + (4 + 11) + rX12_insist.locals ≤ rm.locals) (hd : decode cc pc = .ok (.invokevirtual idx, 3)) (hp : pc + 3 = pc') (hf : f_X12_insist p0 σ = some (r, σ')) (h : WW Γ cc nL own ret rm σ' pc' lv (.int r :: rest)) : WW Γ cc nL own ret rm σ pc lv (.int p0 :: .ref (xd Γ 58) :: rest) :=
  w_callV (nn := 1) (i := 58) (As := [.int p0]) (v := (some (.int r))) (T := TX12) (N := 32) (c_X12_insist hf) hl mw_X12_insist (by decide +kernel) ⟨rfl, rfl⟩ hR (lt_lit (by decide)) cel_58 rfl rfl hw hd rfl hp h
/-! WarByHoursModel.change (II)V -/
def rX12_change : Room := { frames := 0, cells := 0, slots := 0, locals := 0 }
def f_X12_change (p0 : Int32) (p1 : Int32) (σ : St) : Option (Unit × St) :=
  gd (inb (10 : Int32) (ln 59)) <|
  bnd (((120 : Int32) + ((2 : Int32) * (gr σ 59 (10 : Int32).toNatClampNeg)))) fun x2 =>
  gd (inb x2 (ln 59)) <|
  bnd (sr σ 59 x2.toNatClampNeg p0) fun s4 =>
  gd (inb p0 (ln 59)) <|
  gd (inb (x2 + (1 : Int32)) (ln 59)) <|
  bnd (sr s4 59 (x2 + (1 : Int32)).toNatClampNeg (gr s4 59 p0.toNatClampNeg)) fun s7 =>
  gd (inb p0 (ln 59)) <|
  bnd (sr s7 59 p0.toNatClampNeg p1) fun s9 =>
  gd (inb (10 : Int32) (ln 59)) <|
  gd (inb (10 : Int32) (ln 59)) <|
  bnd (sr s9 59 (10 : Int32).toNatClampNeg ((gr s9 59 (10 : Int32).toNatClampNeg) + (1 : Int32))) fun s12 =>
  some ((), s12)
theorem e_X12_change {Γ : CX} (p0 : Int32) (p1 : Int32) (σ : St) (h : RR vU Γ (f_X12_change p0 p1 σ)) : WW Γ cX12_change 4 RX12 none rX12_change σ 0 [(0, .ref (xd Γ 58)), (1, .int p0), (2, .int p1)] [] := by
  unfold f_X12_change at h
  refine w_bipush (120 : Int32) dX12_change_0 ic_bipush_120 rfl ?_
  refine w_iconst (2 : Int32) dX12_change_2 ic_iconst_2 rfl ?_
  refine w_aload_n 0 dX12_change_3 rfl rfl rfl ?_
  refine gf_RX12_9 dX12_change_4 rfl ?_
  refine w_bipush (10 : Int32) dX12_change_7 ic_bipush_10 rfl ?_
  obtain ⟨hi1, h⟩ := h.gd
  refine w_iald (i := 59) (lt_lit (by decide)) rfl hi1 dX12_change_9 rfl ?_
  refine w_imul dX12_change_10 rfl ?_
  refine w_iadd dX12_change_11 rfl ?_
  refine w_nmI (fun x2 ex2 => ?_)
  replace h := h.bnd ex2
  clear ex2
  refine w_istore_n [(3, .int x2), (0, .ref (xd Γ 58)), (1, .int p0), (2, .int p1)] dX12_change_12 rfl (by decide) rfl rfl ?_
  refine w_aload_n 1 dX12_change_13 rfl rfl rfl ?_
  refine gf_RX12_9 dX12_change_14 rfl ?_
  refine w_iload_n 0 dX12_change_17 rfl rfl rfl ?_
  refine w_iload_n 2 dX12_change_18 rfl rfl rfl ?_
  obtain ⟨hi3, h⟩ := h.gd
  refine w_iast (i := 59) (lt_lit (by decide)) rfl hi3 dX12_change_19 rfl ?_
  obtain ⟨s4, es4⟩ : ∃ y : St, y = (sr σ 59 x2.toNatClampNeg p0) := ⟨_, rfl⟩
  rw [← es4]
  replace h := h.bnd es4
  clear es4
  refine w_aload_n 1 dX12_change_20 rfl rfl rfl ?_
  refine gf_RX12_9 dX12_change_21 rfl ?_
  refine w_iload_n 0 dX12_change_24 rfl rfl rfl ?_
  refine w_iconst (1 : Int32) dX12_change_25 ic_iconst_1 rfl ?_
  refine w_iadd dX12_change_26 rfl ?_
  refine w_aload_n 1 dX12_change_27 rfl rfl rfl ?_
  refine gf_RX12_9 dX12_change_28 rfl ?_
  refine w_iload_n 2 dX12_change_31 rfl rfl rfl ?_
  obtain ⟨hi5, h⟩ := h.gd
  refine w_iald (i := 59) (lt_lit (by decide)) rfl hi5 dX12_change_32 rfl ?_
  obtain ⟨hi6, h⟩ := h.gd
  refine w_iast (i := 59) (lt_lit (by decide)) rfl hi6 dX12_change_33 rfl ?_
  obtain ⟨s7, es7⟩ : ∃ y : St, y = (sr s4 59 (x2 + (1 : Int32)).toNatClampNeg (gr s4 59 p0.toNatClampNeg)) := ⟨_, rfl⟩
  rw [← es7]
  replace h := h.bnd es7
  clear es7
  refine w_aload_n 1 dX12_change_34 rfl rfl rfl ?_
  refine gf_RX12_9 dX12_change_35 rfl ?_
  refine w_iload_n 2 dX12_change_38 rfl rfl rfl ?_
  refine w_iload_n 3 dX12_change_39 rfl rfl rfl ?_
  obtain ⟨hi8, h⟩ := h.gd
  refine w_iast (i := 59) (lt_lit (by decide)) rfl hi8 dX12_change_40 rfl ?_
  obtain ⟨s9, es9⟩ : ∃ y : St, y = (sr s7 59 p0.toNatClampNeg p1) := ⟨_, rfl⟩
  rw [← es9]
  replace h := h.bnd es9
  clear es9
  refine w_aload_n 1 dX12_change_41 rfl rfl rfl ?_
  refine gf_RX12_9 dX12_change_42 rfl ?_
  refine w_bipush (10 : Int32) dX12_change_45 ic_bipush_10 rfl ?_
  refine w_dup2 dX12_change_47 rfl rfl rfl ?_
  obtain ⟨hi10, h⟩ := h.gd
  refine w_iald (i := 59) (lt_lit (by decide)) rfl hi10 dX12_change_48 rfl ?_
  refine w_iconst (1 : Int32) dX12_change_49 ic_iconst_1 rfl ?_
  refine w_iadd dX12_change_50 rfl ?_
  obtain ⟨hi11, h⟩ := h.gd
  refine w_iast (i := 59) (lt_lit (by decide)) rfl hi11 dX12_change_51 rfl ?_
  obtain ⟨s12, es12⟩ : ∃ y : St, y = (sr s9 59 (10 : Int32).toNatClampNeg ((gr s9 59 (10 : Int32).toNatClampNeg) + (1 : Int32))) := ⟨_, rfl⟩
  rw [← es12]
  replace h := h.bnd es12
  clear es12
  exact w_return dX12_change_52 h
theorem c_X12_change {l : Launch} {D : va_G} {cy : Nat → ClassId} {ad : Nat → Nat} {p0 : Int32} {p1 : Int32} {σ σ' : St} {r : Unit} (hf : f_X12_change p0 p1 σ = some (r, σ')) : CT l D cy ad yX12_change cX12_change 4 none rX12_change [.ref (ad 58), .int p0, .int p1] σ none σ' :=
  ct_of (by decide) (Nat.le_of_ble_eq_true rfl) (fun p e s m args below meth c A => e_X12_change (Γ := (p, l, e, rX12_change, s, m, args, below, meth, c, D, cy, ad, A, 0, 0, MQ below (QC D cy ad none σ' A) args s 0 0 A)) p0 p1 σ ⟨_, hf, rfl⟩)
theorem k_X12_change {Γ : CX} {cc : ByteArray} {nL : Nat} {own : String} {ret : Option FieldType} {rm : Room} {σ σ' : St} {pc pc' idx : Nat} {lv : List (Nat × Value)} {rest : List Value} {p0 : Int32} {p1 : Int32} {r : Unit} (hl : Cond.methodLink own idx yX12_change ∈ TB) (hw : (rest.map fun v => v.category).sum ≤ 8) (hR : rX12_change.frames + 1 ≤ rm.frames ∧ 8 + (4 + 11) + rX12_change.locals ≤ rm.locals) (hd : decode cc pc = .ok (.invokevirtual idx, 3)) (hp : pc + 3 = pc') (hf : f_X12_change p0 p1 σ = some (r, σ')) (h : WW Γ cc nL own ret rm σ' pc' lv (rest)) : WW Γ cc nL own ret rm σ pc lv (.int p1 :: .int p0 :: .ref (xd Γ 58) :: rest) :=
  w_callV (nn := 2) (i := 58) (As := [.int p0, .int p1]) (v := none) (T := TX12) (N := 32) (c_X12_change hf) hl mw_X12_change (by decide +kernel) ⟨rfl, rfl⟩ hR (lt_lit (by decide)) cel_58 rfl rfl hw hd rfl hp h
/-! WarByHoursModel.changed (II)I -/
def rX12_changed : Room := { frames := 1, cells := 0, slots := 0, locals := 23 }
def f_X12_changed (p0 : Int32) (p1 : Int32) (σ : St) : Option (Int32 × St) :=
  gd (inb (10 : Int32) (ln 59)) <|
  if (gr σ 59 (10 : Int32).toNatClampNeg) = (60 : Int32) then
    some ((-5 : Int32), σ)
  else
    gd (inb p0 (ln 59)) <|
    bnd ((gr σ 59 p0.toNatClampNeg)) fun x3 =>
    bd (f_X12_change p0 p1 σ) fun _ s5 =>
    some (x3, s5)
theorem e_X12_changed {Γ : CX} (p0 : Int32) (p1 : Int32) (σ : St) (h : RR vI Γ (f_X12_changed p0 p1 σ)) : WW Γ cX12_changed 4 RX12 (some .int) rX12_changed σ 0 [(0, .ref (xd Γ 58)), (1, .int p0), (2, .int p1)] [] := by
  unfold f_X12_changed at h
  refine w_aload_n 0 dX12_changed_0 rfl rfl rfl ?_
  refine gf_RX12_9 dX12_changed_1 rfl ?_
  refine w_bipush (10 : Int32) dX12_changed_4 ic_bipush_10 rfl ?_
  obtain ⟨hi1, h⟩ := h.gd
  refine w_iald (i := 59) (lt_lit (by decide)) rfl hi1 dX12_changed_6 rfl ?_
  refine w_bipush (60 : Int32) dX12_changed_7 ic_bipush_60 rfl ?_
  refine w_icmp_ne (tgt := 15) dX12_changed_9 (by decide) rfl (fun q => ?_) (fun q => ?_)
  · have h := h.ff q
    refine w_aload_n 0 dX12_changed_15 rfl rfl rfl ?_
    refine gf_RX12_9 dX12_changed_16 rfl ?_
    refine w_iload_n 1 dX12_changed_19 rfl rfl rfl ?_
    obtain ⟨hi2, h⟩ := h.gd
    refine w_iald (i := 59) (lt_lit (by decide)) rfl hi2 dX12_changed_20 rfl ?_
    refine w_nmI (fun x3 ex3 => ?_)
    replace h := h.bnd ex3
    clear ex3
    refine w_istore_n [(3, .int x3), (0, .ref (xd Γ 58)), (1, .int p0), (2, .int p1)] dX12_changed_21 rfl (by decide) rfl rfl ?_
    refine w_aload_n 1 dX12_changed_22 rfl rfl rfl ?_
    refine w_iload_n 2 dX12_changed_23 rfl rfl rfl ?_
    refine w_iload_n 3 dX12_changed_24 rfl rfl rfl ?_
    obtain ⟨r4, s5, h6, h⟩ := h.bd
    refine k_X12_change ml_RX12_448 (Nat.le_of_ble_eq_true rfl) ⟨Nat.le_of_ble_eq_true rfl, Nat.le_of_ble_eq_true rfl⟩ dX12_changed_25 rfl h6 ?_
    refine w_iload_n 0 dX12_changed_28 rfl rfl rfl ?_
    exact w_ireturn dX12_changed_29 h
  · have h := h.tt q
    refine w_bipush (-5 : Int32) dX12_changed_12 ic_bipush_m5 rfl ?_
    exact w_ireturn dX12_changed_14 h
theorem c_X12_changed {l : Launch} {D : va_G} {cy : Nat → ClassId} {ad : Nat → Nat} {p0 : Int32} {p1 : Int32} {σ σ' : St} {r : Int32} (hf : f_X12_changed p0 p1 σ = some (r, σ')) : CT l D cy ad yX12_changed cX12_changed 4 (some .int) rX12_changed [.ref (ad 58), .int p0, .int p1] σ (some (.int r)) σ' :=
  ct_of (by decide) (Nat.le_of_ble_eq_true rfl) (fun p e s m args below meth c A => e_X12_changed (Γ := (p, l, e, rX12_changed, s, m, args, below, meth, c, D, cy, ad, A, 0, 0, MQ below (QC D cy ad (some (.int r)) σ' A) args s 0 0 A)) p0 p1 σ ⟨_, hf, rfl⟩)
theorem k_X12_changed {Γ : CX} {cc : ByteArray} {nL : Nat} {own : String} {ret : Option FieldType} {rm : Room} {σ σ' : St} {pc pc' idx : Nat} {lv : List (Nat × Value)} {rest : List Value} {p0 : Int32} {p1 : Int32} {r : Int32} (hl : Cond.methodLink own idx yX12_changed ∈ TB) (hw : (rest.map fun v => v.category).sum ≤ 8) (hR : rX12_changed.frames + 1 ≤ rm.frames ∧ 8 + (4 + 11) + rX12_changed.locals ≤ rm.locals) (hd : decode cc pc = .ok (.invokevirtual idx, 3)) (hp : pc + 3 = pc') (hf : f_X12_changed p0 p1 σ = some (r, σ')) (h : WW Γ cc nL own ret rm σ' pc' lv (.int r :: rest)) : WW Γ cc nL own ret rm σ pc lv (.int p1 :: .int p0 :: .ref (xd Γ 58) :: rest) :=
  w_callV (nn := 2) (i := 58) (As := [.int p0, .int p1]) (v := (some (.int r))) (T := TX12) (N := 32) (c_X12_changed hf) hl mw_X12_changed (by decide +kernel) ⟨rfl, rfl⟩ hR (lt_lit (by decide)) cel_58 rfl rfl hw hd rfl hp h
/-! WarByHoursModel.tell (III)I -/
def rX12_tell : Room := { frames := 2, cells := 0, slots := 0, locals := 46 }
def f_X12_tell_53 (σ : St) : Option (Int32 × St) :=
  some ((-2 : Int32), σ)
theorem b_X12_tell_53 {Γ : CX} (σ : St) (h : RR vI Γ (f_X12_tell_53 σ)) : WW Γ cX12_tell 4 RX12 (some .int) rX12_tell σ 53 [] [] := by
  unfold f_X12_tell_53 at h
  refine w_bipush (-2 : Int32) dX12_tell_53 ic_bipush_m2 rfl ?_
  exact w_ireturn dX12_tell_55 h
def f_X12_tell_82 (v3 : Int32) (k0 : Int32) (k1 : Int32) (σ : St) : Option (Int32 × St) :=
  bd (f_X12_changed (k1 + k0) v3 σ) fun r1 s2 =>
  some (r1, s2)
theorem b_X12_tell_82 {Γ : CX} (v3 : Int32) (k0 : Int32) (k1 : Int32) (σ : St) (h : RR vI Γ (f_X12_tell_82 v3 k0 k1 σ)) : WW Γ cX12_tell 4 RX12 (some .int) rX12_tell σ 82 [(3, .int v3)] [.int k0, .int k1, .ref (xd Γ 58)] := by
  unfold f_X12_tell_82 at h
  refine w_iadd dX12_tell_82 rfl ?_
  refine w_iload_n 0 dX12_tell_83 rfl rfl rfl ?_
  obtain ⟨r1, s2, h3, h⟩ := h.bd
  refine k_X12_changed ml_RX12_451 (Nat.le_of_ble_eq_true rfl) ⟨Nat.le_of_ble_eq_true rfl, Nat.le_of_ble_eq_true rfl⟩ dX12_tell_84 rfl h3 ?_
  exact w_ireturn dX12_tell_87 h
def f_X12_tell_47 (v1 : Int32) (v2 : Int32) (v3 : Int32) (k0 : Int64) (k1 : Int64) (k2 : Int64) (σ : St) : Option (Int32 × St) :=
  bd (f_X12_in k2 k1 k0 σ) fun r1 s2 =>
  if r1 = 0 then
    f_X12_tell_53 s2
  else
    if v2 = 0 then
      f_X12_tell_82 v3 (2 : Int32) ((13 : Int32) + ((6 : Int32) * v1)) s2
    else
      if v2 = (1 : Int32) then
        f_X12_tell_82 v3 (3 : Int32) ((13 : Int32) + ((6 : Int32) * v1)) s2
      else
        f_X12_tell_82 v3 (5 : Int32) ((13 : Int32) + ((6 : Int32) * v1)) s2
theorem b_X12_tell_47 {Γ : CX} (v1 : Int32) (v2 : Int32) (v3 : Int32) (k0 : Int64) (k1 : Int64) (k2 : Int64) (σ : St) (h : RR vI Γ (f_X12_tell_47 v1 v2 v3 k0 k1 k2 σ)) : WW Γ cX12_tell 4 RX12 (some .int) rX12_tell σ 47 [(0, .ref (xd Γ 58)), (1, .int v1), (2, .int v2), (3, .int v3)] [.long k0, .long k1, .long k2] := by
  unfold f_X12_tell_47 at h
  obtain ⟨r1, s2, h3, h⟩ := h.bd
  refine k_X12_in ml_RX12_70 (Nat.le_of_ble_eq_true rfl) ⟨Nat.le_of_ble_eq_true rfl, Nat.le_of_ble_eq_true rfl⟩ dX12_tell_47 rfl h3 ?_
  refine w_if_ne (tgt := 56) dX12_tell_50 (by decide) rfl (fun q => ?_) (fun q => ?_)
  · have h := h.ff q
    refine w_aload_n 0 dX12_tell_56 rfl rfl rfl ?_
    refine w_bipush (13 : Int32) dX12_tell_57 ic_bipush_13 rfl ?_
    refine w_bipush (6 : Int32) dX12_tell_59 ic_bipush_6 rfl ?_
    refine w_iload_n 1 dX12_tell_61 rfl rfl rfl ?_
    refine w_imul dX12_tell_62 rfl ?_
    refine w_iadd dX12_tell_63 rfl ?_
    refine w_iload_n 2 dX12_tell_64 rfl rfl rfl ?_
    refine w_if_ne (tgt := 72) dX12_tell_65 (by decide) rfl (fun q => ?_) (fun q => ?_)
    · have h := h.ff q
      refine w_iload_n 2 dX12_tell_72 rfl rfl rfl ?_
      refine w_iconst (1 : Int32) dX12_tell_73 ic_iconst_1 rfl ?_
      refine w_icmp_ne (tgt := 81) dX12_tell_74 (by decide) rfl (fun q => ?_) (fun q => ?_)
      · have h := h.ff q
        refine w_iconst (5 : Int32) dX12_tell_81 ic_iconst_5 rfl ?_
        exact w_sub [3] rfl (b_X12_tell_82 v3 (5 : Int32) ((13 : Int32) + ((6 : Int32) * v1)) s2 h)
      · have h := h.tt q
        refine w_iconst (3 : Int32) dX12_tell_77 ic_iconst_3 rfl ?_
        refine w_goto (tgt := 82) dX12_tell_78 (by decide) ?_
        exact w_sub [3] rfl (b_X12_tell_82 v3 (3 : Int32) ((13 : Int32) + ((6 : Int32) * v1)) s2 h)
    · have h := h.tt q
      refine w_iconst (2 : Int32) dX12_tell_68 ic_iconst_2 rfl ?_
      refine w_goto (tgt := 82) dX12_tell_69 (by decide) ?_
      exact w_sub [3] rfl (b_X12_tell_82 v3 (2 : Int32) ((13 : Int32) + ((6 : Int32) * v1)) s2 h)
  · have h := h.tt q
    exact w_sub [] rfl (b_X12_tell_53 s2 h)
def f_X12_tell (p0 : Int32) (p1 : Int32) (p2 : Int32) (σ : St) : Option (Int32 × St) :=
  bd (f_X12_isTrain p0 σ) fun r1 s2 =>
  if r1 = 0 then
    f_X12_tell_53 s2
  else
    bd (f_X12_in p1.toInt64 (0 : Int64) (2 : Int64) s2) fun r4 s5 =>
    if r4 = 0 then
      f_X12_tell_53 s5
    else
      if p1 = 0 then
        f_X12_tell_47 p0 p1 p2 (59 : Int64) (0 : Int64) p2.toInt64 s5
      else
        if p1 = (1 : Int32) then
          f_X12_tell_47 p0 p1 p2 (100 : Int64) (0 : Int64) p2.toInt64 s5
        else
          f_X12_tell_47 p0 p1 p2 (999 : Int64) (0 : Int64) p2.toInt64 s5
theorem e_X12_tell {Γ : CX} (p0 : Int32) (p1 : Int32) (p2 : Int32) (σ : St) (h : RR vI Γ (f_X12_tell p0 p1 p2 σ)) : WW Γ cX12_tell 4 RX12 (some .int) rX12_tell σ 0 [(0, .ref (xd Γ 58)), (1, .int p0), (2, .int p1), (3, .int p2)] [] := by
  unfold f_X12_tell at h
  refine w_aload_n 0 dX12_tell_0 rfl rfl rfl ?_
  refine w_iload_n 1 dX12_tell_1 rfl rfl rfl ?_
  obtain ⟨r1, s2, h3, h⟩ := h.bd
  refine k_X12_isTrain ml_RX12_230 (Nat.le_of_ble_eq_true rfl) ⟨Nat.le_of_ble_eq_true rfl, Nat.le_of_ble_eq_true rfl⟩ dX12_tell_2 rfl h3 ?_
  refine w_if_eq (tgt := 53) dX12_tell_5 (by decide) rfl (fun q => ?_) (fun q => ?_)
  · have h := h.tt q
    exact w_sub [] rfl (b_X12_tell_53 s2 h)
  · have h := h.ff q
    refine w_iload_n 2 dX12_tell_8 rfl rfl rfl ?_
    refine w_i2l dX12_tell_9 rfl ?_
    refine w_lconst (0 : Int64) dX12_tell_10 rfl rfl ?_
    refine w_ldc2_w (2 : Int64) dX12_tell_11 cl_RX12_68 rfl ?_
    obtain ⟨r4, s5, h6, h⟩ := h.bd
    refine k_X12_in ml_RX12_70 (Nat.le_of_ble_eq_true rfl) ⟨Nat.le_of_ble_eq_true rfl, Nat.le_of_ble_eq_true rfl⟩ dX12_tell_14 rfl h6 ?_
    refine w_if_eq (tgt := 53) dX12_tell_17 (by decide) rfl (fun q => ?_) (fun q => ?_)
    · have h := h.tt q
      exact w_sub [] rfl (b_X12_tell_53 s5 h)
    · have h := h.ff q
      refine w_iload_n 3 dX12_tell_20 rfl rfl rfl ?_
      refine w_i2l dX12_tell_21 rfl ?_
      refine w_lconst (0 : Int64) dX12_tell_22 rfl rfl ?_
      refine w_iload_n 2 dX12_tell_23 rfl rfl rfl ?_
      refine w_if_ne (tgt := 33) dX12_tell_24 (by decide) rfl (fun q => ?_) (fun q => ?_)
      · have h := h.ff q
        refine w_iload_n 2 dX12_tell_33 rfl rfl rfl ?_
        refine w_iconst (1 : Int32) dX12_tell_34 ic_iconst_1 rfl ?_
        refine w_icmp_ne (tgt := 44) dX12_tell_35 (by decide) rfl (fun q => ?_) (fun q => ?_)
        · have h := h.ff q
          refine w_ldc2_w (999 : Int64) dX12_tell_44 cl_RX12_354 rfl ?_
          exact w_sub [0, 1, 2, 3] rfl (b_X12_tell_47 p0 p1 p2 (999 : Int64) (0 : Int64) p2.toInt64 s5 h)
        · have h := h.tt q
          refine w_ldc2_w (100 : Int64) dX12_tell_38 cl_RX12_291 rfl ?_
          refine w_goto (tgt := 47) dX12_tell_41 (by decide) ?_
          exact w_sub [0, 1, 2, 3] rfl (b_X12_tell_47 p0 p1 p2 (100 : Int64) (0 : Int64) p2.toInt64 s5 h)
      · have h := h.tt q
        refine w_ldc2_w (59 : Int64) dX12_tell_27 cl_RX12_399 rfl ?_
        refine w_goto (tgt := 47) dX12_tell_30 (by decide) ?_
        exact w_sub [0, 1, 2, 3] rfl (b_X12_tell_47 p0 p1 p2 (59 : Int64) (0 : Int64) p2.toInt64 s5 h)
theorem c_X12_tell {l : Launch} {D : va_G} {cy : Nat → ClassId} {ad : Nat → Nat} {p0 : Int32} {p1 : Int32} {p2 : Int32} {σ σ' : St} {r : Int32} (hf : f_X12_tell p0 p1 p2 σ = some (r, σ')) : CT l D cy ad yX12_tell cX12_tell 4 (some .int) rX12_tell [.ref (ad 58), .int p0, .int p1, .int p2] σ (some (.int r)) σ' :=
  ct_of (by decide) (Nat.le_of_ble_eq_true rfl) (fun p e s m args below meth c A => e_X12_tell (Γ := (p, l, e, rX12_tell, s, m, args, below, meth, c, D, cy, ad, A, 0, 0, MQ below (QC D cy ad (some (.int r)) σ' A) args s 0 0 A)) p0 p1 p2 σ ⟨_, hf, rfl⟩)
theorem k_X12_tell {Γ : CX} {cc : ByteArray} {nL : Nat} {own : String} {ret : Option FieldType} {rm : Room} {σ σ' : St} {pc pc' idx : Nat} {lv : List (Nat × Value)} {rest : List Value} {p0 : Int32} {p1 : Int32} {p2 : Int32} {r : Int32} (hl : Cond.methodLink own idx yX12_tell ∈ TB) (hw : (rest.map fun v => v.category).sum ≤ 8) (hR : rX12_tell.frames + 1 ≤ rm.frames ∧ 8 + (4 + 11) + rX12_tell.locals ≤ rm.locals) (hd : decode cc pc = .ok (.invokevirtual idx, 3)) (hp : pc + 3 = pc') (hf : f_X12_tell p0 p1 p2 σ = some (r, σ')) (h : WW Γ cc nL own ret rm σ' pc' lv (.int r :: rest)) : WW Γ cc nL own ret rm σ pc lv (.int p2 :: .int p1 :: .int p0 :: .ref (xd Γ 58) :: rest) :=
  w_callV (nn := 3) (i := 58) (As := [.int p0, .int p1, .int p2]) (v := (some (.int r))) (T := TX12) (N := 32) (c_X12_tell hf) hl mw_X12_tell (by decide +kernel) ⟨rfl, rfl⟩ hR (lt_lit (by decide)) cel_58 rfl rfl hw hd rfl hp h
/-! WarByHoursModel.needs (II)I -/
def rX12_needs_ : Room := { frames := 2, cells := 0, slots := 0, locals := 46 }
def f_X12_needs__34 (k0 : Int32) (σ : St) : Option (Int32 × St) :=
  some (k0, σ)
theorem b_X12_needs__34 {Γ : CX} (k0 : Int32) (σ : St) (h : RR vI Γ (f_X12_needs__34 k0 σ)) : WW Γ cX12_needs_ 3 RX12 (some .int) rX12_needs_ σ 34 [] [.int k0] := by
  unfold f_X12_needs__34 at h
  exact w_ireturn dX12_needs__34 h
def f_X12_needs__32 (σ : St) : Option (Int32 × St) :=
  f_X12_needs__34 (-2 : Int32) σ
theorem b_X12_needs__32 {Γ : CX} (σ : St) (h : RR vI Γ (f_X12_needs__32 σ)) : WW Γ cX12_needs_ 3 RX12 (some .int) rX12_needs_ σ 32 [] [] := by
  unfold f_X12_needs__32 at h
  refine w_bipush (-2 : Int32) dX12_needs__32 ic_bipush_m2 rfl ?_
  exact w_sub [] rfl (b_X12_needs__34 (-2 : Int32) σ h)
def f_X12_needs_ (p0 : Int32) (p1 : Int32) (σ : St) : Option (Int32 × St) :=
  bd (f_X12_isSide p0 σ) fun r1 s2 =>
  if r1 = 0 then
    f_X12_needs__32 s2
  else
    bd (f_X12_in p1.toInt64 (0 : Int64) (999 : Int64) s2) fun r4 s5 =>
    if r4 = 0 then
      f_X12_needs__32 s5
    else
      bd (f_X12_changed ((11 : Int32) + p0) p1 s5) fun r7 s8 =>
      f_X12_needs__34 r7 s8
theorem e_X12_needs_ {Γ : CX} (p0 : Int32) (p1 : Int32) (σ : St) (h : RR vI Γ (f_X12_needs_ p0 p1 σ)) : WW Γ cX12_needs_ 3 RX12 (some .int) rX12_needs_ σ 0 [(0, .ref (xd Γ 58)), (1, .int p0), (2, .int p1)] [] := by
  unfold f_X12_needs_ at h
  refine w_aload_n 0 dX12_needs__0 rfl rfl rfl ?_
  refine w_iload_n 1 dX12_needs__1 rfl rfl rfl ?_
  obtain ⟨r1, s2, h3, h⟩ := h.bd
  refine k_X12_isSide ml_RX12_236 (Nat.le_of_ble_eq_true rfl) ⟨Nat.le_of_ble_eq_true rfl, Nat.le_of_ble_eq_true rfl⟩ dX12_needs__2 rfl h3 ?_
  refine w_if_eq (tgt := 32) dX12_needs__5 (by decide) rfl (fun q => ?_) (fun q => ?_)
  · have h := h.tt q
    exact w_sub [] rfl (b_X12_needs__32 s2 h)
  · have h := h.ff q
    refine w_iload_n 2 dX12_needs__8 rfl rfl rfl ?_
    refine w_i2l dX12_needs__9 rfl ?_
    refine w_lconst (0 : Int64) dX12_needs__10 rfl rfl ?_
    refine w_ldc2_w (999 : Int64) dX12_needs__11 cl_RX12_354 rfl ?_
    obtain ⟨r4, s5, h6, h⟩ := h.bd
    refine k_X12_in ml_RX12_70 (Nat.le_of_ble_eq_true rfl) ⟨Nat.le_of_ble_eq_true rfl, Nat.le_of_ble_eq_true rfl⟩ dX12_needs__14 rfl h6 ?_
    refine w_if_eq (tgt := 32) dX12_needs__17 (by decide) rfl (fun q => ?_) (fun q => ?_)
    · have h := h.tt q
      exact w_sub [] rfl (b_X12_needs__32 s5 h)
    · have h := h.ff q
      refine w_aload_n 0 dX12_needs__20 rfl rfl rfl ?_
      refine w_bipush (11 : Int32) dX12_needs__21 ic_bipush_11 rfl ?_
      refine w_iload_n 1 dX12_needs__23 rfl rfl rfl ?_
      refine w_iadd dX12_needs__24 rfl ?_
      refine w_iload_n 2 dX12_needs__25 rfl rfl rfl ?_
      obtain ⟨r7, s8, h9, h⟩ := h.bd
      refine k_X12_changed ml_RX12_451 (Nat.le_of_ble_eq_true rfl) ⟨Nat.le_of_ble_eq_true rfl, Nat.le_of_ble_eq_true rfl⟩ dX12_needs__26 rfl h9 ?_
      refine w_goto (tgt := 34) dX12_needs__29 (by decide) ?_
      exact w_sub [] rfl (b_X12_needs__34 r7 s8 h)
theorem c_X12_needs_ {l : Launch} {D : va_G} {cy : Nat → ClassId} {ad : Nat → Nat} {p0 : Int32} {p1 : Int32} {σ σ' : St} {r : Int32} (hf : f_X12_needs_ p0 p1 σ = some (r, σ')) : CT l D cy ad yX12_needs_ cX12_needs_ 3 (some .int) rX12_needs_ [.ref (ad 58), .int p0, .int p1] σ (some (.int r)) σ' :=
  ct_of (by decide) (Nat.le_of_ble_eq_true rfl) (fun p e s m args below meth c A => e_X12_needs_ (Γ := (p, l, e, rX12_needs_, s, m, args, below, meth, c, D, cy, ad, A, 0, 0, MQ below (QC D cy ad (some (.int r)) σ' A) args s 0 0 A)) p0 p1 σ ⟨_, hf, rfl⟩)
theorem k_X12_needs_ {Γ : CX} {cc : ByteArray} {nL : Nat} {own : String} {ret : Option FieldType} {rm : Room} {σ σ' : St} {pc pc' idx : Nat} {lv : List (Nat × Value)} {rest : List Value} {p0 : Int32} {p1 : Int32} {r : Int32} (hl : Cond.methodLink own idx yX12_needs_ ∈ TB) (hw : (rest.map fun v => v.category).sum ≤ 8) (hR : rX12_needs_.frames + 1 ≤ rm.frames ∧ 8 + (3 + 11) + rX12_needs_.locals ≤ rm.locals) (hd : decode cc pc = .ok (.invokevirtual idx, 3)) (hp : pc + 3 = pc') (hf : f_X12_needs_ p0 p1 σ = some (r, σ')) (h : WW Γ cc nL own ret rm σ' pc' lv (.int r :: rest)) : WW Γ cc nL own ret rm σ pc lv (.int p1 :: .int p0 :: .ref (xd Γ 58) :: rest) :=
  w_callV (nn := 2) (i := 58) (As := [.int p0, .int p1]) (v := (some (.int r))) (T := TX12) (N := 32) (c_X12_needs_ hf) hl mw_X12_needs_ (by decide +kernel) ⟨rfl, rfl⟩ hR (lt_lit (by decide)) cel_58 rfl rfl hw hd rfl hp h
/-! WarByHoursModel.undo ()I -/
def rX12_undo : Room := { frames := 1, cells := 0, slots := 0, locals := 20 }
def f_X12_undo (σ : St) : Option (Int32 × St) :=
  bd (f_X12_isWar σ) fun r1 s2 =>
  if r1 = 0 then
    some ((-2 : Int32), s2)
  else
    gd (inb (10 : Int32) (ln 59)) <|
    if (gr s2 59 (10 : Int32).toNatClampNeg) = 0 then
      some ((-5 : Int32), s2)
    else
      gd (inb (10 : Int32) (ln 59)) <|
      gd (inb (10 : Int32) (ln 59)) <|
      bnd (sr s2 59 (10 : Int32).toNatClampNeg ((gr s2 59 (10 : Int32).toNatClampNeg) - (1 : Int32))) fun s7 =>
      gd (inb (10 : Int32) (ln 59)) <|
      bnd (((120 : Int32) + ((2 : Int32) * (gr s7 59 (10 : Int32).toNatClampNeg)))) fun x9 =>
      gd (inb x9 (ln 59)) <|
      gd (inb (x9 + (1 : Int32)) (ln 59)) <|
      gd (inb (gr s7 59 x9.toNatClampNeg) (ln 59)) <|
      bnd (sr s7 59 (gr s7 59 x9.toNatClampNeg).toNatClampNeg (gr s7 59 (x9 + (1 : Int32)).toNatClampNeg)) fun s13 =>
      gd (inb (10 : Int32) (ln 59)) <|
      some ((gr s13 59 (10 : Int32).toNatClampNeg), s13)
theorem e_X12_undo {Γ : CX} (σ : St) (h : RR vI Γ (f_X12_undo σ)) : WW Γ cX12_undo 2 RX12 (some .int) rX12_undo σ 0 [(0, .ref (xd Γ 58))] [] := by
  unfold f_X12_undo at h
  refine w_aload_n 0 dX12_undo_0 rfl rfl rfl ?_
  obtain ⟨r1, s2, h3, h⟩ := h.bd
  refine k_X12_isWar ml_RX12_74 (Nat.le_of_ble_eq_true rfl) ⟨Nat.le_of_ble_eq_true rfl, Nat.le_of_ble_eq_true rfl⟩ dX12_undo_1 rfl h3 ?_
  refine w_if_ne (tgt := 10) dX12_undo_4 (by decide) rfl (fun q => ?_) (fun q => ?_)
  · have h := h.ff q
    refine w_aload_n 0 dX12_undo_10 rfl rfl rfl ?_
    refine gf_RX12_9 dX12_undo_11 rfl ?_
    refine w_bipush (10 : Int32) dX12_undo_14 ic_bipush_10 rfl ?_
    obtain ⟨hi4, h⟩ := h.gd
    refine w_iald (i := 59) (lt_lit (by decide)) rfl hi4 dX12_undo_16 rfl ?_
    refine w_if_ne (tgt := 23) dX12_undo_17 (by decide) rfl (fun q => ?_) (fun q => ?_)
    · have h := h.ff q
      refine w_aload_n 0 dX12_undo_23 rfl rfl rfl ?_
      refine gf_RX12_9 dX12_undo_24 rfl ?_
      refine w_bipush (10 : Int32) dX12_undo_27 ic_bipush_10 rfl ?_
      refine w_dup2 dX12_undo_29 rfl rfl rfl ?_
      obtain ⟨hi5, h⟩ := h.gd
      refine w_iald (i := 59) (lt_lit (by decide)) rfl hi5 dX12_undo_30 rfl ?_
      refine w_iconst (1 : Int32) dX12_undo_31 ic_iconst_1 rfl ?_
      refine w_isub dX12_undo_32 rfl ?_
      obtain ⟨hi6, h⟩ := h.gd
      refine w_iast (i := 59) (lt_lit (by decide)) rfl hi6 dX12_undo_33 rfl ?_
      obtain ⟨s7, es7⟩ : ∃ y : St, y = (sr s2 59 (10 : Int32).toNatClampNeg ((gr s2 59 (10 : Int32).toNatClampNeg) - (1 : Int32))) := ⟨_, rfl⟩
      rw [← es7]
      replace h := h.bnd es7
      clear es7
      refine w_bipush (120 : Int32) dX12_undo_34 ic_bipush_120 rfl ?_
      refine w_iconst (2 : Int32) dX12_undo_36 ic_iconst_2 rfl ?_
      refine w_aload_n 0 dX12_undo_37 rfl rfl rfl ?_
      refine gf_RX12_9 dX12_undo_38 rfl ?_
      refine w_bipush (10 : Int32) dX12_undo_41 ic_bipush_10 rfl ?_
      obtain ⟨hi8, h⟩ := h.gd
      refine w_iald (i := 59) (lt_lit (by decide)) rfl hi8 dX12_undo_43 rfl ?_
      refine w_imul dX12_undo_44 rfl ?_
      refine w_iadd dX12_undo_45 rfl ?_
      refine w_nmI (fun x9 ex9 => ?_)
      replace h := h.bnd ex9
      clear ex9
      refine w_istore_n [(1, .int x9), (0, .ref (xd Γ 58))] dX12_undo_46 rfl (by decide) rfl rfl ?_
      refine w_aload_n 1 dX12_undo_47 rfl rfl rfl ?_
      refine gf_RX12_9 dX12_undo_48 rfl ?_
      refine w_aload_n 1 dX12_undo_51 rfl rfl rfl ?_
      refine gf_RX12_9 dX12_undo_52 rfl ?_
      refine w_iload_n 0 dX12_undo_55 rfl rfl rfl ?_
      obtain ⟨hi10, h⟩ := h.gd
      refine w_iald (i := 59) (lt_lit (by decide)) rfl hi10 dX12_undo_56 rfl ?_
      refine w_aload_n 1 dX12_undo_57 rfl rfl rfl ?_
      refine gf_RX12_9 dX12_undo_58 rfl ?_
      refine w_iload_n 0 dX12_undo_61 rfl rfl rfl ?_
      refine w_iconst (1 : Int32) dX12_undo_62 ic_iconst_1 rfl ?_
      refine w_iadd dX12_undo_63 rfl ?_
      obtain ⟨hi11, h⟩ := h.gd
      refine w_iald (i := 59) (lt_lit (by decide)) rfl hi11 dX12_undo_64 rfl ?_
      obtain ⟨hi12, h⟩ := h.gd
      refine w_iast (i := 59) (lt_lit (by decide)) rfl hi12 dX12_undo_65 rfl ?_
      obtain ⟨s13, es13⟩ : ∃ y : St, y = (sr s7 59 (gr s7 59 x9.toNatClampNeg).toNatClampNeg (gr s7 59 (x9 + (1 : Int32)).toNatClampNeg)) := ⟨_, rfl⟩
      rw [← es13]
      replace h := h.bnd es13
      clear es13
      refine w_aload_n 1 dX12_undo_66 rfl rfl rfl ?_
      refine gf_RX12_9 dX12_undo_67 rfl ?_
      refine w_bipush (10 : Int32) dX12_undo_70 ic_bipush_10 rfl ?_
      obtain ⟨hi14, h⟩ := h.gd
      refine w_iald (i := 59) (lt_lit (by decide)) rfl hi14 dX12_undo_72 rfl ?_
      exact w_ireturn dX12_undo_73 h
    · have h := h.tt q
      refine w_bipush (-5 : Int32) dX12_undo_20 ic_bipush_m5 rfl ?_
      exact w_ireturn dX12_undo_22 h
  · have h := h.tt q
    refine w_bipush (-2 : Int32) dX12_undo_7 ic_bipush_m2 rfl ?_
    exact w_ireturn dX12_undo_9 h
theorem c_X12_undo {l : Launch} {D : va_G} {cy : Nat → ClassId} {ad : Nat → Nat}  {σ σ' : St} {r : Int32} (hf : f_X12_undo σ = some (r, σ')) : CT l D cy ad yX12_undo cX12_undo 2 (some .int) rX12_undo [.ref (ad 58)] σ (some (.int r)) σ' :=
  ct_of (by decide) (Nat.le_of_ble_eq_true rfl) (fun p e s m args below meth c A => e_X12_undo (Γ := (p, l, e, rX12_undo, s, m, args, below, meth, c, D, cy, ad, A, 0, 0, MQ below (QC D cy ad (some (.int r)) σ' A) args s 0 0 A)) σ ⟨_, hf, rfl⟩)
theorem k_X12_undo {Γ : CX} {cc : ByteArray} {nL : Nat} {own : String} {ret : Option FieldType} {rm : Room} {σ σ' : St} {pc pc' idx : Nat} {lv : List (Nat × Value)} {rest : List Value}  {r : Int32} (hl : Cond.methodLink own idx yX12_undo ∈ TB) (hw : (rest.map fun v => v.category).sum ≤ 8) (hR : rX12_undo.frames + 1 ≤ rm.frames ∧ 8 + (2 + 11) + rX12_undo.locals ≤ rm.locals) (hd : decode cc pc = .ok (.invokevirtual idx, 3)) (hp : pc + 3 = pc') (hf : f_X12_undo σ = some (r, σ')) (h : WW Γ cc nL own ret rm σ' pc' lv (.int r :: rest)) : WW Γ cc nL own ret rm σ pc lv (.ref (xd Γ 58) :: rest) :=
  w_callV (nn := 0) (i := 58) (As := []) (v := (some (.int r))) (T := TX12) (N := 32) (c_X12_undo hf) hl mw_X12_undo (by decide +kernel) ⟨rfl, rfl⟩ hR (lt_lit (by decide)) cel_58 rfl rfl hw hd rfl hp h
/-! WarByHoursModel.drawnDelays (J)I -/
def rX12_drawnDelays : Room := { frames := 1, cells := 0, slots := 0, locals := 22 }
def f_X12_drawnDelays_98 (K42 : Int64 × Int32 × Int32 × St → Option (Int32 × St)) (v3 : Int64) (v6 : Int32) (k0 : Int32) (k1 : Int32) (σ : St) : Option (Int32 × St) :=
  bnd ((k1 ||| k0)) fun x1 =>
  bnd (v6 + (1 : Int32)) fun x2 =>
  K42 (v3, x1, x2, σ)
theorem b_X12_drawnDelays_98 {Γ : CX} (K42 : Int64 × Int32 × Int32 × St → Option (Int32 × St)) (hK42 : ∀ (v3 : Int64) (v5 : Int32) (v6 : Int32) (σ : St), RR vI Γ (K42 (v3, v5, v6, σ)) → WW Γ cX12_drawnDelays 7 RX12 (some .int) rX12_drawnDelays σ 42 [(0, .ref (xd Γ 58)), (3, .long v3), (5, .int v5), (6, .int v6)] []) (v3 : Int64) (v6 : Int32) (k0 : Int32) (k1 : Int32) (σ : St) (h : RR vI Γ (f_X12_drawnDelays_98 K42 v3 v6 k0 k1 σ)) : WW Γ cX12_drawnDelays 7 RX12 (some .int) rX12_drawnDelays σ 98 [(0, .ref (xd Γ 58)), (3, .long v3), (6, .int v6)] [.int k0, .int k1] := by
  unfold f_X12_drawnDelays_98 at h
  refine w_ior dX12_drawnDelays_98 rfl ?_
  refine w_nmI (fun x1 ex1 => ?_)
  replace h := h.bnd ex1
  clear ex1
  refine w_istore [(5, .int x1), (0, .ref (xd Γ 58)), (3, .long v3), (6, .int v6)] dX12_drawnDelays_99 (by decide) rfl rfl ?_
  obtain ⟨x2, ex2⟩ : ∃ y : Int32, y = (v6 + (1 : Int32)) := ⟨_, rfl⟩
  replace h := h.bnd ex2
  refine w_iinc 3 x2 [(6, .int x2), (5, .int x1), (0, .ref (xd Γ 58)), (3, .long v3)] dX12_drawnDelays_101 rfl (by rw [ex2, ic_iconst_1]) (by decide) rfl rfl ?_
  clear ex2
  refine w_goto (tgt := 42) dX12_drawnDelays_104 (by decide) ?_
  exact w_sub [2, 3, 1, 0] rfl (hK42 v3 x1 x2 σ h)
def g_X12_drawnDelays_42 (K42 : Int64 × Int32 × Int32 × St → Option (Int32 × St)) (x : Int64 × Int32 × Int32 × St) : Option (Int32 × St) := match x with
  | (v3, v5, v6, σ) =>
  gd (inb (4 : Int32) (ln 59)) <|
  if (gr σ 59 (4 : Int32).toNatClampNeg) ≤ v6 then
    some (v5, σ)
  else
    bnd (((((1103515245 : Int64) * v3) + (12345 : Int64)) - (((1103515245 : Int64) * v3) + (12345 : Int64)) / (2147483648 : Int64) * (2147483648 : Int64))) fun x2 =>
    bd (f_X12_of v6 (3 : Int32) σ) fun r3 s4 =>
    if 0 ≤ (lg_cmp ((x2 / (65536 : Int64)) - (x2 / (65536 : Int64)) / (100 : Int64) * (100 : Int64)) r3.toInt64) then
      f_X12_drawnDelays_98 K42 x2 v6 (0 : Int32) v5 s4
    else
      f_X12_drawnDelays_98 K42 x2 v6 ((1 : Int32) <<< (v6 &&& 31)) v5 s4
theorem l_X12_drawnDelays_42 {Γ : CX} : ∀ (n : Nat) (v3 : Int64) (v5 : Int32) (v6 : Int32) (σ : St), RR vI Γ (itr (g_X12_drawnDelays_42) n (v3, v5, v6, σ)) → WW Γ cX12_drawnDelays 7 RX12 (some .int) rX12_drawnDelays σ 42 [(0, .ref (xd Γ 58)), (3, .long v3), (5, .int v5), (6, .int v6)] [] := by
  intro n
  induction n with
  | zero => intro v3 v5 v6 σ h; exact RR.no h
  | succ n hK42 =>
  intro v3 v5 v6 σ h
  have h : RR vI Γ (g_X12_drawnDelays_42 (itr (g_X12_drawnDelays_42) n) (v3, v5, v6, σ)) := h
  generalize itr (g_X12_drawnDelays_42) n = K42 at h hK42
  unfold g_X12_drawnDelays_42 at h
  dsimp only at h
  refine w_iload 3 dX12_drawnDelays_42 rfl rfl ?_
  refine w_aload_n 0 dX12_drawnDelays_44 rfl rfl rfl ?_
  refine gf_RX12_9 dX12_drawnDelays_45 rfl ?_
  refine w_iconst (4 : Int32) dX12_drawnDelays_48 ic_iconst_4 rfl ?_
  obtain ⟨hi1, h⟩ := h.gd
  refine w_iald (i := 59) (lt_lit (by decide)) rfl hi1 dX12_drawnDelays_49 rfl ?_
  refine w_icmp_ge (tgt := 107) dX12_drawnDelays_50 (by decide) rfl (fun q => ?_) (fun q => ?_)
  · have h := h.tt q
    refine w_iload 2 dX12_drawnDelays_107 rfl rfl ?_
    exact w_ireturn dX12_drawnDelays_109 h
  · have h := h.ff q
    refine w_ldc2_w (1103515245 : Int64) dX12_drawnDelays_53 cl_RX12_454 rfl ?_
    refine w_lload_n 1 dX12_drawnDelays_56 rfl rfl rfl ?_
    refine w_lmul dX12_drawnDelays_57 rfl ?_
    refine w_ldc2_w (12345 : Int64) dX12_drawnDelays_58 cl_RX12_456 rfl ?_
    refine w_ladd dX12_drawnDelays_61 rfl ?_
    refine w_ldc2_w (2147483648 : Int64) dX12_drawnDelays_62 cl_RX12_458 rfl ?_
    refine w_lrem dX12_drawnDelays_65 (by decide) rfl ?_
    refine w_nmL (fun x2 ex2 => ?_)
    replace h := h.bnd ex2
    clear ex2
    refine w_lstore_n [(3, .long x2), (0, .ref (xd Γ 58)), (5, .int v5), (6, .int v6)] dX12_drawnDelays_66 rfl (by decide) rfl rfl ?_
    refine w_iload 2 dX12_drawnDelays_67 rfl rfl ?_
    refine w_lload_n 0 dX12_drawnDelays_69 rfl rfl rfl ?_
    refine w_ldc2_w (65536 : Int64) dX12_drawnDelays_70 cl_RX12_460 rfl ?_
    refine w_ldiv dX12_drawnDelays_73 (by decide) rfl ?_
    refine w_ldc2_w (100 : Int64) dX12_drawnDelays_74 cl_RX12_291 rfl ?_
    refine w_lrem dX12_drawnDelays_77 (by decide) rfl ?_
    refine w_aload_n 1 dX12_drawnDelays_78 rfl rfl rfl ?_
    refine w_iload 3 dX12_drawnDelays_79 rfl rfl ?_
    refine w_iconst (3 : Int32) dX12_drawnDelays_81 ic_iconst_3 rfl ?_
    obtain ⟨r3, s4, h5, h⟩ := h.bd
    refine k_X12_of ml_RX12_82 (Nat.le_of_ble_eq_true rfl) ⟨Nat.le_of_ble_eq_true rfl, Nat.le_of_ble_eq_true rfl⟩ dX12_drawnDelays_82 rfl h5 ?_
    refine w_i2l dX12_drawnDelays_85 rfl ?_
    refine w_lcmp dX12_drawnDelays_86 rfl ?_
    refine w_if_ge (tgt := 97) dX12_drawnDelays_87 (by decide) rfl (fun q => ?_) (fun q => ?_)
    · have h := h.tt q
      refine w_iconst (0 : Int32) dX12_drawnDelays_97 ic_iconst_0 rfl ?_
      exact w_sub [1, 0, 3] rfl (b_X12_drawnDelays_98 K42 hK42 x2 v6 (0 : Int32) v5 s4 h)
    · have h := h.ff q
      refine w_iconst (1 : Int32) dX12_drawnDelays_90 ic_iconst_1 rfl ?_
      refine w_iload 3 dX12_drawnDelays_91 rfl rfl ?_
      refine w_ishl dX12_drawnDelays_93 rfl ?_
      refine w_goto (tgt := 98) dX12_drawnDelays_94 (by decide) ?_
      exact w_sub [1, 0, 3] rfl (b_X12_drawnDelays_98 K42 hK42 x2 v6 ((1 : Int32) <<< (v6 &&& 31)) v5 s4 h)
def f_X12_drawnDelays (p0 : Int64) (σ : St) : Option (Int32 × St) :=
  bnd (((((1103515245 : Int64) * p0) + (12345 : Int64)) - (((1103515245 : Int64) * p0) + (12345 : Int64)) / (2147483648 : Int64) * (2147483648 : Int64))) fun x1 =>
  gd (inb (3 : Int32) (ln 59)) <|
  if 0 ≤ (lg_cmp ((x1 / (65536 : Int64)) - (x1 / (65536 : Int64)) / (100 : Int64) * (100 : Int64)) (gr σ 59 (3 : Int32).toNatClampNeg).toInt64) then
    itr (g_X12_drawnDelays_42) FU (x1, (0 : Int32), (0 : Int32), σ)
  else
    some ((-1 : Int32), σ)
theorem e_X12_drawnDelays {Γ : CX} (p0 : Int64) (σ : St) (h : RR vI Γ (f_X12_drawnDelays p0 σ)) : WW Γ cX12_drawnDelays 7 RX12 (some .int) rX12_drawnDelays σ 0 [(0, .ref (xd Γ 58)), (1, .long p0)] [] := by
  unfold f_X12_drawnDelays at h
  refine w_ldc2_w (1103515245 : Int64) dX12_drawnDelays_0 cl_RX12_454 rfl ?_
  refine w_lload_n 1 dX12_drawnDelays_3 rfl rfl rfl ?_
  refine w_lmul dX12_drawnDelays_4 rfl ?_
  refine w_ldc2_w (12345 : Int64) dX12_drawnDelays_5 cl_RX12_456 rfl ?_
  refine w_ladd dX12_drawnDelays_8 rfl ?_
  refine w_ldc2_w (2147483648 : Int64) dX12_drawnDelays_9 cl_RX12_458 rfl ?_
  refine w_lrem dX12_drawnDelays_12 (by decide) rfl ?_
  refine w_nmL (fun x1 ex1 => ?_)
  replace h := h.bnd ex1
  clear ex1
  refine w_lstore_n [(3, .long x1), (0, .ref (xd Γ 58)), (1, .long p0)] dX12_drawnDelays_13 rfl (by decide) rfl rfl ?_
  refine w_lload_n 0 dX12_drawnDelays_14 rfl rfl rfl ?_
  refine w_ldc2_w (65536 : Int64) dX12_drawnDelays_15 cl_RX12_460 rfl ?_
  refine w_ldiv dX12_drawnDelays_18 (by decide) rfl ?_
  refine w_ldc2_w (100 : Int64) dX12_drawnDelays_19 cl_RX12_291 rfl ?_
  refine w_lrem dX12_drawnDelays_22 (by decide) rfl ?_
  refine w_aload_n 1 dX12_drawnDelays_23 rfl rfl rfl ?_
  refine gf_RX12_9 dX12_drawnDelays_24 rfl ?_
  refine w_iconst (3 : Int32) dX12_drawnDelays_27 ic_iconst_3 rfl ?_
  obtain ⟨hi2, h⟩ := h.gd
  refine w_iald (i := 59) (lt_lit (by decide)) rfl hi2 dX12_drawnDelays_28 rfl ?_
  refine w_i2l dX12_drawnDelays_29 rfl ?_
  refine w_lcmp dX12_drawnDelays_30 rfl ?_
  refine w_if_ge (tgt := 36) dX12_drawnDelays_31 (by decide) rfl (fun q => ?_) (fun q => ?_)
  · have h := h.tt q
    refine w_iconst (0 : Int32) dX12_drawnDelays_36 ic_iconst_0 rfl ?_
    refine w_istore [(5, .int (0 : Int32)), (3, .long x1), (0, .ref (xd Γ 58)), (1, .long p0)] dX12_drawnDelays_37 (by decide) rfl rfl ?_
    refine w_iconst (0 : Int32) dX12_drawnDelays_39 ic_iconst_0 rfl ?_
    refine w_istore [(6, .int (0 : Int32)), (5, .int (0 : Int32)), (3, .long x1), (0, .ref (xd Γ 58)), (1, .long p0)] dX12_drawnDelays_40 (by decide) rfl rfl ?_
    exact w_sub [3, 2, 1, 0] rfl (l_X12_drawnDelays_42 FU x1 (0 : Int32) (0 : Int32) σ h)
  · have h := h.ff q
    refine w_iconst (-1 : Int32) dX12_drawnDelays_34 ic_iconst_m1 rfl ?_
    exact w_ireturn dX12_drawnDelays_35 h
theorem c_X12_drawnDelays {l : Launch} {D : va_G} {cy : Nat → ClassId} {ad : Nat → Nat} {p0 : Int64} {σ σ' : St} {r : Int32} (hf : f_X12_drawnDelays p0 σ = some (r, σ')) : CT l D cy ad yX12_drawnDelays cX12_drawnDelays 7 (some .int) rX12_drawnDelays [.ref (ad 58), .long p0] σ (some (.int r)) σ' :=
  ct_of (by decide) (Nat.le_of_ble_eq_true rfl) (fun p e s m args below meth c A => e_X12_drawnDelays (Γ := (p, l, e, rX12_drawnDelays, s, m, args, below, meth, c, D, cy, ad, A, 0, 0, MQ below (QC D cy ad (some (.int r)) σ' A) args s 0 0 A)) p0 σ ⟨_, hf, rfl⟩)
theorem k_X12_drawnDelays {Γ : CX} {cc : ByteArray} {nL : Nat} {own : String} {ret : Option FieldType} {rm : Room} {σ σ' : St} {pc pc' idx : Nat} {lv : List (Nat × Value)} {rest : List Value} {p0 : Int64} {r : Int32} (hl : Cond.methodLink own idx yX12_drawnDelays ∈ TB) (hw : (rest.map fun v => v.category).sum ≤ 8) (hR : rX12_drawnDelays.frames + 1 ≤ rm.frames ∧ 8 + (7 + 11) + rX12_drawnDelays.locals ≤ rm.locals) (hd : decode cc pc = .ok (.invokevirtual idx, 3)) (hp : pc + 3 = pc') (hf : f_X12_drawnDelays p0 σ = some (r, σ')) (h : WW Γ cc nL own ret rm σ' pc' lv (.int r :: rest)) : WW Γ cc nL own ret rm σ pc lv (.long p0 :: .ref (xd Γ 58) :: rest) :=
  w_callV (nn := 1) (i := 58) (As := [.long p0]) (v := (some (.int r))) (T := TX12) (N := 32) (c_X12_drawnDelays hf) hl mw_X12_drawnDelays (by decide +kernel) ⟨rfl, rfl⟩ hR (lt_lit (by decide)) cel_58 rfl rfl hw hd rfl hp h
/-! WarByHoursModel.isSeed (I)Z -/
def rX12_isSeed : Room := { frames := 1, cells := 0, slots := 0, locals := 25 }
def f_X12_isSeed_24 (k0 : Int32) (σ : St) : Option (Int32 × St) :=
  gd (bz k0) <| some (k0, σ)
theorem b_X12_isSeed_24 {Γ : CX} (k0 : Int32) (σ : St) (h : RR vI Γ (f_X12_isSeed_24 k0 σ)) : WW Γ cX12_isSeed 2 RX12 (some .boolean) rX12_isSeed σ 24 [] [.int k0] := by
  unfold f_X12_isSeed_24 at h
  obtain ⟨hb, h⟩ := h.gd
  exact w_zreturn dX12_isSeed_24 hb h
def f_X12_isSeed_23 (σ : St) : Option (Int32 × St) :=
  f_X12_isSeed_24 (0 : Int32) σ
theorem b_X12_isSeed_23 {Γ : CX} (σ : St) (h : RR vI Γ (f_X12_isSeed_23 σ)) : WW Γ cX12_isSeed 2 RX12 (some .boolean) rX12_isSeed σ 23 [] [] := by
  unfold f_X12_isSeed_23 at h
  refine w_iconst (0 : Int32) dX12_isSeed_23 ic_iconst_0 rfl ?_
  exact w_sub [] rfl (b_X12_isSeed_24 (0 : Int32) σ h)
def f_X12_isSeed (p0 : Int32) (σ : St) : Option (Int32 × St) :=
  bd (f_X12_isWar σ) fun r1 s2 =>
  if r1 = 0 then
    f_X12_isSeed_23 s2
  else
    bd (f_X12_in p0.toInt64 (0 : Int64) (2000000000 : Int64) s2) fun r4 s5 =>
    if r4 = 0 then
      f_X12_isSeed_23 s5
    else
      f_X12_isSeed_24 (1 : Int32) s5
theorem e_X12_isSeed {Γ : CX} (p0 : Int32) (σ : St) (h : RR vI Γ (f_X12_isSeed p0 σ)) : WW Γ cX12_isSeed 2 RX12 (some .boolean) rX12_isSeed σ 0 [(0, .ref (xd Γ 58)), (1, .int p0)] [] := by
  unfold f_X12_isSeed at h
  refine w_aload_n 0 dX12_isSeed_0 rfl rfl rfl ?_
  obtain ⟨r1, s2, h3, h⟩ := h.bd
  refine k_X12_isWar ml_RX12_74 (Nat.le_of_ble_eq_true rfl) ⟨Nat.le_of_ble_eq_true rfl, Nat.le_of_ble_eq_true rfl⟩ dX12_isSeed_1 rfl h3 ?_
  refine w_if_eq (tgt := 23) dX12_isSeed_4 (by decide) rfl (fun q => ?_) (fun q => ?_)
  · have h := h.tt q
    exact w_sub [] rfl (b_X12_isSeed_23 s2 h)
  · have h := h.ff q
    refine w_iload_n 1 dX12_isSeed_7 rfl rfl rfl ?_
    refine w_i2l dX12_isSeed_8 rfl ?_
    refine w_lconst (0 : Int64) dX12_isSeed_9 rfl rfl ?_
    refine w_ldc2_w (2000000000 : Int64) dX12_isSeed_10 cl_RX12_462 rfl ?_
    obtain ⟨r4, s5, h6, h⟩ := h.bd
    refine k_X12_in ml_RX12_70 (Nat.le_of_ble_eq_true rfl) ⟨Nat.le_of_ble_eq_true rfl, Nat.le_of_ble_eq_true rfl⟩ dX12_isSeed_13 rfl h6 ?_
    refine w_if_eq (tgt := 23) dX12_isSeed_16 (by decide) rfl (fun q => ?_) (fun q => ?_)
    · have h := h.tt q
      exact w_sub [] rfl (b_X12_isSeed_23 s5 h)
    · have h := h.ff q
      refine w_iconst (1 : Int32) dX12_isSeed_19 ic_iconst_1 rfl ?_
      refine w_goto (tgt := 24) dX12_isSeed_20 (by decide) ?_
      exact w_sub [] rfl (b_X12_isSeed_24 (1 : Int32) s5 h)
theorem c_X12_isSeed {l : Launch} {D : va_G} {cy : Nat → ClassId} {ad : Nat → Nat} {p0 : Int32} {σ σ' : St} {r : Int32} (hf : f_X12_isSeed p0 σ = some (r, σ')) : CT l D cy ad yX12_isSeed cX12_isSeed 2 (some .boolean) rX12_isSeed [.ref (ad 58), .int p0] σ (some (.int r)) σ' :=
  ct_of (by decide) (Nat.le_of_ble_eq_true rfl) (fun p e s m args below meth c A => e_X12_isSeed (Γ := (p, l, e, rX12_isSeed, s, m, args, below, meth, c, D, cy, ad, A, 0, 0, MQ below (QC D cy ad (some (.int r)) σ' A) args s 0 0 A)) p0 σ ⟨_, hf, rfl⟩)
theorem k_X12_isSeed {Γ : CX} {cc : ByteArray} {nL : Nat} {own : String} {ret : Option FieldType} {rm : Room} {σ σ' : St} {pc pc' idx : Nat} {lv : List (Nat × Value)} {rest : List Value} {p0 : Int32} {r : Int32} (hl : Cond.methodLink own idx yX12_isSeed ∈ TB) (hw : (rest.map fun v => v.category).sum ≤ 8) (hR : rX12_isSeed.frames + 1 ≤ rm.frames ∧ 8 + (2 + 11) + rX12_isSeed.locals ≤ rm.locals) (hd : decode cc pc = .ok (.invokevirtual idx, 3)) (hp : pc + 3 = pc') (hf : f_X12_isSeed p0 σ = some (r, σ')) (h : WW Γ cc nL own ret rm σ' pc' lv (.int r :: rest)) : WW Γ cc nL own ret rm σ pc lv (.int p0 :: .ref (xd Γ 58) :: rest) :=
  w_callV (nn := 1) (i := 58) (As := [.int p0]) (v := (some (.int r))) (T := TX12) (N := 32) (c_X12_isSeed hf) hl mw_X12_isSeed (by decide +kernel) ⟨rfl, rfl⟩ hR (lt_lit (by decide)) cel_58 rfl rfl hw hd rfl hp h
/-! WarByHoursModel.drawn (II)I -/
def rX12_drawn : Room := { frames := 6, cells := 0, slots := 0, locals := 138 }
def f_X12_drawn_20 (σ : St) : Option (Int32 × St) :=
  some ((-2 : Int32), σ)
theorem b_X12_drawn_20 {Γ : CX} (σ : St) (h : RR vI Γ (f_X12_drawn_20 σ)) : WW Γ cX12_drawn 4 RX12 (some .int) rX12_drawn σ 20 [] [] := by
  unfold f_X12_drawn_20 at h
  refine w_bipush (-2 : Int32) dX12_drawn_20 ic_bipush_m2 rfl ?_
  exact w_ireturn dX12_drawn_22 h
def f_X12_drawn_51 (k0 : Int32) (σ : St) : Option (Int32 × St) :=
  some (k0, σ)
theorem b_X12_drawn_51 {Γ : CX} (k0 : Int32) (σ : St) (h : RR vI Γ (f_X12_drawn_51 k0 σ)) : WW Γ cX12_drawn 4 RX12 (some .int) rX12_drawn σ 51 [] [.int k0] := by
  unfold f_X12_drawn_51 at h
  exact w_ireturn dX12_drawn_51 h
def f_X12_drawn_70 (k0 : Int32) (σ : St) : Option (Int32 × St) :=
  some (k0, σ)
theorem b_X12_drawn_70 {Γ : CX} (k0 : Int32) (σ : St) (h : RR vI Γ (f_X12_drawn_70 k0 σ)) : WW Γ cX12_drawn 4 RX12 (some .int) rX12_drawn σ 70 [] [.int k0] := by
  unfold f_X12_drawn_70 at h
  exact w_ireturn dX12_drawn_70 h
def f_X12_drawn (p0 : Int32) (p1 : Int32) (σ : St) : Option (Int32 × St) :=
  bd (f_X12_isSeed p0 σ) fun r1 s2 =>
  if r1 = 0 then
    f_X12_drawn_20 s2
  else
    bd (f_X12_in p1.toInt64 (0 : Int64) (2 : Int64) s2) fun r4 s5 =>
    if r4 = 0 then
      f_X12_drawn_20 s5
    else
      bd (f_X12_drawnDelays p0.toInt64 s5) fun r7 s8 =>
      if p1 = 0 then
        some (r7, s8)
      else
        if r7 = (-1 : Int32) then
          if p1 = (1 : Int32) then
            f_X12_drawn_51 (-1 : Int32) s8
          else
            f_X12_drawn_51 (0 : Int32) s8
        else
          if p1 = (1 : Int32) then
            bd (f_X12_winner r7 s8) fun r13 s14 =>
            f_X12_drawn_70 r13 s14
          else
            bd (f_X12_lastFront r7 s8) fun r10 s11 =>
            f_X12_drawn_70 r10 s11
theorem e_X12_drawn {Γ : CX} (p0 : Int32) (p1 : Int32) (σ : St) (h : RR vI Γ (f_X12_drawn p0 p1 σ)) : WW Γ cX12_drawn 4 RX12 (some .int) rX12_drawn σ 0 [(0, .ref (xd Γ 58)), (1, .int p0), (2, .int p1)] [] := by
  unfold f_X12_drawn at h
  refine w_aload_n 0 dX12_drawn_0 rfl rfl rfl ?_
  refine w_iload_n 1 dX12_drawn_1 rfl rfl rfl ?_
  obtain ⟨r1, s2, h3, h⟩ := h.bd
  refine k_X12_isSeed ml_RX12_464 (Nat.le_of_ble_eq_true rfl) ⟨Nat.le_of_ble_eq_true rfl, Nat.le_of_ble_eq_true rfl⟩ dX12_drawn_2 rfl h3 ?_
  refine w_if_eq (tgt := 20) dX12_drawn_5 (by decide) rfl (fun q => ?_) (fun q => ?_)
  · have h := h.tt q
    exact w_sub [] rfl (b_X12_drawn_20 s2 h)
  · have h := h.ff q
    refine w_iload_n 2 dX12_drawn_8 rfl rfl rfl ?_
    refine w_i2l dX12_drawn_9 rfl ?_
    refine w_lconst (0 : Int64) dX12_drawn_10 rfl rfl ?_
    refine w_ldc2_w (2 : Int64) dX12_drawn_11 cl_RX12_68 rfl ?_
    obtain ⟨r4, s5, h6, h⟩ := h.bd
    refine k_X12_in ml_RX12_70 (Nat.le_of_ble_eq_true rfl) ⟨Nat.le_of_ble_eq_true rfl, Nat.le_of_ble_eq_true rfl⟩ dX12_drawn_14 rfl h6 ?_
    refine w_if_ne (tgt := 23) dX12_drawn_17 (by decide) rfl (fun q => ?_) (fun q => ?_)
    · have h := h.ff q
      refine w_aload_n 0 dX12_drawn_23 rfl rfl rfl ?_
      refine w_iload_n 1 dX12_drawn_24 rfl rfl rfl ?_
      refine w_i2l dX12_drawn_25 rfl ?_
      obtain ⟨r7, s8, h9, h⟩ := h.bd
      refine k_X12_drawnDelays ml_RX12_467 (Nat.le_of_ble_eq_true rfl) ⟨Nat.le_of_ble_eq_true rfl, Nat.le_of_ble_eq_true rfl⟩ dX12_drawn_26 rfl h9 ?_
      refine w_istore_n [(3, .int r7), (0, .ref (xd Γ 58)), (1, .int p0), (2, .int p1)] dX12_drawn_29 rfl (by decide) rfl rfl ?_
      refine w_iload_n 3 dX12_drawn_30 rfl rfl rfl ?_
      refine w_if_ne (tgt := 36) dX12_drawn_31 (by decide) rfl (fun q => ?_) (fun q => ?_)
      · have h := h.ff q
        refine w_iload_n 0 dX12_drawn_36 rfl rfl rfl ?_
        refine w_iconst (-1 : Int32) dX12_drawn_37 ic_iconst_m1 rfl ?_
        refine w_icmp_ne (tgt := 52) dX12_drawn_38 (by decide) rfl (fun q => ?_) (fun q => ?_)
        · have h := h.ff q
          refine w_iload_n 3 dX12_drawn_52 rfl rfl rfl ?_
          refine w_iconst (1 : Int32) dX12_drawn_53 ic_iconst_1 rfl ?_
          refine w_icmp_ne (tgt := 65) dX12_drawn_54 (by decide) rfl (fun q => ?_) (fun q => ?_)
          · have h := h.ff q
            refine w_aload_n 1 dX12_drawn_65 rfl rfl rfl ?_
            refine w_iload_n 0 dX12_drawn_66 rfl rfl rfl ?_
            obtain ⟨r10, s11, h12, h⟩ := h.bd
            refine k_X12_lastFront ml_RX12_258 (Nat.le_of_ble_eq_true rfl) ⟨Nat.le_of_ble_eq_true rfl, Nat.le_of_ble_eq_true rfl⟩ dX12_drawn_67 rfl h12 ?_
            exact w_sub [] rfl (b_X12_drawn_70 r10 s11 h)
          · have h := h.tt q
            refine w_aload_n 1 dX12_drawn_57 rfl rfl rfl ?_
            refine w_iload_n 0 dX12_drawn_58 rfl rfl rfl ?_
            obtain ⟨r13, s14, h15, h⟩ := h.bd
            refine k_X12_winner ml_RX12_269 (Nat.le_of_ble_eq_true rfl) ⟨Nat.le_of_ble_eq_true rfl, Nat.le_of_ble_eq_true rfl⟩ dX12_drawn_59 rfl h15 ?_
            refine w_goto (tgt := 70) dX12_drawn_62 (by decide) ?_
            exact w_sub [] rfl (b_X12_drawn_70 r13 s14 h)
        · have h := h.tt q
          refine w_iload_n 3 dX12_drawn_41 rfl rfl rfl ?_
          refine w_iconst (1 : Int32) dX12_drawn_42 ic_iconst_1 rfl ?_
          refine w_icmp_ne (tgt := 50) dX12_drawn_43 (by decide) rfl (fun q => ?_) (fun q => ?_)
          · have h := h.ff q
            refine w_iconst (0 : Int32) dX12_drawn_50 ic_iconst_0 rfl ?_
            exact w_sub [] rfl (b_X12_drawn_51 (0 : Int32) s8 h)
          · have h := h.tt q
            refine w_iconst (-1 : Int32) dX12_drawn_46 ic_iconst_m1 rfl ?_
            refine w_goto (tgt := 51) dX12_drawn_47 (by decide) ?_
            exact w_sub [] rfl (b_X12_drawn_51 (-1 : Int32) s8 h)
      · have h := h.tt q
        refine w_iload_n 0 dX12_drawn_34 rfl rfl rfl ?_
        exact w_ireturn dX12_drawn_35 h
    · have h := h.tt q
      exact w_sub [] rfl (b_X12_drawn_20 s5 h)
theorem c_X12_drawn {l : Launch} {D : va_G} {cy : Nat → ClassId} {ad : Nat → Nat} {p0 : Int32} {p1 : Int32} {σ σ' : St} {r : Int32} (hf : f_X12_drawn p0 p1 σ = some (r, σ')) : CT l D cy ad yX12_drawn cX12_drawn 4 (some .int) rX12_drawn [.ref (ad 58), .int p0, .int p1] σ (some (.int r)) σ' :=
  ct_of (by decide) (Nat.le_of_ble_eq_true rfl) (fun p e s m args below meth c A => e_X12_drawn (Γ := (p, l, e, rX12_drawn, s, m, args, below, meth, c, D, cy, ad, A, 0, 0, MQ below (QC D cy ad (some (.int r)) σ' A) args s 0 0 A)) p0 p1 σ ⟨_, hf, rfl⟩)
theorem k_X12_drawn {Γ : CX} {cc : ByteArray} {nL : Nat} {own : String} {ret : Option FieldType} {rm : Room} {σ σ' : St} {pc pc' idx : Nat} {lv : List (Nat × Value)} {rest : List Value} {p0 : Int32} {p1 : Int32} {r : Int32} (hl : Cond.methodLink own idx yX12_drawn ∈ TB) (hw : (rest.map fun v => v.category).sum ≤ 8) (hR : rX12_drawn.frames + 1 ≤ rm.frames ∧ 8 + (4 + 11) + rX12_drawn.locals ≤ rm.locals) (hd : decode cc pc = .ok (.invokevirtual idx, 3)) (hp : pc + 3 = pc') (hf : f_X12_drawn p0 p1 σ = some (r, σ')) (h : WW Γ cc nL own ret rm σ' pc' lv (.int r :: rest)) : WW Γ cc nL own ret rm σ pc lv (.int p1 :: .int p0 :: .ref (xd Γ 58) :: rest) :=
  w_callV (nn := 2) (i := 58) (As := [.int p0, .int p1]) (v := (some (.int r))) (T := TX12) (N := 32) (c_X12_drawn hf) hl mw_X12_drawn (by decide +kernel) ⟨rfl, rfl⟩ hR (lt_lit (by decide)) cel_58 rfl rfl hw hd rfl hp h
/-! WarByHoursModel.luck (III)I -/
def rX12_luck : Room := { frames := 6, cells := 0, slots := 0, locals := 138 }
def f_X12_luck_28 (σ : St) : Option (Int32 × St) :=
  some ((-2 : Int32), σ)
theorem b_X12_luck_28 {Γ : CX} (σ : St) (h : RR vI Γ (f_X12_luck_28 σ)) : WW Γ cX12_luck 7 RX12 (some .int) rX12_luck σ 28 [] [] := by
  unfold f_X12_luck_28 at h
  refine w_bipush (-2 : Int32) dX12_luck_28 ic_bipush_m2 rfl ?_
  exact w_ireturn dX12_luck_30 h
def f_X12_luck_78 (K37 : Int32 × Int32 × Int32 × Int32 × Int32 × St → Option (Int32 × St)) (v1 : Int32) (v2 : Int32) (v3 : Int32) (v5 : Int32) (k0 : Int32) (k1 : Int32) (σ : St) : Option (Int32 × St) :=
  bnd ((k1 + k0)) fun x1 =>
  bnd (v5 + (1 : Int32)) fun x2 =>
  K37 (v1, v2, v3, x1, x2, σ)
theorem b_X12_luck_78 {Γ : CX} (K37 : Int32 × Int32 × Int32 × Int32 × Int32 × St → Option (Int32 × St)) (hK37 : ∀ (v1 : Int32) (v2 : Int32) (v3 : Int32) (v4 : Int32) (v5 : Int32) (σ : St), RR vI Γ (K37 (v1, v2, v3, v4, v5, σ)) → WW Γ cX12_luck 7 RX12 (some .int) rX12_luck σ 37 [(0, .ref (xd Γ 58)), (1, .int v1), (2, .int v2), (3, .int v3), (4, .int v4), (5, .int v5)] []) (v1 : Int32) (v2 : Int32) (v3 : Int32) (v5 : Int32) (k0 : Int32) (k1 : Int32) (σ : St) (h : RR vI Γ (f_X12_luck_78 K37 v1 v2 v3 v5 k0 k1 σ)) : WW Γ cX12_luck 7 RX12 (some .int) rX12_luck σ 78 [(0, .ref (xd Γ 58)), (1, .int v1), (2, .int v2), (3, .int v3), (5, .int v5)] [.int k0, .int k1] := by
  unfold f_X12_luck_78 at h
  refine w_iadd dX12_luck_78 rfl ?_
  refine w_nmI (fun x1 ex1 => ?_)
  replace h := h.bnd ex1
  clear ex1
  refine w_istore [(4, .int x1), (0, .ref (xd Γ 58)), (1, .int v1), (2, .int v2), (3, .int v3), (5, .int v5)] dX12_luck_79 (by decide) rfl rfl ?_
  obtain ⟨x2, ex2⟩ : ∃ y : Int32, y = (v5 + (1 : Int32)) := ⟨_, rfl⟩
  replace h := h.bnd ex2
  refine w_iinc 5 x2 [(5, .int x2), (4, .int x1), (0, .ref (xd Γ 58)), (1, .int v1), (2, .int v2), (3, .int v3)] dX12_luck_81 rfl (by rw [ex2, ic_iconst_1]) (by decide) rfl rfl ?_
  clear ex2
  refine w_goto (tgt := 37) dX12_luck_84 (by decide) ?_
  exact w_sub [2, 3, 4, 5, 1, 0] rfl (hK37 v1 v2 v3 x1 x2 σ h)
def f_X12_luck_77 (K37 : Int32 × Int32 × Int32 × Int32 × Int32 × St → Option (Int32 × St)) (v1 : Int32) (v2 : Int32) (v3 : Int32) (v5 : Int32) (k0 : Int32) (σ : St) : Option (Int32 × St) :=
  f_X12_luck_78 K37 v1 v2 v3 v5 (0 : Int32) k0 σ
theorem b_X12_luck_77 {Γ : CX} (K37 : Int32 × Int32 × Int32 × Int32 × Int32 × St → Option (Int32 × St)) (hK37 : ∀ (v1 : Int32) (v2 : Int32) (v3 : Int32) (v4 : Int32) (v5 : Int32) (σ : St), RR vI Γ (K37 (v1, v2, v3, v4, v5, σ)) → WW Γ cX12_luck 7 RX12 (some .int) rX12_luck σ 37 [(0, .ref (xd Γ 58)), (1, .int v1), (2, .int v2), (3, .int v3), (4, .int v4), (5, .int v5)] []) (v1 : Int32) (v2 : Int32) (v3 : Int32) (v5 : Int32) (k0 : Int32) (σ : St) (h : RR vI Γ (f_X12_luck_77 K37 v1 v2 v3 v5 k0 σ)) : WW Γ cX12_luck 7 RX12 (some .int) rX12_luck σ 77 [(0, .ref (xd Γ 58)), (1, .int v1), (2, .int v2), (3, .int v3), (5, .int v5)] [.int k0] := by
  unfold f_X12_luck_77 at h
  refine w_iconst (0 : Int32) dX12_luck_77 ic_iconst_0 rfl ?_
  exact w_sub [0, 1, 2, 3, 4] rfl (b_X12_luck_78 K37 hK37 v1 v2 v3 v5 (0 : Int32) k0 σ h)
def g_X12_luck_37 (K37 : Int32 × Int32 × Int32 × Int32 × Int32 × St → Option (Int32 × St)) (x : Int32 × Int32 × Int32 × Int32 × Int32 × St) : Option (Int32 × St) := match x with
  | (v1, v2, v3, v4, v5, σ) =>
  if v2 ≤ v5 then
    some (v4, σ)
  else
    bd (f_X12_drawnDelays (v1.toInt64 + v5.toInt64) σ) fun r1 s2 =>
    if r1 = (-1 : Int32) then
      f_X12_luck_77 K37 v1 v2 v3 v5 v4 s2
    else
      bd (f_X12_winner r1 s2) fun r4 s5 =>
      if r4 = v3 then
        f_X12_luck_78 K37 v1 v2 v3 v5 (1 : Int32) v4 s5
      else
        f_X12_luck_77 K37 v1 v2 v3 v5 v4 s5
theorem l_X12_luck_37 {Γ : CX} : ∀ (n : Nat) (v1 : Int32) (v2 : Int32) (v3 : Int32) (v4 : Int32) (v5 : Int32) (σ : St), RR vI Γ (itr (g_X12_luck_37) n (v1, v2, v3, v4, v5, σ)) → WW Γ cX12_luck 7 RX12 (some .int) rX12_luck σ 37 [(0, .ref (xd Γ 58)), (1, .int v1), (2, .int v2), (3, .int v3), (4, .int v4), (5, .int v5)] [] := by
  intro n
  induction n with
  | zero => intro v1 v2 v3 v4 v5 σ h; exact RR.no h
  | succ n hK37 =>
  intro v1 v2 v3 v4 v5 σ h
  have h : RR vI Γ (g_X12_luck_37 (itr (g_X12_luck_37) n) (v1, v2, v3, v4, v5, σ)) := h
  generalize itr (g_X12_luck_37) n = K37 at h hK37
  unfold g_X12_luck_37 at h
  dsimp only at h
  refine w_iload 5 dX12_luck_37 rfl rfl ?_
  refine w_iload_n 2 dX12_luck_39 rfl rfl rfl ?_
  refine w_icmp_ge (tgt := 87) dX12_luck_40 (by decide) rfl (fun q => ?_) (fun q => ?_)
  · have h := h.tt q
    refine w_iload 4 dX12_luck_87 rfl rfl ?_
    exact w_ireturn dX12_luck_89 h
  · have h := h.ff q
    refine w_aload_n 0 dX12_luck_43 rfl rfl rfl ?_
    refine w_iload_n 1 dX12_luck_44 rfl rfl rfl ?_
    refine w_i2l dX12_luck_45 rfl ?_
    refine w_iload 5 dX12_luck_46 rfl rfl ?_
    refine w_i2l dX12_luck_48 rfl ?_
    refine w_ladd dX12_luck_49 rfl ?_
    obtain ⟨r1, s2, h3, h⟩ := h.bd
    refine k_X12_drawnDelays ml_RX12_467 (Nat.le_of_ble_eq_true rfl) ⟨Nat.le_of_ble_eq_true rfl, Nat.le_of_ble_eq_true rfl⟩ dX12_luck_50 rfl h3 ?_
    refine w_istore [(6, .int r1), (0, .ref (xd Γ 58)), (1, .int v1), (2, .int v2), (3, .int v3), (4, .int v4), (5, .int v5)] dX12_luck_53 (by decide) rfl rfl ?_
    refine w_iload 5 dX12_luck_55 rfl rfl ?_
    refine w_iload 0 dX12_luck_57 rfl rfl ?_
    refine w_iconst (-1 : Int32) dX12_luck_59 ic_iconst_m1 rfl ?_
    refine w_icmp_eq (tgt := 77) dX12_luck_60 (by decide) rfl (fun q => ?_) (fun q => ?_)
    · have h := h.tt q
      exact w_sub [1, 2, 3, 4, 6] rfl (b_X12_luck_77 K37 hK37 v1 v2 v3 v5 v4 s2 h)
    · have h := h.ff q
      refine w_aload_n 1 dX12_luck_63 rfl rfl rfl ?_
      refine w_iload 0 dX12_luck_64 rfl rfl ?_
      obtain ⟨r4, s5, h6, h⟩ := h.bd
      refine k_X12_winner ml_RX12_269 (Nat.le_of_ble_eq_true rfl) ⟨Nat.le_of_ble_eq_true rfl, Nat.le_of_ble_eq_true rfl⟩ dX12_luck_66 rfl h6 ?_
      refine w_iload_n 4 dX12_luck_69 rfl rfl rfl ?_
      refine w_icmp_ne (tgt := 77) dX12_luck_70 (by decide) rfl (fun q => ?_) (fun q => ?_)
      · have h := h.ff q
        exact w_sub [1, 2, 3, 4, 6] rfl (b_X12_luck_77 K37 hK37 v1 v2 v3 v5 v4 s5 h)
      · have h := h.tt q
        refine w_iconst (1 : Int32) dX12_luck_73 ic_iconst_1 rfl ?_
        refine w_goto (tgt := 78) dX12_luck_74 (by decide) ?_
        exact w_sub [1, 2, 3, 4, 6] rfl (b_X12_luck_78 K37 hK37 v1 v2 v3 v5 (1 : Int32) v4 s5 h)
def f_X12_luck (p0 : Int32) (p1 : Int32) (p2 : Int32) (σ : St) : Option (Int32 × St) :=
  bd (f_X12_isSeed p0 σ) fun r1 s2 =>
  if r1 = 0 then
    f_X12_luck_28 s2
  else
    bd (f_X12_in p1.toInt64 (1 : Int64) (20 : Int64) s2) fun r4 s5 =>
    if r4 = 0 then
      f_X12_luck_28 s5
    else
      bd (f_X12_isSide p2 s5) fun r7 s8 =>
      if r7 = 0 then
        f_X12_luck_28 s8
      else
        itr (g_X12_luck_37) FU (p0, p1, p2, (0 : Int32), (0 : Int32), s8)
theorem e_X12_luck {Γ : CX} (p0 : Int32) (p1 : Int32) (p2 : Int32) (σ : St) (h : RR vI Γ (f_X12_luck p0 p1 p2 σ)) : WW Γ cX12_luck 7 RX12 (some .int) rX12_luck σ 0 [(0, .ref (xd Γ 58)), (1, .int p0), (2, .int p1), (3, .int p2)] [] := by
  unfold f_X12_luck at h
  refine w_aload_n 0 dX12_luck_0 rfl rfl rfl ?_
  refine w_iload_n 1 dX12_luck_1 rfl rfl rfl ?_
  obtain ⟨r1, s2, h3, h⟩ := h.bd
  refine k_X12_isSeed ml_RX12_464 (Nat.le_of_ble_eq_true rfl) ⟨Nat.le_of_ble_eq_true rfl, Nat.le_of_ble_eq_true rfl⟩ dX12_luck_2 rfl h3 ?_
  refine w_if_eq (tgt := 28) dX12_luck_5 (by decide) rfl (fun q => ?_) (fun q => ?_)
  · have h := h.tt q
    exact w_sub [] rfl (b_X12_luck_28 s2 h)
  · have h := h.ff q
    refine w_iload_n 2 dX12_luck_8 rfl rfl rfl ?_
    refine w_i2l dX12_luck_9 rfl ?_
    refine w_lconst (1 : Int64) dX12_luck_10 rfl rfl ?_
    refine w_ldc2_w (20 : Int64) dX12_luck_11 cl_RX12_471 rfl ?_
    obtain ⟨r4, s5, h6, h⟩ := h.bd
    refine k_X12_in ml_RX12_70 (Nat.le_of_ble_eq_true rfl) ⟨Nat.le_of_ble_eq_true rfl, Nat.le_of_ble_eq_true rfl⟩ dX12_luck_14 rfl h6 ?_
    refine w_if_eq (tgt := 28) dX12_luck_17 (by decide) rfl (fun q => ?_) (fun q => ?_)
    · have h := h.tt q
      exact w_sub [] rfl (b_X12_luck_28 s5 h)
    · have h := h.ff q
      refine w_aload_n 0 dX12_luck_20 rfl rfl rfl ?_
      refine w_iload_n 3 dX12_luck_21 rfl rfl rfl ?_
      obtain ⟨r7, s8, h9, h⟩ := h.bd
      refine k_X12_isSide ml_RX12_236 (Nat.le_of_ble_eq_true rfl) ⟨Nat.le_of_ble_eq_true rfl, Nat.le_of_ble_eq_true rfl⟩ dX12_luck_22 rfl h9 ?_
      refine w_if_ne (tgt := 31) dX12_luck_25 (by decide) rfl (fun q => ?_) (fun q => ?_)
      · have h := h.ff q
        refine w_iconst (0 : Int32) dX12_luck_31 ic_iconst_0 rfl ?_
        refine w_istore [(4, .int (0 : Int32)), (0, .ref (xd Γ 58)), (1, .int p0), (2, .int p1), (3, .int p2)] dX12_luck_32 (by decide) rfl rfl ?_
        refine w_iconst (0 : Int32) dX12_luck_34 ic_iconst_0 rfl ?_
        refine w_istore [(5, .int (0 : Int32)), (4, .int (0 : Int32)), (0, .ref (xd Γ 58)), (1, .int p0), (2, .int p1), (3, .int p2)] dX12_luck_35 (by decide) rfl rfl ?_
        exact w_sub [2, 3, 4, 5, 1, 0] rfl (l_X12_luck_37 FU p0 p1 p2 (0 : Int32) (0 : Int32) s8 h)
      · have h := h.tt q
        exact w_sub [] rfl (b_X12_luck_28 s8 h)
theorem c_X12_luck {l : Launch} {D : va_G} {cy : Nat → ClassId} {ad : Nat → Nat} {p0 : Int32} {p1 : Int32} {p2 : Int32} {σ σ' : St} {r : Int32} (hf : f_X12_luck p0 p1 p2 σ = some (r, σ')) : CT l D cy ad yX12_luck cX12_luck 7 (some .int) rX12_luck [.ref (ad 58), .int p0, .int p1, .int p2] σ (some (.int r)) σ' :=
  ct_of (by decide) (Nat.le_of_ble_eq_true rfl) (fun p e s m args below meth c A => e_X12_luck (Γ := (p, l, e, rX12_luck, s, m, args, below, meth, c, D, cy, ad, A, 0, 0, MQ below (QC D cy ad (some (.int r)) σ' A) args s 0 0 A)) p0 p1 p2 σ ⟨_, hf, rfl⟩)
theorem k_X12_luck {Γ : CX} {cc : ByteArray} {nL : Nat} {own : String} {ret : Option FieldType} {rm : Room} {σ σ' : St} {pc pc' idx : Nat} {lv : List (Nat × Value)} {rest : List Value} {p0 : Int32} {p1 : Int32} {p2 : Int32} {r : Int32} (hl : Cond.methodLink own idx yX12_luck ∈ TB) (hw : (rest.map fun v => v.category).sum ≤ 8) (hR : rX12_luck.frames + 1 ≤ rm.frames ∧ 8 + (7 + 11) + rX12_luck.locals ≤ rm.locals) (hd : decode cc pc = .ok (.invokevirtual idx, 3)) (hp : pc + 3 = pc') (hf : f_X12_luck p0 p1 p2 σ = some (r, σ')) (h : WW Γ cc nL own ret rm σ' pc' lv (.int r :: rest)) : WW Γ cc nL own ret rm σ pc lv (.int p2 :: .int p1 :: .int p0 :: .ref (xd Γ 58) :: rest) :=
  w_callV (nn := 3) (i := 58) (As := [.int p0, .int p1, .int p2]) (v := (some (.int r))) (T := TX12) (N := 32) (c_X12_luck hf) hl mw_X12_luck (by decide +kernel) ⟨rfl, rfl⟩ hR (lt_lit (by decide)) cel_58 rfl rfl hw hd rfl hp h
/-! WarByHoursModel.count (I)I -/
def rX12_count : Room := { frames := 0, cells := 0, slots := 0, locals := 0 }
def f_X12_count_178 (K157 : Int32 × Int32 × St → Option (Int32 × St)) (v3 : Int32) (k0 : Int32) (k1 : Int32) (σ : St) : Option (Int32 × St) :=
  bnd ((k1 + k0)) fun x1 =>
  bnd (v3 + (1 : Int32)) fun x2 =>
  K157 (x1, x2, σ)
theorem b_X12_count_178 {Γ : CX} (K157 : Int32 × Int32 × St → Option (Int32 × St)) (hK157 : ∀ (v2 : Int32) (v3 : Int32) (σ : St), RR vI Γ (K157 (v2, v3, σ)) → WW Γ cX12_count 4 RX12 (some .int) rX12_count σ 157 [(0, .ref (xd Γ 58)), (2, .int v2), (3, .int v3)] []) (v3 : Int32) (k0 : Int32) (k1 : Int32) (σ : St) (h : RR vI Γ (f_X12_count_178 K157 v3 k0 k1 σ)) : WW Γ cX12_count 4 RX12 (some .int) rX12_count σ 178 [(0, .ref (xd Γ 58)), (3, .int v3)] [.int k0, .int k1] := by
  unfold f_X12_count_178 at h
  refine w_iadd dX12_count_178 rfl ?_
  refine w_nmI (fun x1 ex1 => ?_)
  replace h := h.bnd ex1
  clear ex1
  refine w_istore_n [(2, .int x1), (0, .ref (xd Γ 58)), (3, .int v3)] dX12_count_179 rfl (by decide) rfl rfl ?_
  obtain ⟨x2, ex2⟩ : ∃ y : Int32, y = (v3 + (1 : Int32)) := ⟨_, rfl⟩
  replace h := h.bnd ex2
  refine w_iinc 2 x2 [(3, .int x2), (2, .int x1), (0, .ref (xd Γ 58))] dX12_count_180 rfl (by rw [ex2, ic_iconst_1]) (by decide) rfl rfl ?_
  clear ex2
  refine w_goto (tgt := 157) dX12_count_183 (by decide) ?_
  exact w_sub [2, 1, 0] rfl (hK157 x1 x2 σ h)
def g_X12_count_157 (K157 : Int32 × Int32 × St → Option (Int32 × St)) (x : Int32 × Int32 × St) : Option (Int32 × St) := match x with
  | (v2, v3, σ) =>
  if (4 : Int32) ≤ v3 then
    some (v2, σ)
  else
    gd (inb v3 (ln 71)) <|
    if (gr σ 71 v3.toNatClampNeg) = (-1 : Int32) then
      f_X12_count_178 K157 v3 (0 : Int32) v2 σ
    else
      f_X12_count_178 K157 v3 (1 : Int32) v2 σ
theorem l_X12_count_157 {Γ : CX} : ∀ (n : Nat) (v2 : Int32) (v3 : Int32) (σ : St), RR vI Γ (itr (g_X12_count_157) n (v2, v3, σ)) → WW Γ cX12_count 4 RX12 (some .int) rX12_count σ 157 [(0, .ref (xd Γ 58)), (2, .int v2), (3, .int v3)] [] := by
  intro n
  induction n with
  | zero => intro v2 v3 σ h; exact RR.no h
  | succ n hK157 =>
  intro v2 v3 σ h
  have h : RR vI Γ (g_X12_count_157 (itr (g_X12_count_157) n) (v2, v3, σ)) := h
  generalize itr (g_X12_count_157) n = K157 at h hK157
  unfold g_X12_count_157 at h
  dsimp only at h
  refine w_iload_n 2 dX12_count_157 rfl rfl rfl ?_
  refine w_iconst (4 : Int32) dX12_count_158 ic_iconst_4 rfl ?_
  refine w_icmp_ge (tgt := 186) dX12_count_159 (by decide) rfl (fun q => ?_) (fun q => ?_)
  · have h := h.tt q
    refine w_iload_n 1 dX12_count_186 rfl rfl rfl ?_
    exact w_ireturn dX12_count_187 h
  · have h := h.ff q
    refine w_iload_n 1 dX12_count_162 rfl rfl rfl ?_
    refine w_aload_n 0 dX12_count_163 rfl rfl rfl ?_
    refine gf_RX12_52 dX12_count_164 rfl ?_
    refine w_iload_n 2 dX12_count_167 rfl rfl rfl ?_
    obtain ⟨hi1, h⟩ := h.gd
    refine w_iald (i := 71) (lt_lit (by decide)) rfl hi1 dX12_count_168 rfl ?_
    refine w_iconst (-1 : Int32) dX12_count_169 ic_iconst_m1 rfl ?_
    refine w_icmp_ne (tgt := 177) dX12_count_170 (by decide) rfl (fun q => ?_) (fun q => ?_)
    · have h := h.ff q
      refine w_iconst (1 : Int32) dX12_count_177 ic_iconst_1 rfl ?_
      exact w_sub [0, 2] rfl (b_X12_count_178 K157 hK157 v3 (1 : Int32) v2 σ h)
    · have h := h.tt q
      refine w_iconst (0 : Int32) dX12_count_173 ic_iconst_0 rfl ?_
      refine w_goto (tgt := 178) dX12_count_174 (by decide) ?_
      exact w_sub [0, 2] rfl (b_X12_count_178 K157 hK157 v3 (0 : Int32) v2 σ h)
def f_X12_count (p0 : Int32) (σ : St) : Option (Int32 × St) :=
  if p0 = (0 : Int32) then
    gd (inb (0 : Int32) (ln 59)) <|
    some ((gr σ 59 (0 : Int32).toNatClampNeg), σ)
  else
  if p0 = (1 : Int32) then
    gd (inb (1 : Int32) (ln 59)) <|
    some ((gr σ 59 (1 : Int32).toNatClampNeg), σ)
  else
  if p0 = (2 : Int32) then
    gd (inb (2 : Int32) (ln 59)) <|
    some ((gr σ 59 (2 : Int32).toNatClampNeg), σ)
  else
  if p0 = (3 : Int32) then
    gd (inb (3 : Int32) (ln 59)) <|
    some ((gr σ 59 (3 : Int32).toNatClampNeg), σ)
  else
  if p0 = (4 : Int32) then
    gd (inb (4 : Int32) (ln 59)) <|
    some ((gr σ 59 (4 : Int32).toNatClampNeg), σ)
  else
  if p0 = (5 : Int32) then
    gd (inb (5 : Int32) (ln 59)) <|
    some ((gr σ 59 (5 : Int32).toNatClampNeg), σ)
  else
  if p0 = (6 : Int32) then
    gd (inb (6 : Int32) (ln 59)) <|
    some ((gr σ 59 (6 : Int32).toNatClampNeg), σ)
  else
  if p0 = (7 : Int32) then
    gd (inb (7 : Int32) (ln 59)) <|
    some ((gr σ 59 (7 : Int32).toNatClampNeg), σ)
  else
  if p0 = (8 : Int32) then
    gd (inb (8 : Int32) (ln 59)) <|
    some ((gr σ 59 (8 : Int32).toNatClampNeg), σ)
  else
  if p0 = (9 : Int32) then
    gd (inb (9 : Int32) (ln 59)) <|
    some ((gr σ 59 (9 : Int32).toNatClampNeg), σ)
  else
  if p0 = (10 : Int32) then
    some ((gf σ 58 5), σ)
  else
  if p0 = (11 : Int32) then
    gd (inb (10 : Int32) (ln 59)) <|
    some ((gr σ 59 (10 : Int32).toNatClampNeg), σ)
  else
  if p0 = (12 : Int32) then
    itr (g_X12_count_157) FU ((0 : Int32), (0 : Int32), σ)
  else
    some ((-1 : Int32), σ)
theorem e_X12_count {Γ : CX} (p0 : Int32) (σ : St) (h : RR vI Γ (f_X12_count p0 σ)) : WW Γ cX12_count 4 RX12 (some .int) rX12_count σ 0 [(0, .ref (xd Γ 58)), (1, .int p0)] [] := by
  unfold f_X12_count at h
  refine w_iconst (0 : Int32) dX12_count_0 ic_iconst_0 rfl ?_
  refine w_istore_n [(2, .int (0 : Int32)), (0, .ref (xd Γ 58)), (1, .int p0)] dX12_count_1 rfl (by decide) rfl rfl ?_
  refine w_iload_n 2 dX12_count_2 rfl rfl rfl ?_
  by_cases q0 : p0 = (0 : Int32)
  · have h := h.tt q0
    refine w_tsw (0 : Int32) q0 (tgt := 68) dX12_count_3 (by decide) (by decide) rfl (by decide) ?_
    refine w_aload_n 1 dX12_count_68 rfl rfl rfl ?_
    refine gf_RX12_9 dX12_count_69 rfl ?_
    refine w_iconst (0 : Int32) dX12_count_72 ic_iconst_0 rfl ?_
    obtain ⟨hi1, h⟩ := h.gd
    refine w_iald (i := 59) (lt_lit (by decide)) rfl hi1 dX12_count_73 rfl ?_
    exact w_ireturn dX12_count_74 h
  have h := h.ff q0
  by_cases q1 : p0 = (1 : Int32)
  · have h := h.tt q1
    refine w_tsw (1 : Int32) q1 (tgt := 75) dX12_count_3 (by decide) (by decide) rfl (by decide) ?_
    refine w_aload_n 1 dX12_count_75 rfl rfl rfl ?_
    refine gf_RX12_9 dX12_count_76 rfl ?_
    refine w_iconst (1 : Int32) dX12_count_79 ic_iconst_1 rfl ?_
    obtain ⟨hi2, h⟩ := h.gd
    refine w_iald (i := 59) (lt_lit (by decide)) rfl hi2 dX12_count_80 rfl ?_
    exact w_ireturn dX12_count_81 h
  have h := h.ff q1
  by_cases q2 : p0 = (2 : Int32)
  · have h := h.tt q2
    refine w_tsw (2 : Int32) q2 (tgt := 82) dX12_count_3 (by decide) (by decide) rfl (by decide) ?_
    refine w_aload_n 1 dX12_count_82 rfl rfl rfl ?_
    refine gf_RX12_9 dX12_count_83 rfl ?_
    refine w_iconst (2 : Int32) dX12_count_86 ic_iconst_2 rfl ?_
    obtain ⟨hi3, h⟩ := h.gd
    refine w_iald (i := 59) (lt_lit (by decide)) rfl hi3 dX12_count_87 rfl ?_
    exact w_ireturn dX12_count_88 h
  have h := h.ff q2
  by_cases q3 : p0 = (3 : Int32)
  · have h := h.tt q3
    refine w_tsw (3 : Int32) q3 (tgt := 89) dX12_count_3 (by decide) (by decide) rfl (by decide) ?_
    refine w_aload_n 1 dX12_count_89 rfl rfl rfl ?_
    refine gf_RX12_9 dX12_count_90 rfl ?_
    refine w_iconst (3 : Int32) dX12_count_93 ic_iconst_3 rfl ?_
    obtain ⟨hi4, h⟩ := h.gd
    refine w_iald (i := 59) (lt_lit (by decide)) rfl hi4 dX12_count_94 rfl ?_
    exact w_ireturn dX12_count_95 h
  have h := h.ff q3
  by_cases q4 : p0 = (4 : Int32)
  · have h := h.tt q4
    refine w_tsw (4 : Int32) q4 (tgt := 96) dX12_count_3 (by decide) (by decide) rfl (by decide) ?_
    refine w_aload_n 1 dX12_count_96 rfl rfl rfl ?_
    refine gf_RX12_9 dX12_count_97 rfl ?_
    refine w_iconst (4 : Int32) dX12_count_100 ic_iconst_4 rfl ?_
    obtain ⟨hi5, h⟩ := h.gd
    refine w_iald (i := 59) (lt_lit (by decide)) rfl hi5 dX12_count_101 rfl ?_
    exact w_ireturn dX12_count_102 h
  have h := h.ff q4
  by_cases q5 : p0 = (5 : Int32)
  · have h := h.tt q5
    refine w_tsw (5 : Int32) q5 (tgt := 103) dX12_count_3 (by decide) (by decide) rfl (by decide) ?_
    refine w_aload_n 1 dX12_count_103 rfl rfl rfl ?_
    refine gf_RX12_9 dX12_count_104 rfl ?_
    refine w_iconst (5 : Int32) dX12_count_107 ic_iconst_5 rfl ?_
    obtain ⟨hi6, h⟩ := h.gd
    refine w_iald (i := 59) (lt_lit (by decide)) rfl hi6 dX12_count_108 rfl ?_
    exact w_ireturn dX12_count_109 h
  have h := h.ff q5
  by_cases q6 : p0 = (6 : Int32)
  · have h := h.tt q6
    refine w_tsw (6 : Int32) q6 (tgt := 110) dX12_count_3 (by decide) (by decide) rfl (by decide) ?_
    refine w_aload_n 1 dX12_count_110 rfl rfl rfl ?_
    refine gf_RX12_9 dX12_count_111 rfl ?_
    refine w_bipush (6 : Int32) dX12_count_114 ic_bipush_6 rfl ?_
    obtain ⟨hi7, h⟩ := h.gd
    refine w_iald (i := 59) (lt_lit (by decide)) rfl hi7 dX12_count_116 rfl ?_
    exact w_ireturn dX12_count_117 h
  have h := h.ff q6
  by_cases q7 : p0 = (7 : Int32)
  · have h := h.tt q7
    refine w_tsw (7 : Int32) q7 (tgt := 118) dX12_count_3 (by decide) (by decide) rfl (by decide) ?_
    refine w_aload_n 1 dX12_count_118 rfl rfl rfl ?_
    refine gf_RX12_9 dX12_count_119 rfl ?_
    refine w_bipush (7 : Int32) dX12_count_122 ic_bipush_7 rfl ?_
    obtain ⟨hi8, h⟩ := h.gd
    refine w_iald (i := 59) (lt_lit (by decide)) rfl hi8 dX12_count_124 rfl ?_
    exact w_ireturn dX12_count_125 h
  have h := h.ff q7
  by_cases q8 : p0 = (8 : Int32)
  · have h := h.tt q8
    refine w_tsw (8 : Int32) q8 (tgt := 126) dX12_count_3 (by decide) (by decide) rfl (by decide) ?_
    refine w_aload_n 1 dX12_count_126 rfl rfl rfl ?_
    refine gf_RX12_9 dX12_count_127 rfl ?_
    refine w_bipush (8 : Int32) dX12_count_130 ic_bipush_8 rfl ?_
    obtain ⟨hi9, h⟩ := h.gd
    refine w_iald (i := 59) (lt_lit (by decide)) rfl hi9 dX12_count_132 rfl ?_
    exact w_ireturn dX12_count_133 h
  have h := h.ff q8
  by_cases q9 : p0 = (9 : Int32)
  · have h := h.tt q9
    refine w_tsw (9 : Int32) q9 (tgt := 134) dX12_count_3 (by decide) (by decide) rfl (by decide) ?_
    refine w_aload_n 1 dX12_count_134 rfl rfl rfl ?_
    refine gf_RX12_9 dX12_count_135 rfl ?_
    refine w_bipush (9 : Int32) dX12_count_138 ic_bipush_9 rfl ?_
    obtain ⟨hi10, h⟩ := h.gd
    refine w_iald (i := 59) (lt_lit (by decide)) rfl hi10 dX12_count_140 rfl ?_
    exact w_ireturn dX12_count_141 h
  have h := h.ff q9
  by_cases q10 : p0 = (10 : Int32)
  · have h := h.tt q10
    refine w_tsw (10 : Int32) q10 (tgt := 142) dX12_count_3 (by decide) (by decide) rfl (by decide) ?_
    refine w_aload_n 1 dX12_count_142 rfl rfl rfl ?_
    refine gf_RX12_89 dX12_count_143 rfl ?_
    exact w_ireturn dX12_count_146 h
  have h := h.ff q10
  by_cases q11 : p0 = (11 : Int32)
  · have h := h.tt q11
    refine w_tsw (11 : Int32) q11 (tgt := 147) dX12_count_3 (by decide) (by decide) rfl (by decide) ?_
    refine w_aload_n 1 dX12_count_147 rfl rfl rfl ?_
    refine gf_RX12_9 dX12_count_148 rfl ?_
    refine w_bipush (10 : Int32) dX12_count_151 ic_bipush_10 rfl ?_
    obtain ⟨hi11, h⟩ := h.gd
    refine w_iald (i := 59) (lt_lit (by decide)) rfl hi11 dX12_count_153 rfl ?_
    exact w_ireturn dX12_count_154 h
  have h := h.ff q11
  by_cases q12 : p0 = (12 : Int32)
  · have h := h.tt q12
    refine w_tsw (12 : Int32) q12 (tgt := 155) dX12_count_3 (by decide) (by decide) rfl (by decide) ?_
    refine w_iconst (0 : Int32) dX12_count_155 ic_iconst_0 rfl ?_
    refine w_istore_n [(3, .int (0 : Int32)), (2, .int (0 : Int32)), (0, .ref (xd Γ 58)), (1, .int p0)] dX12_count_156 rfl (by decide) rfl rfl ?_
    exact w_sub [2, 1, 0] rfl (l_X12_count_157 FU (0 : Int32) (0 : Int32) σ h)
  have h := h.ff q12
  refine w_tableOut (tgt := 188) dX12_count_3 (by have z0 := i32_ne q0 (z := 0) rfl; have z1 := i32_ne q1 (z := 1) rfl; have z2 := i32_ne q2 (z := 2) rfl; have z3 := i32_ne q3 (z := 3) rfl; have z4 := i32_ne q4 (z := 4) rfl; have z5 := i32_ne q5 (z := 5) rfl; have z6 := i32_ne q6 (z := 6) rfl; have z7 := i32_ne q7 (z := 7) rfl; have z8 := i32_ne q8 (z := 8) rfl; have z9 := i32_ne q9 (z := 9) rfl; have z10 := i32_ne q10 (z := 10) rfl; have z11 := i32_ne q11 (z := 11) rfl; have z12 := i32_ne q12 (z := 12) rfl; omega) (by decide) ?_
  refine w_iconst (-1 : Int32) dX12_count_188 ic_iconst_m1 rfl ?_
  exact w_ireturn dX12_count_189 h
theorem c_X12_count {l : Launch} {D : va_G} {cy : Nat → ClassId} {ad : Nat → Nat} {p0 : Int32} {σ σ' : St} {r : Int32} (hf : f_X12_count p0 σ = some (r, σ')) : CT l D cy ad yX12_count cX12_count 4 (some .int) rX12_count [.ref (ad 58), .int p0] σ (some (.int r)) σ' :=
  ct_of (by decide) (Nat.le_of_ble_eq_true rfl) (fun p e s m args below meth c A => e_X12_count (Γ := (p, l, e, rX12_count, s, m, args, below, meth, c, D, cy, ad, A, 0, 0, MQ below (QC D cy ad (some (.int r)) σ' A) args s 0 0 A)) p0 σ ⟨_, hf, rfl⟩)
theorem k_X12_count {Γ : CX} {cc : ByteArray} {nL : Nat} {own : String} {ret : Option FieldType} {rm : Room} {σ σ' : St} {pc pc' idx : Nat} {lv : List (Nat × Value)} {rest : List Value} {p0 : Int32} {r : Int32} (hl : Cond.methodLink own idx yX12_count ∈ TB) (hw : (rest.map fun v => v.category).sum ≤ 8) (hR : rX12_count.frames + 1 ≤ rm.frames ∧ 8 + (4 + 11) + rX12_count.locals ≤ rm.locals) (hd : decode cc pc = .ok (.invokevirtual idx, 3)) (hp : pc + 3 = pc') (hf : f_X12_count p0 σ = some (r, σ')) (h : WW Γ cc nL own ret rm σ' pc' lv (.int r :: rest)) : WW Γ cc nL own ret rm σ pc lv (.int p0 :: .ref (xd Γ 58) :: rest) :=
  w_callV (nn := 1) (i := 58) (As := [.int p0]) (v := (some (.int r))) (T := TX12) (N := 32) (c_X12_count hf) hl mw_X12_count (by decide +kernel) ⟨rfl, rfl⟩ hR (lt_lit (by decide)) cel_58 rfl rfl hw hd rfl hp h
/-! WarByHoursModel.isSlot (I)Z -/
def rX12_isSlot : Room := { frames := 1, cells := 0, slots := 0, locals := 25 }
def f_X12_isSlot (p0 : Int32) (σ : St) : Option (Int32 × St) :=
  bd (f_X12_in p0.toInt64 (0 : Int64) (3 : Int64) σ) fun r1 s2 =>
  gd (bz r1) <| some (r1, s2)
theorem e_X12_isSlot {Γ : CX} (p0 : Int32) (σ : St) (h : RR vI Γ (f_X12_isSlot p0 σ)) : WW Γ cX12_isSlot 1 RX12 (some .boolean) rX12_isSlot σ 0 [(0, .int p0)] [] := by
  unfold f_X12_isSlot at h
  refine w_iload_n 0 dX12_isSlot_0 rfl rfl rfl ?_
  refine w_i2l dX12_isSlot_1 rfl ?_
  refine w_lconst (0 : Int64) dX12_isSlot_2 rfl rfl ?_
  refine w_ldc2_w (3 : Int64) dX12_isSlot_3 cl_RX12_242 rfl ?_
  obtain ⟨r1, s2, h3, h⟩ := h.bd
  refine k_X12_in ml_RX12_70 (Nat.le_of_ble_eq_true rfl) ⟨Nat.le_of_ble_eq_true rfl, Nat.le_of_ble_eq_true rfl⟩ dX12_isSlot_6 rfl h3 ?_
  obtain ⟨hb, h⟩ := h.gd
  exact w_zreturn dX12_isSlot_9 hb h
theorem c_X12_isSlot {l : Launch} {D : va_G} {cy : Nat → ClassId} {ad : Nat → Nat} {p0 : Int32} {σ σ' : St} {r : Int32} (hf : f_X12_isSlot p0 σ = some (r, σ')) : CT l D cy ad yX12_isSlot cX12_isSlot 1 (some .boolean) rX12_isSlot [.int p0] σ (some (.int r)) σ' :=
  ct_of (by decide) (Nat.le_of_ble_eq_true rfl) (fun p e s m args below meth c A => e_X12_isSlot (Γ := (p, l, e, rX12_isSlot, s, m, args, below, meth, c, D, cy, ad, A, 0, 0, MQ below (QC D cy ad (some (.int r)) σ' A) args s 0 0 A)) p0 σ ⟨_, hf, rfl⟩)
theorem k_X12_isSlot {Γ : CX} {cc : ByteArray} {nL : Nat} {own : String} {ret : Option FieldType} {rm : Room} {σ σ' : St} {pc pc' idx : Nat} {lv : List (Nat × Value)} {rest : List Value} {p0 : Int32} {r : Int32} (hl : Cond.methodLink own idx yX12_isSlot ∈ TB) (hw : (rest.map fun v => v.category).sum ≤ 8) (hR : rX12_isSlot.frames + 1 ≤ rm.frames ∧ 8 + (1 + 11) + rX12_isSlot.locals ≤ rm.locals) (hd : decode cc pc = .ok (.invokestatic idx, 3)) (hp : pc + 3 = pc') (hf : f_X12_isSlot p0 σ = some (r, σ')) (h : WW Γ cc nL own ret rm σ' pc' lv (.int r :: rest)) : WW Γ cc nL own ret rm σ pc lv (.int p0 :: rest) :=
  w_callS (nn := 1) (As := [.int p0]) (v := (some (.int r))) (c_X12_isSlot hf) hl mw_X12_isSlot (by decide +kernel) ⟨rfl, rfl⟩ hR rfl hw hd rfl hp h
/-! WarByHoursModel.cut (JI)J -/
def rX12_cut : Room := { frames := 0, cells := 0, slots := 0, locals := 0 }
def f_X12_cut (p0 : Int64) (p1 : Int32) (σ : St) : Option (Int64 × St) :=
  bnd (((64 : Int32) - ((8 : Int32) <<< (p1 &&& 31)))) fun x1 =>
  some (((p0 <<< (x1.toInt64 &&& 63)) >>> (x1.toInt64 &&& 63)), σ)
theorem e_X12_cut {Γ : CX} (p0 : Int64) (p1 : Int32) (σ : St) (h : RR vL Γ (f_X12_cut p0 p1 σ)) : WW Γ cX12_cut 4 RX12 (some .long) rX12_cut σ 0 [(0, .long p0), (2, .int p1)] [] := by
  unfold f_X12_cut at h
  refine w_bipush (64 : Int32) dX12_cut_0 ic_bipush_64 rfl ?_
  refine w_bipush (8 : Int32) dX12_cut_2 ic_bipush_8 rfl ?_
  refine w_iload_n 1 dX12_cut_4 rfl rfl rfl ?_
  refine w_ishl dX12_cut_5 rfl ?_
  refine w_isub dX12_cut_6 rfl ?_
  refine w_nmI (fun x1 ex1 => ?_)
  replace h := h.bnd ex1
  clear ex1
  refine w_istore_n [(3, .int x1), (0, .long p0), (2, .int p1)] dX12_cut_7 rfl (by decide) rfl rfl ?_
  refine w_lload_n 1 dX12_cut_8 rfl rfl rfl ?_
  refine w_iload_n 0 dX12_cut_9 rfl rfl rfl ?_
  refine w_lshl dX12_cut_10 rfl ?_
  refine w_iload_n 0 dX12_cut_11 rfl rfl rfl ?_
  refine w_lshr dX12_cut_12 rfl ?_
  exact w_lreturn dX12_cut_13 h
theorem c_X12_cut {l : Launch} {D : va_G} {cy : Nat → ClassId} {ad : Nat → Nat} {p0 : Int64} {p1 : Int32} {σ σ' : St} {r : Int64} (hf : f_X12_cut p0 p1 σ = some (r, σ')) : CT l D cy ad yX12_cut cX12_cut 4 (some .long) rX12_cut [.long p0, .int p1] σ (some (.long r)) σ' :=
  ct_of (by decide) (Nat.le_of_ble_eq_true rfl) (fun p e s m args below meth c A => e_X12_cut (Γ := (p, l, e, rX12_cut, s, m, args, below, meth, c, D, cy, ad, A, 0, 0, MQ below (QC D cy ad (some (.long r)) σ' A) args s 0 0 A)) p0 p1 σ ⟨_, hf, rfl⟩)
theorem k_X12_cut {Γ : CX} {cc : ByteArray} {nL : Nat} {own : String} {ret : Option FieldType} {rm : Room} {σ σ' : St} {pc pc' idx : Nat} {lv : List (Nat × Value)} {rest : List Value} {p0 : Int64} {p1 : Int32} {r : Int64} (hl : Cond.methodLink own idx yX12_cut ∈ TB) (hw : (rest.map fun v => v.category).sum ≤ 8) (hR : rX12_cut.frames + 1 ≤ rm.frames ∧ 8 + (4 + 11) + rX12_cut.locals ≤ rm.locals) (hd : decode cc pc = .ok (.invokestatic idx, 3)) (hp : pc + 3 = pc') (hf : f_X12_cut p0 p1 σ = some (r, σ')) (h : WW Γ cc nL own ret rm σ' pc' lv (.long r :: rest)) : WW Γ cc nL own ret rm σ pc lv (.int p1 :: .long p0 :: rest) :=
  w_callS (nn := 2) (As := [.long p0, .int p1]) (v := (some (.long r))) (c_X12_cut hf) hl mw_X12_cut (by decide +kernel) ⟨rfl, rfl⟩ hR rfl hw hd rfl hp h
/-! WarByHoursModel.row (III)I -/
def rX12_row : Room := { frames := 2, cells := 0, slots := 0, locals := 45 }
def f_X12_row_25 (σ : St) : Option (Int32 × St) :=
  some ((-2 : Int32), σ)
theorem b_X12_row_25 {Γ : CX} (σ : St) (h : RR vI Γ (f_X12_row_25 σ)) : WW Γ cX12_row 5 RX12 (some .int) rX12_row σ 25 [] [] := by
  unfold f_X12_row_25 at h
  refine w_bipush (-2 : Int32) dX12_row_25 ic_bipush_m2 rfl ?_
  exact w_ireturn dX12_row_27 h
def g_X12_row_52 (K52 : Int32 × Int32 × St → Option (Int32 × St)) (x : Int32 × Int32 × St) : Option (Int32 × St) := match x with
  | (v1, v4, σ) =>
  if (60 : Int32) ≤ v4 then
    some ((0 : Int32), σ)
  else
    gd (inb (((60 : Int32) * v1) + v4) (ln 73)) <|
    bnd (sj σ 73 (((60 : Int32) * v1) + v4).toNatClampNeg (0 : Int64)) fun s2 =>
    bnd (v4 + (1 : Int32)) fun x3 =>
    K52 (v1, x3, s2)
theorem l_X12_row_52 {Γ : CX} : ∀ (n : Nat) (v1 : Int32) (v4 : Int32) (σ : St), RR vI Γ (itr (g_X12_row_52) n (v1, v4, σ)) → WW Γ cX12_row 5 RX12 (some .int) rX12_row σ 52 [(0, .ref (xd Γ 58)), (1, .int v1), (4, .int v4)] [] := by
  intro n
  induction n with
  | zero => intro v1 v4 σ h; exact RR.no h
  | succ n hK52 =>
  intro v1 v4 σ h
  have h : RR vI Γ (g_X12_row_52 (itr (g_X12_row_52) n) (v1, v4, σ)) := h
  generalize itr (g_X12_row_52) n = K52 at h hK52
  unfold g_X12_row_52 at h
  dsimp only at h
  refine w_iload 2 dX12_row_52 rfl rfl ?_
  refine w_bipush (60 : Int32) dX12_row_54 ic_bipush_60 rfl ?_
  refine w_icmp_ge (tgt := 78) dX12_row_56 (by decide) rfl (fun q => ?_) (fun q => ?_)
  · have h := h.tt q
    refine w_iconst (0 : Int32) dX12_row_78 ic_iconst_0 rfl ?_
    exact w_ireturn dX12_row_79 h
  · have h := h.ff q
    refine w_aload_n 0 dX12_row_59 rfl rfl rfl ?_
    refine gf_RX12_58 dX12_row_60 rfl ?_
    refine w_bipush (60 : Int32) dX12_row_63 ic_bipush_60 rfl ?_
    refine w_iload_n 1 dX12_row_65 rfl rfl rfl ?_
    refine w_imul dX12_row_66 rfl ?_
    refine w_iload 2 dX12_row_67 rfl rfl ?_
    refine w_iadd dX12_row_69 rfl ?_
    refine w_lconst (0 : Int64) dX12_row_70 rfl rfl ?_
    obtain ⟨hi1, h⟩ := h.gd
    refine w_last (i := 73) (lt_lit (by decide)) rfl hi1 dX12_row_71 rfl ?_
    obtain ⟨s2, es2⟩ : ∃ y : St, y = (sj σ 73 (((60 : Int32) * v1) + v4).toNatClampNeg (0 : Int64)) := ⟨_, rfl⟩
    rw [← es2]
    replace h := h.bnd es2
    clear es2
    obtain ⟨x3, ex3⟩ : ∃ y : Int32, y = (v4 + (1 : Int32)) := ⟨_, rfl⟩
    replace h := h.bnd ex3
    refine w_iinc 2 x3 [(4, .int x3), (0, .ref (xd Γ 58)), (1, .int v1)] dX12_row_72 rfl (by rw [ex3, ic_iconst_1]) (by decide) rfl rfl ?_
    clear ex3
    refine w_goto (tgt := 52) dX12_row_75 (by decide) ?_
    exact w_sub [1, 2, 0] rfl (hK52 v1 x3 s2 h)
def f_X12_row (p0 : Int32) (p1 : Int32) (p2 : Int32) (σ : St) : Option (Int32 × St) :=
  bd (f_X12_isSlot p0 σ) fun r1 s2 =>
  if r1 = 0 then
    f_X12_row_25 s2
  else
    bd (f_X12_in p1.toInt64 (0 : Int64) (3 : Int64) s2) fun r4 s5 =>
    if r4 = 0 then
      f_X12_row_25 s5
    else
      if p2 ≤ (60 : Int32) then
        if 0 ≤ p2 then
          gd (inb p0 (ln 71)) <|
          bnd (sr s5 71 p0.toNatClampNeg p2) fun s8 =>
          gd (inb p0 (ln 72)) <|
          bnd (sr s8 72 p0.toNatClampNeg p1) fun s10 =>
          itr (g_X12_row_52) FU (p0, (0 : Int32), s10)
        else
          some ((-3 : Int32), s5)
      else
        f_X12_row_25 s5
theorem e_X12_row {Γ : CX} (p0 : Int32) (p1 : Int32) (p2 : Int32) (σ : St) (h : RR vI Γ (f_X12_row p0 p1 p2 σ)) : WW Γ cX12_row 5 RX12 (some .int) rX12_row σ 0 [(0, .ref (xd Γ 58)), (1, .int p0), (2, .int p1), (3, .int p2)] [] := by
  unfold f_X12_row at h
  refine w_iload_n 1 dX12_row_0 rfl rfl rfl ?_
  obtain ⟨r1, s2, h3, h⟩ := h.bd
  refine k_X12_isSlot ml_RX12_473 (Nat.le_of_ble_eq_true rfl) ⟨Nat.le_of_ble_eq_true rfl, Nat.le_of_ble_eq_true rfl⟩ dX12_row_1 rfl h3 ?_
  refine w_if_eq (tgt := 25) dX12_row_4 (by decide) rfl (fun q => ?_) (fun q => ?_)
  · have h := h.tt q
    exact w_sub [] rfl (b_X12_row_25 s2 h)
  · have h := h.ff q
    refine w_iload_n 2 dX12_row_7 rfl rfl rfl ?_
    refine w_i2l dX12_row_8 rfl ?_
    refine w_lconst (0 : Int64) dX12_row_9 rfl rfl ?_
    refine w_ldc2_w (3 : Int64) dX12_row_10 cl_RX12_242 rfl ?_
    obtain ⟨r4, s5, h6, h⟩ := h.bd
    refine k_X12_in ml_RX12_70 (Nat.le_of_ble_eq_true rfl) ⟨Nat.le_of_ble_eq_true rfl, Nat.le_of_ble_eq_true rfl⟩ dX12_row_13 rfl h6 ?_
    refine w_if_eq (tgt := 25) dX12_row_16 (by decide) rfl (fun q => ?_) (fun q => ?_)
    · have h := h.tt q
      exact w_sub [] rfl (b_X12_row_25 s5 h)
    · have h := h.ff q
      refine w_iload_n 3 dX12_row_19 rfl rfl rfl ?_
      refine w_bipush (60 : Int32) dX12_row_20 ic_bipush_60 rfl ?_
      refine w_icmp_le (tgt := 28) dX12_row_22 (by decide) rfl (fun q => ?_) (fun q => ?_)
      · have h := h.tt q
        refine w_iload_n 3 dX12_row_28 rfl rfl rfl ?_
        refine w_if_ge (tgt := 35) dX12_row_29 (by decide) rfl (fun q => ?_) (fun q => ?_)
        · have h := h.tt q
          refine w_aload_n 0 dX12_row_35 rfl rfl rfl ?_
          refine gf_RX12_52 dX12_row_36 rfl ?_
          refine w_iload_n 1 dX12_row_39 rfl rfl rfl ?_
          refine w_iload_n 3 dX12_row_40 rfl rfl rfl ?_
          obtain ⟨hi7, h⟩ := h.gd
          refine w_iast (i := 71) (lt_lit (by decide)) rfl hi7 dX12_row_41 rfl ?_
          obtain ⟨s8, es8⟩ : ∃ y : St, y = (sr s5 71 p0.toNatClampNeg p2) := ⟨_, rfl⟩
          rw [← es8]
          replace h := h.bnd es8
          clear es8
          refine w_aload_n 0 dX12_row_42 rfl rfl rfl ?_
          refine gf_RX12_55 dX12_row_43 rfl ?_
          refine w_iload_n 1 dX12_row_46 rfl rfl rfl ?_
          refine w_iload_n 2 dX12_row_47 rfl rfl rfl ?_
          obtain ⟨hi9, h⟩ := h.gd
          refine w_iast (i := 72) (lt_lit (by decide)) rfl hi9 dX12_row_48 rfl ?_
          obtain ⟨s10, es10⟩ : ∃ y : St, y = (sr s8 72 p0.toNatClampNeg p1) := ⟨_, rfl⟩
          rw [← es10]
          replace h := h.bnd es10
          clear es10
          refine w_iconst (0 : Int32) dX12_row_49 ic_iconst_0 rfl ?_
          refine w_istore [(4, .int (0 : Int32)), (0, .ref (xd Γ 58)), (1, .int p0), (2, .int p1), (3, .int p2)] dX12_row_50 (by decide) rfl rfl ?_
          exact w_sub [1, 2, 0] rfl (l_X12_row_52 FU p0 (0 : Int32) s10 h)
        · have h := h.ff q
          refine w_bipush (-3 : Int32) dX12_row_32 ic_bipush_m3 rfl ?_
          exact w_ireturn dX12_row_34 h
      · have h := h.ff q
        exact w_sub [] rfl (b_X12_row_25 s5 h)
theorem c_X12_row {l : Launch} {D : va_G} {cy : Nat → ClassId} {ad : Nat → Nat} {p0 : Int32} {p1 : Int32} {p2 : Int32} {σ σ' : St} {r : Int32} (hf : f_X12_row p0 p1 p2 σ = some (r, σ')) : CT l D cy ad yX12_row cX12_row 5 (some .int) rX12_row [.ref (ad 58), .int p0, .int p1, .int p2] σ (some (.int r)) σ' :=
  ct_of (by decide) (Nat.le_of_ble_eq_true rfl) (fun p e s m args below meth c A => e_X12_row (Γ := (p, l, e, rX12_row, s, m, args, below, meth, c, D, cy, ad, A, 0, 0, MQ below (QC D cy ad (some (.int r)) σ' A) args s 0 0 A)) p0 p1 p2 σ ⟨_, hf, rfl⟩)
theorem k_X12_row {Γ : CX} {cc : ByteArray} {nL : Nat} {own : String} {ret : Option FieldType} {rm : Room} {σ σ' : St} {pc pc' idx : Nat} {lv : List (Nat × Value)} {rest : List Value} {p0 : Int32} {p1 : Int32} {p2 : Int32} {r : Int32} (hl : Cond.methodLink own idx yX12_row ∈ TB) (hw : (rest.map fun v => v.category).sum ≤ 8) (hR : rX12_row.frames + 1 ≤ rm.frames ∧ 8 + (5 + 11) + rX12_row.locals ≤ rm.locals) (hd : decode cc pc = .ok (.invokevirtual idx, 3)) (hp : pc + 3 = pc') (hf : f_X12_row p0 p1 p2 σ = some (r, σ')) (h : WW Γ cc nL own ret rm σ' pc' lv (.int r :: rest)) : WW Γ cc nL own ret rm σ pc lv (.int p2 :: .int p1 :: .int p0 :: .ref (xd Γ 58) :: rest) :=
  w_callV (nn := 3) (i := 58) (As := [.int p0, .int p1, .int p2]) (v := (some (.int r))) (T := TX12) (N := 32) (c_X12_row hf) hl mw_X12_row (by decide +kernel) ⟨rfl, rfl⟩ hR (lt_lit (by decide)) cel_58 rfl rfl hw hd rfl hp h
/-! WarByHoursModel.write (IIJ)I -/
def rX12_write : Room := { frames := 2, cells := 0, slots := 0, locals := 45 }
def f_X12_write (p0 : Int32) (p1 : Int32) (p2 : Int64) (σ : St) : Option (Int32 × St) :=
  bd (f_X12_isSlot p0 σ) fun r1 s2 =>
  if r1 = 0 then
    some ((-2 : Int32), s2)
  else
    gd (inb p0 (ln 71)) <|
    if (gr s2 71 p0.toNatClampNeg) = (-1 : Int32) then
      some ((-6 : Int32), s2)
    else
      gd (inb p0 (ln 71)) <|
      bd (f_X12_in p1.toInt64 (0 : Int64) ((gr s2 71 p0.toNatClampNeg) - (1 : Int32)).toInt64 s2) fun r6 s7 =>
      if r6 = 0 then
        some ((-7 : Int32), s7)
      else
        gd (inb p0 (ln 72)) <|
        bd (f_X12_cut p2 (gr s7 72 p0.toNatClampNeg) s7) fun r10 s11 =>
        gd (inb (((60 : Int32) * p0) + p1) (ln 73)) <|
        bnd (sj s11 73 (((60 : Int32) * p0) + p1).toNatClampNeg r10) fun s14 =>
        some ((0 : Int32), s14)
theorem e_X12_write {Γ : CX} (p0 : Int32) (p1 : Int32) (p2 : Int64) (σ : St) (h : RR vI Γ (f_X12_write p0 p1 p2 σ)) : WW Γ cX12_write 5 RX12 (some .int) rX12_write σ 0 [(0, .ref (xd Γ 58)), (1, .int p0), (2, .int p1), (3, .long p2)] [] := by
  unfold f_X12_write at h
  refine w_iload_n 1 dX12_write_0 rfl rfl rfl ?_
  obtain ⟨r1, s2, h3, h⟩ := h.bd
  refine k_X12_isSlot ml_RX12_473 (Nat.le_of_ble_eq_true rfl) ⟨Nat.le_of_ble_eq_true rfl, Nat.le_of_ble_eq_true rfl⟩ dX12_write_1 rfl h3 ?_
  refine w_if_ne (tgt := 10) dX12_write_4 (by decide) rfl (fun q => ?_) (fun q => ?_)
  · have h := h.ff q
    refine w_aload_n 0 dX12_write_10 rfl rfl rfl ?_
    refine gf_RX12_52 dX12_write_11 rfl ?_
    refine w_iload_n 1 dX12_write_14 rfl rfl rfl ?_
    obtain ⟨hi4, h⟩ := h.gd
    refine w_iald (i := 71) (lt_lit (by decide)) rfl hi4 dX12_write_15 rfl ?_
    refine w_iconst (-1 : Int32) dX12_write_16 ic_iconst_m1 rfl ?_
    refine w_icmp_ne (tgt := 23) dX12_write_17 (by decide) rfl (fun q => ?_) (fun q => ?_)
    · have h := h.ff q
      refine w_iload_n 2 dX12_write_23 rfl rfl rfl ?_
      refine w_i2l dX12_write_24 rfl ?_
      refine w_lconst (0 : Int64) dX12_write_25 rfl rfl ?_
      refine w_aload_n 0 dX12_write_26 rfl rfl rfl ?_
      refine gf_RX12_52 dX12_write_27 rfl ?_
      refine w_iload_n 1 dX12_write_30 rfl rfl rfl ?_
      obtain ⟨hi5, h⟩ := h.gd
      refine w_iald (i := 71) (lt_lit (by decide)) rfl hi5 dX12_write_31 rfl ?_
      refine w_iconst (1 : Int32) dX12_write_32 ic_iconst_1 rfl ?_
      refine w_isub dX12_write_33 rfl ?_
      refine w_i2l dX12_write_34 rfl ?_
      obtain ⟨r6, s7, h8, h⟩ := h.bd
      refine k_X12_in ml_RX12_70 (Nat.le_of_ble_eq_true rfl) ⟨Nat.le_of_ble_eq_true rfl, Nat.le_of_ble_eq_true rfl⟩ dX12_write_35 rfl h8 ?_
      refine w_if_ne (tgt := 44) dX12_write_38 (by decide) rfl (fun q => ?_) (fun q => ?_)
      · have h := h.ff q
        refine w_aload_n 0 dX12_write_44 rfl rfl rfl ?_
        refine gf_RX12_58 dX12_write_45 rfl ?_
        refine w_bipush (60 : Int32) dX12_write_48 ic_bipush_60 rfl ?_
        refine w_iload_n 1 dX12_write_50 rfl rfl rfl ?_
        refine w_imul dX12_write_51 rfl ?_
        refine w_iload_n 2 dX12_write_52 rfl rfl rfl ?_
        refine w_iadd dX12_write_53 rfl ?_
        refine w_lload_n 3 dX12_write_54 rfl rfl rfl ?_
        refine w_aload_n 0 dX12_write_55 rfl rfl rfl ?_
        refine gf_RX12_55 dX12_write_56 rfl ?_
        refine w_iload_n 1 dX12_write_59 rfl rfl rfl ?_
        obtain ⟨hi9, h⟩ := h.gd
        refine w_iald (i := 72) (lt_lit (by decide)) rfl hi9 dX12_write_60 rfl ?_
        obtain ⟨r10, s11, h12, h⟩ := h.bd
        refine k_X12_cut ml_RX12_476 (Nat.le_of_ble_eq_true rfl) ⟨Nat.le_of_ble_eq_true rfl, Nat.le_of_ble_eq_true rfl⟩ dX12_write_61 rfl h12 ?_
        obtain ⟨hi13, h⟩ := h.gd
        refine w_last (i := 73) (lt_lit (by decide)) rfl hi13 dX12_write_64 rfl ?_
        obtain ⟨s14, es14⟩ : ∃ y : St, y = (sj s11 73 (((60 : Int32) * p0) + p1).toNatClampNeg r10) := ⟨_, rfl⟩
        rw [← es14]
        replace h := h.bnd es14
        clear es14
        refine w_iconst (0 : Int32) dX12_write_65 ic_iconst_0 rfl ?_
        exact w_ireturn dX12_write_66 h
      · have h := h.tt q
        refine w_bipush (-7 : Int32) dX12_write_41 ic_bipush_m7 rfl ?_
        exact w_ireturn dX12_write_43 h
    · have h := h.tt q
      refine w_bipush (-6 : Int32) dX12_write_20 ic_bipush_m6 rfl ?_
      exact w_ireturn dX12_write_22 h
  · have h := h.tt q
    refine w_bipush (-2 : Int32) dX12_write_7 ic_bipush_m2 rfl ?_
    exact w_ireturn dX12_write_9 h
theorem c_X12_write {l : Launch} {D : va_G} {cy : Nat → ClassId} {ad : Nat → Nat} {p0 : Int32} {p1 : Int32} {p2 : Int64} {σ σ' : St} {r : Int32} (hf : f_X12_write p0 p1 p2 σ = some (r, σ')) : CT l D cy ad yX12_write cX12_write 5 (some .int) rX12_write [.ref (ad 58), .int p0, .int p1, .long p2] σ (some (.int r)) σ' :=
  ct_of (by decide) (Nat.le_of_ble_eq_true rfl) (fun p e s m args below meth c A => e_X12_write (Γ := (p, l, e, rX12_write, s, m, args, below, meth, c, D, cy, ad, A, 0, 0, MQ below (QC D cy ad (some (.int r)) σ' A) args s 0 0 A)) p0 p1 p2 σ ⟨_, hf, rfl⟩)
theorem k_X12_write {Γ : CX} {cc : ByteArray} {nL : Nat} {own : String} {ret : Option FieldType} {rm : Room} {σ σ' : St} {pc pc' idx : Nat} {lv : List (Nat × Value)} {rest : List Value} {p0 : Int32} {p1 : Int32} {p2 : Int64} {r : Int32} (hl : Cond.methodLink own idx yX12_write ∈ TB) (hw : (rest.map fun v => v.category).sum ≤ 8) (hR : rX12_write.frames + 1 ≤ rm.frames ∧ 8 + (5 + 11) + rX12_write.locals ≤ rm.locals) (hd : decode cc pc = .ok (.invokevirtual idx, 3)) (hp : pc + 3 = pc') (hf : f_X12_write p0 p1 p2 σ = some (r, σ')) (h : WW Γ cc nL own ret rm σ' pc' lv (.int r :: rest)) : WW Γ cc nL own ret rm σ pc lv (.long p2 :: .int p1 :: .int p0 :: .ref (xd Γ 58) :: rest) :=
  w_callV (nn := 3) (i := 58) (As := [.int p0, .int p1, .long p2]) (v := (some (.int r))) (T := TX12) (N := 32) (c_X12_write hf) hl mw_X12_write (by decide +kernel) ⟨rfl, rfl⟩ hR (lt_lit (by decide)) cel_58 rfl rfl hw hd rfl hp h
/-! WarByHoursModel.paste (IIIII)I -/
def rX12_paste : Room := { frames := 2, cells := 0, slots := 0, locals := 45 }
def f_X12_paste_14 (σ : St) : Option (Int32 × St) :=
  some ((-2 : Int32), σ)
theorem b_X12_paste_14 {Γ : CX} (σ : St) (h : RR vI Γ (f_X12_paste_14 σ)) : WW Γ cX12_paste 7 RX12 (some .int) rX12_paste σ 14 [] [] := by
  unfold f_X12_paste_14 at h
  refine w_bipush (-2 : Int32) dX12_paste_14 ic_bipush_m2 rfl ?_
  exact w_ireturn dX12_paste_16 h
def f_X12_paste_37 (σ : St) : Option (Int32 × St) :=
  some ((-6 : Int32), σ)
theorem b_X12_paste_37 {Γ : CX} (σ : St) (h : RR vI Γ (f_X12_paste_37 σ)) : WW Γ cX12_paste 7 RX12 (some .int) rX12_paste σ 37 [] [] := by
  unfold f_X12_paste_37 at h
  refine w_bipush (-6 : Int32) dX12_paste_37 ic_bipush_m6 rfl ?_
  exact w_ireturn dX12_paste_39 h
def f_X12_paste_107 (σ : St) : Option (Int32 × St) :=
  some ((-7 : Int32), σ)
theorem b_X12_paste_107 {Γ : CX} (σ : St) (h : RR vI Γ (f_X12_paste_107 σ)) : WW Γ cX12_paste 7 RX12 (some .int) rX12_paste σ 107 [] [] := by
  unfold f_X12_paste_107 at h
  refine w_bipush (-7 : Int32) dX12_paste_107 ic_bipush_m7 rfl ?_
  exact w_ireturn dX12_paste_109 h
def g_X12_paste_150 (K150 : Int32 × Int32 × Int32 × Int32 × St → Option (Int32 × St)) (x : Int32 × Int32 × Int32 × Int32 × St) : Option (Int32 × St) := match x with
  | (v3, v4, v5, v6, σ) =>
  if v5 ≤ v6 then
    some ((0 : Int32), σ)
  else
    gd (inb v6 (ln 74)) <|
    gd (inb ((((60 : Int32) * v3) + v4) + v6) (ln 73)) <|
    bnd (sj σ 73 ((((60 : Int32) * v3) + v4) + v6).toNatClampNeg (gj σ 74 v6.toNatClampNeg)) fun s3 =>
    bnd (v6 + (1 : Int32)) fun x4 =>
    K150 (v3, v4, v5, x4, s3)
theorem l_X12_paste_150 {Γ : CX} : ∀ (n : Nat) (v3 : Int32) (v4 : Int32) (v5 : Int32) (v6 : Int32) (σ : St), RR vI Γ (itr (g_X12_paste_150) n (v3, v4, v5, v6, σ)) → WW Γ cX12_paste 7 RX12 (some .int) rX12_paste σ 150 [(0, .ref (xd Γ 58)), (3, .int v3), (4, .int v4), (5, .int v5), (6, .int v6)] [] := by
  intro n
  induction n with
  | zero => intro v3 v4 v5 v6 σ h; exact RR.no h
  | succ n hK150 =>
  intro v3 v4 v5 v6 σ h
  have h : RR vI Γ (g_X12_paste_150 (itr (g_X12_paste_150) n) (v3, v4, v5, v6, σ)) := h
  generalize itr (g_X12_paste_150) n = K150 at h hK150
  unfold g_X12_paste_150 at h
  dsimp only at h
  refine w_iload 4 dX12_paste_150 rfl rfl ?_
  refine w_iload 3 dX12_paste_152 rfl rfl ?_
  refine w_icmp_ge (tgt := 185) dX12_paste_154 (by decide) rfl (fun q => ?_) (fun q => ?_)
  · have h := h.tt q
    refine w_iconst (0 : Int32) dX12_paste_185 ic_iconst_0 rfl ?_
    exact w_ireturn dX12_paste_186 h
  · have h := h.ff q
    refine w_aload_n 0 dX12_paste_157 rfl rfl rfl ?_
    refine gf_RX12_58 dX12_paste_158 rfl ?_
    refine w_bipush (60 : Int32) dX12_paste_161 ic_bipush_60 rfl ?_
    refine w_iload_n 1 dX12_paste_163 rfl rfl rfl ?_
    refine w_imul dX12_paste_164 rfl ?_
    refine w_iload 2 dX12_paste_165 rfl rfl ?_
    refine w_iadd dX12_paste_167 rfl ?_
    refine w_iload 4 dX12_paste_168 rfl rfl ?_
    refine w_iadd dX12_paste_170 rfl ?_
    refine w_aload_n 0 dX12_paste_171 rfl rfl rfl ?_
    refine gf_RX12_62 dX12_paste_172 rfl ?_
    refine w_iload 4 dX12_paste_175 rfl rfl ?_
    obtain ⟨hi1, h⟩ := h.gd
    refine w_lald (i := 74) (lt_lit (by decide)) rfl hi1 dX12_paste_177 rfl ?_
    obtain ⟨hi2, h⟩ := h.gd
    refine w_last (i := 73) (lt_lit (by decide)) rfl hi2 dX12_paste_178 rfl ?_
    obtain ⟨s3, es3⟩ : ∃ y : St, y = (sj σ 73 ((((60 : Int32) * v3) + v4) + v6).toNatClampNeg (gj σ 74 v6.toNatClampNeg)) := ⟨_, rfl⟩
    rw [← es3]
    replace h := h.bnd es3
    clear es3
    obtain ⟨x4, ex4⟩ : ∃ y : Int32, y = (v6 + (1 : Int32)) := ⟨_, rfl⟩
    replace h := h.bnd ex4
    refine w_iinc 4 x4 [(6, .int x4), (0, .ref (xd Γ 58)), (3, .int v3), (4, .int v4), (5, .int v5)] dX12_paste_179 rfl (by rw [ex4, ic_iconst_1]) (by decide) rfl rfl ?_
    clear ex4
    refine w_goto (tgt := 150) dX12_paste_182 (by decide) ?_
    exact w_sub [1, 2, 3, 4, 0] rfl (hK150 v3 v4 v5 x4 s3 h)
def g_X12_paste_113 (K113 : Int32 × Int32 × Int32 × Int32 × Int32 × Int32 × St → Option (Int32 × St)) (x : Int32 × Int32 × Int32 × Int32 × Int32 × Int32 × St) : Option (Int32 × St) := match x with
  | (v1, v2, v3, v4, v5, v6, σ) =>
  if v5 ≤ v6 then
    itr (g_X12_paste_150) FU (v3, v4, v5, (0 : Int32), σ)
  else
    gd (inb ((((60 : Int32) * v1) + v2) + v6) (ln 73)) <|
    gd (inb v6 (ln 74)) <|
    bnd (sj σ 74 v6.toNatClampNeg (gj σ 73 ((((60 : Int32) * v1) + v2) + v6).toNatClampNeg)) fun s3 =>
    bnd (v6 + (1 : Int32)) fun x4 =>
    K113 (v1, v2, v3, v4, v5, x4, s3)
theorem l_X12_paste_113 {Γ : CX} : ∀ (n : Nat) (v1 : Int32) (v2 : Int32) (v3 : Int32) (v4 : Int32) (v5 : Int32) (v6 : Int32) (σ : St), RR vI Γ (itr (g_X12_paste_113) n (v1, v2, v3, v4, v5, v6, σ)) → WW Γ cX12_paste 7 RX12 (some .int) rX12_paste σ 113 [(0, .ref (xd Γ 58)), (1, .int v1), (2, .int v2), (3, .int v3), (4, .int v4), (5, .int v5), (6, .int v6)] [] := by
  intro n
  induction n with
  | zero => intro v1 v2 v3 v4 v5 v6 σ h; exact RR.no h
  | succ n hK113 =>
  intro v1 v2 v3 v4 v5 v6 σ h
  have h : RR vI Γ (g_X12_paste_113 (itr (g_X12_paste_113) n) (v1, v2, v3, v4, v5, v6, σ)) := h
  generalize itr (g_X12_paste_113) n = K113 at h hK113
  unfold g_X12_paste_113 at h
  dsimp only at h
  refine w_iload 6 dX12_paste_113 rfl rfl ?_
  refine w_iload 5 dX12_paste_115 rfl rfl ?_
  refine w_icmp_ge (tgt := 147) dX12_paste_117 (by decide) rfl (fun q => ?_) (fun q => ?_)
  · have h := h.tt q
    refine w_iconst (0 : Int32) dX12_paste_147 ic_iconst_0 rfl ?_
    refine w_istore [(6, .int (0 : Int32)), (0, .ref (xd Γ 58)), (1, .int v1), (2, .int v2), (3, .int v3), (4, .int v4), (5, .int v5)] dX12_paste_148 (by decide) rfl rfl ?_
    exact w_sub [1, 4, 5, 6, 0] rfl (l_X12_paste_150 FU v3 v4 v5 (0 : Int32) σ h)
  · have h := h.ff q
    refine w_aload_n 0 dX12_paste_120 rfl rfl rfl ?_
    refine gf_RX12_62 dX12_paste_121 rfl ?_
    refine w_iload 6 dX12_paste_124 rfl rfl ?_
    refine w_aload_n 0 dX12_paste_126 rfl rfl rfl ?_
    refine gf_RX12_58 dX12_paste_127 rfl ?_
    refine w_bipush (60 : Int32) dX12_paste_130 ic_bipush_60 rfl ?_
    refine w_iload_n 1 dX12_paste_132 rfl rfl rfl ?_
    refine w_imul dX12_paste_133 rfl ?_
    refine w_iload_n 2 dX12_paste_134 rfl rfl rfl ?_
    refine w_iadd dX12_paste_135 rfl ?_
    refine w_iload 6 dX12_paste_136 rfl rfl ?_
    refine w_iadd dX12_paste_138 rfl ?_
    obtain ⟨hi1, h⟩ := h.gd
    refine w_lald (i := 73) (lt_lit (by decide)) rfl hi1 dX12_paste_139 rfl ?_
    obtain ⟨hi2, h⟩ := h.gd
    refine w_last (i := 74) (lt_lit (by decide)) rfl hi2 dX12_paste_140 rfl ?_
    obtain ⟨s3, es3⟩ : ∃ y : St, y = (sj σ 74 v6.toNatClampNeg (gj σ 73 ((((60 : Int32) * v1) + v2) + v6).toNatClampNeg)) := ⟨_, rfl⟩
    rw [← es3]
    replace h := h.bnd es3
    clear es3
    obtain ⟨x4, ex4⟩ : ∃ y : Int32, y = (v6 + (1 : Int32)) := ⟨_, rfl⟩
    replace h := h.bnd ex4
    refine w_iinc 6 x4 [(6, .int x4), (0, .ref (xd Γ 58)), (1, .int v1), (2, .int v2), (3, .int v3), (4, .int v4), (5, .int v5)] dX12_paste_141 rfl (by rw [ex4, ic_iconst_1]) (by decide) rfl rfl ?_
    clear ex4
    refine w_goto (tgt := 113) dX12_paste_144 (by decide) ?_
    exact w_sub [1, 2, 3, 4, 5, 6, 0] rfl (hK113 v1 v2 v3 v4 v5 x4 s3 h)
def f_X12_paste (p0 : Int32) (p1 : Int32) (p2 : Int32) (p3 : Int32) (p4 : Int32) (σ : St) : Option (Int32 × St) :=
  bd (f_X12_isSlot p0 σ) fun r1 s2 =>
  if r1 = 0 then
    f_X12_paste_14 s2
  else
    bd (f_X12_isSlot p2 s2) fun r4 s5 =>
    if r4 = 0 then
      f_X12_paste_14 s5
    else
      gd (inb p0 (ln 71)) <|
      if (gr s5 71 p0.toNatClampNeg) = (-1 : Int32) then
        f_X12_paste_37 s5
      else
        gd (inb p2 (ln 71)) <|
        if (gr s5 71 p2.toNatClampNeg) = (-1 : Int32) then
          f_X12_paste_37 s5
        else
          gd (inb p0 (ln 72)) <|
          gd (inb p2 (ln 72)) <|
          if (gr s5 72 p0.toNatClampNeg) = (gr s5 72 p2.toNatClampNeg) then
            if p1 < 0 then
              f_X12_paste_107 s5
            else
              if p3 < 0 then
                f_X12_paste_107 s5
              else
                if p4 < 0 then
                f_X12_paste_107 s5
                else
                gd (inb p0 (ln 71)) <|
                if 0 < (lg_cmp (p1.toInt64 + p4.toInt64) (gr s5 71 p0.toNatClampNeg).toInt64) then
                f_X12_paste_107 s5
                else
                gd (inb p2 (ln 71)) <|
                if (lg_cmp (p3.toInt64 + p4.toInt64) (gr s5 71 p2.toNatClampNeg).toInt64) ≤ 0 then
                itr (g_X12_paste_113) FU (p0, p1, p2, p3, p4, (0 : Int32), s5)
                else
                f_X12_paste_107 s5
          else
            some ((-8 : Int32), s5)
theorem e_X12_paste {Γ : CX} (p0 : Int32) (p1 : Int32) (p2 : Int32) (p3 : Int32) (p4 : Int32) (σ : St) (h : RR vI Γ (f_X12_paste p0 p1 p2 p3 p4 σ)) : WW Γ cX12_paste 7 RX12 (some .int) rX12_paste σ 0 [(0, .ref (xd Γ 58)), (1, .int p0), (2, .int p1), (3, .int p2), (4, .int p3), (5, .int p4)] [] := by
  unfold f_X12_paste at h
  refine w_iload_n 1 dX12_paste_0 rfl rfl rfl ?_
  obtain ⟨r1, s2, h3, h⟩ := h.bd
  refine k_X12_isSlot ml_RX12_473 (Nat.le_of_ble_eq_true rfl) ⟨Nat.le_of_ble_eq_true rfl, Nat.le_of_ble_eq_true rfl⟩ dX12_paste_1 rfl h3 ?_
  refine w_if_eq (tgt := 14) dX12_paste_4 (by decide) rfl (fun q => ?_) (fun q => ?_)
  · have h := h.tt q
    exact w_sub [] rfl (b_X12_paste_14 s2 h)
  · have h := h.ff q
    refine w_iload_n 3 dX12_paste_7 rfl rfl rfl ?_
    obtain ⟨r4, s5, h6, h⟩ := h.bd
    refine k_X12_isSlot ml_RX12_473 (Nat.le_of_ble_eq_true rfl) ⟨Nat.le_of_ble_eq_true rfl, Nat.le_of_ble_eq_true rfl⟩ dX12_paste_8 rfl h6 ?_
    refine w_if_ne (tgt := 17) dX12_paste_11 (by decide) rfl (fun q => ?_) (fun q => ?_)
    · have h := h.ff q
      refine w_aload_n 0 dX12_paste_17 rfl rfl rfl ?_
      refine gf_RX12_52 dX12_paste_18 rfl ?_
      refine w_iload_n 1 dX12_paste_21 rfl rfl rfl ?_
      obtain ⟨hi7, h⟩ := h.gd
      refine w_iald (i := 71) (lt_lit (by decide)) rfl hi7 dX12_paste_22 rfl ?_
      refine w_iconst (-1 : Int32) dX12_paste_23 ic_iconst_m1 rfl ?_
      refine w_icmp_eq (tgt := 37) dX12_paste_24 (by decide) rfl (fun q => ?_) (fun q => ?_)
      · have h := h.tt q
        exact w_sub [] rfl (b_X12_paste_37 s5 h)
      · have h := h.ff q
        refine w_aload_n 0 dX12_paste_27 rfl rfl rfl ?_
        refine gf_RX12_52 dX12_paste_28 rfl ?_
        refine w_iload_n 3 dX12_paste_31 rfl rfl rfl ?_
        obtain ⟨hi8, h⟩ := h.gd
        refine w_iald (i := 71) (lt_lit (by decide)) rfl hi8 dX12_paste_32 rfl ?_
        refine w_iconst (-1 : Int32) dX12_paste_33 ic_iconst_m1 rfl ?_
        refine w_icmp_ne (tgt := 40) dX12_paste_34 (by decide) rfl (fun q => ?_) (fun q => ?_)
        · have h := h.ff q
          refine w_aload_n 0 dX12_paste_40 rfl rfl rfl ?_
          refine gf_RX12_55 dX12_paste_41 rfl ?_
          refine w_iload_n 1 dX12_paste_44 rfl rfl rfl ?_
          obtain ⟨hi9, h⟩ := h.gd
          refine w_iald (i := 72) (lt_lit (by decide)) rfl hi9 dX12_paste_45 rfl ?_
          refine w_aload_n 0 dX12_paste_46 rfl rfl rfl ?_
          refine gf_RX12_55 dX12_paste_47 rfl ?_
          refine w_iload_n 3 dX12_paste_50 rfl rfl rfl ?_
          obtain ⟨hi10, h⟩ := h.gd
          refine w_iald (i := 72) (lt_lit (by decide)) rfl hi10 dX12_paste_51 rfl ?_
          refine w_icmp_eq (tgt := 58) dX12_paste_52 (by decide) rfl (fun q => ?_) (fun q => ?_)
          · have h := h.tt q
            refine w_iload_n 2 dX12_paste_58 rfl rfl rfl ?_
            refine w_if_lt (tgt := 107) dX12_paste_59 (by decide) rfl (fun q => ?_) (fun q => ?_)
            · have h := h.tt q
              exact w_sub [] rfl (b_X12_paste_107 s5 h)
            · have h := h.ff q
              refine w_iload 4 dX12_paste_62 rfl rfl ?_
              refine w_if_lt (tgt := 107) dX12_paste_64 (by decide) rfl (fun q => ?_) (fun q => ?_)
              · have h := h.tt q
                exact w_sub [] rfl (b_X12_paste_107 s5 h)
              · have h := h.ff q
                refine w_iload 5 dX12_paste_67 rfl rfl ?_
                refine w_if_lt (tgt := 107) dX12_paste_69 (by decide) rfl (fun q => ?_) (fun q => ?_)
                · have h := h.tt q
                  exact w_sub [] rfl (b_X12_paste_107 s5 h)
                · have h := h.ff q
                  refine w_iload_n 2 dX12_paste_72 rfl rfl rfl ?_
                  refine w_i2l dX12_paste_73 rfl ?_
                  refine w_iload 5 dX12_paste_74 rfl rfl ?_
                  refine w_i2l dX12_paste_76 rfl ?_
                  refine w_ladd dX12_paste_77 rfl ?_
                  refine w_aload_n 0 dX12_paste_78 rfl rfl rfl ?_
                  refine gf_RX12_52 dX12_paste_79 rfl ?_
                  refine w_iload_n 1 dX12_paste_82 rfl rfl rfl ?_
                  obtain ⟨hi11, h⟩ := h.gd
                  refine w_iald (i := 71) (lt_lit (by decide)) rfl hi11 dX12_paste_83 rfl ?_
                  refine w_i2l dX12_paste_84 rfl ?_
                  refine w_lcmp dX12_paste_85 rfl ?_
                  refine w_if_gt (tgt := 107) dX12_paste_86 (by decide) rfl (fun q => ?_) (fun q => ?_)
                  · have h := h.tt q
                    exact w_sub [] rfl (b_X12_paste_107 s5 h)
                  · have h := h.ff q
                    refine w_iload 4 dX12_paste_89 rfl rfl ?_
                    refine w_i2l dX12_paste_91 rfl ?_
                    refine w_iload 5 dX12_paste_92 rfl rfl ?_
                    refine w_i2l dX12_paste_94 rfl ?_
                    refine w_ladd dX12_paste_95 rfl ?_
                    refine w_aload_n 0 dX12_paste_96 rfl rfl rfl ?_
                    refine gf_RX12_52 dX12_paste_97 rfl ?_
                    refine w_iload_n 3 dX12_paste_100 rfl rfl rfl ?_
                    obtain ⟨hi12, h⟩ := h.gd
                    refine w_iald (i := 71) (lt_lit (by decide)) rfl hi12 dX12_paste_101 rfl ?_
                    refine w_i2l dX12_paste_102 rfl ?_
                    refine w_lcmp dX12_paste_103 rfl ?_
                    refine w_if_le (tgt := 110) dX12_paste_104 (by decide) rfl (fun q => ?_) (fun q => ?_)
                    · have h := h.tt q
                      refine w_iconst (0 : Int32) dX12_paste_110 ic_iconst_0 rfl ?_
                      refine w_istore [(6, .int (0 : Int32)), (0, .ref (xd Γ 58)), (1, .int p0), (2, .int p1), (3, .int p2), (4, .int p3), (5, .int p4)] dX12_paste_111 (by decide) rfl rfl ?_
                      exact w_sub [1, 2, 3, 4, 5, 6, 0] rfl (l_X12_paste_113 FU p0 p1 p2 p3 p4 (0 : Int32) s5 h)
                    · have h := h.ff q
                      exact w_sub [] rfl (b_X12_paste_107 s5 h)
          · have h := h.ff q
            refine w_bipush (-8 : Int32) dX12_paste_55 ic_bipush_m8 rfl ?_
            exact w_ireturn dX12_paste_57 h
        · have h := h.tt q
          exact w_sub [] rfl (b_X12_paste_37 s5 h)
    · have h := h.tt q
      exact w_sub [] rfl (b_X12_paste_14 s5 h)
theorem c_X12_paste {l : Launch} {D : va_G} {cy : Nat → ClassId} {ad : Nat → Nat} {p0 : Int32} {p1 : Int32} {p2 : Int32} {p3 : Int32} {p4 : Int32} {σ σ' : St} {r : Int32} (hf : f_X12_paste p0 p1 p2 p3 p4 σ = some (r, σ')) : CT l D cy ad yX12_paste cX12_paste 7 (some .int) rX12_paste [.ref (ad 58), .int p0, .int p1, .int p2, .int p3, .int p4] σ (some (.int r)) σ' :=
  ct_of (by decide) (Nat.le_of_ble_eq_true rfl) (fun p e s m args below meth c A => e_X12_paste (Γ := (p, l, e, rX12_paste, s, m, args, below, meth, c, D, cy, ad, A, 0, 0, MQ below (QC D cy ad (some (.int r)) σ' A) args s 0 0 A)) p0 p1 p2 p3 p4 σ ⟨_, hf, rfl⟩)
theorem k_X12_paste {Γ : CX} {cc : ByteArray} {nL : Nat} {own : String} {ret : Option FieldType} {rm : Room} {σ σ' : St} {pc pc' idx : Nat} {lv : List (Nat × Value)} {rest : List Value} {p0 : Int32} {p1 : Int32} {p2 : Int32} {p3 : Int32} {p4 : Int32} {r : Int32} (hl : Cond.methodLink own idx yX12_paste ∈ TB) (hw : (rest.map fun v => v.category).sum ≤ 8) (hR : rX12_paste.frames + 1 ≤ rm.frames ∧ 8 + (7 + 11) + rX12_paste.locals ≤ rm.locals) (hd : decode cc pc = .ok (.invokevirtual idx, 3)) (hp : pc + 3 = pc') (hf : f_X12_paste p0 p1 p2 p3 p4 σ = some (r, σ')) (h : WW Γ cc nL own ret rm σ' pc' lv (.int r :: rest)) : WW Γ cc nL own ret rm σ pc lv (.int p4 :: .int p3 :: .int p2 :: .int p1 :: .int p0 :: .ref (xd Γ 58) :: rest) :=
  w_callV (nn := 5) (i := 58) (As := [.int p0, .int p1, .int p2, .int p3, .int p4]) (v := (some (.int r))) (T := TX12) (N := 32) (c_X12_paste hf) hl mw_X12_paste (by decide +kernel) ⟨rfl, rfl⟩ hR (lt_lit (by decide)) cel_58 rfl rfl hw hd rfl hp h
/-! java/lang/Integer.bitCount (I)I -/
def rJ6_bitCount_0f7a4 : Room := { frames := 0, cells := 0, slots := 0, locals := 0 }
def f_J6_bitCount_0f7a4 (p0 : Int32) (σ : St) : Option (Int32 × St) :=
  bnd ((p0 - ((p0.toUInt32 >>> ((1 : Int32).toUInt32 &&& Int32.toUInt32 31)).toInt32 &&& (1431655765 : Int32)))) fun x1 =>
  bnd (((x1 &&& (858993459 : Int32)) + ((x1.toUInt32 >>> ((2 : Int32).toUInt32 &&& Int32.toUInt32 31)).toInt32 &&& (858993459 : Int32)))) fun x2 =>
  bnd (((x2 + (x2.toUInt32 >>> ((4 : Int32).toUInt32 &&& Int32.toUInt32 31)).toInt32) &&& (252645135 : Int32))) fun x3 =>
  bnd ((x3 + (x3.toUInt32 >>> ((8 : Int32).toUInt32 &&& Int32.toUInt32 31)).toInt32)) fun x4 =>
  bnd ((x4 + (x4.toUInt32 >>> ((16 : Int32).toUInt32 &&& Int32.toUInt32 31)).toInt32)) fun x5 =>
  some ((x5 &&& (63 : Int32)), σ)
theorem e_J6_bitCount_0f7a4 {Γ : CX} (p0 : Int32) (σ : St) (h : RR vI Γ (f_J6_bitCount_0f7a4 p0 σ)) : WW Γ cJ6_bitCount_0f7a4 1 RJ6 (some .int) rJ6_bitCount_0f7a4 σ 0 [(0, .int p0)] [] := by
  unfold f_J6_bitCount_0f7a4 at h
  refine w_iload_n 0 dJ6_bitCount_0f7a4_0 rfl rfl rfl ?_
  refine w_iload_n 0 dJ6_bitCount_0f7a4_1 rfl rfl rfl ?_
  refine w_iconst (1 : Int32) dJ6_bitCount_0f7a4_2 ic_iconst_1 rfl ?_
  refine w_iushr dJ6_bitCount_0f7a4_3 rfl ?_
  refine w_ldc_w (1431655765 : Int32) dJ6_bitCount_0f7a4_4 cn_RJ6_265 rfl ?_
  refine w_iand dJ6_bitCount_0f7a4_7 rfl ?_
  refine w_isub dJ6_bitCount_0f7a4_8 rfl ?_
  refine w_nmI (fun x1 ex1 => ?_)
  replace h := h.bnd ex1
  clear ex1
  refine w_istore_n [(0, .int x1)] dJ6_bitCount_0f7a4_9 rfl (by decide) rfl rfl ?_
  refine w_iload_n 0 dJ6_bitCount_0f7a4_10 rfl rfl rfl ?_
  refine w_ldc_w (858993459 : Int32) dJ6_bitCount_0f7a4_11 cn_RJ6_266 rfl ?_
  refine w_iand dJ6_bitCount_0f7a4_14 rfl ?_
  refine w_iload_n 0 dJ6_bitCount_0f7a4_15 rfl rfl rfl ?_
  refine w_iconst (2 : Int32) dJ6_bitCount_0f7a4_16 ic_iconst_2 rfl ?_
  refine w_iushr dJ6_bitCount_0f7a4_17 rfl ?_
  refine w_ldc_w (858993459 : Int32) dJ6_bitCount_0f7a4_18 cn_RJ6_266 rfl ?_
  refine w_iand dJ6_bitCount_0f7a4_21 rfl ?_
  refine w_iadd dJ6_bitCount_0f7a4_22 rfl ?_
  refine w_nmI (fun x2 ex2 => ?_)
  replace h := h.bnd ex2
  clear ex2
  refine w_istore_n [(0, .int x2)] dJ6_bitCount_0f7a4_23 rfl (by decide) rfl rfl ?_
  refine w_iload_n 0 dJ6_bitCount_0f7a4_24 rfl rfl rfl ?_
  refine w_iload_n 0 dJ6_bitCount_0f7a4_25 rfl rfl rfl ?_
  refine w_iconst (4 : Int32) dJ6_bitCount_0f7a4_26 ic_iconst_4 rfl ?_
  refine w_iushr dJ6_bitCount_0f7a4_27 rfl ?_
  refine w_iadd dJ6_bitCount_0f7a4_28 rfl ?_
  refine w_ldc_w (252645135 : Int32) dJ6_bitCount_0f7a4_29 cn_RJ6_267 rfl ?_
  refine w_iand dJ6_bitCount_0f7a4_32 rfl ?_
  refine w_nmI (fun x3 ex3 => ?_)
  replace h := h.bnd ex3
  clear ex3
  refine w_istore_n [(0, .int x3)] dJ6_bitCount_0f7a4_33 rfl (by decide) rfl rfl ?_
  refine w_iload_n 0 dJ6_bitCount_0f7a4_34 rfl rfl rfl ?_
  refine w_iload_n 0 dJ6_bitCount_0f7a4_35 rfl rfl rfl ?_
  refine w_bipush (8 : Int32) dJ6_bitCount_0f7a4_36 ic_bipush_8 rfl ?_
  refine w_iushr dJ6_bitCount_0f7a4_38 rfl ?_
  refine w_iadd dJ6_bitCount_0f7a4_39 rfl ?_
  refine w_nmI (fun x4 ex4 => ?_)
  replace h := h.bnd ex4
  clear ex4
  refine w_istore_n [(0, .int x4)] dJ6_bitCount_0f7a4_40 rfl (by decide) rfl rfl ?_
  refine w_iload_n 0 dJ6_bitCount_0f7a4_41 rfl rfl rfl ?_
  refine w_iload_n 0 dJ6_bitCount_0f7a4_42 rfl rfl rfl ?_
  refine w_bipush (16 : Int32) dJ6_bitCount_0f7a4_43 ic_bipush_16 rfl ?_
  refine w_iushr dJ6_bitCount_0f7a4_45 rfl ?_
  refine w_iadd dJ6_bitCount_0f7a4_46 rfl ?_
  refine w_nmI (fun x5 ex5 => ?_)
  replace h := h.bnd ex5
  clear ex5
  refine w_istore_n [(0, .int x5)] dJ6_bitCount_0f7a4_47 rfl (by decide) rfl rfl ?_
  refine w_iload_n 0 dJ6_bitCount_0f7a4_48 rfl rfl rfl ?_
  refine w_bipush (63 : Int32) dJ6_bitCount_0f7a4_49 ic_bipush_63 rfl ?_
  refine w_iand dJ6_bitCount_0f7a4_51 rfl ?_
  exact w_ireturn dJ6_bitCount_0f7a4_52 h
theorem c_J6_bitCount_0f7a4 {l : Launch} {D : va_G} {cy : Nat → ClassId} {ad : Nat → Nat} {p0 : Int32} {σ σ' : St} {r : Int32} (hf : f_J6_bitCount_0f7a4 p0 σ = some (r, σ')) : CT l D cy ad yJ6_bitCount_0f7a4 cJ6_bitCount_0f7a4 1 (some .int) rJ6_bitCount_0f7a4 [.int p0] σ (some (.int r)) σ' :=
  ct_of (by decide) (Nat.le_of_ble_eq_true rfl) (fun p e s m args below meth c A => e_J6_bitCount_0f7a4 (Γ := (p, l, e, rJ6_bitCount_0f7a4, s, m, args, below, meth, c, D, cy, ad, A, 0, 0, MQ below (QC D cy ad (some (.int r)) σ' A) args s 0 0 A)) p0 σ ⟨_, hf, rfl⟩)
theorem k_J6_bitCount_0f7a4 {Γ : CX} {cc : ByteArray} {nL : Nat} {own : String} {ret : Option FieldType} {rm : Room} {σ σ' : St} {pc pc' idx : Nat} {lv : List (Nat × Value)} {rest : List Value} {p0 : Int32} {r : Int32} (hl : Cond.methodLink own idx yJ6_bitCount_0f7a4 ∈ TB) (hw : (rest.map fun v => v.category).sum ≤ 8) (hR : rJ6_bitCount_0f7a4.frames + 1 ≤ rm.frames ∧ 8 + (1 + 11) + rJ6_bitCount_0f7a4.locals ≤ rm.locals) (hd : decode cc pc = .ok (.invokestatic idx, 3)) (hp : pc + 3 = pc') (hf : f_J6_bitCount_0f7a4 p0 σ = some (r, σ')) (h : WW Γ cc nL own ret rm σ' pc' lv (.int r :: rest)) : WW Γ cc nL own ret rm σ pc lv (.int p0 :: rest) :=
  w_callS (nn := 1) (As := [.int p0]) (v := (some (.int r))) (c_J6_bitCount_0f7a4 hf) hl mw_J6_bitCount_0f7a4 (by decide +kernel) ⟨rfl, rfl⟩ hR rfl hw hd rfl hp h
/-! java/lang/String.coder ()B -/
def rJ0_coder_7d493 : Room := { frames := 0, cells := 0, slots := 0, locals := 0 }
def f_J0_coder_7d493_14 (z : Nat) (k0 : Int32) (σ : St) : Option (Int32 × St) :=
  gd (nby k0) <| some (k0, σ)
theorem b_J0_coder_7d493_14 {Γ : CX} (z : Nat) (k0 : Int32) (σ : St) (h : RR vI Γ (f_J0_coder_7d493_14 z k0 σ)) : WW Γ cJ0_coder_7d493 1 RJ0 (some .byte) rJ0_coder_7d493 σ 14 [] [.int k0] := by
  unfold f_J0_coder_7d493_14 at h
  obtain ⟨hb, h⟩ := h.gd
  exact w_breturn dJ0_coder_7d493_14 hb h
def f_J0_coder_7d493 (z : Nat) (σ : St) : Option (Int32 × St) :=
  gd (isS σ z) <|
  if (1 : Int32) = 0 then
    f_J0_coder_7d493_14 z (1 : Int32) σ
  else
    f_J0_coder_7d493_14 z (0 : Int32) σ
theorem e_J0_coder_7d493 {Γ : CX} (z : Nat) (σ : St) (h : RR vI Γ (f_J0_coder_7d493 z σ)) : WW Γ cJ0_coder_7d493 1 RJ0 (some .byte) rJ0_coder_7d493 σ 0 [(0, .ref (xd Γ (z + 1000)))] [] := by
  unfold f_J0_coder_7d493 at h
  obtain ⟨hg_z_σ, h⟩ := h.gd
  refine w_gcs fl_RJ0_38 dJ0_coder_7d493_0 rfl ?_
  refine w_if_eq (tgt := 13) dJ0_coder_7d493_3 (by decide) rfl (fun q => ?_) (fun q => ?_)
  · have h := h.tt q
    refine w_iconst (1 : Int32) dJ0_coder_7d493_13 ic_iconst_1 rfl ?_
    exact w_sub [] rfl (b_J0_coder_7d493_14 z (1 : Int32) σ h)
  · have h := h.ff q
    refine w_aload_n 0 dJ0_coder_7d493_6 rfl rfl rfl ?_
    refine w_scod (k := z) hg_z_σ fl_RJ0_15 dJ0_coder_7d493_7 rfl ?_
    refine w_goto (tgt := 14) dJ0_coder_7d493_10 (by decide) ?_
    exact w_sub [] rfl (b_J0_coder_7d493_14 z (0 : Int32) σ h)
theorem c_J0_coder_7d493 {l : Launch} {D : va_G} {cy : Nat → ClassId} {ad : Nat → Nat} {z : Nat} {σ σ' : St} {r : Int32} (hf : f_J0_coder_7d493 z σ = some (r, σ')) : CT l D cy ad yJ0_coder_7d493 cJ0_coder_7d493 1 (some .byte) rJ0_coder_7d493 [.ref (ad (z + 1000))] σ (some (.int r)) σ' :=
  ct_of (by decide) (Nat.le_of_ble_eq_true rfl) (fun p e s m args below meth c A => e_J0_coder_7d493 (Γ := (p, l, e, rJ0_coder_7d493, s, m, args, below, meth, c, D, cy, ad, A, 0, 0, MQ below (QC D cy ad (some (.int r)) σ' A) args s 0 0 A)) z σ ⟨_, hf, rfl⟩)
theorem k_J0_coder_7d493 {Γ : CX} {cc : ByteArray} {nL : Nat} {own : String} {ret : Option FieldType} {rm : Room} {σ σ' : St} {pc pc' idx : Nat} {lv : List (Nat × Value)} {rest : List Value} {z : Nat} {r : Int32} (hl : Cond.methodLink own idx yJ0_coder_7d493 ∈ TB) (hw : (rest.map fun v => v.category).sum ≤ 8) (hR : rJ0_coder_7d493.frames + 1 ≤ rm.frames ∧ 8 + (1 + 11) + rJ0_coder_7d493.locals ≤ rm.locals) (hd : decode cc pc = .ok (.invokevirtual idx, 3)) (hp : pc + 3 = pc') (hf : f_J0_coder_7d493 z σ = some (r, σ')) (h : WW Γ cc nL own ret rm σ' pc' lv (.int r :: rest)) : WW Γ cc nL own ret rm σ pc lv (.ref (xd Γ (z + 1000)) :: rest) := by
  have hT : isS σ z = true := by
    unfold f_J0_coder_7d493 at hf
    exact gd_of hf
  exact w_callT (nn := 0) (k := z) (As := []) (v := (some (.int r))) (c_J0_coder_7d493 hf) hT hl mw_J0_coder_7d493 (by decide +kernel) ⟨rfl, rfl⟩ hR rfl hw hd rfl hp h
/-! java/lang/String.isLatin1 ()Z -/
def rJ0_isLatin1_aae02 : Room := { frames := 0, cells := 0, slots := 0, locals := 0 }
def f_J0_isLatin1_aae02_18 (z : Nat) (k0 : Int32) (σ : St) : Option (Int32 × St) :=
  gd (bz k0) <| some (k0, σ)
theorem b_J0_isLatin1_aae02_18 {Γ : CX} (z : Nat) (k0 : Int32) (σ : St) (h : RR vI Γ (f_J0_isLatin1_aae02_18 z k0 σ)) : WW Γ cJ0_isLatin1_aae02 1 RJ0 (some .boolean) rJ0_isLatin1_aae02 σ 18 [] [.int k0] := by
  unfold f_J0_isLatin1_aae02_18 at h
  obtain ⟨hb, h⟩ := h.gd
  exact w_zreturn dJ0_isLatin1_aae02_18 hb h
def f_J0_isLatin1_aae02_17 (z : Nat) (σ : St) : Option (Int32 × St) :=
  f_J0_isLatin1_aae02_18 z (0 : Int32) σ
theorem b_J0_isLatin1_aae02_17 {Γ : CX} (z : Nat) (σ : St) (h : RR vI Γ (f_J0_isLatin1_aae02_17 z σ)) : WW Γ cJ0_isLatin1_aae02 1 RJ0 (some .boolean) rJ0_isLatin1_aae02 σ 17 [] [] := by
  unfold f_J0_isLatin1_aae02_17 at h
  refine w_iconst (0 : Int32) dJ0_isLatin1_aae02_17 ic_iconst_0 rfl ?_
  exact w_sub [] rfl (b_J0_isLatin1_aae02_18 z (0 : Int32) σ h)
def f_J0_isLatin1_aae02 (z : Nat) (σ : St) : Option (Int32 × St) :=
  gd (isS σ z) <|
  if (1 : Int32) = 0 then
    f_J0_isLatin1_aae02_17 z σ
  else
    if (0 : Int32) = 0 then
      f_J0_isLatin1_aae02_18 z (1 : Int32) σ
    else
      f_J0_isLatin1_aae02_17 z σ
theorem e_J0_isLatin1_aae02 {Γ : CX} (z : Nat) (σ : St) (h : RR vI Γ (f_J0_isLatin1_aae02 z σ)) : WW Γ cJ0_isLatin1_aae02 1 RJ0 (some .boolean) rJ0_isLatin1_aae02 σ 0 [(0, .ref (xd Γ (z + 1000)))] [] := by
  unfold f_J0_isLatin1_aae02 at h
  obtain ⟨hg_z_σ, h⟩ := h.gd
  refine w_gcs fl_RJ0_38 dJ0_isLatin1_aae02_0 rfl ?_
  refine w_if_eq (tgt := 17) dJ0_isLatin1_aae02_3 (by decide) rfl (fun q => ?_) (fun q => ?_)
  · have h := h.tt q
    exact w_sub [] rfl (b_J0_isLatin1_aae02_17 z σ h)
  · have h := h.ff q
    refine w_aload_n 0 dJ0_isLatin1_aae02_6 rfl rfl rfl ?_
    refine w_scod (k := z) hg_z_σ fl_RJ0_15 dJ0_isLatin1_aae02_7 rfl ?_
    refine w_if_ne (tgt := 17) dJ0_isLatin1_aae02_10 (by decide) rfl (fun q => ?_) (fun q => ?_)
    · have h := h.ff q
      exact w_sub [] rfl (b_J0_isLatin1_aae02_17 z σ h)
    · have h := h.tt q
      refine w_iconst (1 : Int32) dJ0_isLatin1_aae02_13 ic_iconst_1 rfl ?_
      refine w_goto (tgt := 18) dJ0_isLatin1_aae02_14 (by decide) ?_
      exact w_sub [] rfl (b_J0_isLatin1_aae02_18 z (1 : Int32) σ h)
theorem c_J0_isLatin1_aae02 {l : Launch} {D : va_G} {cy : Nat → ClassId} {ad : Nat → Nat} {z : Nat} {σ σ' : St} {r : Int32} (hf : f_J0_isLatin1_aae02 z σ = some (r, σ')) : CT l D cy ad yJ0_isLatin1_aae02 cJ0_isLatin1_aae02 1 (some .boolean) rJ0_isLatin1_aae02 [.ref (ad (z + 1000))] σ (some (.int r)) σ' :=
  ct_of (by decide) (Nat.le_of_ble_eq_true rfl) (fun p e s m args below meth c A => e_J0_isLatin1_aae02 (Γ := (p, l, e, rJ0_isLatin1_aae02, s, m, args, below, meth, c, D, cy, ad, A, 0, 0, MQ below (QC D cy ad (some (.int r)) σ' A) args s 0 0 A)) z σ ⟨_, hf, rfl⟩)
theorem k_J0_isLatin1_aae02 {Γ : CX} {cc : ByteArray} {nL : Nat} {own : String} {ret : Option FieldType} {rm : Room} {σ σ' : St} {pc pc' idx : Nat} {lv : List (Nat × Value)} {rest : List Value} {z : Nat} {r : Int32} (hl : Cond.methodLink own idx yJ0_isLatin1_aae02 ∈ TB) (hw : (rest.map fun v => v.category).sum ≤ 8) (hR : rJ0_isLatin1_aae02.frames + 1 ≤ rm.frames ∧ 8 + (1 + 11) + rJ0_isLatin1_aae02.locals ≤ rm.locals) (hd : decode cc pc = .ok (.invokevirtual idx, 3)) (hp : pc + 3 = pc') (hf : f_J0_isLatin1_aae02 z σ = some (r, σ')) (h : WW Γ cc nL own ret rm σ' pc' lv (.int r :: rest)) : WW Γ cc nL own ret rm σ pc lv (.ref (xd Γ (z + 1000)) :: rest) := by
  have hT : isS σ z = true := by
    unfold f_J0_isLatin1_aae02 at hf
    exact gd_of hf
  exact w_callT (nn := 0) (k := z) (As := []) (v := (some (.int r))) (c_J0_isLatin1_aae02 hf) hT hl mw_J0_isLatin1_aae02 (by decide +kernel) ⟨rfl, rfl⟩ hR rfl hw hd rfl hp h
/-! java/lang/StringLatin1.charAt ([BI)C -/
def rJ1_charAt_3b067 : Room := { frames := 2, cells := 0, slots := 0, locals := 43 }
def f_J1_charAt_3b067 (z0 : Nat) (p1 : Int32) (σ : St) : Option (Int32 × St) :=
  gd (isS σ z0) <|
  bd (f_J0_checkIndex_df160 p1 (nI (sL z0)) σ) fun _ s2 =>
  gd (isS s2 z0) <|
  gd (inb p1 (sL z0)) <|
  gd (nch (((sB z0 p1.toNatClampNeg) &&& (255 : Int32)).toUInt32 % 65536).toInt32) <| some ((((sB z0 p1.toNatClampNeg) &&& (255 : Int32)).toUInt32 % 65536).toInt32, s2)
theorem e_J1_charAt_3b067 {Γ : CX} (z0 : Nat) (p1 : Int32) (σ : St) (h : RR vI Γ (f_J1_charAt_3b067 z0 p1 σ)) : WW Γ cJ1_charAt_3b067 2 RJ1 (some .char) rJ1_charAt_3b067 σ 0 [(0, .ref (xd Γ (z0 + 1100))), (1, .int p1)] [] := by
  unfold f_J1_charAt_3b067 at h
  obtain ⟨hg_z0_σ, h⟩ := h.gd
  refine w_iload_n 1 dJ1_charAt_3b067_0 rfl rfl rfl ?_
  refine w_aload_n 0 dJ1_charAt_3b067_1 rfl rfl rfl ?_
  refine w_slen (k := z0) hg_z0_σ dJ1_charAt_3b067_2 rfl ?_
  obtain ⟨r1, s2, h3, h⟩ := h.bd
  refine k_J0_checkIndex_df160 ml_RJ1_9 (Nat.le_of_ble_eq_true rfl) ⟨Nat.le_of_ble_eq_true rfl, Nat.le_of_ble_eq_true rfl⟩ dJ1_charAt_3b067_3 rfl h3 ?_
  refine w_aload_n 0 dJ1_charAt_3b067_6 rfl rfl rfl ?_
  refine w_iload_n 1 dJ1_charAt_3b067_7 rfl rfl rfl ?_
  obtain ⟨hg_z0_s2, h⟩ := h.gd
  obtain ⟨hi4, h⟩ := h.gd
  refine w_sbyt (k := z0) hg_z0_s2 hi4 dJ1_charAt_3b067_8 rfl ?_
  refine w_sipush (255 : Int32) dJ1_charAt_3b067_9 ic_sipush_255 rfl ?_
  refine w_iand dJ1_charAt_3b067_12 rfl ?_
  refine w_i2c dJ1_charAt_3b067_13 rfl ?_
  obtain ⟨hb, h⟩ := h.gd
  exact w_creturn dJ1_charAt_3b067_14 hb h
theorem c_J1_charAt_3b067 {l : Launch} {D : va_G} {cy : Nat → ClassId} {ad : Nat → Nat} {z0 : Nat} {p1 : Int32} {σ σ' : St} {r : Int32} (hf : f_J1_charAt_3b067 z0 p1 σ = some (r, σ')) : CT l D cy ad yJ1_charAt_3b067 cJ1_charAt_3b067 2 (some .char) rJ1_charAt_3b067 [.ref (ad (z0 + 1100)), .int p1] σ (some (.int r)) σ' :=
  ct_of (by decide) (Nat.le_of_ble_eq_true rfl) (fun p e s m args below meth c A => e_J1_charAt_3b067 (Γ := (p, l, e, rJ1_charAt_3b067, s, m, args, below, meth, c, D, cy, ad, A, 0, 0, MQ below (QC D cy ad (some (.int r)) σ' A) args s 0 0 A)) z0 p1 σ ⟨_, hf, rfl⟩)
theorem k_J1_charAt_3b067 {Γ : CX} {cc : ByteArray} {nL : Nat} {own : String} {ret : Option FieldType} {rm : Room} {σ σ' : St} {pc pc' idx : Nat} {lv : List (Nat × Value)} {rest : List Value} {z0 : Nat} {p1 : Int32} {r : Int32} (hl : Cond.methodLink own idx yJ1_charAt_3b067 ∈ TB) (hw : (rest.map fun v => v.category).sum ≤ 8) (hR : rJ1_charAt_3b067.frames + 1 ≤ rm.frames ∧ 8 + (2 + 11) + rJ1_charAt_3b067.locals ≤ rm.locals) (hd : decode cc pc = .ok (.invokestatic idx, 3)) (hp : pc + 3 = pc') (hf : f_J1_charAt_3b067 z0 p1 σ = some (r, σ')) (h : WW Γ cc nL own ret rm σ' pc' lv (.int r :: rest)) : WW Γ cc nL own ret rm σ pc lv (.int p1 :: .ref (xd Γ (z0 + 1100)) :: rest) :=
  w_callS (nn := 2) (As := [.ref (xd Γ (z0 + 1100)), .int p1]) (v := (some (.int r))) (c_J1_charAt_3b067 hf) hl mw_J1_charAt_3b067 (by decide +kernel) ⟨rfl, rfl⟩ hR rfl hw hd rfl hp h
/-! java/util/Arrays.fill ([II)V -/
def rJ7_fill_53178 : Room := { frames := 0, cells := 0, slots := 0, locals := 0 }
def g_J7_fill_53178_5 (u0 : Nat) (K5 : Int32 × Int32 × Int32 × St → Option (Unit × St)) (x : Int32 × Int32 × Int32 × St) : Option (Unit × St) := match x with
  | (v1, v2, v3, σ) =>
  if v3 ≤ v2 then
    some ((), σ)
  else
    gd (isA σ u0) <|
    gd (inb v2 (ln u0)) <|
    bnd (sr σ u0 v2.toNatClampNeg v1) fun s2 =>
    bnd (v2 + (1 : Int32)) fun x3 =>
    K5 (v1, x3, v3, s2)
theorem l_J7_fill_53178_5 {Γ : CX} (u0 : Nat) : ∀ (n : Nat) (v1 : Int32) (v2 : Int32) (v3 : Int32) (σ : St), RR vU Γ (itr (g_J7_fill_53178_5 u0) n (v1, v2, v3, σ)) → WW Γ cJ7_fill_53178 4 RJ7 none rJ7_fill_53178 σ 5 [(0, .ref (xd Γ u0)), (1, .int v1), (2, .int v2), (3, .int v3)] [] := by
  intro n
  induction n with
  | zero => intro v1 v2 v3 σ h; exact RR.no h
  | succ n hK5 =>
  intro v1 v2 v3 σ h
  have h : RR vU Γ (g_J7_fill_53178_5 u0 (itr (g_J7_fill_53178_5 u0) n) (v1, v2, v3, σ)) := h
  generalize itr (g_J7_fill_53178_5 u0) n = K5 at h hK5
  unfold g_J7_fill_53178_5 at h
  dsimp only at h
  refine w_iload_n 2 dJ7_fill_53178_5 rfl rfl rfl ?_
  refine w_iload_n 3 dJ7_fill_53178_6 rfl rfl rfl ?_
  refine w_icmp_ge (tgt := 20) dJ7_fill_53178_7 (by decide) rfl (fun q => ?_) (fun q => ?_)
  · have h := h.tt q
    exact w_return dJ7_fill_53178_20 h
  · have h := h.ff q
    refine w_aload_n 0 dJ7_fill_53178_10 rfl rfl rfl ?_
    refine w_iload_n 2 dJ7_fill_53178_11 rfl rfl rfl ?_
    refine w_iload_n 1 dJ7_fill_53178_12 rfl rfl rfl ?_
    obtain ⟨hg_u0_σ, h⟩ := h.gd
    obtain ⟨hi1, h⟩ := h.gd
    refine w_iast (i := u0) (isA_lt hg_u0_σ) (isA_kd hg_u0_σ) hi1 dJ7_fill_53178_13 rfl ?_
    obtain ⟨s2, es2⟩ : ∃ y : St, y = (sr σ u0 v2.toNatClampNeg v1) := ⟨_, rfl⟩
    rw [← es2]
    replace h := h.bnd es2
    have hg_u0_s2 : isA s2 u0 = true := by rw [es2]; exact hg_u0_σ
    clear es2
    obtain ⟨x3, ex3⟩ : ∃ y : Int32, y = (v2 + (1 : Int32)) := ⟨_, rfl⟩
    replace h := h.bnd ex3
    refine w_iinc 2 x3 [(2, .int x3), (0, .ref (xd Γ u0)), (1, .int v1), (3, .int v3)] dJ7_fill_53178_14 rfl (by rw [ex3, ic_iconst_1]) (by decide) rfl rfl ?_
    clear ex3
    refine w_goto (tgt := 5) dJ7_fill_53178_17 (by decide) ?_
    exact w_sub [1, 2, 0, 3] rfl (hK5 v1 x3 v3 s2 h)
def f_J7_fill_53178 (u0 : Nat) (p1 : Int32) (σ : St) : Option (Unit × St) :=
  gd (isA σ u0) <|
  bnd ((nI (ln u0))) fun x1 =>
  itr (g_J7_fill_53178_5 u0) FU (p1, (0 : Int32), x1, σ)
theorem e_J7_fill_53178 {Γ : CX} (u0 : Nat) (p1 : Int32) (σ : St) (h : RR vU Γ (f_J7_fill_53178 u0 p1 σ)) : WW Γ cJ7_fill_53178 4 RJ7 none rJ7_fill_53178 σ 0 [(0, .ref (xd Γ u0)), (1, .int p1)] [] := by
  unfold f_J7_fill_53178 at h
  obtain ⟨hg_u0_σ, h⟩ := h.gd
  refine w_iconst (0 : Int32) dJ7_fill_53178_0 ic_iconst_0 rfl ?_
  refine w_istore_n [(2, .int (0 : Int32)), (0, .ref (xd Γ u0)), (1, .int p1)] dJ7_fill_53178_1 rfl (by decide) rfl rfl ?_
  refine w_aload_n 1 dJ7_fill_53178_2 rfl rfl rfl ?_
  refine w_alen (i := u0) (isA_lt hg_u0_σ) (Or.inl (isA_kd hg_u0_σ)) dJ7_fill_53178_3 rfl ?_
  refine w_nmI (fun x1 ex1 => ?_)
  replace h := h.bnd ex1
  clear ex1
  refine w_istore_n [(3, .int x1), (2, .int (0 : Int32)), (0, .ref (xd Γ u0)), (1, .int p1)] dJ7_fill_53178_4 rfl (by decide) rfl rfl ?_
  exact w_sub [2, 3, 1, 0] rfl (l_J7_fill_53178_5 u0 FU p1 (0 : Int32) x1 σ h)
theorem c_J7_fill_53178 {l : Launch} {D : va_G} {cy : Nat → ClassId} {ad : Nat → Nat} {u0 : Nat} {p1 : Int32} {σ σ' : St} {r : Unit} (hf : f_J7_fill_53178 u0 p1 σ = some (r, σ')) : CT l D cy ad yJ7_fill_53178 cJ7_fill_53178 4 none rJ7_fill_53178 [.ref (ad u0), .int p1] σ none σ' :=
  ct_of (by decide) (Nat.le_of_ble_eq_true rfl) (fun p e s m args below meth c A => e_J7_fill_53178 (Γ := (p, l, e, rJ7_fill_53178, s, m, args, below, meth, c, D, cy, ad, A, 0, 0, MQ below (QC D cy ad none σ' A) args s 0 0 A)) u0 p1 σ ⟨_, hf, rfl⟩)
theorem k_J7_fill_53178 {Γ : CX} {cc : ByteArray} {nL : Nat} {own : String} {ret : Option FieldType} {rm : Room} {σ σ' : St} {pc pc' idx : Nat} {lv : List (Nat × Value)} {rest : List Value} {u0 : Nat} {p1 : Int32} {r : Unit} (hl : Cond.methodLink own idx yJ7_fill_53178 ∈ TB) (hw : (rest.map fun v => v.category).sum ≤ 8) (hR : rJ7_fill_53178.frames + 1 ≤ rm.frames ∧ 8 + (4 + 11) + rJ7_fill_53178.locals ≤ rm.locals) (hd : decode cc pc = .ok (.invokestatic idx, 3)) (hp : pc + 3 = pc') (hf : f_J7_fill_53178 u0 p1 σ = some (r, σ')) (h : WW Γ cc nL own ret rm σ' pc' lv (rest)) : WW Γ cc nL own ret rm σ pc lv (.int p1 :: .ref (xd Γ u0) :: rest) :=
  w_callS (nn := 2) (As := [.ref (xd Γ u0), .int p1]) (v := none) (c_J7_fill_53178 hf) hl mw_J7_fill_53178 (by decide +kernel) ⟨rfl, rfl⟩ hR rfl hw hd rfl hp h
/-! WarByHours.Cannon.worthOf (I)I -/
def rX0_worthOf : Room := { frames := 1, cells := 0, slots := 0, locals := 22 }
def f_X0_worthOf_41 (K4 : Int32 × Int32 × Int32 × St → Option (Int32 × St)) (v1 : Int32) (v2 : Int32) (v3 : Int32) (σ : St) : Option (Int32 × St) :=
  bnd (v3 + (1 : Int32)) fun x1 =>
  K4 (v1, v2, x1, σ)
theorem b_X0_worthOf_41 {Γ : CX} (K4 : Int32 × Int32 × Int32 × St → Option (Int32 × St)) (hK4 : ∀ (v1 : Int32) (v2 : Int32) (v3 : Int32) (σ : St), RR vI Γ (K4 (v1, v2, v3, σ)) → WW Γ cX0_worthOf 4 RX0 (some .int) rX0_worthOf σ 4 [(0, .ref (xd Γ 50)), (1, .int v1), (2, .int v2), (3, .int v3)] []) (v1 : Int32) (v2 : Int32) (v3 : Int32) (σ : St) (h : RR vI Γ (f_X0_worthOf_41 K4 v1 v2 v3 σ)) : WW Γ cX0_worthOf 4 RX0 (some .int) rX0_worthOf σ 41 [(0, .ref (xd Γ 50)), (1, .int v1), (2, .int v2), (3, .int v3)] [] := by
  unfold f_X0_worthOf_41 at h
  obtain ⟨x1, ex1⟩ : ∃ y : Int32, y = (v3 + (1 : Int32)) := ⟨_, rfl⟩
  replace h := h.bnd ex1
  refine w_iinc 3 x1 [(3, .int x1), (0, .ref (xd Γ 50)), (1, .int v1), (2, .int v2)] dX0_worthOf_41 rfl (by rw [ex1, ic_iconst_1]) (by decide) rfl rfl ?_
  clear ex1
  refine w_goto (tgt := 4) dX0_worthOf_44 (by decide) ?_
  exact w_sub [1, 2, 3, 0] rfl (hK4 v1 v2 x1 σ h)
def g_X0_worthOf_4 (K4 : Int32 × Int32 × Int32 × St → Option (Int32 × St)) (x : Int32 × Int32 × Int32 × St) : Option (Int32 × St) := match x with
  | (v1, v2, v3, σ) =>
  if (gf σ 7 3) ≤ v3 then
    some (v2, σ)
  else
    bd (f_X10_isIn v1 v3 σ) fun r1 s2 =>
    if r1 = 0 then
      f_X0_worthOf_41 K4 v1 v2 v3 s2
    else
      bd (f_X9_cell 7 v3 (3 : Int32) s2) fun r4 s5 =>
      bnd ((v2 + r4)) fun x7 =>
      f_X0_worthOf_41 K4 v1 x7 v3 s5
theorem l_X0_worthOf_4 {Γ : CX} : ∀ (n : Nat) (v1 : Int32) (v2 : Int32) (v3 : Int32) (σ : St), RR vI Γ (itr (g_X0_worthOf_4) n (v1, v2, v3, σ)) → WW Γ cX0_worthOf 4 RX0 (some .int) rX0_worthOf σ 4 [(0, .ref (xd Γ 50)), (1, .int v1), (2, .int v2), (3, .int v3)] [] := by
  intro n
  induction n with
  | zero => intro v1 v2 v3 σ h; exact RR.no h
  | succ n hK4 =>
  intro v1 v2 v3 σ h
  have h : RR vI Γ (g_X0_worthOf_4 (itr (g_X0_worthOf_4) n) (v1, v2, v3, σ)) := h
  generalize itr (g_X0_worthOf_4) n = K4 at h hK4
  unfold g_X0_worthOf_4 at h
  dsimp only at h
  refine w_iload_n 3 dX0_worthOf_4 rfl rfl rfl ?_
  refine w_aload_n 0 dX0_worthOf_5 rfl rfl rfl ?_
  refine gf_RX0_15 dX0_worthOf_6 rfl ?_
  refine gf_RX0_22 (i := 1) (isW_lit (by decide)) dX0_worthOf_9 rfl ?_
  refine gf_RX0_28 (i := 7) (isT_lit (by decide)) dX0_worthOf_12 rfl ?_
  refine w_icmp_ge (tgt := 47) dX0_worthOf_15 (by decide) rfl (fun q => ?_) (fun q => ?_)
  · have h := h.tt q
    refine w_iload_n 2 dX0_worthOf_47 rfl rfl rfl ?_
    exact w_ireturn dX0_worthOf_48 h
  · have h := h.ff q
    refine w_iload_n 1 dX0_worthOf_18 rfl rfl rfl ?_
    refine w_iload_n 3 dX0_worthOf_19 rfl rfl rfl ?_
    obtain ⟨r1, s2, h3, h⟩ := h.bd
    refine k_X10_isIn ml_RX0_42 (Nat.le_of_ble_eq_true rfl) ⟨Nat.le_of_ble_eq_true rfl, Nat.le_of_ble_eq_true rfl⟩ dX0_worthOf_20 rfl h3 ?_
    refine w_if_eq (tgt := 41) dX0_worthOf_23 (by decide) rfl (fun q => ?_) (fun q => ?_)
    · have h := h.tt q
      exact w_sub [0, 1, 2, 3] rfl (b_X0_worthOf_41 K4 hK4 v1 v2 v3 s2 h)
    · have h := h.ff q
      refine w_iload_n 2 dX0_worthOf_26 rfl rfl rfl ?_
      refine w_aload_n 0 dX0_worthOf_27 rfl rfl rfl ?_
      refine gf_RX0_15 dX0_worthOf_28 rfl ?_
      refine gf_RX0_22 (i := 1) (isW_lit (by decide)) dX0_worthOf_31 rfl ?_
      refine w_iload_n 3 dX0_worthOf_34 rfl rfl rfl ?_
      refine w_iconst (3 : Int32) dX0_worthOf_35 ic_iconst_3 rfl ?_
      obtain ⟨r4, s5, h6, h⟩ := h.bd
      refine k_X9_cell ml_RX0_46 (Nat.le_of_ble_eq_true rfl) ⟨Nat.le_of_ble_eq_true rfl, Nat.le_of_ble_eq_true rfl⟩ dX0_worthOf_36 rfl h6 ?_
      refine w_iadd dX0_worthOf_39 rfl ?_
      refine w_nmI (fun x7 ex7 => ?_)
      replace h := h.bnd ex7
      clear ex7
      refine w_istore_n [(2, .int x7), (0, .ref (xd Γ 50)), (1, .int v1), (3, .int v3)] dX0_worthOf_40 rfl (by decide) rfl rfl ?_
      exact w_sub [1, 2, 0, 3] rfl (b_X0_worthOf_41 K4 hK4 v1 x7 v3 s5 h)
def f_X0_worthOf (p0 : Int32) (σ : St) : Option (Int32 × St) :=
  itr (g_X0_worthOf_4) FU (p0, (0 : Int32), (0 : Int32), σ)
theorem e_X0_worthOf {Γ : CX} (p0 : Int32) (σ : St) (h : RR vI Γ (f_X0_worthOf p0 σ)) : WW Γ cX0_worthOf 4 RX0 (some .int) rX0_worthOf σ 0 [(0, .ref (xd Γ 50)), (1, .int p0)] [] := by
  unfold f_X0_worthOf at h
  refine w_iconst (0 : Int32) dX0_worthOf_0 ic_iconst_0 rfl ?_
  refine w_istore_n [(2, .int (0 : Int32)), (0, .ref (xd Γ 50)), (1, .int p0)] dX0_worthOf_1 rfl (by decide) rfl rfl ?_
  refine w_iconst (0 : Int32) dX0_worthOf_2 ic_iconst_0 rfl ?_
  refine w_istore_n [(3, .int (0 : Int32)), (2, .int (0 : Int32)), (0, .ref (xd Γ 50)), (1, .int p0)] dX0_worthOf_3 rfl (by decide) rfl rfl ?_
  exact w_sub [2, 3, 1, 0] rfl (l_X0_worthOf_4 FU p0 (0 : Int32) (0 : Int32) σ h)
theorem c_X0_worthOf {l : Launch} {D : va_G} {cy : Nat → ClassId} {ad : Nat → Nat} {p0 : Int32} {σ σ' : St} {r : Int32} (hf : f_X0_worthOf p0 σ = some (r, σ')) : CT l D cy ad yX0_worthOf cX0_worthOf 4 (some .int) rX0_worthOf [.ref (ad 50), .int p0] σ (some (.int r)) σ' :=
  ct_of (by decide) (Nat.le_of_ble_eq_true rfl) (fun p e s m args below meth c A => e_X0_worthOf (Γ := (p, l, e, rX0_worthOf, s, m, args, below, meth, c, D, cy, ad, A, 0, 0, MQ below (QC D cy ad (some (.int r)) σ' A) args s 0 0 A)) p0 σ ⟨_, hf, rfl⟩)
theorem k_X0_worthOf {Γ : CX} {cc : ByteArray} {nL : Nat} {own : String} {ret : Option FieldType} {rm : Room} {σ σ' : St} {pc pc' idx : Nat} {lv : List (Nat × Value)} {rest : List Value} {p0 : Int32} {r : Int32} (hl : Cond.methodLink own idx yX0_worthOf ∈ TB) (hw : (rest.map fun v => v.category).sum ≤ 8) (hR : rX0_worthOf.frames + 1 ≤ rm.frames ∧ 8 + (4 + 11) + rX0_worthOf.locals ≤ rm.locals) (hd : decode cc pc = .ok (.invokevirtual idx, 3)) (hp : pc + 3 = pc') (hf : f_X0_worthOf p0 σ = some (r, σ')) (h : WW Γ cc nL own ret rm σ' pc' lv (.int r :: rest)) : WW Γ cc nL own ret rm σ pc lv (.int p0 :: .ref (xd Γ 50) :: rest) :=
  w_callV (nn := 1) (i := 50) (As := [.int p0]) (v := (some (.int r))) (T := TX0) (N := 2) (c_X0_worthOf hf) hl mw_X0_worthOf (by decide +kernel) ⟨rfl, rfl⟩ hR (lt_lit (by decide)) cel_50 rfl rfl hw hd rfl hp h
/-! WarByHours.Cannon.canStand (IZ)Z -/
def rX0_canStand : Room := { frames := 1, cells := 0, slots := 0, locals := 22 }
def f_X0_canStand_106 (σ : St) : Option (Int32 × St) :=
  gd (bz (0 : Int32)) <| some ((0 : Int32), σ)
theorem b_X0_canStand_106 {Γ : CX} (σ : St) (h : RR vI Γ (f_X0_canStand_106 σ)) : WW Γ cX0_canStand 9 RX0 (some .boolean) rX0_canStand σ 106 [] [] := by
  unfold f_X0_canStand_106 at h
  refine w_iconst (0 : Int32) dX0_canStand_106 ic_iconst_0 rfl ?_
  obtain ⟨hb, h⟩ := h.gd
  exact w_zreturn dX0_canStand_107 hb h
def f_X0_canStand_140 (K8 : Int32 × Int32 × Int32 × Int32 × Int32 × St → Option (Int32 × St)) (v1 : Int32) (v2 : Int32) (v3 : Int32) (v4 : Int32) (v5 : Int32) (σ : St) : Option (Int32 × St) :=
  bnd (v5 + (1 : Int32)) fun x1 =>
  K8 (v1, v2, v3, v4, x1, σ)
theorem b_X0_canStand_140 {Γ : CX} (K8 : Int32 × Int32 × Int32 × Int32 × Int32 × St → Option (Int32 × St)) (hK8 : ∀ (v1 : Int32) (v2 : Int32) (v3 : Int32) (v4 : Int32) (v5 : Int32) (σ : St), RR vI Γ (K8 (v1, v2, v3, v4, v5, σ)) → WW Γ cX0_canStand 9 RX0 (some .boolean) rX0_canStand σ 8 [(0, .ref (xd Γ 50)), (1, .int v1), (2, .int v2), (3, .int v3), (4, .int v4), (5, .int v5)] []) (v1 : Int32) (v2 : Int32) (v3 : Int32) (v4 : Int32) (v5 : Int32) (σ : St) (h : RR vI Γ (f_X0_canStand_140 K8 v1 v2 v3 v4 v5 σ)) : WW Γ cX0_canStand 9 RX0 (some .boolean) rX0_canStand σ 140 [(0, .ref (xd Γ 50)), (1, .int v1), (2, .int v2), (3, .int v3), (4, .int v4), (5, .int v5)] [] := by
  unfold f_X0_canStand_140 at h
  obtain ⟨x1, ex1⟩ : ∃ y : Int32, y = (v5 + (1 : Int32)) := ⟨_, rfl⟩
  replace h := h.bnd ex1
  refine w_iinc 5 x1 [(5, .int x1), (0, .ref (xd Γ 50)), (1, .int v1), (2, .int v2), (3, .int v3), (4, .int v4)] dX0_canStand_140 rfl (by rw [ex1, ic_iconst_1]) (by decide) rfl rfl ?_
  clear ex1
  refine w_goto (tgt := 8) dX0_canStand_143 (by decide) ?_
  exact w_sub [1, 2, 3, 4, 5, 0] rfl (hK8 v1 v2 v3 v4 x1 σ h)
def f_X0_canStand_108 (K8 : Int32 × Int32 × Int32 × Int32 × Int32 × St → Option (Int32 × St)) (v1 : Int32) (v2 : Int32) (v5 : Int32) (v6 : Int32) (v7 : Int32) (σ : St) : Option (Int32 × St) :=
  bd (f_X9_cell 7 v6 (2 : Int32) σ) fun r1 s2 =>
  bnd ((v7 + r1)) fun x4 =>
  bd (f_X9_cell 7 v6 (0 : Int32) s2) fun r5 s6 =>
  f_X0_canStand_140 K8 v1 v2 x4 r5 v5 s6
theorem b_X0_canStand_108 {Γ : CX} (K8 : Int32 × Int32 × Int32 × Int32 × Int32 × St → Option (Int32 × St)) (hK8 : ∀ (v1 : Int32) (v2 : Int32) (v3 : Int32) (v4 : Int32) (v5 : Int32) (σ : St), RR vI Γ (K8 (v1, v2, v3, v4, v5, σ)) → WW Γ cX0_canStand 9 RX0 (some .boolean) rX0_canStand σ 8 [(0, .ref (xd Γ 50)), (1, .int v1), (2, .int v2), (3, .int v3), (4, .int v4), (5, .int v5)] []) (v1 : Int32) (v2 : Int32) (v5 : Int32) (v6 : Int32) (v7 : Int32) (σ : St) (h : RR vI Γ (f_X0_canStand_108 K8 v1 v2 v5 v6 v7 σ)) : WW Γ cX0_canStand 9 RX0 (some .boolean) rX0_canStand σ 108 [(0, .ref (xd Γ 50)), (1, .int v1), (2, .int v2), (5, .int v5), (6, .int v6), (7, .int v7)] [] := by
  unfold f_X0_canStand_108 at h
  refine w_iload 5 dX0_canStand_108 rfl rfl ?_
  refine w_aload_n 0 dX0_canStand_110 rfl rfl rfl ?_
  refine gf_RX0_15 dX0_canStand_111 rfl ?_
  refine gf_RX0_22 (i := 1) (isW_lit (by decide)) dX0_canStand_114 rfl ?_
  refine w_iload 4 dX0_canStand_117 rfl rfl ?_
  refine w_iconst (2 : Int32) dX0_canStand_119 ic_iconst_2 rfl ?_
  obtain ⟨r1, s2, h3, h⟩ := h.bd
  refine k_X9_cell ml_RX0_46 (Nat.le_of_ble_eq_true rfl) ⟨Nat.le_of_ble_eq_true rfl, Nat.le_of_ble_eq_true rfl⟩ dX0_canStand_120 rfl h3 ?_
  refine w_iadd dX0_canStand_123 rfl ?_
  refine w_nmI (fun x4 ex4 => ?_)
  replace h := h.bnd ex4
  clear ex4
  refine w_istore_n [(3, .int x4), (0, .ref (xd Γ 50)), (1, .int v1), (2, .int v2), (5, .int v5), (6, .int v6), (7, .int v7)] dX0_canStand_124 rfl (by decide) rfl rfl ?_
  refine w_aload_n 1 dX0_canStand_125 rfl rfl rfl ?_
  refine gf_RX0_15 dX0_canStand_126 rfl ?_
  refine gf_RX0_22 (i := 1) (isW_lit (by decide)) dX0_canStand_129 rfl ?_
  refine w_iload 5 dX0_canStand_132 rfl rfl ?_
  refine w_iconst (0 : Int32) dX0_canStand_134 ic_iconst_0 rfl ?_
  obtain ⟨r5, s6, h7, h⟩ := h.bd
  refine k_X9_cell ml_RX0_46 (Nat.le_of_ble_eq_true rfl) ⟨Nat.le_of_ble_eq_true rfl, Nat.le_of_ble_eq_true rfl⟩ dX0_canStand_135 rfl h7 ?_
  refine w_istore [(4, .int r5), (3, .int x4), (0, .ref (xd Γ 50)), (1, .int v1), (2, .int v2), (5, .int v5), (6, .int v6), (7, .int v7)] dX0_canStand_138 (by decide) rfl rfl ?_
  exact w_sub [2, 3, 4, 1, 0, 5] rfl (b_X0_canStand_140 K8 hK8 v1 v2 x4 r5 v5 s6 h)
def f_X0_canStand_89 (K8 : Int32 × Int32 × Int32 × Int32 × Int32 × St → Option (Int32 × St)) (v1 : Int32) (v2 : Int32) (v3 : Int32) (v5 : Int32) (v6 : Int32) (v7 : Int32) (k0 : Int32) (σ : St) : Option (Int32 × St) :=
  if v7 < v3 then
    f_X0_canStand_106 σ
  else
    if v2 = 0 then
      f_X0_canStand_108 K8 v1 v2 v5 v6 v7 σ
    else
      if k0 = 0 then
        f_X0_canStand_108 K8 v1 v2 v5 v6 v7 σ
      else
        f_X0_canStand_106 σ
theorem b_X0_canStand_89 {Γ : CX} (K8 : Int32 × Int32 × Int32 × Int32 × Int32 × St → Option (Int32 × St)) (hK8 : ∀ (v1 : Int32) (v2 : Int32) (v3 : Int32) (v4 : Int32) (v5 : Int32) (σ : St), RR vI Γ (K8 (v1, v2, v3, v4, v5, σ)) → WW Γ cX0_canStand 9 RX0 (some .boolean) rX0_canStand σ 8 [(0, .ref (xd Γ 50)), (1, .int v1), (2, .int v2), (3, .int v3), (4, .int v4), (5, .int v5)] []) (v1 : Int32) (v2 : Int32) (v3 : Int32) (v5 : Int32) (v6 : Int32) (v7 : Int32) (k0 : Int32) (σ : St) (h : RR vI Γ (f_X0_canStand_89 K8 v1 v2 v3 v5 v6 v7 k0 σ)) : WW Γ cX0_canStand 9 RX0 (some .boolean) rX0_canStand σ 89 [(0, .ref (xd Γ 50)), (1, .int v1), (2, .int v2), (3, .int v3), (5, .int v5), (6, .int v6), (7, .int v7)] [.int k0] := by
  unfold f_X0_canStand_89 at h
  refine w_istore [(8, .int k0), (0, .ref (xd Γ 50)), (1, .int v1), (2, .int v2), (3, .int v3), (5, .int v5), (6, .int v6), (7, .int v7)] dX0_canStand_89 (by decide) rfl rfl ?_
  refine w_iload 7 dX0_canStand_91 rfl rfl ?_
  refine w_iload_n 4 dX0_canStand_93 rfl rfl rfl ?_
  refine w_icmp_lt (tgt := 106) dX0_canStand_94 (by decide) rfl (fun q => ?_) (fun q => ?_)
  · have h := h.tt q
    exact w_sub [] rfl (b_X0_canStand_106 σ h)
  · have h := h.ff q
    refine w_iload_n 3 dX0_canStand_97 rfl rfl rfl ?_
    refine w_if_eq (tgt := 108) dX0_canStand_98 (by decide) rfl (fun q => ?_) (fun q => ?_)
    · have h := h.tt q
      exact w_sub [1, 2, 3, 5, 6, 7] rfl (b_X0_canStand_108 K8 hK8 v1 v2 v5 v6 v7 σ h)
    · have h := h.ff q
      refine w_iload 0 dX0_canStand_101 rfl rfl ?_
      refine w_if_eq (tgt := 108) dX0_canStand_103 (by decide) rfl (fun q => ?_) (fun q => ?_)
      · have h := h.tt q
        exact w_sub [1, 2, 3, 5, 6, 7] rfl (b_X0_canStand_108 K8 hK8 v1 v2 v5 v6 v7 σ h)
      · have h := h.ff q
        exact w_sub [] rfl (b_X0_canStand_106 σ h)
def f_X0_canStand_146 (σ : St) : Option (Int32 × St) :=
  gd (bz (1 : Int32)) <| some ((1 : Int32), σ)
theorem b_X0_canStand_146 {Γ : CX} (σ : St) (h : RR vI Γ (f_X0_canStand_146 σ)) : WW Γ cX0_canStand 9 RX0 (some .boolean) rX0_canStand σ 146 [] [] := by
  unfold f_X0_canStand_146 at h
  refine w_iconst (1 : Int32) dX0_canStand_146 ic_iconst_1 rfl ?_
  obtain ⟨hb, h⟩ := h.gd
  exact w_zreturn dX0_canStand_147 hb h
def g_X0_canStand_8 (K8 : Int32 × Int32 × Int32 × Int32 × Int32 × St → Option (Int32 × St)) (x : Int32 × Int32 × Int32 × Int32 × Int32 × St) : Option (Int32 × St) := match x with
  | (v1, v2, v3, v4, v5, σ) =>
  if (gf σ 7 3) ≤ v5 then
    f_X0_canStand_146 σ
  else
    if (nI (ln 51)) ≤ v5 then
      f_X0_canStand_146 σ
    else
      gd (inb v5 (ln 51)) <|
      bnd ((gr σ 51 v5.toNatClampNeg)) fun x2 =>
      bd (f_X10_isIn v1 x2 σ) fun r3 s4 =>
      if r3 = 0 then
        f_X0_canStand_140 K8 v1 v2 v3 v4 v5 s4
      else
        bd (f_X9_cell 7 x2 (1 : Int32) s4) fun r6 s7 =>
        bd (f_X9_cell 7 x2 (0 : Int32) s7) fun r9 s10 =>
        if r9 = v4 then
          f_X0_canStand_89 K8 v1 v2 v3 v5 x2 r6 (1 : Int32) s10
        else
          f_X0_canStand_89 K8 v1 v2 v3 v5 x2 r6 (0 : Int32) s10
theorem l_X0_canStand_8 {Γ : CX} : ∀ (n : Nat) (v1 : Int32) (v2 : Int32) (v3 : Int32) (v4 : Int32) (v5 : Int32) (σ : St), RR vI Γ (itr (g_X0_canStand_8) n (v1, v2, v3, v4, v5, σ)) → WW Γ cX0_canStand 9 RX0 (some .boolean) rX0_canStand σ 8 [(0, .ref (xd Γ 50)), (1, .int v1), (2, .int v2), (3, .int v3), (4, .int v4), (5, .int v5)] [] := by
  intro n
  induction n with
  | zero => intro v1 v2 v3 v4 v5 σ h; exact RR.no h
  | succ n hK8 =>
  intro v1 v2 v3 v4 v5 σ h
  have h : RR vI Γ (g_X0_canStand_8 (itr (g_X0_canStand_8) n) (v1, v2, v3, v4, v5, σ)) := h
  generalize itr (g_X0_canStand_8) n = K8 at h hK8
  unfold g_X0_canStand_8 at h
  dsimp only at h
  refine w_iload 5 dX0_canStand_8 rfl rfl ?_
  refine w_aload_n 0 dX0_canStand_10 rfl rfl rfl ?_
  refine gf_RX0_15 dX0_canStand_11 rfl ?_
  refine gf_RX0_22 (i := 1) (isW_lit (by decide)) dX0_canStand_14 rfl ?_
  refine gf_RX0_28 (i := 7) (isT_lit (by decide)) dX0_canStand_17 rfl ?_
  refine w_icmp_ge (tgt := 146) dX0_canStand_20 (by decide) rfl (fun q => ?_) (fun q => ?_)
  · have h := h.tt q
    exact w_sub [] rfl (b_X0_canStand_146 σ h)
  · have h := h.ff q
    refine w_iload 5 dX0_canStand_23 rfl rfl ?_
    refine w_aload_n 0 dX0_canStand_25 rfl rfl rfl ?_
    refine gf_RX0_9 dX0_canStand_26 rfl ?_
    refine w_alen (i := 51) (lt_lit (by decide)) (Or.inl rfl) dX0_canStand_29 rfl ?_
    refine w_icmp_ge (tgt := 146) dX0_canStand_30 (by decide) rfl (fun q => ?_) (fun q => ?_)
    · have h := h.tt q
      exact w_sub [] rfl (b_X0_canStand_146 σ h)
    · have h := h.ff q
      refine w_aload_n 0 dX0_canStand_33 rfl rfl rfl ?_
      refine gf_RX0_9 dX0_canStand_34 rfl ?_
      refine w_iload 5 dX0_canStand_37 rfl rfl ?_
      obtain ⟨hi1, h⟩ := h.gd
      refine w_iald (i := 51) (lt_lit (by decide)) rfl hi1 dX0_canStand_39 rfl ?_
      refine w_nmI (fun x2 ex2 => ?_)
      replace h := h.bnd ex2
      clear ex2
      refine w_istore [(6, .int x2), (0, .ref (xd Γ 50)), (1, .int v1), (2, .int v2), (3, .int v3), (4, .int v4), (5, .int v5)] dX0_canStand_40 (by decide) rfl rfl ?_
      refine w_iload_n 2 dX0_canStand_42 rfl rfl rfl ?_
      refine w_iload 0 dX0_canStand_43 rfl rfl ?_
      obtain ⟨r3, s4, h5, h⟩ := h.bd
      refine k_X10_isIn ml_RX0_42 (Nat.le_of_ble_eq_true rfl) ⟨Nat.le_of_ble_eq_true rfl, Nat.le_of_ble_eq_true rfl⟩ dX0_canStand_45 rfl h5 ?_
      refine w_if_eq (tgt := 140) dX0_canStand_48 (by decide) rfl (fun q => ?_) (fun q => ?_)
      · have h := h.tt q
        exact w_sub [1, 2, 3, 4, 5, 6] rfl (b_X0_canStand_140 K8 hK8 v1 v2 v3 v4 v5 s4 h)
      · have h := h.ff q
        refine w_aload_n 1 dX0_canStand_51 rfl rfl rfl ?_
        refine gf_RX0_15 dX0_canStand_52 rfl ?_
        refine gf_RX0_22 (i := 1) (isW_lit (by decide)) dX0_canStand_55 rfl ?_
        refine w_iload 0 dX0_canStand_58 rfl rfl ?_
        refine w_iconst (1 : Int32) dX0_canStand_60 ic_iconst_1 rfl ?_
        obtain ⟨r6, s7, h8, h⟩ := h.bd
        refine k_X9_cell ml_RX0_46 (Nat.le_of_ble_eq_true rfl) ⟨Nat.le_of_ble_eq_true rfl, Nat.le_of_ble_eq_true rfl⟩ dX0_canStand_61 rfl h8 ?_
        refine w_istore [(7, .int r6), (6, .int x2), (0, .ref (xd Γ 50)), (1, .int v1), (2, .int v2), (3, .int v3), (4, .int v4), (5, .int v5)] dX0_canStand_64 (by decide) rfl rfl ?_
        refine w_aload_n 2 dX0_canStand_66 rfl rfl rfl ?_
        refine gf_RX0_15 dX0_canStand_67 rfl ?_
        refine gf_RX0_22 (i := 1) (isW_lit (by decide)) dX0_canStand_70 rfl ?_
        refine w_iload 1 dX0_canStand_73 rfl rfl ?_
        refine w_iconst (0 : Int32) dX0_canStand_75 ic_iconst_0 rfl ?_
        obtain ⟨r9, s10, h11, h⟩ := h.bd
        refine k_X9_cell ml_RX0_46 (Nat.le_of_ble_eq_true rfl) ⟨Nat.le_of_ble_eq_true rfl, Nat.le_of_ble_eq_true rfl⟩ dX0_canStand_76 rfl h11 ?_
        refine w_iload 6 dX0_canStand_79 rfl rfl ?_
        refine w_icmp_ne (tgt := 88) dX0_canStand_81 (by decide) rfl (fun q => ?_) (fun q => ?_)
        · have h := h.ff q
          refine w_iconst (0 : Int32) dX0_canStand_88 ic_iconst_0 rfl ?_
          exact w_sub [2, 3, 4, 5, 7, 1, 0] rfl (b_X0_canStand_89 K8 hK8 v1 v2 v3 v5 x2 r6 (0 : Int32) s10 h)
        · have h := h.tt q
          refine w_iconst (1 : Int32) dX0_canStand_84 ic_iconst_1 rfl ?_
          refine w_goto (tgt := 89) dX0_canStand_85 (by decide) ?_
          exact w_sub [2, 3, 4, 5, 7, 1, 0] rfl (b_X0_canStand_89 K8 hK8 v1 v2 v3 v5 x2 r6 (1 : Int32) s10 h)
def f_X0_canStand (p0 : Int32) (p1 : Int32) (σ : St) : Option (Int32 × St) :=
  itr (g_X0_canStand_8) FU (p0, p1, (0 : Int32), (-1 : Int32), (0 : Int32), σ)
theorem e_X0_canStand {Γ : CX} (p0 : Int32) (p1 : Int32) (σ : St) (h : RR vI Γ (f_X0_canStand p0 p1 σ)) : WW Γ cX0_canStand 9 RX0 (some .boolean) rX0_canStand σ 0 [(0, .ref (xd Γ 50)), (1, .int p0), (2, .int p1)] [] := by
  unfold f_X0_canStand at h
  refine w_iconst (0 : Int32) dX0_canStand_0 ic_iconst_0 rfl ?_
  refine w_istore_n [(3, .int (0 : Int32)), (0, .ref (xd Γ 50)), (1, .int p0), (2, .int p1)] dX0_canStand_1 rfl (by decide) rfl rfl ?_
  refine w_iconst (-1 : Int32) dX0_canStand_2 ic_iconst_m1 rfl ?_
  refine w_istore [(4, .int (-1 : Int32)), (3, .int (0 : Int32)), (0, .ref (xd Γ 50)), (1, .int p0), (2, .int p1)] dX0_canStand_3 (by decide) rfl rfl ?_
  refine w_iconst (0 : Int32) dX0_canStand_5 ic_iconst_0 rfl ?_
  refine w_istore [(5, .int (0 : Int32)), (4, .int (-1 : Int32)), (3, .int (0 : Int32)), (0, .ref (xd Γ 50)), (1, .int p0), (2, .int p1)] dX0_canStand_6 (by decide) rfl rfl ?_
  exact w_sub [3, 4, 5, 2, 1, 0] rfl (l_X0_canStand_8 FU p0 p1 (0 : Int32) (-1 : Int32) (0 : Int32) σ h)
theorem c_X0_canStand {l : Launch} {D : va_G} {cy : Nat → ClassId} {ad : Nat → Nat} {p0 : Int32} {p1 : Int32} {σ σ' : St} {r : Int32} (hf : f_X0_canStand p0 p1 σ = some (r, σ')) : CT l D cy ad yX0_canStand cX0_canStand 9 (some .boolean) rX0_canStand [.ref (ad 50), .int p0, .int p1] σ (some (.int r)) σ' :=
  ct_of (by decide) (Nat.le_of_ble_eq_true rfl) (fun p e s m args below meth c A => e_X0_canStand (Γ := (p, l, e, rX0_canStand, s, m, args, below, meth, c, D, cy, ad, A, 0, 0, MQ below (QC D cy ad (some (.int r)) σ' A) args s 0 0 A)) p0 p1 σ ⟨_, hf, rfl⟩)
theorem k_X0_canStand {Γ : CX} {cc : ByteArray} {nL : Nat} {own : String} {ret : Option FieldType} {rm : Room} {σ σ' : St} {pc pc' idx : Nat} {lv : List (Nat × Value)} {rest : List Value} {p0 : Int32} {p1 : Int32} {r : Int32} (hl : Cond.methodLink own idx yX0_canStand ∈ TB) (hw : (rest.map fun v => v.category).sum ≤ 8) (hR : rX0_canStand.frames + 1 ≤ rm.frames ∧ 8 + (9 + 11) + rX0_canStand.locals ≤ rm.locals) (hd : decode cc pc = .ok (.invokevirtual idx, 3)) (hp : pc + 3 = pc') (hf : f_X0_canStand p0 p1 σ = some (r, σ')) (h : WW Γ cc nL own ret rm σ' pc' lv (.int r :: rest)) : WW Γ cc nL own ret rm σ pc lv (.int p1 :: .int p0 :: .ref (xd Γ 50) :: rest) :=
  w_callV (nn := 2) (i := 50) (As := [.int p0, .int p1]) (v := (some (.int r))) (T := TX0) (N := 2) (c_X0_canStand hf) hl mw_X0_canStand (by decide +kernel) ⟨rfl, rfl⟩ hR (lt_lit (by decide)) cel_50 rfl rfl hw hd rfl hp h
/-! WarByHours.Cannon.sortByMinute ()V -/
def rX0_sortByMinute : Room := { frames := 1, cells := 0, slots := 0, locals := 22 }
def f_X0_sortByMinute_85 (K2 : Int32 × St → Option (Unit × St)) (v1 : Int32) (v2 : Int32) (σ : St) : Option (Unit × St) :=
  gd (inb v2 (ln 51)) <|
  bnd (sr σ 51 v2.toNatClampNeg v1) fun s2 =>
  bnd (v1 + (1 : Int32)) fun x3 =>
  K2 (x3, s2)
theorem b_X0_sortByMinute_85 {Γ : CX} (K2 : Int32 × St → Option (Unit × St)) (hK2 : ∀ (v1 : Int32) (σ : St), RR vU Γ (K2 (v1, σ)) → WW Γ cX0_sortByMinute 3 RX0 none rX0_sortByMinute σ 2 [(0, .ref (xd Γ 50)), (1, .int v1)] []) (v1 : Int32) (v2 : Int32) (σ : St) (h : RR vU Γ (f_X0_sortByMinute_85 K2 v1 v2 σ)) : WW Γ cX0_sortByMinute 3 RX0 none rX0_sortByMinute σ 85 [(0, .ref (xd Γ 50)), (1, .int v1), (2, .int v2)] [] := by
  unfold f_X0_sortByMinute_85 at h
  refine w_aload_n 0 dX0_sortByMinute_85 rfl rfl rfl ?_
  refine gf_RX0_9 dX0_sortByMinute_86 rfl ?_
  refine w_iload_n 2 dX0_sortByMinute_89 rfl rfl rfl ?_
  refine w_iload_n 1 dX0_sortByMinute_90 rfl rfl rfl ?_
  obtain ⟨hi1, h⟩ := h.gd
  refine w_iast (i := 51) (lt_lit (by decide)) rfl hi1 dX0_sortByMinute_91 rfl ?_
  obtain ⟨s2, es2⟩ : ∃ y : St, y = (sr σ 51 v2.toNatClampNeg v1) := ⟨_, rfl⟩
  rw [← es2]
  replace h := h.bnd es2
  clear es2
  obtain ⟨x3, ex3⟩ : ∃ y : Int32, y = (v1 + (1 : Int32)) := ⟨_, rfl⟩
  replace h := h.bnd ex3
  refine w_iinc 1 x3 [(1, .int x3), (0, .ref (xd Γ 50)), (2, .int v2)] dX0_sortByMinute_92 rfl (by rw [ex3, ic_iconst_1]) (by decide) rfl rfl ?_
  clear ex3
  refine w_goto (tgt := 2) dX0_sortByMinute_95 (by decide) ?_
  exact w_sub [1, 0] rfl (hK2 x3 s2 h)
def g_X0_sortByMinute_27 (K2 : Int32 × St → Option (Unit × St)) (K27 : Int32 × Int32 × St → Option (Unit × St)) (x : Int32 × Int32 × St) : Option (Unit × St) := match x with
  | (v1, v2, σ) =>
  if v2 ≤ 0 then
    f_X0_sortByMinute_85 K2 v1 v2 σ
  else
    gd (inb (v2 - (1 : Int32)) (ln 51)) <|
    bd (f_X9_cell 7 (gr σ 51 (v2 - (1 : Int32)).toNatClampNeg) (1 : Int32) σ) fun r2 s3 =>
    bd (f_X9_cell 7 v1 (1 : Int32) s3) fun r5 s6 =>
    if r2 ≤ r5 then
      f_X0_sortByMinute_85 K2 v1 v2 s6
    else
      gd (inb (v2 - (1 : Int32)) (ln 51)) <|
      gd (inb v2 (ln 51)) <|
      bnd (sr s6 51 v2.toNatClampNeg (gr s6 51 (v2 - (1 : Int32)).toNatClampNeg)) fun s10 =>
      bnd (v2 + (-1 : Int32)) fun x11 =>
      K27 (v1, x11, s10)
theorem l_X0_sortByMinute_27 {Γ : CX} (K2 : Int32 × St → Option (Unit × St)) (hK2 : ∀ (v1 : Int32) (σ : St), RR vU Γ (K2 (v1, σ)) → WW Γ cX0_sortByMinute 3 RX0 none rX0_sortByMinute σ 2 [(0, .ref (xd Γ 50)), (1, .int v1)] []) : ∀ (n : Nat) (v1 : Int32) (v2 : Int32) (σ : St), RR vU Γ (itr (g_X0_sortByMinute_27 K2) n (v1, v2, σ)) → WW Γ cX0_sortByMinute 3 RX0 none rX0_sortByMinute σ 27 [(0, .ref (xd Γ 50)), (1, .int v1), (2, .int v2)] [] := by
  intro n
  induction n with
  | zero => intro v1 v2 σ h; exact RR.no h
  | succ n hK27 =>
  intro v1 v2 σ h
  have h : RR vU Γ (g_X0_sortByMinute_27 K2 (itr (g_X0_sortByMinute_27 K2) n) (v1, v2, σ)) := h
  generalize itr (g_X0_sortByMinute_27 K2) n = K27 at h hK27
  unfold g_X0_sortByMinute_27 at h
  dsimp only at h
  refine w_iload_n 2 dX0_sortByMinute_27 rfl rfl rfl ?_
  refine w_if_le (tgt := 85) dX0_sortByMinute_28 (by decide) rfl (fun q => ?_) (fun q => ?_)
  · have h := h.tt q
    exact w_sub [0, 1, 2] rfl (b_X0_sortByMinute_85 K2 hK2 v1 v2 σ h)
  · have h := h.ff q
    refine w_aload_n 0 dX0_sortByMinute_31 rfl rfl rfl ?_
    refine gf_RX0_15 dX0_sortByMinute_32 rfl ?_
    refine gf_RX0_22 (i := 1) (isW_lit (by decide)) dX0_sortByMinute_35 rfl ?_
    refine w_aload_n 0 dX0_sortByMinute_38 rfl rfl rfl ?_
    refine gf_RX0_9 dX0_sortByMinute_39 rfl ?_
    refine w_iload_n 2 dX0_sortByMinute_42 rfl rfl rfl ?_
    refine w_iconst (1 : Int32) dX0_sortByMinute_43 ic_iconst_1 rfl ?_
    refine w_isub dX0_sortByMinute_44 rfl ?_
    obtain ⟨hi1, h⟩ := h.gd
    refine w_iald (i := 51) (lt_lit (by decide)) rfl hi1 dX0_sortByMinute_45 rfl ?_
    refine w_iconst (1 : Int32) dX0_sortByMinute_46 ic_iconst_1 rfl ?_
    obtain ⟨r2, s3, h4, h⟩ := h.bd
    refine k_X9_cell ml_RX0_46 (Nat.le_of_ble_eq_true rfl) ⟨Nat.le_of_ble_eq_true rfl, Nat.le_of_ble_eq_true rfl⟩ dX0_sortByMinute_47 rfl h4 ?_
    refine w_aload_n 0 dX0_sortByMinute_50 rfl rfl rfl ?_
    refine gf_RX0_15 dX0_sortByMinute_51 rfl ?_
    refine gf_RX0_22 (i := 1) (isW_lit (by decide)) dX0_sortByMinute_54 rfl ?_
    refine w_iload_n 1 dX0_sortByMinute_57 rfl rfl rfl ?_
    refine w_iconst (1 : Int32) dX0_sortByMinute_58 ic_iconst_1 rfl ?_
    obtain ⟨r5, s6, h7, h⟩ := h.bd
    refine k_X9_cell ml_RX0_46 (Nat.le_of_ble_eq_true rfl) ⟨Nat.le_of_ble_eq_true rfl, Nat.le_of_ble_eq_true rfl⟩ dX0_sortByMinute_59 rfl h7 ?_
    refine w_icmp_le (tgt := 85) dX0_sortByMinute_62 (by decide) rfl (fun q => ?_) (fun q => ?_)
    · have h := h.tt q
      exact w_sub [0, 1, 2] rfl (b_X0_sortByMinute_85 K2 hK2 v1 v2 s6 h)
    · have h := h.ff q
      refine w_aload_n 0 dX0_sortByMinute_65 rfl rfl rfl ?_
      refine gf_RX0_9 dX0_sortByMinute_66 rfl ?_
      refine w_iload_n 2 dX0_sortByMinute_69 rfl rfl rfl ?_
      refine w_aload_n 0 dX0_sortByMinute_70 rfl rfl rfl ?_
      refine gf_RX0_9 dX0_sortByMinute_71 rfl ?_
      refine w_iload_n 2 dX0_sortByMinute_74 rfl rfl rfl ?_
      refine w_iconst (1 : Int32) dX0_sortByMinute_75 ic_iconst_1 rfl ?_
      refine w_isub dX0_sortByMinute_76 rfl ?_
      obtain ⟨hi8, h⟩ := h.gd
      refine w_iald (i := 51) (lt_lit (by decide)) rfl hi8 dX0_sortByMinute_77 rfl ?_
      obtain ⟨hi9, h⟩ := h.gd
      refine w_iast (i := 51) (lt_lit (by decide)) rfl hi9 dX0_sortByMinute_78 rfl ?_
      obtain ⟨s10, es10⟩ : ∃ y : St, y = (sr s6 51 v2.toNatClampNeg (gr s6 51 (v2 - (1 : Int32)).toNatClampNeg)) := ⟨_, rfl⟩
      rw [← es10]
      replace h := h.bnd es10
      clear es10
      obtain ⟨x11, ex11⟩ : ∃ y : Int32, y = (v2 + (-1 : Int32)) := ⟨_, rfl⟩
      replace h := h.bnd ex11
      refine w_iinc 2 x11 [(2, .int x11), (0, .ref (xd Γ 50)), (1, .int v1)] dX0_sortByMinute_79 rfl (by rw [ex11, ic_iconst_m1]) (by decide) rfl rfl ?_
      clear ex11
      refine w_goto (tgt := 27) dX0_sortByMinute_82 (by decide) ?_
      exact w_sub [1, 2, 0] rfl (hK27 v1 x11 s10 h)
def f_X0_sortByMinute_98 (σ : St) : Option (Unit × St) :=
  some ((), σ)
theorem b_X0_sortByMinute_98 {Γ : CX} (σ : St) (h : RR vU Γ (f_X0_sortByMinute_98 σ)) : WW Γ cX0_sortByMinute 3 RX0 none rX0_sortByMinute σ 98 [] [] := by
  unfold f_X0_sortByMinute_98 at h
  exact w_return dX0_sortByMinute_98 h
def g_X0_sortByMinute_2 (K2 : Int32 × St → Option (Unit × St)) (x : Int32 × St) : Option (Unit × St) := match x with
  | (v1, σ) =>
  if (gf σ 7 3) ≤ v1 then
    f_X0_sortByMinute_98 σ
  else
    if (nI (ln 51)) ≤ v1 then
      f_X0_sortByMinute_98 σ
    else
      itr (g_X0_sortByMinute_27 K2) FU (v1, v1, σ)
theorem l_X0_sortByMinute_2 {Γ : CX} : ∀ (n : Nat) (v1 : Int32) (σ : St), RR vU Γ (itr (g_X0_sortByMinute_2) n (v1, σ)) → WW Γ cX0_sortByMinute 3 RX0 none rX0_sortByMinute σ 2 [(0, .ref (xd Γ 50)), (1, .int v1)] [] := by
  intro n
  induction n with
  | zero => intro v1 σ h; exact RR.no h
  | succ n hK2 =>
  intro v1 σ h
  have h : RR vU Γ (g_X0_sortByMinute_2 (itr (g_X0_sortByMinute_2) n) (v1, σ)) := h
  generalize itr (g_X0_sortByMinute_2) n = K2 at h hK2
  unfold g_X0_sortByMinute_2 at h
  dsimp only at h
  refine w_iload_n 1 dX0_sortByMinute_2 rfl rfl rfl ?_
  refine w_aload_n 0 dX0_sortByMinute_3 rfl rfl rfl ?_
  refine gf_RX0_15 dX0_sortByMinute_4 rfl ?_
  refine gf_RX0_22 (i := 1) (isW_lit (by decide)) dX0_sortByMinute_7 rfl ?_
  refine gf_RX0_28 (i := 7) (isT_lit (by decide)) dX0_sortByMinute_10 rfl ?_
  refine w_icmp_ge (tgt := 98) dX0_sortByMinute_13 (by decide) rfl (fun q => ?_) (fun q => ?_)
  · have h := h.tt q
    exact w_sub [] rfl (b_X0_sortByMinute_98 σ h)
  · have h := h.ff q
    refine w_iload_n 1 dX0_sortByMinute_16 rfl rfl rfl ?_
    refine w_aload_n 0 dX0_sortByMinute_17 rfl rfl rfl ?_
    refine gf_RX0_9 dX0_sortByMinute_18 rfl ?_
    refine w_alen (i := 51) (lt_lit (by decide)) (Or.inl rfl) dX0_sortByMinute_21 rfl ?_
    refine w_icmp_ge (tgt := 98) dX0_sortByMinute_22 (by decide) rfl (fun q => ?_) (fun q => ?_)
    · have h := h.tt q
      exact w_sub [] rfl (b_X0_sortByMinute_98 σ h)
    · have h := h.ff q
      refine w_iload_n 1 dX0_sortByMinute_25 rfl rfl rfl ?_
      refine w_istore_n [(2, .int v1), (0, .ref (xd Γ 50)), (1, .int v1)] dX0_sortByMinute_26 rfl (by decide) rfl rfl ?_
      exact w_sub [1, 2, 0] rfl (l_X0_sortByMinute_27 K2 hK2 FU v1 v1 σ h)
def f_X0_sortByMinute (σ : St) : Option (Unit × St) :=
  itr (g_X0_sortByMinute_2) FU ((0 : Int32), σ)
theorem e_X0_sortByMinute {Γ : CX} (σ : St) (h : RR vU Γ (f_X0_sortByMinute σ)) : WW Γ cX0_sortByMinute 3 RX0 none rX0_sortByMinute σ 0 [(0, .ref (xd Γ 50))] [] := by
  unfold f_X0_sortByMinute at h
  refine w_iconst (0 : Int32) dX0_sortByMinute_0 ic_iconst_0 rfl ?_
  refine w_istore_n [(1, .int (0 : Int32)), (0, .ref (xd Γ 50))] dX0_sortByMinute_1 rfl (by decide) rfl rfl ?_
  exact w_sub [1, 0] rfl (l_X0_sortByMinute_2 FU (0 : Int32) σ h)
theorem c_X0_sortByMinute {l : Launch} {D : va_G} {cy : Nat → ClassId} {ad : Nat → Nat}  {σ σ' : St} {r : Unit} (hf : f_X0_sortByMinute σ = some (r, σ')) : CT l D cy ad yX0_sortByMinute cX0_sortByMinute 3 none rX0_sortByMinute [.ref (ad 50)] σ none σ' :=
  ct_of (by decide) (Nat.le_of_ble_eq_true rfl) (fun p e s m args below meth c A => e_X0_sortByMinute (Γ := (p, l, e, rX0_sortByMinute, s, m, args, below, meth, c, D, cy, ad, A, 0, 0, MQ below (QC D cy ad none σ' A) args s 0 0 A)) σ ⟨_, hf, rfl⟩)
theorem k_X0_sortByMinute {Γ : CX} {cc : ByteArray} {nL : Nat} {own : String} {ret : Option FieldType} {rm : Room} {σ σ' : St} {pc pc' idx : Nat} {lv : List (Nat × Value)} {rest : List Value}  {r : Unit} (hl : Cond.methodLink own idx yX0_sortByMinute ∈ TB) (hw : (rest.map fun v => v.category).sum ≤ 8) (hR : rX0_sortByMinute.frames + 1 ≤ rm.frames ∧ 8 + (3 + 11) + rX0_sortByMinute.locals ≤ rm.locals) (hd : decode cc pc = .ok (.invokevirtual idx, 3)) (hp : pc + 3 = pc') (hf : f_X0_sortByMinute σ = some (r, σ')) (h : WW Γ cc nL own ret rm σ' pc' lv (rest)) : WW Γ cc nL own ret rm σ pc lv (.ref (xd Γ 50) :: rest) :=
  w_callV (nn := 0) (i := 50) (As := []) (v := none) (T := TX0) (N := 2) (c_X0_sortByMinute hf) hl mw_X0_sortByMinute (by decide +kernel) ⟨rfl, rfl⟩ hR (lt_lit (by decide)) cel_50 rfl rfl hw hd rfl hp h
/-! WarByHours.Chances.lowest (JJI)J -/
def rX1_lowest : Room := { frames := 1, cells := 0, slots := 0, locals := 26 }
def f_X1_lowest_21 (v5 : Int64) (k0 : Int64) (σ : St) : Option (Int64 × St) :=
  gd (!decide (v5 = 0)) <|
  some ((k0 / v5), σ)
theorem b_X1_lowest_21 {Γ : CX} (v5 : Int64) (k0 : Int64) (σ : St) (h : RR vL Γ (f_X1_lowest_21 v5 k0 σ)) : WW Γ cX1_lowest 7 RX1 (some .long) rX1_lowest σ 21 [(5, .long v5)] [.long k0] := by
  unfold f_X1_lowest_21 at h
  refine w_lload 0 dX1_lowest_21 rfl rfl ?_
  obtain ⟨hz1, h⟩ := h.gd
  refine w_ldiv dX1_lowest_23 (ne_of_gd hz1) rfl ?_
  exact w_lreturn dX1_lowest_24 h
def f_X1_lowest (p0 : Int64) (p1 : Int64) (p2 : Int32) (σ : St) : Option (Int64 × St) :=
  bd (f_X1_commonDivisor p0 p1 σ) fun r1 s2 =>
  bnd ((if r1 < (1 : Int64) then (1 : Int64) else r1)) fun x4 =>
  if p2 = 0 then
    f_X1_lowest_21 x4 p0 s2
  else
    f_X1_lowest_21 x4 p1 s2
theorem e_X1_lowest {Γ : CX} (p0 : Int64) (p1 : Int64) (p2 : Int32) (σ : St) (h : RR vL Γ (f_X1_lowest p0 p1 p2 σ)) : WW Γ cX1_lowest 7 RX1 (some .long) rX1_lowest σ 0 [(0, .long p0), (2, .long p1), (4, .int p2)] [] := by
  unfold f_X1_lowest at h
  refine w_lconst (1 : Int64) dX1_lowest_0 rfl rfl ?_
  refine w_lload_n 0 dX1_lowest_1 rfl rfl rfl ?_
  refine w_lload_n 1 dX1_lowest_2 rfl rfl rfl ?_
  obtain ⟨r1, s2, h3, h⟩ := h.bd
  refine k_X1_commonDivisor ml_RX1_9 (Nat.le_of_ble_eq_true rfl) ⟨Nat.le_of_ble_eq_true rfl, Nat.le_of_ble_eq_true rfl⟩ dX1_lowest_3 rfl h3 ?_
  refine w_mmaxL ml_RX1_15 (Nat.le_of_ble_eq_true rfl) ⟨Nat.le_of_ble_eq_true rfl, Nat.le_of_ble_eq_true rfl⟩ dX1_lowest_6 rfl ?_
  refine w_nmL (fun x4 ex4 => ?_)
  replace h := h.bnd ex4
  clear ex4
  refine w_lstore [(5, .long x4), (0, .long p0), (2, .long p1), (4, .int p2)] dX1_lowest_9 (by decide) rfl rfl ?_
  refine w_iload 3 dX1_lowest_11 rfl rfl ?_
  refine w_if_ne (tgt := 20) dX1_lowest_13 (by decide) rfl (fun q => ?_) (fun q => ?_)
  · have h := h.ff q
    refine w_lload_n 2 dX1_lowest_20 rfl rfl rfl ?_
    exact w_sub [0] rfl (b_X1_lowest_21 x4 p1 s2 h)
  · have h := h.tt q
    refine w_lload_n 1 dX1_lowest_16 rfl rfl rfl ?_
    refine w_goto (tgt := 21) dX1_lowest_17 (by decide) ?_
    exact w_sub [0] rfl (b_X1_lowest_21 x4 p0 s2 h)
theorem c_X1_lowest {l : Launch} {D : va_G} {cy : Nat → ClassId} {ad : Nat → Nat} {p0 : Int64} {p1 : Int64} {p2 : Int32} {σ σ' : St} {r : Int64} (hf : f_X1_lowest p0 p1 p2 σ = some (r, σ')) : CT l D cy ad yX1_lowest cX1_lowest 7 (some .long) rX1_lowest [.long p0, .long p1, .int p2] σ (some (.long r)) σ' :=
  ct_of (by decide) (Nat.le_of_ble_eq_true rfl) (fun p e s m args below meth c A => e_X1_lowest (Γ := (p, l, e, rX1_lowest, s, m, args, below, meth, c, D, cy, ad, A, 0, 0, MQ below (QC D cy ad (some (.long r)) σ' A) args s 0 0 A)) p0 p1 p2 σ ⟨_, hf, rfl⟩)
theorem k_X1_lowest {Γ : CX} {cc : ByteArray} {nL : Nat} {own : String} {ret : Option FieldType} {rm : Room} {σ σ' : St} {pc pc' idx : Nat} {lv : List (Nat × Value)} {rest : List Value} {p0 : Int64} {p1 : Int64} {p2 : Int32} {r : Int64} (hl : Cond.methodLink own idx yX1_lowest ∈ TB) (hw : (rest.map fun v => v.category).sum ≤ 8) (hR : rX1_lowest.frames + 1 ≤ rm.frames ∧ 8 + (7 + 11) + rX1_lowest.locals ≤ rm.locals) (hd : decode cc pc = .ok (.invokestatic idx, 3)) (hp : pc + 3 = pc') (hf : f_X1_lowest p0 p1 p2 σ = some (r, σ')) (h : WW Γ cc nL own ret rm σ' pc' lv (.long r :: rest)) : WW Γ cc nL own ret rm σ pc lv (.int p2 :: .long p1 :: .long p0 :: rest) :=
  w_callS (nn := 3) (As := [.long p0, .long p1, .int p2]) (v := (some (.long r))) (c_X1_lowest hf) hl mw_X1_lowest (by decide +kernel) ⟨rfl, rfl⟩ hR rfl hw hd rfl hp h
/-! WarByHours.Chances.hundreds (I)J -/
def rX1_hundreds : Room := { frames := 1, cells := 0, slots := 0, locals := 24 }
def f_X1_hundreds (p0 : Int32) (σ : St) : Option (Int64 × St) :=
  bd (f_X1_power (100 : Int32) p0 σ) fun r1 s2 =>
  some (r1, s2)
theorem e_X1_hundreds {Γ : CX} (p0 : Int32) (σ : St) (h : RR vL Γ (f_X1_hundreds p0 σ)) : WW Γ cX1_hundreds 1 RX1 (some .long) rX1_hundreds σ 0 [(0, .int p0)] [] := by
  unfold f_X1_hundreds at h
  refine w_bipush (100 : Int32) dX1_hundreds_0 ic_bipush_100 rfl ?_
  refine w_iload_n 0 dX1_hundreds_2 rfl rfl rfl ?_
  obtain ⟨r1, s2, h3, h⟩ := h.bd
  refine k_X1_power ml_RX1_20 (Nat.le_of_ble_eq_true rfl) ⟨Nat.le_of_ble_eq_true rfl, Nat.le_of_ble_eq_true rfl⟩ dX1_hundreds_3 rfl h3 ?_
  exact w_lreturn dX1_hundreds_6 h
theorem c_X1_hundreds {l : Launch} {D : va_G} {cy : Nat → ClassId} {ad : Nat → Nat} {p0 : Int32} {σ σ' : St} {r : Int64} (hf : f_X1_hundreds p0 σ = some (r, σ')) : CT l D cy ad yX1_hundreds cX1_hundreds 1 (some .long) rX1_hundreds [.int p0] σ (some (.long r)) σ' :=
  ct_of (by decide) (Nat.le_of_ble_eq_true rfl) (fun p e s m args below meth c A => e_X1_hundreds (Γ := (p, l, e, rX1_hundreds, s, m, args, below, meth, c, D, cy, ad, A, 0, 0, MQ below (QC D cy ad (some (.long r)) σ' A) args s 0 0 A)) p0 σ ⟨_, hf, rfl⟩)
theorem k_X1_hundreds {Γ : CX} {cc : ByteArray} {nL : Nat} {own : String} {ret : Option FieldType} {rm : Room} {σ σ' : St} {pc pc' idx : Nat} {lv : List (Nat × Value)} {rest : List Value} {p0 : Int32} {r : Int64} (hl : Cond.methodLink own idx yX1_hundreds ∈ TB) (hw : (rest.map fun v => v.category).sum ≤ 8) (hR : rX1_hundreds.frames + 1 ≤ rm.frames ∧ 8 + (1 + 11) + rX1_hundreds.locals ≤ rm.locals) (hd : decode cc pc = .ok (.invokestatic idx, 3)) (hp : pc + 3 = pc') (hf : f_X1_hundreds p0 σ = some (r, σ')) (h : WW Γ cc nL own ret rm σ' pc' lv (.long r :: rest)) : WW Γ cc nL own ret rm σ pc lv (.int p0 :: rest) :=
  w_callS (nn := 1) (As := [.int p0]) (v := (some (.long r))) (c_X1_hundreds hf) hl mw_X1_hundreds (by decide +kernel) ⟨rfl, rfl⟩ hR rfl hw hd rfl hp h
/-! WarByHours.Chances.delayParts (LWarByHours$War;I)J -/
def rX1_delayParts : Room := { frames := 1, cells := 0, slots := 0, locals := 22 }
def f_X1_delayParts_51 (u0 : Nat) (K5 : Int32 × Int64 × Int32 × St → Option (Int64 × St)) (v1 : Int32) (v4 : Int32) (k0 : Int64) (k1 : Int64) (σ : St) : Option (Int64 × St) :=
  bnd ((k1 * k0)) fun x1 =>
  bnd (v4 + (1 : Int32)) fun x2 =>
  K5 (v1, x1, x2, σ)
theorem b_X1_delayParts_51 {Γ : CX} (u0 : Nat) (K5 : Int32 × Int64 × Int32 × St → Option (Int64 × St)) (hK5 : ∀ (v1 : Int32) (v2 : Int64) (v4 : Int32) (σ : St), RR vL Γ (K5 (v1, v2, v4, σ)) → WW Γ cX1_delayParts 6 RX1 (some .long) rX1_delayParts σ 5 [(0, .ref (xd Γ u0)), (1, .int v1), (2, .long v2), (4, .int v4)] []) (v1 : Int32) (v4 : Int32) (k0 : Int64) (k1 : Int64) (σ : St) (h : RR vL Γ (f_X1_delayParts_51 u0 K5 v1 v4 k0 k1 σ)) : WW Γ cX1_delayParts 6 RX1 (some .long) rX1_delayParts σ 51 [(0, .ref (xd Γ u0)), (1, .int v1), (4, .int v4)] [.long k0, .long k1] := by
  unfold f_X1_delayParts_51 at h
  refine w_lmul dX1_delayParts_51 rfl ?_
  refine w_nmL (fun x1 ex1 => ?_)
  replace h := h.bnd ex1
  clear ex1
  refine w_lstore_n [(2, .long x1), (0, .ref (xd Γ u0)), (1, .int v1), (4, .int v4)] dX1_delayParts_52 rfl (by decide) rfl rfl ?_
  obtain ⟨x2, ex2⟩ : ∃ y : Int32, y = (v4 + (1 : Int32)) := ⟨_, rfl⟩
  replace h := h.bnd ex2
  refine w_iinc 3 x2 [(4, .int x2), (2, .long x1), (0, .ref (xd Γ u0)), (1, .int v1)] dX1_delayParts_53 rfl (by rw [ex2, ic_iconst_1]) (by decide) rfl rfl ?_
  clear ex2
  refine w_goto (tgt := 5) dX1_delayParts_56 (by decide) ?_
  exact w_sub [2, 3, 1, 0] rfl (hK5 v1 x1 x2 σ h)
def g_X1_delayParts_5 (u0 : Nat) (K5 : Int32 × Int64 × Int32 × St → Option (Int64 × St)) (x : Int32 × Int64 × Int32 × St) : Option (Int64 × St) := match x with
  | (v1, v2, v4, σ) =>
  gd (isW σ u0) <|
  if (gf σ (u0 + 2) 3) ≤ v4 then
    some (v2, σ)
  else
    bd (f_X9_cell (u0 + 2) v4 (3 : Int32) σ) fun r1 s2 =>
    bd (f_X10_isIn v1 v4 s2) fun r4 s5 =>
    if r4 = 0 then
      f_X1_delayParts_51 u0 K5 v1 v4 ((100 : Int32) - r1).toInt64 v2 s5
    else
      f_X1_delayParts_51 u0 K5 v1 v4 r1.toInt64 v2 s5
theorem l_X1_delayParts_5 {Γ : CX} (u0 : Nat) : ∀ (n : Nat) (v1 : Int32) (v2 : Int64) (v4 : Int32) (σ : St), RR vL Γ (itr (g_X1_delayParts_5 u0) n (v1, v2, v4, σ)) → WW Γ cX1_delayParts 6 RX1 (some .long) rX1_delayParts σ 5 [(0, .ref (xd Γ u0)), (1, .int v1), (2, .long v2), (4, .int v4)] [] := by
  intro n
  induction n with
  | zero => intro v1 v2 v4 σ h; exact RR.no h
  | succ n hK5 =>
  intro v1 v2 v4 σ h
  have h : RR vL Γ (g_X1_delayParts_5 u0 (itr (g_X1_delayParts_5 u0) n) (v1, v2, v4, σ)) := h
  generalize itr (g_X1_delayParts_5 u0) n = K5 at h hK5
  unfold g_X1_delayParts_5 at h
  dsimp only at h
  refine w_iload 3 dX1_delayParts_5 rfl rfl ?_
  refine w_aload_n 0 dX1_delayParts_7 rfl rfl rfl ?_
  obtain ⟨hg_u0_σ, h⟩ := h.gd
  refine gf_RX1_24 (i := u0) hg_u0_σ dX1_delayParts_8 rfl ?_
  refine gf_RX1_30 (i := (u0 + 2)) (isW_T hg_u0_σ 2 (by decide)) dX1_delayParts_11 rfl ?_
  refine w_icmp_ge (tgt := 59) dX1_delayParts_14 (by decide) rfl (fun q => ?_) (fun q => ?_)
  · have h := h.tt q
    refine w_lload_n 2 dX1_delayParts_59 rfl rfl rfl ?_
    exact w_lreturn dX1_delayParts_60 h
  · have h := h.ff q
    refine w_aload_n 0 dX1_delayParts_17 rfl rfl rfl ?_
    refine gf_RX1_24 (i := u0) hg_u0_σ dX1_delayParts_18 rfl ?_
    refine w_iload 3 dX1_delayParts_21 rfl rfl ?_
    refine w_iconst (3 : Int32) dX1_delayParts_23 ic_iconst_3 rfl ?_
    obtain ⟨r1, s2, h3, h⟩ := h.bd
    refine k_X9_cell ml_RX1_36 (Nat.le_of_ble_eq_true rfl) ⟨Nat.le_of_ble_eq_true rfl, Nat.le_of_ble_eq_true rfl⟩ dX1_delayParts_24 rfl h3 ?_
    refine w_istore [(5, .int r1), (0, .ref (xd Γ u0)), (1, .int v1), (2, .long v2), (4, .int v4)] dX1_delayParts_27 (by decide) rfl rfl ?_
    refine w_lload_n 3 dX1_delayParts_29 rfl rfl rfl ?_
    refine w_iload_n 2 dX1_delayParts_30 rfl rfl rfl ?_
    refine w_iload 4 dX1_delayParts_31 rfl rfl ?_
    obtain ⟨r4, s5, h6, h⟩ := h.bd
    refine k_X10_isIn ml_RX1_40 (Nat.le_of_ble_eq_true rfl) ⟨Nat.le_of_ble_eq_true rfl, Nat.le_of_ble_eq_true rfl⟩ dX1_delayParts_33 rfl h6 ?_
    refine w_if_eq (tgt := 45) dX1_delayParts_36 (by decide) rfl (fun q => ?_) (fun q => ?_)
    · have h := h.tt q
      refine w_bipush (100 : Int32) dX1_delayParts_45 ic_bipush_100 rfl ?_
      refine w_iload 0 dX1_delayParts_47 rfl rfl ?_
      refine w_isub dX1_delayParts_49 rfl ?_
      refine w_i2l dX1_delayParts_50 rfl ?_
      exact w_sub [1, 2, 4] rfl (b_X1_delayParts_51 u0 K5 hK5 v1 v4 ((100 : Int32) - r1).toInt64 v2 s5 h)
    · have h := h.ff q
      refine w_iload 0 dX1_delayParts_39 rfl rfl ?_
      refine w_i2l dX1_delayParts_41 rfl ?_
      refine w_goto (tgt := 51) dX1_delayParts_42 (by decide) ?_
      exact w_sub [1, 2, 4] rfl (b_X1_delayParts_51 u0 K5 hK5 v1 v4 r1.toInt64 v2 s5 h)
def f_X1_delayParts (u0 : Nat) (p1 : Int32) (σ : St) : Option (Int64 × St) :=
  gd (isW σ u0) <|
  itr (g_X1_delayParts_5 u0) FU (p1, (1 : Int64), (0 : Int32), σ)
theorem e_X1_delayParts {Γ : CX} (u0 : Nat) (p1 : Int32) (σ : St) (h : RR vL Γ (f_X1_delayParts u0 p1 σ)) : WW Γ cX1_delayParts 6 RX1 (some .long) rX1_delayParts σ 0 [(0, .ref (xd Γ u0)), (1, .int p1)] [] := by
  unfold f_X1_delayParts at h
  obtain ⟨hg_u0_σ, h⟩ := h.gd
  refine w_lconst (1 : Int64) dX1_delayParts_0 rfl rfl ?_
  refine w_lstore_n [(2, .long (1 : Int64)), (0, .ref (xd Γ u0)), (1, .int p1)] dX1_delayParts_1 rfl (by decide) rfl rfl ?_
  refine w_iconst (0 : Int32) dX1_delayParts_2 ic_iconst_0 rfl ?_
  refine w_istore [(4, .int (0 : Int32)), (2, .long (1 : Int64)), (0, .ref (xd Γ u0)), (1, .int p1)] dX1_delayParts_3 (by decide) rfl rfl ?_
  exact w_sub [2, 3, 1, 0] rfl (l_X1_delayParts_5 u0 FU p1 (1 : Int64) (0 : Int32) σ h)
theorem c_X1_delayParts {l : Launch} {D : va_G} {cy : Nat → ClassId} {ad : Nat → Nat} {u0 : Nat} {p1 : Int32} {σ σ' : St} {r : Int64} (hf : f_X1_delayParts u0 p1 σ = some (r, σ')) : CT l D cy ad yX1_delayParts cX1_delayParts 6 (some .long) rX1_delayParts [.ref (ad u0), .int p1] σ (some (.long r)) σ' :=
  ct_of (by decide) (Nat.le_of_ble_eq_true rfl) (fun p e s m args below meth c A => e_X1_delayParts (Γ := (p, l, e, rX1_delayParts, s, m, args, below, meth, c, D, cy, ad, A, 0, 0, MQ below (QC D cy ad (some (.long r)) σ' A) args s 0 0 A)) u0 p1 σ ⟨_, hf, rfl⟩)
theorem k_X1_delayParts {Γ : CX} {cc : ByteArray} {nL : Nat} {own : String} {ret : Option FieldType} {rm : Room} {σ σ' : St} {pc pc' idx : Nat} {lv : List (Nat × Value)} {rest : List Value} {u0 : Nat} {p1 : Int32} {r : Int64} (hl : Cond.methodLink own idx yX1_delayParts ∈ TB) (hw : (rest.map fun v => v.category).sum ≤ 8) (hR : rX1_delayParts.frames + 1 ≤ rm.frames ∧ 8 + (6 + 11) + rX1_delayParts.locals ≤ rm.locals) (hd : decode cc pc = .ok (.invokestatic idx, 3)) (hp : pc + 3 = pc') (hf : f_X1_delayParts u0 p1 σ = some (r, σ')) (h : WW Γ cc nL own ret rm σ' pc' lv (.long r :: rest)) : WW Γ cc nL own ret rm σ pc lv (.int p1 :: .ref (xd Γ u0) :: rest) :=
  w_callS (nn := 2) (As := [.ref (xd Γ u0), .int p1]) (v := (some (.long r))) (c_X1_delayParts hf) hl mw_X1_delayParts (by decide +kernel) ⟨rfl, rfl⟩ hR rfl hw hd rfl hp h
/-! WarByHours.Chances.dryParts (III)J -/
def rX1_dryParts : Room := { frames := 1, cells := 0, slots := 0, locals := 24 }
def f_X1_dryParts (p0 : Int32) (p1 : Int32) (p2 : Int32) (σ : St) : Option (Int64 × St) :=
  bd (f_X1_choices p1 p2 σ) fun r1 s2 =>
  bd (f_X1_power ((100 : Int32) - p0) p2 s2) fun r4 s5 =>
  bd (f_X1_power p0 (p1 - p2) s5) fun r7 s8 =>
  some (((r1 * r4) * r7), s8)
theorem e_X1_dryParts {Γ : CX} (p0 : Int32) (p1 : Int32) (p2 : Int32) (σ : St) (h : RR vL Γ (f_X1_dryParts p0 p1 p2 σ)) : WW Γ cX1_dryParts 3 RX1 (some .long) rX1_dryParts σ 0 [(0, .int p0), (1, .int p1), (2, .int p2)] [] := by
  unfold f_X1_dryParts at h
  refine w_iload_n 1 dX1_dryParts_0 rfl rfl rfl ?_
  refine w_iload_n 2 dX1_dryParts_1 rfl rfl rfl ?_
  obtain ⟨r1, s2, h3, h⟩ := h.bd
  refine k_X1_choices ml_RX1_44 (Nat.le_of_ble_eq_true rfl) ⟨Nat.le_of_ble_eq_true rfl, Nat.le_of_ble_eq_true rfl⟩ dX1_dryParts_2 rfl h3 ?_
  refine w_bipush (100 : Int32) dX1_dryParts_5 ic_bipush_100 rfl ?_
  refine w_iload_n 0 dX1_dryParts_7 rfl rfl rfl ?_
  refine w_isub dX1_dryParts_8 rfl ?_
  refine w_iload_n 2 dX1_dryParts_9 rfl rfl rfl ?_
  obtain ⟨r4, s5, h6, h⟩ := h.bd
  refine k_X1_power ml_RX1_20 (Nat.le_of_ble_eq_true rfl) ⟨Nat.le_of_ble_eq_true rfl, Nat.le_of_ble_eq_true rfl⟩ dX1_dryParts_10 rfl h6 ?_
  refine w_lmul dX1_dryParts_13 rfl ?_
  refine w_iload_n 0 dX1_dryParts_14 rfl rfl rfl ?_
  refine w_iload_n 1 dX1_dryParts_15 rfl rfl rfl ?_
  refine w_iload_n 2 dX1_dryParts_16 rfl rfl rfl ?_
  refine w_isub dX1_dryParts_17 rfl ?_
  obtain ⟨r7, s8, h9, h⟩ := h.bd
  refine k_X1_power ml_RX1_20 (Nat.le_of_ble_eq_true rfl) ⟨Nat.le_of_ble_eq_true rfl, Nat.le_of_ble_eq_true rfl⟩ dX1_dryParts_18 rfl h9 ?_
  refine w_lmul dX1_dryParts_21 rfl ?_
  exact w_lreturn dX1_dryParts_22 h
theorem c_X1_dryParts {l : Launch} {D : va_G} {cy : Nat → ClassId} {ad : Nat → Nat} {p0 : Int32} {p1 : Int32} {p2 : Int32} {σ σ' : St} {r : Int64} (hf : f_X1_dryParts p0 p1 p2 σ = some (r, σ')) : CT l D cy ad yX1_dryParts cX1_dryParts 3 (some .long) rX1_dryParts [.int p0, .int p1, .int p2] σ (some (.long r)) σ' :=
  ct_of (by decide) (Nat.le_of_ble_eq_true rfl) (fun p e s m args below meth c A => e_X1_dryParts (Γ := (p, l, e, rX1_dryParts, s, m, args, below, meth, c, D, cy, ad, A, 0, 0, MQ below (QC D cy ad (some (.long r)) σ' A) args s 0 0 A)) p0 p1 p2 σ ⟨_, hf, rfl⟩)
theorem k_X1_dryParts {Γ : CX} {cc : ByteArray} {nL : Nat} {own : String} {ret : Option FieldType} {rm : Room} {σ σ' : St} {pc pc' idx : Nat} {lv : List (Nat × Value)} {rest : List Value} {p0 : Int32} {p1 : Int32} {p2 : Int32} {r : Int64} (hl : Cond.methodLink own idx yX1_dryParts ∈ TB) (hw : (rest.map fun v => v.category).sum ≤ 8) (hR : rX1_dryParts.frames + 1 ≤ rm.frames ∧ 8 + (3 + 11) + rX1_dryParts.locals ≤ rm.locals) (hd : decode cc pc = .ok (.invokestatic idx, 3)) (hp : pc + 3 = pc') (hf : f_X1_dryParts p0 p1 p2 σ = some (r, σ')) (h : WW Γ cc nL own ret rm σ' pc' lv (.long r :: rest)) : WW Γ cc nL own ret rm σ pc lv (.int p2 :: .int p1 :: .int p0 :: rest) :=
  w_callS (nn := 3) (As := [.int p0, .int p1, .int p2]) (v := (some (.long r))) (c_X1_dryParts hf) hl mw_X1_dryParts (by decide +kernel) ⟨rfl, rfl⟩ hR rfl hw hd rfl hp h
/-! WarByHours.Chances.drawnDelays (LWarByHours$War;I)I -/
def rX1_drawnDelays : Room := { frames := 1, cells := 0, slots := 0, locals := 22 }
def f_X1_drawnDelays_68 (u0 : Nat) (K25 : Int64 × Int32 × Int32 × St → Option (Int32 × St)) (v2 : Int64) (v4 : Int32) (v5 : Int32) (σ : St) : Option (Int32 × St) :=
  bnd (v5 + (1 : Int32)) fun x1 =>
  K25 (v2, v4, x1, σ)
theorem b_X1_drawnDelays_68 {Γ : CX} (u0 : Nat) (K25 : Int64 × Int32 × Int32 × St → Option (Int32 × St)) (hK25 : ∀ (v2 : Int64) (v4 : Int32) (v5 : Int32) (σ : St), RR vI Γ (K25 (v2, v4, v5, σ)) → WW Γ cX1_drawnDelays 6 RX1 (some .int) rX1_drawnDelays σ 25 [(0, .ref (xd Γ u0)), (2, .long v2), (4, .int v4), (5, .int v5)] []) (v2 : Int64) (v4 : Int32) (v5 : Int32) (σ : St) (h : RR vI Γ (f_X1_drawnDelays_68 u0 K25 v2 v4 v5 σ)) : WW Γ cX1_drawnDelays 6 RX1 (some .int) rX1_drawnDelays σ 68 [(0, .ref (xd Γ u0)), (2, .long v2), (4, .int v4), (5, .int v5)] [] := by
  unfold f_X1_drawnDelays_68 at h
  obtain ⟨x1, ex1⟩ : ∃ y : Int32, y = (v5 + (1 : Int32)) := ⟨_, rfl⟩
  replace h := h.bnd ex1
  refine w_iinc 3 x1 [(5, .int x1), (0, .ref (xd Γ u0)), (2, .long v2), (4, .int v4)] dX1_drawnDelays_68 rfl (by rw [ex1, ic_iconst_1]) (by decide) rfl rfl ?_
  clear ex1
  refine w_goto (tgt := 25) dX1_drawnDelays_71 (by decide) ?_
  exact w_sub [1, 2, 3, 0] rfl (hK25 v2 v4 x1 σ h)
def g_X1_drawnDelays_25 (u0 : Nat) (K25 : Int64 × Int32 × Int32 × St → Option (Int32 × St)) (x : Int64 × Int32 × Int32 × St) : Option (Int32 × St) := match x with
  | (v2, v4, v5, σ) =>
  gd (isW σ u0) <|
  if (gf σ (u0 + 2) 3) ≤ v5 then
    some (v4, σ)
  else
    bd (f_X1_next v2 σ) fun r1 s2 =>
    bd (f_X1_draw r1 s2) fun r4 s5 =>
    gd (isW s5 u0) <|
    bd (f_X9_cell (u0 + 2) v5 (3 : Int32) s5) fun r7 s8 =>
    if r7 ≤ r4 then
      f_X1_drawnDelays_68 u0 K25 r1 v4 v5 s8
    else
      bnd ((v4 ||| ((1 : Int32) <<< (v5 &&& 31)))) fun x10 =>
      f_X1_drawnDelays_68 u0 K25 r1 x10 v5 s8
theorem l_X1_drawnDelays_25 {Γ : CX} (u0 : Nat) : ∀ (n : Nat) (v2 : Int64) (v4 : Int32) (v5 : Int32) (σ : St), RR vI Γ (itr (g_X1_drawnDelays_25 u0) n (v2, v4, v5, σ)) → WW Γ cX1_drawnDelays 6 RX1 (some .int) rX1_drawnDelays σ 25 [(0, .ref (xd Γ u0)), (2, .long v2), (4, .int v4), (5, .int v5)] [] := by
  intro n
  induction n with
  | zero => intro v2 v4 v5 σ h; exact RR.no h
  | succ n hK25 =>
  intro v2 v4 v5 σ h
  have h : RR vI Γ (g_X1_drawnDelays_25 u0 (itr (g_X1_drawnDelays_25 u0) n) (v2, v4, v5, σ)) := h
  generalize itr (g_X1_drawnDelays_25 u0) n = K25 at h hK25
  unfold g_X1_drawnDelays_25 at h
  dsimp only at h
  refine w_iload 3 dX1_drawnDelays_25 rfl rfl ?_
  refine w_aload_n 0 dX1_drawnDelays_27 rfl rfl rfl ?_
  obtain ⟨hg_u0_σ, h⟩ := h.gd
  refine gf_RX1_24 (i := u0) hg_u0_σ dX1_drawnDelays_28 rfl ?_
  refine gf_RX1_30 (i := (u0 + 2)) (isW_T hg_u0_σ 2 (by decide)) dX1_drawnDelays_31 rfl ?_
  refine w_icmp_ge (tgt := 74) dX1_drawnDelays_34 (by decide) rfl (fun q => ?_) (fun q => ?_)
  · have h := h.tt q
    refine w_iload 2 dX1_drawnDelays_74 rfl rfl ?_
    exact w_ireturn dX1_drawnDelays_76 h
  · have h := h.ff q
    refine w_lload_n 1 dX1_drawnDelays_37 rfl rfl rfl ?_
    obtain ⟨r1, s2, h3, h⟩ := h.bd
    refine k_X1_next ml_RX1_48 (Nat.le_of_ble_eq_true rfl) ⟨Nat.le_of_ble_eq_true rfl, Nat.le_of_ble_eq_true rfl⟩ dX1_drawnDelays_38 rfl h3 ?_
    refine w_lstore_n [(2, .long r1), (0, .ref (xd Γ u0)), (4, .int v4), (5, .int v5)] dX1_drawnDelays_41 rfl (by decide) rfl rfl ?_
    refine w_lload_n 0 dX1_drawnDelays_42 rfl rfl rfl ?_
    obtain ⟨r4, s5, h6, h⟩ := h.bd
    refine k_X1_draw ml_RX1_52 (Nat.le_of_ble_eq_true rfl) ⟨Nat.le_of_ble_eq_true rfl, Nat.le_of_ble_eq_true rfl⟩ dX1_drawnDelays_43 rfl h6 ?_
    refine w_aload_n 1 dX1_drawnDelays_46 rfl rfl rfl ?_
    obtain ⟨hg_u0_s5, h⟩ := h.gd
    refine gf_RX1_24 (i := u0) hg_u0_s5 dX1_drawnDelays_47 rfl ?_
    refine w_iload 3 dX1_drawnDelays_50 rfl rfl ?_
    refine w_iconst (3 : Int32) dX1_drawnDelays_52 ic_iconst_3 rfl ?_
    obtain ⟨r7, s8, h9, h⟩ := h.bd
    refine k_X9_cell ml_RX1_36 (Nat.le_of_ble_eq_true rfl) ⟨Nat.le_of_ble_eq_true rfl, Nat.le_of_ble_eq_true rfl⟩ dX1_drawnDelays_53 rfl h9 ?_
    refine w_icmp_ge (tgt := 68) dX1_drawnDelays_56 (by decide) rfl (fun q => ?_) (fun q => ?_)
    · have h := h.tt q
      exact w_sub [1, 0, 2, 3] rfl (b_X1_drawnDelays_68 u0 K25 hK25 r1 v4 v5 s8 h)
    · have h := h.ff q
      refine w_iload 2 dX1_drawnDelays_59 rfl rfl ?_
      refine w_iconst (1 : Int32) dX1_drawnDelays_61 ic_iconst_1 rfl ?_
      refine w_iload 3 dX1_drawnDelays_62 rfl rfl ?_
      refine w_ishl dX1_drawnDelays_64 rfl ?_
      refine w_ior dX1_drawnDelays_65 rfl ?_
      refine w_nmI (fun x10 ex10 => ?_)
      replace h := h.bnd ex10
      clear ex10
      refine w_istore [(4, .int x10), (2, .long r1), (0, .ref (xd Γ u0)), (5, .int v5)] dX1_drawnDelays_66 (by decide) rfl rfl ?_
      exact w_sub [2, 1, 0, 3] rfl (b_X1_drawnDelays_68 u0 K25 hK25 r1 x10 v5 s8 h)
def f_X1_drawnDelays (u0 : Nat) (p1 : Int32) (σ : St) : Option (Int32 × St) :=
  gd (isW σ u0) <|
  bd (f_X1_next p1.toInt64 σ) fun r1 s2 =>
  bd (f_X1_draw r1 s2) fun r4 s5 =>
  gd (isW s5 u0) <|
  if (gf s5 u0 4) ≤ r4 then
    itr (g_X1_drawnDelays_25 u0) FU (r1, (0 : Int32), (0 : Int32), s5)
  else
    some ((-1 : Int32), s5)
theorem e_X1_drawnDelays {Γ : CX} (u0 : Nat) (p1 : Int32) (σ : St) (h : RR vI Γ (f_X1_drawnDelays u0 p1 σ)) : WW Γ cX1_drawnDelays 6 RX1 (some .int) rX1_drawnDelays σ 0 [(0, .ref (xd Γ u0)), (1, .int p1)] [] := by
  unfold f_X1_drawnDelays at h
  obtain ⟨hg_u0_σ, h⟩ := h.gd
  refine w_iload_n 1 dX1_drawnDelays_0 rfl rfl rfl ?_
  refine w_i2l dX1_drawnDelays_1 rfl ?_
  obtain ⟨r1, s2, h3, h⟩ := h.bd
  refine k_X1_next ml_RX1_48 (Nat.le_of_ble_eq_true rfl) ⟨Nat.le_of_ble_eq_true rfl, Nat.le_of_ble_eq_true rfl⟩ dX1_drawnDelays_2 rfl h3 ?_
  refine w_lstore_n [(2, .long r1), (0, .ref (xd Γ u0)), (1, .int p1)] dX1_drawnDelays_5 rfl (by decide) rfl rfl ?_
  refine w_lload_n 0 dX1_drawnDelays_6 rfl rfl rfl ?_
  obtain ⟨r4, s5, h6, h⟩ := h.bd
  refine k_X1_draw ml_RX1_52 (Nat.le_of_ble_eq_true rfl) ⟨Nat.le_of_ble_eq_true rfl, Nat.le_of_ble_eq_true rfl⟩ dX1_drawnDelays_7 rfl h6 ?_
  refine w_aload_n 1 dX1_drawnDelays_10 rfl rfl rfl ?_
  obtain ⟨hg_u0_s5, h⟩ := h.gd
  refine gf_RX1_56 (i := u0) hg_u0_s5 dX1_drawnDelays_11 rfl ?_
  refine w_icmp_ge (tgt := 19) dX1_drawnDelays_14 (by decide) rfl (fun q => ?_) (fun q => ?_)
  · have h := h.tt q
    refine w_iconst (0 : Int32) dX1_drawnDelays_19 ic_iconst_0 rfl ?_
    refine w_istore [(4, .int (0 : Int32)), (2, .long r1), (0, .ref (xd Γ u0)), (1, .int p1)] dX1_drawnDelays_20 (by decide) rfl rfl ?_
    refine w_iconst (0 : Int32) dX1_drawnDelays_22 ic_iconst_0 rfl ?_
    refine w_istore [(5, .int (0 : Int32)), (4, .int (0 : Int32)), (2, .long r1), (0, .ref (xd Γ u0)), (1, .int p1)] dX1_drawnDelays_23 (by decide) rfl rfl ?_
    exact w_sub [3, 2, 1, 0] rfl (l_X1_drawnDelays_25 u0 FU r1 (0 : Int32) (0 : Int32) s5 h)
  · have h := h.ff q
    refine w_iconst (-1 : Int32) dX1_drawnDelays_17 ic_iconst_m1 rfl ?_
    exact w_ireturn dX1_drawnDelays_18 h
theorem c_X1_drawnDelays {l : Launch} {D : va_G} {cy : Nat → ClassId} {ad : Nat → Nat} {u0 : Nat} {p1 : Int32} {σ σ' : St} {r : Int32} (hf : f_X1_drawnDelays u0 p1 σ = some (r, σ')) : CT l D cy ad yX1_drawnDelays cX1_drawnDelays 6 (some .int) rX1_drawnDelays [.ref (ad u0), .int p1] σ (some (.int r)) σ' :=
  ct_of (by decide) (Nat.le_of_ble_eq_true rfl) (fun p e s m args below meth c A => e_X1_drawnDelays (Γ := (p, l, e, rX1_drawnDelays, s, m, args, below, meth, c, D, cy, ad, A, 0, 0, MQ below (QC D cy ad (some (.int r)) σ' A) args s 0 0 A)) u0 p1 σ ⟨_, hf, rfl⟩)
theorem k_X1_drawnDelays {Γ : CX} {cc : ByteArray} {nL : Nat} {own : String} {ret : Option FieldType} {rm : Room} {σ σ' : St} {pc pc' idx : Nat} {lv : List (Nat × Value)} {rest : List Value} {u0 : Nat} {p1 : Int32} {r : Int32} (hl : Cond.methodLink own idx yX1_drawnDelays ∈ TB) (hw : (rest.map fun v => v.category).sum ≤ 8) (hR : rX1_drawnDelays.frames + 1 ≤ rm.frames ∧ 8 + (6 + 11) + rX1_drawnDelays.locals ≤ rm.locals) (hd : decode cc pc = .ok (.invokestatic idx, 3)) (hp : pc + 3 = pc') (hf : f_X1_drawnDelays u0 p1 σ = some (r, σ')) (h : WW Γ cc nL own ret rm σ' pc' lv (.int r :: rest)) : WW Γ cc nL own ret rm σ pc lv (.int p1 :: .ref (xd Γ u0) :: rest) :=
  w_callS (nn := 2) (As := [.ref (xd Γ u0), .int p1]) (v := (some (.int r))) (c_X1_drawnDelays hf) hl mw_X1_drawnDelays (by decide +kernel) ⟨rfl, rfl⟩ hR rfl hw hd rfl hp h
/-! WarByHours.Course.follow (I)V -/
def rX2_follow : Room := { frames := 4, cells := 0, slots := 0, locals := 91 }
def f_X2_follow_54 (K11 : Int32 × Int32 × Int32 × St → Option (Unit × St)) (v1 : Int32) (v2 : Int32) (v3 : Int32) (σ : St) : Option (Unit × St) :=
  gd (inb (v3 + (1 : Int32)) (ln 32)) <|
  bnd (sr σ 32 (v3 + (1 : Int32)).toNatClampNeg v2) fun s2 =>
  bnd (v3 + (1 : Int32)) fun x3 =>
  K11 (v1, v2, x3, s2)
theorem b_X2_follow_54 {Γ : CX} (K11 : Int32 × Int32 × Int32 × St → Option (Unit × St)) (hK11 : ∀ (v1 : Int32) (v2 : Int32) (v3 : Int32) (σ : St), RR vU Γ (K11 (v1, v2, v3, σ)) → WW Γ cX2_follow 4 RX2 none rX2_follow σ 11 [(0, .ref (xd Γ 31)), (1, .int v1), (2, .int v2), (3, .int v3)] []) (v1 : Int32) (v2 : Int32) (v3 : Int32) (σ : St) (h : RR vU Γ (f_X2_follow_54 K11 v1 v2 v3 σ)) : WW Γ cX2_follow 4 RX2 none rX2_follow σ 54 [(0, .ref (xd Γ 31)), (1, .int v1), (2, .int v2), (3, .int v3)] [] := by
  unfold f_X2_follow_54 at h
  refine w_aload_n 0 dX2_follow_54 rfl rfl rfl ?_
  refine gf_RX2_9 dX2_follow_55 rfl ?_
  refine w_iload_n 3 dX2_follow_58 rfl rfl rfl ?_
  refine w_iconst (1 : Int32) dX2_follow_59 ic_iconst_1 rfl ?_
  refine w_iadd dX2_follow_60 rfl ?_
  refine w_iload_n 2 dX2_follow_61 rfl rfl rfl ?_
  obtain ⟨hi1, h⟩ := h.gd
  refine w_iast (i := 32) (lt_lit (by decide)) rfl hi1 dX2_follow_62 rfl ?_
  obtain ⟨s2, es2⟩ : ∃ y : St, y = (sr σ 32 (v3 + (1 : Int32)).toNatClampNeg v2) := ⟨_, rfl⟩
  rw [← es2]
  replace h := h.bnd es2
  clear es2
  obtain ⟨x3, ex3⟩ : ∃ y : Int32, y = (v3 + (1 : Int32)) := ⟨_, rfl⟩
  replace h := h.bnd ex3
  refine w_iinc 3 x3 [(3, .int x3), (0, .ref (xd Γ 31)), (1, .int v1), (2, .int v2)] dX2_follow_63 rfl (by rw [ex3, ic_iconst_1]) (by decide) rfl rfl ?_
  clear ex3
  refine w_goto (tgt := 11) dX2_follow_66 (by decide) ?_
  exact w_sub [1, 2, 3, 0] rfl (hK11 v1 v2 x3 s2 h)
def f_X2_follow_69 (σ : St) : Option (Unit × St) :=
  some ((), σ)
theorem b_X2_follow_69 {Γ : CX} (σ : St) (h : RR vU Γ (f_X2_follow_69 σ)) : WW Γ cX2_follow 4 RX2 none rX2_follow σ 69 [] [] := by
  unfold f_X2_follow_69 at h
  exact w_return dX2_follow_69 h
def g_X2_follow_11 (K11 : Int32 × Int32 × Int32 × St → Option (Unit × St)) (x : Int32 × Int32 × Int32 × St) : Option (Unit × St) := match x with
  | (v1, v2, v3, σ) =>
  if (gf σ 1 1) ≤ v3 then
    f_X2_follow_69 σ
  else
    if (60 : Int32) ≤ v3 then
      f_X2_follow_69 σ
    else
      bd (f_X10_isTea 1 v3 σ) fun r1 s2 =>
      if r1 = 0 then
        bd (f_X10_leadIn 1 v3 v1 s2) fun r4 s5 =>
        bd (f_X2_signOf r4 s5) fun r7 s8 =>
        bnd ((v2 + r7)) fun x10 =>
        f_X2_follow_54 K11 v1 x10 v3 s8
      else
        f_X2_follow_54 K11 v1 v2 v3 s2
theorem l_X2_follow_11 {Γ : CX} : ∀ (n : Nat) (v1 : Int32) (v2 : Int32) (v3 : Int32) (σ : St), RR vU Γ (itr (g_X2_follow_11) n (v1, v2, v3, σ)) → WW Γ cX2_follow 4 RX2 none rX2_follow σ 11 [(0, .ref (xd Γ 31)), (1, .int v1), (2, .int v2), (3, .int v3)] [] := by
  intro n
  induction n with
  | zero => intro v1 v2 v3 σ h; exact RR.no h
  | succ n hK11 =>
  intro v1 v2 v3 σ h
  have h : RR vU Γ (g_X2_follow_11 (itr (g_X2_follow_11) n) (v1, v2, v3, σ)) := h
  generalize itr (g_X2_follow_11) n = K11 at h hK11
  unfold g_X2_follow_11 at h
  dsimp only at h
  refine w_iload_n 3 dX2_follow_11 rfl rfl rfl ?_
  refine w_aload_n 0 dX2_follow_12 rfl rfl rfl ?_
  refine gf_RX2_24 dX2_follow_13 rfl ?_
  refine gf_RX2_32 (i := 1) (isW_lit (by decide)) dX2_follow_16 rfl ?_
  refine w_icmp_ge (tgt := 69) dX2_follow_19 (by decide) rfl (fun q => ?_) (fun q => ?_)
  · have h := h.tt q
    exact w_sub [] rfl (b_X2_follow_69 σ h)
  · have h := h.ff q
    refine w_iload_n 3 dX2_follow_22 rfl rfl rfl ?_
    refine w_bipush (60 : Int32) dX2_follow_23 ic_bipush_60 rfl ?_
    refine w_icmp_ge (tgt := 69) dX2_follow_25 (by decide) rfl (fun q => ?_) (fun q => ?_)
    · have h := h.tt q
      exact w_sub [] rfl (b_X2_follow_69 σ h)
    · have h := h.ff q
      refine w_aload_n 0 dX2_follow_28 rfl rfl rfl ?_
      refine gf_RX2_24 dX2_follow_29 rfl ?_
      refine w_iload_n 3 dX2_follow_32 rfl rfl rfl ?_
      obtain ⟨r1, s2, h3, h⟩ := h.bd
      refine k_X10_isTea ml_RX2_38 (Nat.le_of_ble_eq_true rfl) ⟨Nat.le_of_ble_eq_true rfl, Nat.le_of_ble_eq_true rfl⟩ dX2_follow_33 rfl h3 ?_
      refine w_if_ne (tgt := 54) dX2_follow_36 (by decide) rfl (fun q => ?_) (fun q => ?_)
      · have h := h.ff q
        exact w_sub [0, 1, 2, 3] rfl (b_X2_follow_54 K11 hK11 v1 v2 v3 s2 h)
      · have h := h.tt q
        refine w_iload_n 2 dX2_follow_39 rfl rfl rfl ?_
        refine w_aload_n 0 dX2_follow_40 rfl rfl rfl ?_
        refine gf_RX2_24 dX2_follow_41 rfl ?_
        refine w_iload_n 3 dX2_follow_44 rfl rfl rfl ?_
        refine w_iload_n 1 dX2_follow_45 rfl rfl rfl ?_
        obtain ⟨r4, s5, h6, h⟩ := h.bd
        refine k_X10_leadIn ml_RX2_42 (Nat.le_of_ble_eq_true rfl) ⟨Nat.le_of_ble_eq_true rfl, Nat.le_of_ble_eq_true rfl⟩ dX2_follow_46 rfl h6 ?_
        obtain ⟨r7, s8, h9, h⟩ := h.bd
        refine k_X2_signOf ml_RX2_46 (Nat.le_of_ble_eq_true rfl) ⟨Nat.le_of_ble_eq_true rfl, Nat.le_of_ble_eq_true rfl⟩ dX2_follow_49 rfl h9 ?_
        refine w_iadd dX2_follow_52 rfl ?_
        refine w_nmI (fun x10 ex10 => ?_)
        replace h := h.bnd ex10
        clear ex10
        refine w_istore_n [(2, .int x10), (0, .ref (xd Γ 31)), (1, .int v1), (3, .int v3)] dX2_follow_53 rfl (by decide) rfl rfl ?_
        exact w_sub [1, 2, 0, 3] rfl (b_X2_follow_54 K11 hK11 v1 x10 v3 s8 h)
def f_X2_follow (p0 : Int32) (σ : St) : Option (Unit × St) :=
  gd (inb (0 : Int32) (ln 32)) <|
  bnd (sr σ 32 (0 : Int32).toNatClampNeg (0 : Int32)) fun s2 =>
  itr (g_X2_follow_11) FU (p0, (0 : Int32), (0 : Int32), s2)
theorem e_X2_follow {Γ : CX} (p0 : Int32) (σ : St) (h : RR vU Γ (f_X2_follow p0 σ)) : WW Γ cX2_follow 4 RX2 none rX2_follow σ 0 [(0, .ref (xd Γ 31)), (1, .int p0)] [] := by
  unfold f_X2_follow at h
  refine w_iconst (0 : Int32) dX2_follow_0 ic_iconst_0 rfl ?_
  refine w_istore_n [(2, .int (0 : Int32)), (0, .ref (xd Γ 31)), (1, .int p0)] dX2_follow_1 rfl (by decide) rfl rfl ?_
  refine w_aload_n 1 dX2_follow_2 rfl rfl rfl ?_
  refine gf_RX2_9 dX2_follow_3 rfl ?_
  refine w_iconst (0 : Int32) dX2_follow_6 ic_iconst_0 rfl ?_
  refine w_iconst (0 : Int32) dX2_follow_7 ic_iconst_0 rfl ?_
  obtain ⟨hi1, h⟩ := h.gd
  refine w_iast (i := 32) (lt_lit (by decide)) rfl hi1 dX2_follow_8 rfl ?_
  obtain ⟨s2, es2⟩ : ∃ y : St, y = (sr σ 32 (0 : Int32).toNatClampNeg (0 : Int32)) := ⟨_, rfl⟩
  rw [← es2]
  replace h := h.bnd es2
  clear es2
  refine w_iconst (0 : Int32) dX2_follow_9 ic_iconst_0 rfl ?_
  refine w_istore_n [(3, .int (0 : Int32)), (2, .int (0 : Int32)), (0, .ref (xd Γ 31)), (1, .int p0)] dX2_follow_10 rfl (by decide) rfl rfl ?_
  exact w_sub [2, 3, 1, 0] rfl (l_X2_follow_11 FU p0 (0 : Int32) (0 : Int32) s2 h)
theorem c_X2_follow {l : Launch} {D : va_G} {cy : Nat → ClassId} {ad : Nat → Nat} {p0 : Int32} {σ σ' : St} {r : Unit} (hf : f_X2_follow p0 σ = some (r, σ')) : CT l D cy ad yX2_follow cX2_follow 4 none rX2_follow [.ref (ad 31), .int p0] σ none σ' :=
  ct_of (by decide) (Nat.le_of_ble_eq_true rfl) (fun p e s m args below meth c A => e_X2_follow (Γ := (p, l, e, rX2_follow, s, m, args, below, meth, c, D, cy, ad, A, 0, 0, MQ below (QC D cy ad none σ' A) args s 0 0 A)) p0 σ ⟨_, hf, rfl⟩)
theorem k_X2_follow {Γ : CX} {cc : ByteArray} {nL : Nat} {own : String} {ret : Option FieldType} {rm : Room} {σ σ' : St} {pc pc' idx : Nat} {lv : List (Nat × Value)} {rest : List Value} {p0 : Int32} {r : Unit} (hl : Cond.methodLink own idx yX2_follow ∈ TB) (hw : (rest.map fun v => v.category).sum ≤ 8) (hR : rX2_follow.frames + 1 ≤ rm.frames ∧ 8 + (4 + 11) + rX2_follow.locals ≤ rm.locals) (hd : decode cc pc = .ok (.invokevirtual idx, 3)) (hp : pc + 3 = pc') (hf : f_X2_follow p0 σ = some (r, σ')) (h : WW Γ cc nL own ret rm σ' pc' lv (rest)) : WW Γ cc nL own ret rm σ pc lv (.int p0 :: .ref (xd Γ 31) :: rest) :=
  w_callV (nn := 1) (i := 31) (As := [.int p0]) (v := none) (T := TX2) (N := 6) (c_X2_follow hf) hl mw_X2_follow (by decide +kernel) ⟨rfl, rfl⟩ hR (lt_lit (by decide)) cel_31 rfl rfl hw hd rfl hp h
/-! WarByHours.Course.winnerBy (I)I -/
def rX2_winnerBy : Room := { frames := 5, cells := 0, slots := 0, locals := 114 }
def f_X2_winnerBy (p0 : Int32) (σ : St) : Option (Int32 × St) :=
  bd (f_X2_follow p0 σ) fun _ s2 =>
  bd (f_X10_lateSides 1 p0 s2) fun r4 s5 =>
  bd (f_X2_frontBehind (gf s5 1 1) s5) fun r7 s8 =>
  bd (f_X2_winner r4 r7 s8) fun r10 s11 =>
  some (r10, s11)
theorem e_X2_winnerBy {Γ : CX} (p0 : Int32) (σ : St) (h : RR vI Γ (f_X2_winnerBy p0 σ)) : WW Γ cX2_winnerBy 2 RX2 (some .int) rX2_winnerBy σ 0 [(0, .ref (xd Γ 31)), (1, .int p0)] [] := by
  unfold f_X2_winnerBy at h
  refine w_aload_n 0 dX2_winnerBy_0 rfl rfl rfl ?_
  refine w_iload_n 1 dX2_winnerBy_1 rfl rfl rfl ?_
  obtain ⟨r1, s2, h3, h⟩ := h.bd
  refine k_X2_follow ml_RX2_50 (Nat.le_of_ble_eq_true rfl) ⟨Nat.le_of_ble_eq_true rfl, Nat.le_of_ble_eq_true rfl⟩ dX2_winnerBy_2 rfl h3 ?_
  refine w_aload_n 0 dX2_winnerBy_5 rfl rfl rfl ?_
  refine gf_RX2_24 dX2_winnerBy_6 rfl ?_
  refine w_iload_n 1 dX2_winnerBy_9 rfl rfl rfl ?_
  obtain ⟨r4, s5, h6, h⟩ := h.bd
  refine k_X10_lateSides ml_RX2_54 (Nat.le_of_ble_eq_true rfl) ⟨Nat.le_of_ble_eq_true rfl, Nat.le_of_ble_eq_true rfl⟩ dX2_winnerBy_10 rfl h6 ?_
  refine w_aload_n 0 dX2_winnerBy_13 rfl rfl rfl ?_
  refine w_aload_n 0 dX2_winnerBy_14 rfl rfl rfl ?_
  refine gf_RX2_24 dX2_winnerBy_15 rfl ?_
  refine gf_RX2_32 (i := 1) (isW_lit (by decide)) dX2_winnerBy_18 rfl ?_
  obtain ⟨r7, s8, h9, h⟩ := h.bd
  refine k_X2_frontBehind ml_RX2_57 (Nat.le_of_ble_eq_true rfl) ⟨Nat.le_of_ble_eq_true rfl, Nat.le_of_ble_eq_true rfl⟩ dX2_winnerBy_21 rfl h9 ?_
  obtain ⟨r10, s11, h12, h⟩ := h.bd
  refine k_X2_winner ml_RX2_60 (Nat.le_of_ble_eq_true rfl) ⟨Nat.le_of_ble_eq_true rfl, Nat.le_of_ble_eq_true rfl⟩ dX2_winnerBy_24 rfl h12 ?_
  exact w_ireturn dX2_winnerBy_27 h
theorem c_X2_winnerBy {l : Launch} {D : va_G} {cy : Nat → ClassId} {ad : Nat → Nat} {p0 : Int32} {σ σ' : St} {r : Int32} (hf : f_X2_winnerBy p0 σ = some (r, σ')) : CT l D cy ad yX2_winnerBy cX2_winnerBy 2 (some .int) rX2_winnerBy [.ref (ad 31), .int p0] σ (some (.int r)) σ' :=
  ct_of (by decide) (Nat.le_of_ble_eq_true rfl) (fun p e s m args below meth c A => e_X2_winnerBy (Γ := (p, l, e, rX2_winnerBy, s, m, args, below, meth, c, D, cy, ad, A, 0, 0, MQ below (QC D cy ad (some (.int r)) σ' A) args s 0 0 A)) p0 σ ⟨_, hf, rfl⟩)
theorem k_X2_winnerBy {Γ : CX} {cc : ByteArray} {nL : Nat} {own : String} {ret : Option FieldType} {rm : Room} {σ σ' : St} {pc pc' idx : Nat} {lv : List (Nat × Value)} {rest : List Value} {p0 : Int32} {r : Int32} (hl : Cond.methodLink own idx yX2_winnerBy ∈ TB) (hw : (rest.map fun v => v.category).sum ≤ 8) (hR : rX2_winnerBy.frames + 1 ≤ rm.frames ∧ 8 + (2 + 11) + rX2_winnerBy.locals ≤ rm.locals) (hd : decode cc pc = .ok (.invokevirtual idx, 3)) (hp : pc + 3 = pc') (hf : f_X2_winnerBy p0 σ = some (r, σ')) (h : WW Γ cc nL own ret rm σ' pc' lv (.int r :: rest)) : WW Γ cc nL own ret rm σ pc lv (.int p0 :: .ref (xd Γ 31) :: rest) :=
  w_callV (nn := 1) (i := 31) (As := [.int p0]) (v := (some (.int r))) (T := TX2) (N := 6) (c_X2_winnerBy hf) hl mw_X2_winnerBy (by decide +kernel) ⟨rfl, rfl⟩ hR (lt_lit (by decide)) cel_31 rfl rfl hw hd rfl hp h
/-! WarByHours.Course.peakOf (I)I -/
def rX2_peakOf : Room := { frames := 1, cells := 0, slots := 0, locals := 21 }
def f_X2_peakOf_38 (K4 : Int32 × Int32 × Int32 × St → Option (Int32 × St)) (v1 : Int32) (v2 : Int32) (v3 : Int32) (σ : St) : Option (Int32 × St) :=
  bnd (v3 + (1 : Int32)) fun x1 =>
  K4 (v1, v2, x1, σ)
theorem b_X2_peakOf_38 {Γ : CX} (K4 : Int32 × Int32 × Int32 × St → Option (Int32 × St)) (hK4 : ∀ (v1 : Int32) (v2 : Int32) (v3 : Int32) (σ : St), RR vI Γ (K4 (v1, v2, v3, σ)) → WW Γ cX2_peakOf 4 RX2 (some .int) rX2_peakOf σ 4 [(0, .ref (xd Γ 31)), (1, .int v1), (2, .int v2), (3, .int v3)] []) (v1 : Int32) (v2 : Int32) (v3 : Int32) (σ : St) (h : RR vI Γ (f_X2_peakOf_38 K4 v1 v2 v3 σ)) : WW Γ cX2_peakOf 4 RX2 (some .int) rX2_peakOf σ 38 [(0, .ref (xd Γ 31)), (1, .int v1), (2, .int v2), (3, .int v3)] [] := by
  unfold f_X2_peakOf_38 at h
  obtain ⟨x1, ex1⟩ : ∃ y : Int32, y = (v3 + (1 : Int32)) := ⟨_, rfl⟩
  replace h := h.bnd ex1
  refine w_iinc 3 x1 [(3, .int x1), (0, .ref (xd Γ 31)), (1, .int v1), (2, .int v2)] dX2_peakOf_38 rfl (by rw [ex1, ic_iconst_1]) (by decide) rfl rfl ?_
  clear ex1
  refine w_goto (tgt := 4) dX2_peakOf_41 (by decide) ?_
  exact w_sub [1, 2, 3, 0] rfl (hK4 v1 v2 x1 σ h)
def g_X2_peakOf_4 (K4 : Int32 × Int32 × Int32 × St → Option (Int32 × St)) (x : Int32 × Int32 × Int32 × St) : Option (Int32 × St) := match x with
  | (v1, v2, v3, σ) =>
  if (gf σ 1 1) < v3 then
    some (v2, σ)
  else
    bd (f_X2_frontBehind v3 σ) fun r1 s2 =>
    bd (f_X2_good v1 r1 s2) fun r4 s5 =>
    bd (f_X2_frontBehind v2 s5) fun r7 s8 =>
    bd (f_X2_good v1 r7 s8) fun r10 s11 =>
    if r4 ≤ r10 then
      f_X2_peakOf_38 K4 v1 v2 v3 s11
    else
      f_X2_peakOf_38 K4 v1 v3 v3 s11
theorem l_X2_peakOf_4 {Γ : CX} : ∀ (n : Nat) (v1 : Int32) (v2 : Int32) (v3 : Int32) (σ : St), RR vI Γ (itr (g_X2_peakOf_4) n (v1, v2, v3, σ)) → WW Γ cX2_peakOf 4 RX2 (some .int) rX2_peakOf σ 4 [(0, .ref (xd Γ 31)), (1, .int v1), (2, .int v2), (3, .int v3)] [] := by
  intro n
  induction n with
  | zero => intro v1 v2 v3 σ h; exact RR.no h
  | succ n hK4 =>
  intro v1 v2 v3 σ h
  have h : RR vI Γ (g_X2_peakOf_4 (itr (g_X2_peakOf_4) n) (v1, v2, v3, σ)) := h
  generalize itr (g_X2_peakOf_4) n = K4 at h hK4
  unfold g_X2_peakOf_4 at h
  dsimp only at h
  refine w_iload_n 3 dX2_peakOf_4 rfl rfl rfl ?_
  refine w_aload_n 0 dX2_peakOf_5 rfl rfl rfl ?_
  refine gf_RX2_24 dX2_peakOf_6 rfl ?_
  refine gf_RX2_32 (i := 1) (isW_lit (by decide)) dX2_peakOf_9 rfl ?_
  refine w_icmp_gt (tgt := 44) dX2_peakOf_12 (by decide) rfl (fun q => ?_) (fun q => ?_)
  · have h := h.tt q
    refine w_iload_n 2 dX2_peakOf_44 rfl rfl rfl ?_
    exact w_ireturn dX2_peakOf_45 h
  · have h := h.ff q
    refine w_iload_n 1 dX2_peakOf_15 rfl rfl rfl ?_
    refine w_aload_n 0 dX2_peakOf_16 rfl rfl rfl ?_
    refine w_iload_n 3 dX2_peakOf_17 rfl rfl rfl ?_
    obtain ⟨r1, s2, h3, h⟩ := h.bd
    refine k_X2_frontBehind ml_RX2_57 (Nat.le_of_ble_eq_true rfl) ⟨Nat.le_of_ble_eq_true rfl, Nat.le_of_ble_eq_true rfl⟩ dX2_peakOf_18 rfl h3 ?_
    obtain ⟨r4, s5, h6, h⟩ := h.bd
    refine k_X2_good ml_RX2_63 (Nat.le_of_ble_eq_true rfl) ⟨Nat.le_of_ble_eq_true rfl, Nat.le_of_ble_eq_true rfl⟩ dX2_peakOf_21 rfl h6 ?_
    refine w_iload_n 1 dX2_peakOf_24 rfl rfl rfl ?_
    refine w_aload_n 0 dX2_peakOf_25 rfl rfl rfl ?_
    refine w_iload_n 2 dX2_peakOf_26 rfl rfl rfl ?_
    obtain ⟨r7, s8, h9, h⟩ := h.bd
    refine k_X2_frontBehind ml_RX2_57 (Nat.le_of_ble_eq_true rfl) ⟨Nat.le_of_ble_eq_true rfl, Nat.le_of_ble_eq_true rfl⟩ dX2_peakOf_27 rfl h9 ?_
    obtain ⟨r10, s11, h12, h⟩ := h.bd
    refine k_X2_good ml_RX2_63 (Nat.le_of_ble_eq_true rfl) ⟨Nat.le_of_ble_eq_true rfl, Nat.le_of_ble_eq_true rfl⟩ dX2_peakOf_30 rfl h12 ?_
    refine w_icmp_le (tgt := 38) dX2_peakOf_33 (by decide) rfl (fun q => ?_) (fun q => ?_)
    · have h := h.tt q
      exact w_sub [0, 1, 2, 3] rfl (b_X2_peakOf_38 K4 hK4 v1 v2 v3 s11 h)
    · have h := h.ff q
      refine w_iload_n 3 dX2_peakOf_36 rfl rfl rfl ?_
      refine w_istore_n [(2, .int v3), (0, .ref (xd Γ 31)), (1, .int v1), (3, .int v3)] dX2_peakOf_37 rfl (by decide) rfl rfl ?_
      exact w_sub [1, 2, 0, 3] rfl (b_X2_peakOf_38 K4 hK4 v1 v3 v3 s11 h)
def f_X2_peakOf (p0 : Int32) (σ : St) : Option (Int32 × St) :=
  itr (g_X2_peakOf_4) FU (p0, (0 : Int32), (1 : Int32), σ)
theorem e_X2_peakOf {Γ : CX} (p0 : Int32) (σ : St) (h : RR vI Γ (f_X2_peakOf p0 σ)) : WW Γ cX2_peakOf 4 RX2 (some .int) rX2_peakOf σ 0 [(0, .ref (xd Γ 31)), (1, .int p0)] [] := by
  unfold f_X2_peakOf at h
  refine w_iconst (0 : Int32) dX2_peakOf_0 ic_iconst_0 rfl ?_
  refine w_istore_n [(2, .int (0 : Int32)), (0, .ref (xd Γ 31)), (1, .int p0)] dX2_peakOf_1 rfl (by decide) rfl rfl ?_
  refine w_iconst (1 : Int32) dX2_peakOf_2 ic_iconst_1 rfl ?_
  refine w_istore_n [(3, .int (1 : Int32)), (2, .int (0 : Int32)), (0, .ref (xd Γ 31)), (1, .int p0)] dX2_peakOf_3 rfl (by decide) rfl rfl ?_
  exact w_sub [2, 3, 1, 0] rfl (l_X2_peakOf_4 FU p0 (0 : Int32) (1 : Int32) σ h)
theorem c_X2_peakOf {l : Launch} {D : va_G} {cy : Nat → ClassId} {ad : Nat → Nat} {p0 : Int32} {σ σ' : St} {r : Int32} (hf : f_X2_peakOf p0 σ = some (r, σ')) : CT l D cy ad yX2_peakOf cX2_peakOf 4 (some .int) rX2_peakOf [.ref (ad 31), .int p0] σ (some (.int r)) σ' :=
  ct_of (by decide) (Nat.le_of_ble_eq_true rfl) (fun p e s m args below meth c A => e_X2_peakOf (Γ := (p, l, e, rX2_peakOf, s, m, args, below, meth, c, D, cy, ad, A, 0, 0, MQ below (QC D cy ad (some (.int r)) σ' A) args s 0 0 A)) p0 σ ⟨_, hf, rfl⟩)
theorem k_X2_peakOf {Γ : CX} {cc : ByteArray} {nL : Nat} {own : String} {ret : Option FieldType} {rm : Room} {σ σ' : St} {pc pc' idx : Nat} {lv : List (Nat × Value)} {rest : List Value} {p0 : Int32} {r : Int32} (hl : Cond.methodLink own idx yX2_peakOf ∈ TB) (hw : (rest.map fun v => v.category).sum ≤ 8) (hR : rX2_peakOf.frames + 1 ≤ rm.frames ∧ 8 + (4 + 11) + rX2_peakOf.locals ≤ rm.locals) (hd : decode cc pc = .ok (.invokevirtual idx, 3)) (hp : pc + 3 = pc') (hf : f_X2_peakOf p0 σ = some (r, σ')) (h : WW Γ cc nL own ret rm σ' pc' lv (.int r :: rest)) : WW Γ cc nL own ret rm σ pc lv (.int p0 :: .ref (xd Γ 31) :: rest) :=
  w_callV (nn := 1) (i := 31) (As := [.int p0]) (v := (some (.int r))) (T := TX2) (N := 6) (c_X2_peakOf hf) hl mw_X2_peakOf (by decide +kernel) ⟨rfl, rfl⟩ hR (lt_lit (by decide)) cel_31 rfl rfl hw hd rfl hp h
/-! WarByHours.Course.countSwings ()I -/
def rX2_countSwings : Room := { frames := 1, cells := 0, slots := 0, locals := 21 }
def f_X2_countSwings_45 (K6 : Int32 × Int32 × Int32 × St → Option (Int32 × St)) (v1 : Int32) (v2 : Int32) (v3 : Int32) (σ : St) : Option (Int32 × St) :=
  bnd (v3 + (1 : Int32)) fun x1 =>
  K6 (v1, v2, x1, σ)
theorem b_X2_countSwings_45 {Γ : CX} (K6 : Int32 × Int32 × Int32 × St → Option (Int32 × St)) (hK6 : ∀ (v1 : Int32) (v2 : Int32) (v3 : Int32) (σ : St), RR vI Γ (K6 (v1, v2, v3, σ)) → WW Γ cX2_countSwings 5 RX2 (some .int) rX2_countSwings σ 6 [(0, .ref (xd Γ 31)), (1, .int v1), (2, .int v2), (3, .int v3)] []) (v1 : Int32) (v2 : Int32) (v3 : Int32) (σ : St) (h : RR vI Γ (f_X2_countSwings_45 K6 v1 v2 v3 σ)) : WW Γ cX2_countSwings 5 RX2 (some .int) rX2_countSwings σ 45 [(0, .ref (xd Γ 31)), (1, .int v1), (2, .int v2), (3, .int v3)] [] := by
  unfold f_X2_countSwings_45 at h
  obtain ⟨x1, ex1⟩ : ∃ y : Int32, y = (v3 + (1 : Int32)) := ⟨_, rfl⟩
  replace h := h.bnd ex1
  refine w_iinc 3 x1 [(3, .int x1), (0, .ref (xd Γ 31)), (1, .int v1), (2, .int v2)] dX2_countSwings_45 rfl (by rw [ex1, ic_iconst_1]) (by decide) rfl rfl ?_
  clear ex1
  refine w_goto (tgt := 6) dX2_countSwings_48 (by decide) ?_
  exact w_sub [1, 2, 3, 0] rfl (hK6 v1 v2 x1 σ h)
def f_X2_countSwings_42 (K6 : Int32 × Int32 × Int32 × St → Option (Int32 × St)) (v1 : Int32) (v3 : Int32) (v4 : Int32) (σ : St) : Option (Int32 × St) :=
  f_X2_countSwings_45 K6 v1 v4 v3 σ
theorem b_X2_countSwings_42 {Γ : CX} (K6 : Int32 × Int32 × Int32 × St → Option (Int32 × St)) (hK6 : ∀ (v1 : Int32) (v2 : Int32) (v3 : Int32) (σ : St), RR vI Γ (K6 (v1, v2, v3, σ)) → WW Γ cX2_countSwings 5 RX2 (some .int) rX2_countSwings σ 6 [(0, .ref (xd Γ 31)), (1, .int v1), (2, .int v2), (3, .int v3)] []) (v1 : Int32) (v3 : Int32) (v4 : Int32) (σ : St) (h : RR vI Γ (f_X2_countSwings_42 K6 v1 v3 v4 σ)) : WW Γ cX2_countSwings 5 RX2 (some .int) rX2_countSwings σ 42 [(0, .ref (xd Γ 31)), (1, .int v1), (3, .int v3), (4, .int v4)] [] := by
  unfold f_X2_countSwings_42 at h
  refine w_iload 3 dX2_countSwings_42 rfl rfl ?_
  refine w_istore_n [(2, .int v4), (0, .ref (xd Γ 31)), (1, .int v1), (3, .int v3), (4, .int v4)] dX2_countSwings_44 rfl (by decide) rfl rfl ?_
  exact w_sub [1, 2, 0, 3] rfl (b_X2_countSwings_45 K6 hK6 v1 v4 v3 σ h)
def g_X2_countSwings_6 (K6 : Int32 × Int32 × Int32 × St → Option (Int32 × St)) (x : Int32 × Int32 × Int32 × St) : Option (Int32 × St) := match x with
  | (v1, v2, v3, σ) =>
  if (gf σ 1 1) < v3 then
    some (v1, σ)
  else
    bd (f_X2_frontBehind v3 σ) fun r1 s2 =>
    bd (f_X2_signOf r1 s2) fun r4 s5 =>
    if r4 = 0 then
      f_X2_countSwings_45 K6 v1 v2 v3 s5
    else
      if r4 = (-v2) then
        bnd (v1 + (1 : Int32)) fun x7 =>
        f_X2_countSwings_42 K6 x7 v3 r4 s5
      else
        f_X2_countSwings_42 K6 v1 v3 r4 s5
theorem l_X2_countSwings_6 {Γ : CX} : ∀ (n : Nat) (v1 : Int32) (v2 : Int32) (v3 : Int32) (σ : St), RR vI Γ (itr (g_X2_countSwings_6) n (v1, v2, v3, σ)) → WW Γ cX2_countSwings 5 RX2 (some .int) rX2_countSwings σ 6 [(0, .ref (xd Γ 31)), (1, .int v1), (2, .int v2), (3, .int v3)] [] := by
  intro n
  induction n with
  | zero => intro v1 v2 v3 σ h; exact RR.no h
  | succ n hK6 =>
  intro v1 v2 v3 σ h
  have h : RR vI Γ (g_X2_countSwings_6 (itr (g_X2_countSwings_6) n) (v1, v2, v3, σ)) := h
  generalize itr (g_X2_countSwings_6) n = K6 at h hK6
  unfold g_X2_countSwings_6 at h
  dsimp only at h
  refine w_iload_n 3 dX2_countSwings_6 rfl rfl rfl ?_
  refine w_aload_n 0 dX2_countSwings_7 rfl rfl rfl ?_
  refine gf_RX2_24 dX2_countSwings_8 rfl ?_
  refine gf_RX2_32 (i := 1) (isW_lit (by decide)) dX2_countSwings_11 rfl ?_
  refine w_icmp_gt (tgt := 51) dX2_countSwings_14 (by decide) rfl (fun q => ?_) (fun q => ?_)
  · have h := h.tt q
    refine w_iload_n 1 dX2_countSwings_51 rfl rfl rfl ?_
    exact w_ireturn dX2_countSwings_52 h
  · have h := h.ff q
    refine w_aload_n 0 dX2_countSwings_17 rfl rfl rfl ?_
    refine w_iload_n 3 dX2_countSwings_18 rfl rfl rfl ?_
    obtain ⟨r1, s2, h3, h⟩ := h.bd
    refine k_X2_frontBehind ml_RX2_57 (Nat.le_of_ble_eq_true rfl) ⟨Nat.le_of_ble_eq_true rfl, Nat.le_of_ble_eq_true rfl⟩ dX2_countSwings_19 rfl h3 ?_
    obtain ⟨r4, s5, h6, h⟩ := h.bd
    refine k_X2_signOf ml_RX2_46 (Nat.le_of_ble_eq_true rfl) ⟨Nat.le_of_ble_eq_true rfl, Nat.le_of_ble_eq_true rfl⟩ dX2_countSwings_22 rfl h6 ?_
    refine w_istore [(4, .int r4), (0, .ref (xd Γ 31)), (1, .int v1), (2, .int v2), (3, .int v3)] dX2_countSwings_25 (by decide) rfl rfl ?_
    refine w_iload 0 dX2_countSwings_27 rfl rfl ?_
    refine w_if_eq (tgt := 45) dX2_countSwings_29 (by decide) rfl (fun q => ?_) (fun q => ?_)
    · have h := h.tt q
      exact w_sub [1, 2, 3, 4] rfl (b_X2_countSwings_45 K6 hK6 v1 v2 v3 s5 h)
    · have h := h.ff q
      refine w_iload 0 dX2_countSwings_32 rfl rfl ?_
      refine w_iload_n 3 dX2_countSwings_34 rfl rfl rfl ?_
      refine w_ineg dX2_countSwings_35 rfl ?_
      refine w_icmp_ne (tgt := 42) dX2_countSwings_36 (by decide) rfl (fun q => ?_) (fun q => ?_)
      · have h := h.ff q
        exact w_sub [1, 2, 4, 0] rfl (b_X2_countSwings_42 K6 hK6 v1 v3 r4 s5 h)
      · have h := h.tt q
        obtain ⟨x7, ex7⟩ : ∃ y : Int32, y = (v1 + (1 : Int32)) := ⟨_, rfl⟩
        replace h := h.bnd ex7
        refine w_iinc 2 x7 [(1, .int x7), (4, .int r4), (0, .ref (xd Γ 31)), (2, .int v2), (3, .int v3)] dX2_countSwings_39 rfl (by rw [ex7, ic_iconst_1]) (by decide) rfl rfl ?_
        clear ex7
        exact w_sub [2, 0, 4, 1] rfl (b_X2_countSwings_42 K6 hK6 x7 v3 r4 s5 h)
def f_X2_countSwings (σ : St) : Option (Int32 × St) :=
  itr (g_X2_countSwings_6) FU ((0 : Int32), (0 : Int32), (1 : Int32), σ)
theorem e_X2_countSwings {Γ : CX} (σ : St) (h : RR vI Γ (f_X2_countSwings σ)) : WW Γ cX2_countSwings 5 RX2 (some .int) rX2_countSwings σ 0 [(0, .ref (xd Γ 31))] [] := by
  unfold f_X2_countSwings at h
  refine w_iconst (0 : Int32) dX2_countSwings_0 ic_iconst_0 rfl ?_
  refine w_istore_n [(1, .int (0 : Int32)), (0, .ref (xd Γ 31))] dX2_countSwings_1 rfl (by decide) rfl rfl ?_
  refine w_iconst (0 : Int32) dX2_countSwings_2 ic_iconst_0 rfl ?_
  refine w_istore_n [(2, .int (0 : Int32)), (1, .int (0 : Int32)), (0, .ref (xd Γ 31))] dX2_countSwings_3 rfl (by decide) rfl rfl ?_
  refine w_iconst (1 : Int32) dX2_countSwings_4 ic_iconst_1 rfl ?_
  refine w_istore_n [(3, .int (1 : Int32)), (2, .int (0 : Int32)), (1, .int (0 : Int32)), (0, .ref (xd Γ 31))] dX2_countSwings_5 rfl (by decide) rfl rfl ?_
  exact w_sub [3, 2, 1, 0] rfl (l_X2_countSwings_6 FU (0 : Int32) (0 : Int32) (1 : Int32) σ h)
theorem c_X2_countSwings {l : Launch} {D : va_G} {cy : Nat → ClassId} {ad : Nat → Nat}  {σ σ' : St} {r : Int32} (hf : f_X2_countSwings σ = some (r, σ')) : CT l D cy ad yX2_countSwings cX2_countSwings 5 (some .int) rX2_countSwings [.ref (ad 31)] σ (some (.int r)) σ' :=
  ct_of (by decide) (Nat.le_of_ble_eq_true rfl) (fun p e s m args below meth c A => e_X2_countSwings (Γ := (p, l, e, rX2_countSwings, s, m, args, below, meth, c, D, cy, ad, A, 0, 0, MQ below (QC D cy ad (some (.int r)) σ' A) args s 0 0 A)) σ ⟨_, hf, rfl⟩)
theorem k_X2_countSwings {Γ : CX} {cc : ByteArray} {nL : Nat} {own : String} {ret : Option FieldType} {rm : Room} {σ σ' : St} {pc pc' idx : Nat} {lv : List (Nat × Value)} {rest : List Value}  {r : Int32} (hl : Cond.methodLink own idx yX2_countSwings ∈ TB) (hw : (rest.map fun v => v.category).sum ≤ 8) (hR : rX2_countSwings.frames + 1 ≤ rm.frames ∧ 8 + (5 + 11) + rX2_countSwings.locals ≤ rm.locals) (hd : decode cc pc = .ok (.invokevirtual idx, 3)) (hp : pc + 3 = pc') (hf : f_X2_countSwings σ = some (r, σ')) (h : WW Γ cc nL own ret rm σ' pc' lv (.int r :: rest)) : WW Γ cc nL own ret rm σ pc lv (.ref (xd Γ 31) :: rest) :=
  w_callV (nn := 0) (i := 31) (As := []) (v := (some (.int r))) (T := TX2) (N := 6) (c_X2_countSwings hf) hl mw_X2_countSwings (by decide +kernel) ⟨rfl, rfl⟩ hR (lt_lit (by decide)) cel_31 rfl rfl hw hd rfl hp h
/-! WarByHours.Course.goodAtEnd (II)I -/
def rX2_goodAtEnd : Room := { frames := 1, cells := 0, slots := 0, locals := 21 }
def f_X2_goodAtEnd_22 (k0 : Int32) (k1 : Int32) (σ : St) : Option (Int32 × St) :=
  bd (f_X2_good k1 k0 σ) fun r1 s2 =>
  some (r1, s2)
theorem b_X2_goodAtEnd_22 {Γ : CX} (k0 : Int32) (k1 : Int32) (σ : St) (h : RR vI Γ (f_X2_goodAtEnd_22 k0 k1 σ)) : WW Γ cX2_goodAtEnd 3 RX2 (some .int) rX2_goodAtEnd σ 22 [] [.int k0, .int k1] := by
  unfold f_X2_goodAtEnd_22 at h
  obtain ⟨r1, s2, h3, h⟩ := h.bd
  refine k_X2_good ml_RX2_63 (Nat.le_of_ble_eq_true rfl) ⟨Nat.le_of_ble_eq_true rfl, Nat.le_of_ble_eq_true rfl⟩ dX2_goodAtEnd_22 rfl h3 ?_
  exact w_ireturn dX2_goodAtEnd_25 h
def f_X2_goodAtEnd_21 (k0 : Int32) (σ : St) : Option (Int32 × St) :=
  f_X2_goodAtEnd_22 (0 : Int32) k0 σ
theorem b_X2_goodAtEnd_21 {Γ : CX} (k0 : Int32) (σ : St) (h : RR vI Γ (f_X2_goodAtEnd_21 k0 σ)) : WW Γ cX2_goodAtEnd 3 RX2 (some .int) rX2_goodAtEnd σ 21 [] [.int k0] := by
  unfold f_X2_goodAtEnd_21 at h
  refine w_iconst (0 : Int32) dX2_goodAtEnd_21 ic_iconst_0 rfl ?_
  exact w_sub [] rfl (b_X2_goodAtEnd_22 (0 : Int32) k0 σ h)
def f_X2_goodAtEnd (p0 : Int32) (p1 : Int32) (σ : St) : Option (Int32 × St) :=
  if p1 < 0 then
    f_X2_goodAtEnd_21 p0 σ
  else
    if (512 : Int32) ≤ p1 then
      f_X2_goodAtEnd_21 p0 σ
    else
      gd (inb p1 (ln 34)) <|
      f_X2_goodAtEnd_22 (gr σ 34 p1.toNatClampNeg) p0 σ
theorem e_X2_goodAtEnd {Γ : CX} (p0 : Int32) (p1 : Int32) (σ : St) (h : RR vI Γ (f_X2_goodAtEnd p0 p1 σ)) : WW Γ cX2_goodAtEnd 3 RX2 (some .int) rX2_goodAtEnd σ 0 [(0, .ref (xd Γ 31)), (1, .int p0), (2, .int p1)] [] := by
  unfold f_X2_goodAtEnd at h
  refine w_iload_n 1 dX2_goodAtEnd_0 rfl rfl rfl ?_
  refine w_iload_n 2 dX2_goodAtEnd_1 rfl rfl rfl ?_
  refine w_if_lt (tgt := 21) dX2_goodAtEnd_2 (by decide) rfl (fun q => ?_) (fun q => ?_)
  · have h := h.tt q
    exact w_sub [] rfl (b_X2_goodAtEnd_21 p0 σ h)
  · have h := h.ff q
    refine w_iload_n 2 dX2_goodAtEnd_5 rfl rfl rfl ?_
    refine w_sipush (512 : Int32) dX2_goodAtEnd_6 ic_sipush_512 rfl ?_
    refine w_icmp_ge (tgt := 21) dX2_goodAtEnd_9 (by decide) rfl (fun q => ?_) (fun q => ?_)
    · have h := h.tt q
      exact w_sub [] rfl (b_X2_goodAtEnd_21 p0 σ h)
    · have h := h.ff q
      refine w_aload_n 0 dX2_goodAtEnd_12 rfl rfl rfl ?_
      refine gf_RX2_18 dX2_goodAtEnd_13 rfl ?_
      refine w_iload_n 2 dX2_goodAtEnd_16 rfl rfl rfl ?_
      obtain ⟨hi1, h⟩ := h.gd
      refine w_iald (i := 34) (lt_lit (by decide)) rfl hi1 dX2_goodAtEnd_17 rfl ?_
      refine w_goto (tgt := 22) dX2_goodAtEnd_18 (by decide) ?_
      exact w_sub [] rfl (b_X2_goodAtEnd_22 (gr σ 34 p1.toNatClampNeg) p0 σ h)
theorem c_X2_goodAtEnd {l : Launch} {D : va_G} {cy : Nat → ClassId} {ad : Nat → Nat} {p0 : Int32} {p1 : Int32} {σ σ' : St} {r : Int32} (hf : f_X2_goodAtEnd p0 p1 σ = some (r, σ')) : CT l D cy ad yX2_goodAtEnd cX2_goodAtEnd 3 (some .int) rX2_goodAtEnd [.ref (ad 31), .int p0, .int p1] σ (some (.int r)) σ' :=
  ct_of (by decide) (Nat.le_of_ble_eq_true rfl) (fun p e s m args below meth c A => e_X2_goodAtEnd (Γ := (p, l, e, rX2_goodAtEnd, s, m, args, below, meth, c, D, cy, ad, A, 0, 0, MQ below (QC D cy ad (some (.int r)) σ' A) args s 0 0 A)) p0 p1 σ ⟨_, hf, rfl⟩)
theorem k_X2_goodAtEnd {Γ : CX} {cc : ByteArray} {nL : Nat} {own : String} {ret : Option FieldType} {rm : Room} {σ σ' : St} {pc pc' idx : Nat} {lv : List (Nat × Value)} {rest : List Value} {p0 : Int32} {p1 : Int32} {r : Int32} (hl : Cond.methodLink own idx yX2_goodAtEnd ∈ TB) (hw : (rest.map fun v => v.category).sum ≤ 8) (hR : rX2_goodAtEnd.frames + 1 ≤ rm.frames ∧ 8 + (3 + 11) + rX2_goodAtEnd.locals ≤ rm.locals) (hd : decode cc pc = .ok (.invokevirtual idx, 3)) (hp : pc + 3 = pc') (hf : f_X2_goodAtEnd p0 p1 σ = some (r, σ')) (h : WW Γ cc nL own ret rm σ' pc' lv (.int r :: rest)) : WW Γ cc nL own ret rm σ pc lv (.int p1 :: .int p0 :: .ref (xd Γ 31) :: rest) :=
  w_callV (nn := 2) (i := 31) (As := [.int p0, .int p1]) (v := (some (.int r))) (T := TX2) (N := 6) (c_X2_goodAtEnd hf) hl mw_X2_goodAtEnd (by decide +kernel) ⟨rfl, rfl⟩ hR (lt_lit (by decide)) cel_31 rfl rfl hw hd rfl hp h
/-! WarByHours.Course.isIdle (I)Z -/
def rX2_isIdle : Room := { frames := 2, cells := 0, slots := 0, locals := 43 }
def f_X2_isIdle_36 (K2 : Int32 × Int32 × St → Option (Int32 × St)) (v1 : Int32) (v2 : Int32) (σ : St) : Option (Int32 × St) :=
  bnd (v2 + (1 : Int32)) fun x1 =>
  K2 (v1, x1, σ)
theorem b_X2_isIdle_36 {Γ : CX} (K2 : Int32 × Int32 × St → Option (Int32 × St)) (hK2 : ∀ (v1 : Int32) (v2 : Int32) (σ : St), RR vI Γ (K2 (v1, v2, σ)) → WW Γ cX2_isIdle 3 RX2 (some .boolean) rX2_isIdle σ 2 [(0, .ref (xd Γ 31)), (1, .int v1), (2, .int v2)] []) (v1 : Int32) (v2 : Int32) (σ : St) (h : RR vI Γ (f_X2_isIdle_36 K2 v1 v2 σ)) : WW Γ cX2_isIdle 3 RX2 (some .boolean) rX2_isIdle σ 36 [(0, .ref (xd Γ 31)), (1, .int v1), (2, .int v2)] [] := by
  unfold f_X2_isIdle_36 at h
  obtain ⟨x1, ex1⟩ : ∃ y : Int32, y = (v2 + (1 : Int32)) := ⟨_, rfl⟩
  replace h := h.bnd ex1
  refine w_iinc 2 x1 [(2, .int x1), (0, .ref (xd Γ 31)), (1, .int v1)] dX2_isIdle_36 rfl (by rw [ex1, ic_iconst_1]) (by decide) rfl rfl ?_
  clear ex1
  refine w_goto (tgt := 2) dX2_isIdle_39 (by decide) ?_
  exact w_sub [1, 2, 0] rfl (hK2 v1 x1 σ h)
def g_X2_isIdle_2 (K2 : Int32 × Int32 × St → Option (Int32 × St)) (x : Int32 × Int32 × St) : Option (Int32 × St) := match x with
  | (v1, v2, σ) =>
  bd (f_X10_sets 1 σ) fun r1 s2 =>
  if r1 ≤ v2 then
    gd (bz (1 : Int32)) <| some ((1 : Int32), s2)
  else
    if (v2 &&& v1) = 0 then
      bd (f_X2_reckonedWinner v2 s2) fun r4 s5 =>
      bd (f_X2_reckonedWinner (v2 ||| v1) s5) fun r7 s8 =>
      if r4 = r7 then
        f_X2_isIdle_36 K2 v1 v2 s8
      else
        gd (bz (0 : Int32)) <| some ((0 : Int32), s8)
    else
      f_X2_isIdle_36 K2 v1 v2 s2
theorem l_X2_isIdle_2 {Γ : CX} : ∀ (n : Nat) (v1 : Int32) (v2 : Int32) (σ : St), RR vI Γ (itr (g_X2_isIdle_2) n (v1, v2, σ)) → WW Γ cX2_isIdle 3 RX2 (some .boolean) rX2_isIdle σ 2 [(0, .ref (xd Γ 31)), (1, .int v1), (2, .int v2)] [] := by
  intro n
  induction n with
  | zero => intro v1 v2 σ h; exact RR.no h
  | succ n hK2 =>
  intro v1 v2 σ h
  have h : RR vI Γ (g_X2_isIdle_2 (itr (g_X2_isIdle_2) n) (v1, v2, σ)) := h
  generalize itr (g_X2_isIdle_2) n = K2 at h hK2
  unfold g_X2_isIdle_2 at h
  dsimp only at h
  refine w_iload_n 2 dX2_isIdle_2 rfl rfl rfl ?_
  refine w_aload_n 0 dX2_isIdle_3 rfl rfl rfl ?_
  refine gf_RX2_24 dX2_isIdle_4 rfl ?_
  obtain ⟨r1, s2, h3, h⟩ := h.bd
  refine k_X10_sets ml_RX2_83 (Nat.le_of_ble_eq_true rfl) ⟨Nat.le_of_ble_eq_true rfl, Nat.le_of_ble_eq_true rfl⟩ dX2_isIdle_7 rfl h3 ?_
  refine w_icmp_ge (tgt := 42) dX2_isIdle_10 (by decide) rfl (fun q => ?_) (fun q => ?_)
  · have h := h.tt q
    refine w_iconst (1 : Int32) dX2_isIdle_42 ic_iconst_1 rfl ?_
    obtain ⟨hb, h⟩ := h.gd
    exact w_zreturn dX2_isIdle_43 hb h
  · have h := h.ff q
    refine w_iload_n 2 dX2_isIdle_13 rfl rfl rfl ?_
    refine w_iload_n 1 dX2_isIdle_14 rfl rfl rfl ?_
    refine w_iand dX2_isIdle_15 rfl ?_
    refine w_if_ne (tgt := 36) dX2_isIdle_16 (by decide) rfl (fun q => ?_) (fun q => ?_)
    · have h := h.ff q
      exact w_sub [0, 1, 2] rfl (b_X2_isIdle_36 K2 hK2 v1 v2 s2 h)
    · have h := h.tt q
      refine w_aload_n 0 dX2_isIdle_19 rfl rfl rfl ?_
      refine w_iload_n 2 dX2_isIdle_20 rfl rfl rfl ?_
      obtain ⟨r4, s5, h6, h⟩ := h.bd
      refine k_X2_reckonedWinner ml_RX2_95 (Nat.le_of_ble_eq_true rfl) ⟨Nat.le_of_ble_eq_true rfl, Nat.le_of_ble_eq_true rfl⟩ dX2_isIdle_21 rfl h6 ?_
      refine w_aload_n 0 dX2_isIdle_24 rfl rfl rfl ?_
      refine w_iload_n 2 dX2_isIdle_25 rfl rfl rfl ?_
      refine w_iload_n 1 dX2_isIdle_26 rfl rfl rfl ?_
      refine w_ior dX2_isIdle_27 rfl ?_
      obtain ⟨r7, s8, h9, h⟩ := h.bd
      refine k_X2_reckonedWinner ml_RX2_95 (Nat.le_of_ble_eq_true rfl) ⟨Nat.le_of_ble_eq_true rfl, Nat.le_of_ble_eq_true rfl⟩ dX2_isIdle_28 rfl h9 ?_
      refine w_icmp_eq (tgt := 36) dX2_isIdle_31 (by decide) rfl (fun q => ?_) (fun q => ?_)
      · have h := h.tt q
        exact w_sub [0, 1, 2] rfl (b_X2_isIdle_36 K2 hK2 v1 v2 s8 h)
      · have h := h.ff q
        refine w_iconst (0 : Int32) dX2_isIdle_34 ic_iconst_0 rfl ?_
        obtain ⟨hb, h⟩ := h.gd
        exact w_zreturn dX2_isIdle_35 hb h
def f_X2_isIdle (p0 : Int32) (σ : St) : Option (Int32 × St) :=
  itr (g_X2_isIdle_2) FU (p0, (0 : Int32), σ)
theorem e_X2_isIdle {Γ : CX} (p0 : Int32) (σ : St) (h : RR vI Γ (f_X2_isIdle p0 σ)) : WW Γ cX2_isIdle 3 RX2 (some .boolean) rX2_isIdle σ 0 [(0, .ref (xd Γ 31)), (1, .int p0)] [] := by
  unfold f_X2_isIdle at h
  refine w_iconst (0 : Int32) dX2_isIdle_0 ic_iconst_0 rfl ?_
  refine w_istore_n [(2, .int (0 : Int32)), (0, .ref (xd Γ 31)), (1, .int p0)] dX2_isIdle_1 rfl (by decide) rfl rfl ?_
  exact w_sub [1, 2, 0] rfl (l_X2_isIdle_2 FU p0 (0 : Int32) σ h)
theorem c_X2_isIdle {l : Launch} {D : va_G} {cy : Nat → ClassId} {ad : Nat → Nat} {p0 : Int32} {σ σ' : St} {r : Int32} (hf : f_X2_isIdle p0 σ = some (r, σ')) : CT l D cy ad yX2_isIdle cX2_isIdle 3 (some .boolean) rX2_isIdle [.ref (ad 31), .int p0] σ (some (.int r)) σ' :=
  ct_of (by decide) (Nat.le_of_ble_eq_true rfl) (fun p e s m args below meth c A => e_X2_isIdle (Γ := (p, l, e, rX2_isIdle, s, m, args, below, meth, c, D, cy, ad, A, 0, 0, MQ below (QC D cy ad (some (.int r)) σ' A) args s 0 0 A)) p0 σ ⟨_, hf, rfl⟩)
theorem k_X2_isIdle {Γ : CX} {cc : ByteArray} {nL : Nat} {own : String} {ret : Option FieldType} {rm : Room} {σ σ' : St} {pc pc' idx : Nat} {lv : List (Nat × Value)} {rest : List Value} {p0 : Int32} {r : Int32} (hl : Cond.methodLink own idx yX2_isIdle ∈ TB) (hw : (rest.map fun v => v.category).sum ≤ 8) (hR : rX2_isIdle.frames + 1 ≤ rm.frames ∧ 8 + (3 + 11) + rX2_isIdle.locals ≤ rm.locals) (hd : decode cc pc = .ok (.invokevirtual idx, 3)) (hp : pc + 3 = pc') (hf : f_X2_isIdle p0 σ = some (r, σ')) (h : WW Γ cc nL own ret rm σ' pc' lv (.int r :: rest)) : WW Γ cc nL own ret rm σ pc lv (.int p0 :: .ref (xd Γ 31) :: rest) :=
  w_callV (nn := 1) (i := 31) (As := [.int p0]) (v := (some (.int r))) (T := TX2) (N := 6) (c_X2_isIdle hf) hl mw_X2_isIdle (by decide +kernel) ⟨rfl, rfl⟩ hR (lt_lit (by decide)) cel_31 rfl rfl hw hd rfl hp h
/-! WarByHours.Course.isArrival (I)Z -/
def rX2_isArrival : Room := { frames := 3, cells := 0, slots := 0, locals := 68 }
def f_X2_isArrival_35 (k0 : Int32) (σ : St) : Option (Int32 × St) :=
  gd (bz k0) <| some (k0, σ)
theorem b_X2_isArrival_35 {Γ : CX} (k0 : Int32) (σ : St) (h : RR vI Γ (f_X2_isArrival_35 k0 σ)) : WW Γ cX2_isArrival 2 RX2 (some .boolean) rX2_isArrival σ 35 [] [.int k0] := by
  unfold f_X2_isArrival_35 at h
  obtain ⟨hb, h⟩ := h.gd
  exact w_zreturn dX2_isArrival_35 hb h
def f_X2_isArrival (p0 : Int32) (σ : St) : Option (Int32 × St) :=
  bd (f_X10_comingIn 1 p0 (0 : Int32) σ) fun r1 s2 =>
  bd (f_X10_sets 1 s2) fun r4 s5 =>
  bd (f_X10_comingIn 1 p0 (r4 - (1 : Int32)) s5) fun r7 s8 =>
  if (r1 ||| r7) = 0 then
    f_X2_isArrival_35 (0 : Int32) s8
  else
    f_X2_isArrival_35 (1 : Int32) s8
theorem e_X2_isArrival {Γ : CX} (p0 : Int32) (σ : St) (h : RR vI Γ (f_X2_isArrival p0 σ)) : WW Γ cX2_isArrival 2 RX2 (some .boolean) rX2_isArrival σ 0 [(0, .ref (xd Γ 31)), (1, .int p0)] [] := by
  unfold f_X2_isArrival at h
  refine w_aload_n 0 dX2_isArrival_0 rfl rfl rfl ?_
  refine gf_RX2_24 dX2_isArrival_1 rfl ?_
  refine w_iload_n 1 dX2_isArrival_4 rfl rfl rfl ?_
  refine w_iconst (0 : Int32) dX2_isArrival_5 ic_iconst_0 rfl ?_
  obtain ⟨r1, s2, h3, h⟩ := h.bd
  refine k_X10_comingIn ml_RX2_135 (Nat.le_of_ble_eq_true rfl) ⟨Nat.le_of_ble_eq_true rfl, Nat.le_of_ble_eq_true rfl⟩ dX2_isArrival_6 rfl h3 ?_
  refine w_aload_n 0 dX2_isArrival_9 rfl rfl rfl ?_
  refine gf_RX2_24 dX2_isArrival_10 rfl ?_
  refine w_iload_n 1 dX2_isArrival_13 rfl rfl rfl ?_
  refine w_aload_n 0 dX2_isArrival_14 rfl rfl rfl ?_
  refine gf_RX2_24 dX2_isArrival_15 rfl ?_
  obtain ⟨r4, s5, h6, h⟩ := h.bd
  refine k_X10_sets ml_RX2_83 (Nat.le_of_ble_eq_true rfl) ⟨Nat.le_of_ble_eq_true rfl, Nat.le_of_ble_eq_true rfl⟩ dX2_isArrival_18 rfl h6 ?_
  refine w_iconst (1 : Int32) dX2_isArrival_21 ic_iconst_1 rfl ?_
  refine w_isub dX2_isArrival_22 rfl ?_
  obtain ⟨r7, s8, h9, h⟩ := h.bd
  refine k_X10_comingIn ml_RX2_135 (Nat.le_of_ble_eq_true rfl) ⟨Nat.le_of_ble_eq_true rfl, Nat.le_of_ble_eq_true rfl⟩ dX2_isArrival_23 rfl h9 ?_
  refine w_ior dX2_isArrival_26 rfl ?_
  refine w_if_eq (tgt := 34) dX2_isArrival_27 (by decide) rfl (fun q => ?_) (fun q => ?_)
  · have h := h.tt q
    refine w_iconst (0 : Int32) dX2_isArrival_34 ic_iconst_0 rfl ?_
    exact w_sub [] rfl (b_X2_isArrival_35 (0 : Int32) s8 h)
  · have h := h.ff q
    refine w_iconst (1 : Int32) dX2_isArrival_30 ic_iconst_1 rfl ?_
    refine w_goto (tgt := 35) dX2_isArrival_31 (by decide) ?_
    exact w_sub [] rfl (b_X2_isArrival_35 (1 : Int32) s8 h)
theorem c_X2_isArrival {l : Launch} {D : va_G} {cy : Nat → ClassId} {ad : Nat → Nat} {p0 : Int32} {σ σ' : St} {r : Int32} (hf : f_X2_isArrival p0 σ = some (r, σ')) : CT l D cy ad yX2_isArrival cX2_isArrival 2 (some .boolean) rX2_isArrival [.ref (ad 31), .int p0] σ (some (.int r)) σ' :=
  ct_of (by decide) (Nat.le_of_ble_eq_true rfl) (fun p e s m args below meth c A => e_X2_isArrival (Γ := (p, l, e, rX2_isArrival, s, m, args, below, meth, c, D, cy, ad, A, 0, 0, MQ below (QC D cy ad (some (.int r)) σ' A) args s 0 0 A)) p0 σ ⟨_, hf, rfl⟩)
theorem k_X2_isArrival {Γ : CX} {cc : ByteArray} {nL : Nat} {own : String} {ret : Option FieldType} {rm : Room} {σ σ' : St} {pc pc' idx : Nat} {lv : List (Nat × Value)} {rest : List Value} {p0 : Int32} {r : Int32} (hl : Cond.methodLink own idx yX2_isArrival ∈ TB) (hw : (rest.map fun v => v.category).sum ≤ 8) (hR : rX2_isArrival.frames + 1 ≤ rm.frames ∧ 8 + (2 + 11) + rX2_isArrival.locals ≤ rm.locals) (hd : decode cc pc = .ok (.invokevirtual idx, 3)) (hp : pc + 3 = pc') (hf : f_X2_isArrival p0 σ = some (r, σ')) (h : WW Γ cc nL own ret rm σ' pc' lv (.int r :: rest)) : WW Γ cc nL own ret rm σ pc lv (.int p0 :: .ref (xd Γ 31) :: rest) :=
  w_callV (nn := 1) (i := 31) (As := [.int p0]) (v := (some (.int r))) (T := TX2) (N := 6) (c_X2_isArrival hf) hl mw_X2_isArrival (by decide +kernel) ⟨rfl, rfl⟩ hR (lt_lit (by decide)) cel_31 rfl rfl hw hd rfl hp h
/-! WarByHours.Course.takeMen (III)V -/
def rX2_takeMen : Room := { frames := 3, cells := 0, slots := 0, locals := 69 }
def f_X2_takeMen_70 (K34 : Int32 × Int32 × Int32 × Int32 × St → Option (Unit × St)) (v1 : Int32) (v2 : Int32) (v3 : Int32) (v4 : Int32) (k0 : Int32) (σ : St) : Option (Unit × St) :=
  bd (f_X10_menLost 1 v4 v1 σ) fun r1 s2 =>
  bd (f_X10_spread 33 v4 ((-k0) * r1) s2) fun _ s5 =>
  bnd (v4 + (1 : Int32)) fun x7 =>
  K34 (v1, v2, v3, x7, s5)
theorem b_X2_takeMen_70 {Γ : CX} (K34 : Int32 × Int32 × Int32 × Int32 × St → Option (Unit × St)) (hK34 : ∀ (v1 : Int32) (v2 : Int32) (v3 : Int32) (v4 : Int32) (σ : St), RR vU Γ (K34 (v1, v2, v3, v4, σ)) → WW Γ cX2_takeMen 6 RX2 none rX2_takeMen σ 34 [(0, .ref (xd Γ 31)), (1, .int v1), (2, .int v2), (3, .int v3), (4, .int v4)] []) (v1 : Int32) (v2 : Int32) (v3 : Int32) (v4 : Int32) (k0 : Int32) (σ : St) (h : RR vU Γ (f_X2_takeMen_70 K34 v1 v2 v3 v4 k0 σ)) : WW Γ cX2_takeMen 6 RX2 none rX2_takeMen σ 70 [(0, .ref (xd Γ 31)), (1, .int v1), (2, .int v2), (3, .int v3), (4, .int v4)] [.int k0] := by
  unfold f_X2_takeMen_70 at h
  refine w_istore [(5, .int k0), (0, .ref (xd Γ 31)), (1, .int v1), (2, .int v2), (3, .int v3), (4, .int v4)] dX2_takeMen_70 (by decide) rfl rfl ?_
  refine w_aload_n 1 dX2_takeMen_72 rfl rfl rfl ?_
  refine gf_RX2_15 dX2_takeMen_73 rfl ?_
  refine w_iload 5 dX2_takeMen_76 rfl rfl ?_
  refine w_iload 0 dX2_takeMen_78 rfl rfl ?_
  refine w_ineg dX2_takeMen_80 rfl ?_
  refine w_aload_n 1 dX2_takeMen_81 rfl rfl rfl ?_
  refine gf_RX2_24 dX2_takeMen_82 rfl ?_
  refine w_iload 5 dX2_takeMen_85 rfl rfl ?_
  refine w_iload_n 2 dX2_takeMen_87 rfl rfl rfl ?_
  obtain ⟨r1, s2, h3, h⟩ := h.bd
  refine k_X10_menLost ml_RX2_145 (Nat.le_of_ble_eq_true rfl) ⟨Nat.le_of_ble_eq_true rfl, Nat.le_of_ble_eq_true rfl⟩ dX2_takeMen_88 rfl h3 ?_
  refine w_imul dX2_takeMen_91 rfl ?_
  obtain ⟨r4, s5, h6, h⟩ := h.bd
  refine k_X10_spread ml_RX2_148 (Nat.le_of_ble_eq_true rfl) ⟨Nat.le_of_ble_eq_true rfl, Nat.le_of_ble_eq_true rfl⟩ dX2_takeMen_92 rfl h6 ?_
  obtain ⟨x7, ex7⟩ : ∃ y : Int32, y = (v4 + (1 : Int32)) := ⟨_, rfl⟩
  replace h := h.bnd ex7
  refine w_iinc 5 x7 [(4, .int x7), (5, .int k0), (0, .ref (xd Γ 31)), (1, .int v1), (2, .int v2), (3, .int v3)] dX2_takeMen_95 rfl (by rw [ex7, ic_iconst_1]) (by decide) rfl rfl ?_
  clear ex7
  refine w_goto (tgt := 34) dX2_takeMen_98 (by decide) ?_
  exact w_sub [2, 3, 4, 5, 0] rfl (hK34 v1 v2 v3 x7 s5 h)
def g_X2_takeMen_34 (K34 : Int32 × Int32 × Int32 × Int32 × St → Option (Unit × St)) (x : Int32 × Int32 × Int32 × Int32 × St) : Option (Unit × St) := match x with
  | (v1, v2, v3, v4, σ) =>
  if (gf σ 3 3) ≤ v4 then
    some ((), σ)
  else
    bd (f_X9_cell 3 v4 (0 : Int32) σ) fun r1 s2 =>
    if r1 = 0 then
      f_X2_takeMen_70 K34 v1 v2 v3 v4 v2 s2
    else
      f_X2_takeMen_70 K34 v1 v2 v3 v4 v3 s2
theorem l_X2_takeMen_34 {Γ : CX} : ∀ (n : Nat) (v1 : Int32) (v2 : Int32) (v3 : Int32) (v4 : Int32) (σ : St), RR vU Γ (itr (g_X2_takeMen_34) n (v1, v2, v3, v4, σ)) → WW Γ cX2_takeMen 6 RX2 none rX2_takeMen σ 34 [(0, .ref (xd Γ 31)), (1, .int v1), (2, .int v2), (3, .int v3), (4, .int v4)] [] := by
  intro n
  induction n with
  | zero => intro v1 v2 v3 v4 σ h; exact RR.no h
  | succ n hK34 =>
  intro v1 v2 v3 v4 σ h
  have h : RR vU Γ (g_X2_takeMen_34 (itr (g_X2_takeMen_34) n) (v1, v2, v3, v4, σ)) := h
  generalize itr (g_X2_takeMen_34) n = K34 at h hK34
  unfold g_X2_takeMen_34 at h
  dsimp only at h
  refine w_iload 4 dX2_takeMen_34 rfl rfl ?_
  refine w_aload_n 0 dX2_takeMen_36 rfl rfl rfl ?_
  refine gf_RX2_24 dX2_takeMen_37 rfl ?_
  refine gf_RX2_98 (i := 1) (isW_lit (by decide)) dX2_takeMen_40 rfl ?_
  refine gf_RX2_102 (i := 3) (isT_lit (by decide)) dX2_takeMen_43 rfl ?_
  refine w_icmp_ge (tgt := 101) dX2_takeMen_46 (by decide) rfl (fun q => ?_) (fun q => ?_)
  · have h := h.tt q
    exact w_return dX2_takeMen_101 h
  · have h := h.ff q
    refine w_aload_n 0 dX2_takeMen_49 rfl rfl rfl ?_
    refine gf_RX2_24 dX2_takeMen_50 rfl ?_
    refine gf_RX2_98 (i := 1) (isW_lit (by decide)) dX2_takeMen_53 rfl ?_
    refine w_iload 4 dX2_takeMen_56 rfl rfl ?_
    refine w_iconst (0 : Int32) dX2_takeMen_58 ic_iconst_0 rfl ?_
    obtain ⟨r1, s2, h3, h⟩ := h.bd
    refine k_X9_cell ml_RX2_142 (Nat.le_of_ble_eq_true rfl) ⟨Nat.le_of_ble_eq_true rfl, Nat.le_of_ble_eq_true rfl⟩ dX2_takeMen_59 rfl h3 ?_
    refine w_if_ne (tgt := 69) dX2_takeMen_62 (by decide) rfl (fun q => ?_) (fun q => ?_)
    · have h := h.ff q
      refine w_iload_n 3 dX2_takeMen_69 rfl rfl rfl ?_
      exact w_sub [0, 1, 2, 3, 4] rfl (b_X2_takeMen_70 K34 hK34 v1 v2 v3 v4 v3 s2 h)
    · have h := h.tt q
      refine w_iload_n 2 dX2_takeMen_65 rfl rfl rfl ?_
      refine w_goto (tgt := 70) dX2_takeMen_66 (by decide) ?_
      exact w_sub [0, 1, 2, 3, 4] rfl (b_X2_takeMen_70 K34 hK34 v1 v2 v3 v4 v2 s2 h)
def f_X2_takeMen (p0 : Int32) (p1 : Int32) (p2 : Int32) (σ : St) : Option (Unit × St) :=
  bd (f_X10_menThere 1 (0 : Int32) p0 (0 : Int32) σ) fun r1 s2 =>
  bd (f_X10_menThere 1 (1 : Int32) p0 (0 : Int32) s2) fun r4 s5 =>
  gd (inb (0 : Int32) (ln 33)) <|
  bnd (sr s5 33 (0 : Int32).toNatClampNeg ((p1 * r1) + (p2 * r4))) fun s8 =>
  itr (g_X2_takeMen_34) FU (p0, p1, p2, (0 : Int32), s8)
theorem e_X2_takeMen {Γ : CX} (p0 : Int32) (p1 : Int32) (p2 : Int32) (σ : St) (h : RR vU Γ (f_X2_takeMen p0 p1 p2 σ)) : WW Γ cX2_takeMen 6 RX2 none rX2_takeMen σ 0 [(0, .ref (xd Γ 31)), (1, .int p0), (2, .int p1), (3, .int p2)] [] := by
  unfold f_X2_takeMen at h
  refine w_aload_n 0 dX2_takeMen_0 rfl rfl rfl ?_
  refine gf_RX2_15 dX2_takeMen_1 rfl ?_
  refine w_iconst (0 : Int32) dX2_takeMen_4 ic_iconst_0 rfl ?_
  refine w_iload_n 2 dX2_takeMen_5 rfl rfl rfl ?_
  refine w_aload_n 0 dX2_takeMen_6 rfl rfl rfl ?_
  refine gf_RX2_24 dX2_takeMen_7 rfl ?_
  refine w_iconst (0 : Int32) dX2_takeMen_10 ic_iconst_0 rfl ?_
  refine w_iload_n 1 dX2_takeMen_11 rfl rfl rfl ?_
  refine w_iconst (0 : Int32) dX2_takeMen_12 ic_iconst_0 rfl ?_
  obtain ⟨r1, s2, h3, h⟩ := h.bd
  refine k_X10_menThere ml_RX2_138 (Nat.le_of_ble_eq_true rfl) ⟨Nat.le_of_ble_eq_true rfl, Nat.le_of_ble_eq_true rfl⟩ dX2_takeMen_13 rfl h3 ?_
  refine w_imul dX2_takeMen_16 rfl ?_
  refine w_iload_n 3 dX2_takeMen_17 rfl rfl rfl ?_
  refine w_aload_n 0 dX2_takeMen_18 rfl rfl rfl ?_
  refine gf_RX2_24 dX2_takeMen_19 rfl ?_
  refine w_iconst (1 : Int32) dX2_takeMen_22 ic_iconst_1 rfl ?_
  refine w_iload_n 1 dX2_takeMen_23 rfl rfl rfl ?_
  refine w_iconst (0 : Int32) dX2_takeMen_24 ic_iconst_0 rfl ?_
  obtain ⟨r4, s5, h6, h⟩ := h.bd
  refine k_X10_menThere ml_RX2_138 (Nat.le_of_ble_eq_true rfl) ⟨Nat.le_of_ble_eq_true rfl, Nat.le_of_ble_eq_true rfl⟩ dX2_takeMen_25 rfl h6 ?_
  refine w_imul dX2_takeMen_28 rfl ?_
  refine w_iadd dX2_takeMen_29 rfl ?_
  obtain ⟨hi7, h⟩ := h.gd
  refine w_iast (i := 33) (lt_lit (by decide)) rfl hi7 dX2_takeMen_30 rfl ?_
  obtain ⟨s8, es8⟩ : ∃ y : St, y = (sr s5 33 (0 : Int32).toNatClampNeg ((p1 * r1) + (p2 * r4))) := ⟨_, rfl⟩
  rw [← es8]
  replace h := h.bnd es8
  clear es8
  refine w_iconst (0 : Int32) dX2_takeMen_31 ic_iconst_0 rfl ?_
  refine w_istore [(4, .int (0 : Int32)), (0, .ref (xd Γ 31)), (1, .int p0), (2, .int p1), (3, .int p2)] dX2_takeMen_32 (by decide) rfl rfl ?_
  exact w_sub [1, 2, 3, 4, 0] rfl (l_X2_takeMen_34 FU p0 p1 p2 (0 : Int32) s8 h)
theorem c_X2_takeMen {l : Launch} {D : va_G} {cy : Nat → ClassId} {ad : Nat → Nat} {p0 : Int32} {p1 : Int32} {p2 : Int32} {σ σ' : St} {r : Unit} (hf : f_X2_takeMen p0 p1 p2 σ = some (r, σ')) : CT l D cy ad yX2_takeMen cX2_takeMen 6 none rX2_takeMen [.ref (ad 31), .int p0, .int p1, .int p2] σ none σ' :=
  ct_of (by decide) (Nat.le_of_ble_eq_true rfl) (fun p e s m args below meth c A => e_X2_takeMen (Γ := (p, l, e, rX2_takeMen, s, m, args, below, meth, c, D, cy, ad, A, 0, 0, MQ below (QC D cy ad none σ' A) args s 0 0 A)) p0 p1 p2 σ ⟨_, hf, rfl⟩)
theorem k_X2_takeMen {Γ : CX} {cc : ByteArray} {nL : Nat} {own : String} {ret : Option FieldType} {rm : Room} {σ σ' : St} {pc pc' idx : Nat} {lv : List (Nat × Value)} {rest : List Value} {p0 : Int32} {p1 : Int32} {p2 : Int32} {r : Unit} (hl : Cond.methodLink own idx yX2_takeMen ∈ TB) (hw : (rest.map fun v => v.category).sum ≤ 8) (hR : rX2_takeMen.frames + 1 ≤ rm.frames ∧ 8 + (6 + 11) + rX2_takeMen.locals ≤ rm.locals) (hd : decode cc pc = .ok (.invokevirtual idx, 3)) (hp : pc + 3 = pc') (hf : f_X2_takeMen p0 p1 p2 σ = some (r, σ')) (h : WW Γ cc nL own ret rm σ' pc' lv (rest)) : WW Γ cc nL own ret rm σ pc lv (.int p2 :: .int p1 :: .int p0 :: .ref (xd Γ 31) :: rest) :=
  w_callV (nn := 3) (i := 31) (As := [.int p0, .int p1, .int p2]) (v := none) (T := TX2) (N := 6) (c_X2_takeMen hf) hl mw_X2_takeMen (by decide +kernel) ⟨rfl, rfl⟩ hR (lt_lit (by decide)) cel_31 rfl rfl hw hd rfl hp h
/-! WarByHours.Course.moveEnds (I)V -/
def rX2_moveEnds : Room := { frames := 2, cells := 0, slots := 0, locals := 43 }
def g_X2_moveEnds_2 (K2 : Int32 × Int32 × St → Option (Unit × St)) (x : Int32 × Int32 × St) : Option (Unit × St) := match x with
  | (v1, v2, σ) =>
  bd (f_X10_sets 1 σ) fun r1 s2 =>
  if r1 ≤ v2 then
    some ((), s2)
  else
    gd (inb v2 (ln 34)) <|
    gd (inb v2 (ln 33)) <|
    bd (f_X2_signOf (gr s2 33 v2.toNatClampNeg) s2) fun r6 s7 =>
    gd (inb v2 (ln 34)) <|
    bnd (sr s7 34 v2.toNatClampNeg ((gr s2 34 v2.toNatClampNeg) + (v1 * r6))) fun s10 =>
    bnd (v2 + (1 : Int32)) fun x11 =>
    K2 (v1, x11, s10)
theorem l_X2_moveEnds_2 {Γ : CX} : ∀ (n : Nat) (v1 : Int32) (v2 : Int32) (σ : St), RR vU Γ (itr (g_X2_moveEnds_2) n (v1, v2, σ)) → WW Γ cX2_moveEnds 3 RX2 none rX2_moveEnds σ 2 [(0, .ref (xd Γ 31)), (1, .int v1), (2, .int v2)] [] := by
  intro n
  induction n with
  | zero => intro v1 v2 σ h; exact RR.no h
  | succ n hK2 =>
  intro v1 v2 σ h
  have h : RR vU Γ (g_X2_moveEnds_2 (itr (g_X2_moveEnds_2) n) (v1, v2, σ)) := h
  generalize itr (g_X2_moveEnds_2) n = K2 at h hK2
  unfold g_X2_moveEnds_2 at h
  dsimp only at h
  refine w_iload_n 2 dX2_moveEnds_2 rfl rfl rfl ?_
  refine w_aload_n 0 dX2_moveEnds_3 rfl rfl rfl ?_
  refine gf_RX2_24 dX2_moveEnds_4 rfl ?_
  obtain ⟨r1, s2, h3, h⟩ := h.bd
  refine k_X10_sets ml_RX2_83 (Nat.le_of_ble_eq_true rfl) ⟨Nat.le_of_ble_eq_true rfl, Nat.le_of_ble_eq_true rfl⟩ dX2_moveEnds_7 rfl h3 ?_
  refine w_icmp_ge (tgt := 39) dX2_moveEnds_10 (by decide) rfl (fun q => ?_) (fun q => ?_)
  · have h := h.tt q
    exact w_return dX2_moveEnds_39 h
  · have h := h.ff q
    refine w_aload_n 0 dX2_moveEnds_13 rfl rfl rfl ?_
    refine gf_RX2_18 dX2_moveEnds_14 rfl ?_
    refine w_iload_n 2 dX2_moveEnds_17 rfl rfl rfl ?_
    refine w_dup2 dX2_moveEnds_18 rfl rfl rfl ?_
    obtain ⟨hi4, h⟩ := h.gd
    refine w_iald (i := 34) (lt_lit (by decide)) rfl hi4 dX2_moveEnds_19 rfl ?_
    refine w_iload_n 1 dX2_moveEnds_20 rfl rfl rfl ?_
    refine w_aload_n 0 dX2_moveEnds_21 rfl rfl rfl ?_
    refine gf_RX2_15 dX2_moveEnds_22 rfl ?_
    refine w_iload_n 2 dX2_moveEnds_25 rfl rfl rfl ?_
    obtain ⟨hi5, h⟩ := h.gd
    refine w_iald (i := 33) (lt_lit (by decide)) rfl hi5 dX2_moveEnds_26 rfl ?_
    obtain ⟨r6, s7, h8, h⟩ := h.bd
    refine k_X2_signOf ml_RX2_46 (Nat.le_of_ble_eq_true rfl) ⟨Nat.le_of_ble_eq_true rfl, Nat.le_of_ble_eq_true rfl⟩ dX2_moveEnds_27 rfl h8 ?_
    refine w_imul dX2_moveEnds_30 rfl ?_
    refine w_iadd dX2_moveEnds_31 rfl ?_
    obtain ⟨hi9, h⟩ := h.gd
    refine w_iast (i := 34) (lt_lit (by decide)) rfl hi9 dX2_moveEnds_32 rfl ?_
    obtain ⟨s10, es10⟩ : ∃ y : St, y = (sr s7 34 v2.toNatClampNeg ((gr s2 34 v2.toNatClampNeg) + (v1 * r6))) := ⟨_, rfl⟩
    rw [← es10]
    replace h := h.bnd es10
    clear es10
    obtain ⟨x11, ex11⟩ : ∃ y : Int32, y = (v2 + (1 : Int32)) := ⟨_, rfl⟩
    replace h := h.bnd ex11
    refine w_iinc 2 x11 [(2, .int x11), (0, .ref (xd Γ 31)), (1, .int v1)] dX2_moveEnds_33 rfl (by rw [ex11, ic_iconst_1]) (by decide) rfl rfl ?_
    clear ex11
    refine w_goto (tgt := 2) dX2_moveEnds_36 (by decide) ?_
    exact w_sub [1, 2, 0] rfl (hK2 v1 x11 s10 h)
def f_X2_moveEnds (p0 : Int32) (σ : St) : Option (Unit × St) :=
  itr (g_X2_moveEnds_2) FU (p0, (0 : Int32), σ)
theorem e_X2_moveEnds {Γ : CX} (p0 : Int32) (σ : St) (h : RR vU Γ (f_X2_moveEnds p0 σ)) : WW Γ cX2_moveEnds 3 RX2 none rX2_moveEnds σ 0 [(0, .ref (xd Γ 31)), (1, .int p0)] [] := by
  unfold f_X2_moveEnds at h
  refine w_iconst (0 : Int32) dX2_moveEnds_0 ic_iconst_0 rfl ?_
  refine w_istore_n [(2, .int (0 : Int32)), (0, .ref (xd Γ 31)), (1, .int p0)] dX2_moveEnds_1 rfl (by decide) rfl rfl ?_
  exact w_sub [1, 2, 0] rfl (l_X2_moveEnds_2 FU p0 (0 : Int32) σ h)
theorem c_X2_moveEnds {l : Launch} {D : va_G} {cy : Nat → ClassId} {ad : Nat → Nat} {p0 : Int32} {σ σ' : St} {r : Unit} (hf : f_X2_moveEnds p0 σ = some (r, σ')) : CT l D cy ad yX2_moveEnds cX2_moveEnds 3 none rX2_moveEnds [.ref (ad 31), .int p0] σ none σ' :=
  ct_of (by decide) (Nat.le_of_ble_eq_true rfl) (fun p e s m args below meth c A => e_X2_moveEnds (Γ := (p, l, e, rX2_moveEnds, s, m, args, below, meth, c, D, cy, ad, A, 0, 0, MQ below (QC D cy ad none σ' A) args s 0 0 A)) p0 σ ⟨_, hf, rfl⟩)
theorem k_X2_moveEnds {Γ : CX} {cc : ByteArray} {nL : Nat} {own : String} {ret : Option FieldType} {rm : Room} {σ σ' : St} {pc pc' idx : Nat} {lv : List (Nat × Value)} {rest : List Value} {p0 : Int32} {r : Unit} (hl : Cond.methodLink own idx yX2_moveEnds ∈ TB) (hw : (rest.map fun v => v.category).sum ≤ 8) (hR : rX2_moveEnds.frames + 1 ≤ rm.frames ∧ 8 + (3 + 11) + rX2_moveEnds.locals ≤ rm.locals) (hd : decode cc pc = .ok (.invokevirtual idx, 3)) (hp : pc + 3 = pc') (hf : f_X2_moveEnds p0 σ = some (r, σ')) (h : WW Γ cc nL own ret rm σ' pc' lv (rest)) : WW Γ cc nL own ret rm σ pc lv (.int p0 :: .ref (xd Γ 31) :: rest) :=
  w_callV (nn := 1) (i := 31) (As := [.int p0]) (v := none) (T := TX2) (N := 6) (c_X2_moveEnds hf) hl mw_X2_moveEnds (by decide +kernel) ⟨rfl, rfl⟩ hR (lt_lit (by decide)) cel_31 rfl rfl hw hd rfl hp h
/-! WarByHours.Course.findWinners ()V -/
def rX2_findWinners : Room := { frames := 4, cells := 0, slots := 0, locals := 94 }
def f_X2_findWinners_74 (K10 : Int32 × St → Option (Unit × St)) (K32 : Int32 × Int32 × St → Option (Unit × St)) (v1 : Int32) (v2 : Int32) (k0 : Int32) (k1 : Int32) (k2 : Int32) (σ : St) : Option (Unit × St) :=
  gd (inb k2 (ln 35)) <|
  bnd (sr σ 35 k2.toNatClampNeg (k1 ||| k0)) fun s2 =>
  bnd (v2 + (1 : Int32)) fun x3 =>
  K32 (v1, x3, s2)
theorem b_X2_findWinners_74 {Γ : CX} (K10 : Int32 × St → Option (Unit × St)) (K32 : Int32 × Int32 × St → Option (Unit × St)) (hK10 : ∀ (v1 : Int32) (σ : St), RR vU Γ (K10 (v1, σ)) → WW Γ cX2_findWinners 3 RX2 none rX2_findWinners σ 10 [(0, .ref (xd Γ 31)), (1, .int v1)] []) (hK32 : ∀ (v1 : Int32) (v2 : Int32) (σ : St), RR vU Γ (K32 (v1, v2, σ)) → WW Γ cX2_findWinners 3 RX2 none rX2_findWinners σ 32 [(0, .ref (xd Γ 31)), (1, .int v1), (2, .int v2)] []) (v1 : Int32) (v2 : Int32) (k0 : Int32) (k1 : Int32) (k2 : Int32) (σ : St) (h : RR vU Γ (f_X2_findWinners_74 K10 K32 v1 v2 k0 k1 k2 σ)) : WW Γ cX2_findWinners 3 RX2 none rX2_findWinners σ 74 [(0, .ref (xd Γ 31)), (1, .int v1), (2, .int v2)] [.int k0, .int k1, .int k2, .ref (xd Γ 35)] := by
  unfold f_X2_findWinners_74 at h
  refine w_ior dX2_findWinners_74 rfl ?_
  obtain ⟨hi1, h⟩ := h.gd
  refine w_iast (i := 35) (lt_lit (by decide)) rfl hi1 dX2_findWinners_75 rfl ?_
  obtain ⟨s2, es2⟩ : ∃ y : St, y = (sr σ 35 k2.toNatClampNeg (k1 ||| k0)) := ⟨_, rfl⟩
  rw [← es2]
  replace h := h.bnd es2
  clear es2
  obtain ⟨x3, ex3⟩ : ∃ y : Int32, y = (v2 + (1 : Int32)) := ⟨_, rfl⟩
  replace h := h.bnd ex3
  refine w_iinc 2 x3 [(2, .int x3), (0, .ref (xd Γ 31)), (1, .int v1)] dX2_findWinners_76 rfl (by rw [ex3, ic_iconst_1]) (by decide) rfl rfl ?_
  clear ex3
  refine w_goto (tgt := 32) dX2_findWinners_79 (by decide) ?_
  exact w_sub [1, 2, 0] rfl (hK32 v1 x3 s2 h)
def g_X2_findWinners_32 (K10 : Int32 × St → Option (Unit × St)) (K32 : Int32 × Int32 × St → Option (Unit × St)) (x : Int32 × Int32 × St) : Option (Unit × St) := match x with
  | (v1, v2, σ) =>
  bd (f_X10_sets 1 σ) fun r1 s2 =>
  if r1 ≤ v2 then
    bnd (v1 + (1 : Int32)) fun x4 =>
    K10 (x4, s2)
  else
    gd (inb v2 (ln 35)) <|
    gd (inb v2 (ln 33)) <|
    bd (f_X10_needOf 1 v1 s2) fun r7 s8 =>
    if r7 ≤ (gr s2 33 v2.toNatClampNeg) then
      f_X2_findWinners_74 K10 K32 v1 v2 (0 : Int32) (gr s2 35 v2.toNatClampNeg) v2 s8
    else
      f_X2_findWinners_74 K10 K32 v1 v2 ((1 : Int32) <<< (v1 &&& 31)) (gr s2 35 v2.toNatClampNeg) v2 s8
theorem l_X2_findWinners_32 {Γ : CX} (K10 : Int32 × St → Option (Unit × St)) (hK10 : ∀ (v1 : Int32) (σ : St), RR vU Γ (K10 (v1, σ)) → WW Γ cX2_findWinners 3 RX2 none rX2_findWinners σ 10 [(0, .ref (xd Γ 31)), (1, .int v1)] []) : ∀ (n : Nat) (v1 : Int32) (v2 : Int32) (σ : St), RR vU Γ (itr (g_X2_findWinners_32 K10) n (v1, v2, σ)) → WW Γ cX2_findWinners 3 RX2 none rX2_findWinners σ 32 [(0, .ref (xd Γ 31)), (1, .int v1), (2, .int v2)] [] := by
  intro n
  induction n with
  | zero => intro v1 v2 σ h; exact RR.no h
  | succ n hK32 =>
  intro v1 v2 σ h
  have h : RR vU Γ (g_X2_findWinners_32 K10 (itr (g_X2_findWinners_32 K10) n) (v1, v2, σ)) := h
  generalize itr (g_X2_findWinners_32 K10) n = K32 at h hK32
  unfold g_X2_findWinners_32 at h
  dsimp only at h
  refine w_iload_n 2 dX2_findWinners_32 rfl rfl rfl ?_
  refine w_aload_n 0 dX2_findWinners_33 rfl rfl rfl ?_
  refine gf_RX2_24 dX2_findWinners_34 rfl ?_
  obtain ⟨r1, s2, h3, h⟩ := h.bd
  refine k_X10_sets ml_RX2_83 (Nat.le_of_ble_eq_true rfl) ⟨Nat.le_of_ble_eq_true rfl, Nat.le_of_ble_eq_true rfl⟩ dX2_findWinners_37 rfl h3 ?_
  refine w_icmp_ge (tgt := 82) dX2_findWinners_40 (by decide) rfl (fun q => ?_) (fun q => ?_)
  · have h := h.tt q
    obtain ⟨x4, ex4⟩ : ∃ y : Int32, y = (v1 + (1 : Int32)) := ⟨_, rfl⟩
    replace h := h.bnd ex4
    refine w_iinc 1 x4 [(1, .int x4), (0, .ref (xd Γ 31)), (2, .int v2)] dX2_findWinners_82 rfl (by rw [ex4, ic_iconst_1]) (by decide) rfl rfl ?_
    clear ex4
    refine w_goto (tgt := 10) dX2_findWinners_85 (by decide) ?_
    exact w_sub [1, 0] rfl (hK10 x4 s2 h)
  · have h := h.ff q
    refine w_aload_n 0 dX2_findWinners_43 rfl rfl rfl ?_
    refine gf_RX2_21 dX2_findWinners_44 rfl ?_
    refine w_iload_n 2 dX2_findWinners_47 rfl rfl rfl ?_
    refine w_dup2 dX2_findWinners_48 rfl rfl rfl ?_
    obtain ⟨hi5, h⟩ := h.gd
    refine w_iald (i := 35) (lt_lit (by decide)) rfl hi5 dX2_findWinners_49 rfl ?_
    refine w_aload_n 0 dX2_findWinners_50 rfl rfl rfl ?_
    refine gf_RX2_15 dX2_findWinners_51 rfl ?_
    refine w_iload_n 2 dX2_findWinners_54 rfl rfl rfl ?_
    obtain ⟨hi6, h⟩ := h.gd
    refine w_iald (i := 33) (lt_lit (by decide)) rfl hi6 dX2_findWinners_55 rfl ?_
    refine w_aload_n 0 dX2_findWinners_56 rfl rfl rfl ?_
    refine gf_RX2_24 dX2_findWinners_57 rfl ?_
    refine w_iload_n 1 dX2_findWinners_60 rfl rfl rfl ?_
    obtain ⟨r7, s8, h9, h⟩ := h.bd
    refine k_X10_needOf ml_RX2_155 (Nat.le_of_ble_eq_true rfl) ⟨Nat.le_of_ble_eq_true rfl, Nat.le_of_ble_eq_true rfl⟩ dX2_findWinners_61 rfl h9 ?_
    refine w_icmp_ge (tgt := 73) dX2_findWinners_64 (by decide) rfl (fun q => ?_) (fun q => ?_)
    · have h := h.tt q
      refine w_iconst (0 : Int32) dX2_findWinners_73 ic_iconst_0 rfl ?_
      exact w_sub [0, 1, 2] rfl (b_X2_findWinners_74 K10 K32 hK10 hK32 v1 v2 (0 : Int32) (gr s2 35 v2.toNatClampNeg) v2 s8 h)
    · have h := h.ff q
      refine w_iconst (1 : Int32) dX2_findWinners_67 ic_iconst_1 rfl ?_
      refine w_iload_n 1 dX2_findWinners_68 rfl rfl rfl ?_
      refine w_ishl dX2_findWinners_69 rfl ?_
      refine w_goto (tgt := 74) dX2_findWinners_70 (by decide) ?_
      exact w_sub [0, 1, 2] rfl (b_X2_findWinners_74 K10 K32 hK10 hK32 v1 v2 ((1 : Int32) <<< (v1 &&& 31)) (gr s2 35 v2.toNatClampNeg) v2 s8 h)
def g_X2_findWinners_90 (K90 : Int32 × St → Option (Unit × St)) (x : Int32 × St) : Option (Unit × St) := match x with
  | (v1, σ) =>
  bd (f_X10_sets 1 σ) fun r1 s2 =>
  if r1 ≤ v1 then
    some ((), s2)
  else
    gd (inb v1 (ln 35)) <|
    gd (inb v1 (ln 34)) <|
    bd (f_X2_winner (gr s2 35 v1.toNatClampNeg) (gr s2 34 v1.toNatClampNeg) s2) fun r6 s7 =>
    gd (inb v1 (ln 35)) <|
    bnd (sr s7 35 v1.toNatClampNeg r6) fun s10 =>
    bnd (v1 + (1 : Int32)) fun x11 =>
    K90 (x11, s10)
theorem l_X2_findWinners_90 {Γ : CX} : ∀ (n : Nat) (v1 : Int32) (σ : St), RR vU Γ (itr (g_X2_findWinners_90) n (v1, σ)) → WW Γ cX2_findWinners 3 RX2 none rX2_findWinners σ 90 [(0, .ref (xd Γ 31)), (1, .int v1)] [] := by
  intro n
  induction n with
  | zero => intro v1 σ h; exact RR.no h
  | succ n hK90 =>
  intro v1 σ h
  have h : RR vU Γ (g_X2_findWinners_90 (itr (g_X2_findWinners_90) n) (v1, σ)) := h
  generalize itr (g_X2_findWinners_90) n = K90 at h hK90
  unfold g_X2_findWinners_90 at h
  dsimp only at h
  refine w_iload_n 1 dX2_findWinners_90 rfl rfl rfl ?_
  refine w_aload_n 0 dX2_findWinners_91 rfl rfl rfl ?_
  refine gf_RX2_24 dX2_findWinners_92 rfl ?_
  obtain ⟨r1, s2, h3, h⟩ := h.bd
  refine k_X10_sets ml_RX2_83 (Nat.le_of_ble_eq_true rfl) ⟨Nat.le_of_ble_eq_true rfl, Nat.le_of_ble_eq_true rfl⟩ dX2_findWinners_95 rfl h3 ?_
  refine w_icmp_ge (tgt := 128) dX2_findWinners_98 (by decide) rfl (fun q => ?_) (fun q => ?_)
  · have h := h.tt q
    exact w_return dX2_findWinners_128 h
  · have h := h.ff q
    refine w_aload_n 0 dX2_findWinners_101 rfl rfl rfl ?_
    refine gf_RX2_21 dX2_findWinners_102 rfl ?_
    refine w_iload_n 1 dX2_findWinners_105 rfl rfl rfl ?_
    refine w_aload_n 0 dX2_findWinners_106 rfl rfl rfl ?_
    refine gf_RX2_21 dX2_findWinners_107 rfl ?_
    refine w_iload_n 1 dX2_findWinners_110 rfl rfl rfl ?_
    obtain ⟨hi4, h⟩ := h.gd
    refine w_iald (i := 35) (lt_lit (by decide)) rfl hi4 dX2_findWinners_111 rfl ?_
    refine w_aload_n 0 dX2_findWinners_112 rfl rfl rfl ?_
    refine gf_RX2_18 dX2_findWinners_113 rfl ?_
    refine w_iload_n 1 dX2_findWinners_116 rfl rfl rfl ?_
    obtain ⟨hi5, h⟩ := h.gd
    refine w_iald (i := 34) (lt_lit (by decide)) rfl hi5 dX2_findWinners_117 rfl ?_
    obtain ⟨r6, s7, h8, h⟩ := h.bd
    refine k_X2_winner ml_RX2_60 (Nat.le_of_ble_eq_true rfl) ⟨Nat.le_of_ble_eq_true rfl, Nat.le_of_ble_eq_true rfl⟩ dX2_findWinners_118 rfl h8 ?_
    obtain ⟨hi9, h⟩ := h.gd
    refine w_iast (i := 35) (lt_lit (by decide)) rfl hi9 dX2_findWinners_121 rfl ?_
    obtain ⟨s10, es10⟩ : ∃ y : St, y = (sr s7 35 v1.toNatClampNeg r6) := ⟨_, rfl⟩
    rw [← es10]
    replace h := h.bnd es10
    clear es10
    obtain ⟨x11, ex11⟩ : ∃ y : Int32, y = (v1 + (1 : Int32)) := ⟨_, rfl⟩
    replace h := h.bnd ex11
    refine w_iinc 1 x11 [(1, .int x11), (0, .ref (xd Γ 31))] dX2_findWinners_122 rfl (by rw [ex11, ic_iconst_1]) (by decide) rfl rfl ?_
    clear ex11
    refine w_goto (tgt := 90) dX2_findWinners_125 (by decide) ?_
    exact w_sub [1, 0] rfl (hK90 x11 s10 h)
def g_X2_findWinners_10 (K10 : Int32 × St → Option (Unit × St)) (x : Int32 × St) : Option (Unit × St) := match x with
  | (v1, σ) =>
  if (2 : Int32) ≤ v1 then
    itr (g_X2_findWinners_90) FU ((0 : Int32), σ)
  else
    bd (f_X2_takeMen (gf σ 1 2) ((1 : Int32) - v1) v1 σ) fun _ s2 =>
    itr (g_X2_findWinners_32 K10) FU (v1, (0 : Int32), s2)
theorem l_X2_findWinners_10 {Γ : CX} : ∀ (n : Nat) (v1 : Int32) (σ : St), RR vU Γ (itr (g_X2_findWinners_10) n (v1, σ)) → WW Γ cX2_findWinners 3 RX2 none rX2_findWinners σ 10 [(0, .ref (xd Γ 31)), (1, .int v1)] [] := by
  intro n
  induction n with
  | zero => intro v1 σ h; exact RR.no h
  | succ n hK10 =>
  intro v1 σ h
  have h : RR vU Γ (g_X2_findWinners_10 (itr (g_X2_findWinners_10) n) (v1, σ)) := h
  generalize itr (g_X2_findWinners_10) n = K10 at h hK10
  unfold g_X2_findWinners_10 at h
  dsimp only at h
  refine w_iload_n 1 dX2_findWinners_10 rfl rfl rfl ?_
  refine w_iconst (2 : Int32) dX2_findWinners_11 ic_iconst_2 rfl ?_
  refine w_icmp_ge (tgt := 88) dX2_findWinners_12 (by decide) rfl (fun q => ?_) (fun q => ?_)
  · have h := h.tt q
    refine w_iconst (0 : Int32) dX2_findWinners_88 ic_iconst_0 rfl ?_
    refine w_istore_n [(1, .int (0 : Int32)), (0, .ref (xd Γ 31))] dX2_findWinners_89 rfl (by decide) rfl rfl ?_
    exact w_sub [1, 0] rfl (l_X2_findWinners_90 FU (0 : Int32) σ h)
  · have h := h.ff q
    refine w_aload_n 0 dX2_findWinners_15 rfl rfl rfl ?_
    refine w_aload_n 0 dX2_findWinners_16 rfl rfl rfl ?_
    refine gf_RX2_24 dX2_findWinners_17 rfl ?_
    refine gf_RX2_152 (i := 1) (isW_lit (by decide)) dX2_findWinners_20 rfl ?_
    refine w_iconst (1 : Int32) dX2_findWinners_23 ic_iconst_1 rfl ?_
    refine w_iload_n 1 dX2_findWinners_24 rfl rfl rfl ?_
    refine w_isub dX2_findWinners_25 rfl ?_
    refine w_iload_n 1 dX2_findWinners_26 rfl rfl rfl ?_
    obtain ⟨r1, s2, h3, h⟩ := h.bd
    refine k_X2_takeMen ml_RX2_128 (Nat.le_of_ble_eq_true rfl) ⟨Nat.le_of_ble_eq_true rfl, Nat.le_of_ble_eq_true rfl⟩ dX2_findWinners_27 rfl h3 ?_
    refine w_iconst (0 : Int32) dX2_findWinners_30 ic_iconst_0 rfl ?_
    refine w_istore_n [(2, .int (0 : Int32)), (0, .ref (xd Γ 31)), (1, .int v1)] dX2_findWinners_31 rfl (by decide) rfl rfl ?_
    exact w_sub [1, 2, 0] rfl (l_X2_findWinners_32 K10 hK10 FU v1 (0 : Int32) s2 h)
def f_X2_findWinners (σ : St) : Option (Unit × St) :=
  bd (f_J7_fill_53178 35 (0 : Int32) σ) fun _ s2 =>
  itr (g_X2_findWinners_10) FU ((0 : Int32), s2)
theorem e_X2_findWinners {Γ : CX} (σ : St) (h : RR vU Γ (f_X2_findWinners σ)) : WW Γ cX2_findWinners 3 RX2 none rX2_findWinners σ 0 [(0, .ref (xd Γ 31))] [] := by
  unfold f_X2_findWinners at h
  refine w_aload_n 0 dX2_findWinners_0 rfl rfl rfl ?_
  refine gf_RX2_21 dX2_findWinners_1 rfl ?_
  refine w_iconst (0 : Int32) dX2_findWinners_4 ic_iconst_0 rfl ?_
  obtain ⟨r1, s2, h3, h⟩ := h.bd
  refine k_J7_fill_53178 ml_RX2_116 (Nat.le_of_ble_eq_true rfl) ⟨Nat.le_of_ble_eq_true rfl, Nat.le_of_ble_eq_true rfl⟩ dX2_findWinners_5 rfl h3 ?_
  refine w_iconst (0 : Int32) dX2_findWinners_8 ic_iconst_0 rfl ?_
  refine w_istore_n [(1, .int (0 : Int32)), (0, .ref (xd Γ 31))] dX2_findWinners_9 rfl (by decide) rfl rfl ?_
  exact w_sub [1, 0] rfl (l_X2_findWinners_10 FU (0 : Int32) s2 h)
theorem c_X2_findWinners {l : Launch} {D : va_G} {cy : Nat → ClassId} {ad : Nat → Nat}  {σ σ' : St} {r : Unit} (hf : f_X2_findWinners σ = some (r, σ')) : CT l D cy ad yX2_findWinners cX2_findWinners 3 none rX2_findWinners [.ref (ad 31)] σ none σ' :=
  ct_of (by decide) (Nat.le_of_ble_eq_true rfl) (fun p e s m args below meth c A => e_X2_findWinners (Γ := (p, l, e, rX2_findWinners, s, m, args, below, meth, c, D, cy, ad, A, 0, 0, MQ below (QC D cy ad none σ' A) args s 0 0 A)) σ ⟨_, hf, rfl⟩)
theorem k_X2_findWinners {Γ : CX} {cc : ByteArray} {nL : Nat} {own : String} {ret : Option FieldType} {rm : Room} {σ σ' : St} {pc pc' idx : Nat} {lv : List (Nat × Value)} {rest : List Value}  {r : Unit} (hl : Cond.methodLink own idx yX2_findWinners ∈ TB) (hw : (rest.map fun v => v.category).sum ≤ 8) (hR : rX2_findWinners.frames + 1 ≤ rm.frames ∧ 8 + (3 + 11) + rX2_findWinners.locals ≤ rm.locals) (hd : decode cc pc = .ok (.invokevirtual idx, 3)) (hp : pc + 3 = pc') (hf : f_X2_findWinners σ = some (r, σ')) (h : WW Γ cc nL own ret rm σ' pc' lv (rest)) : WW Γ cc nL own ret rm σ pc lv (.ref (xd Γ 31) :: rest) :=
  w_callV (nn := 0) (i := 31) (As := []) (v := none) (T := TX2) (N := 6) (c_X2_findWinners hf) hl mw_X2_findWinners (by decide +kernel) ⟨rfl, rfl⟩ hR (lt_lit (by decide)) cel_31 rfl rfl hw hd rfl hp h
/-! WarByHours.Fares.takePrices ()V -/
def rX3_takePrices : Room := { frames := 1, cells := 0, slots := 0, locals := 24 }
def g_X3_takePrices_9 (K9 : Int32 × St → Option (Unit × St)) (x : Int32 × St) : Option (Unit × St) := match x with
  | (v1, σ) =>
  if (gf σ 3 3) ≤ v1 then
    some ((), σ)
  else
    bd (f_X9_cell 3 v1 (5 : Int32) σ) fun r1 s2 =>
    bd (f_X10_spread 37 v1 r1 s2) fun _ s5 =>
    bnd (v1 + (1 : Int32)) fun x7 =>
    K9 (x7, s5)
theorem l_X3_takePrices_9 {Γ : CX} : ∀ (n : Nat) (v1 : Int32) (σ : St), RR vU Γ (itr (g_X3_takePrices_9) n (v1, σ)) → WW Γ cX3_takePrices 2 RX3 none rX3_takePrices σ 9 [(0, .ref (xd Γ 36)), (1, .int v1)] [] := by
  intro n
  induction n with
  | zero => intro v1 σ h; exact RR.no h
  | succ n hK9 =>
  intro v1 σ h
  have h : RR vU Γ (g_X3_takePrices_9 (itr (g_X3_takePrices_9) n) (v1, σ)) := h
  generalize itr (g_X3_takePrices_9) n = K9 at h hK9
  unfold g_X3_takePrices_9 at h
  dsimp only at h
  refine w_iload_n 1 dX3_takePrices_9 rfl rfl rfl ?_
  refine w_aload_n 0 dX3_takePrices_10 rfl rfl rfl ?_
  refine gf_RX3_32 dX3_takePrices_11 rfl ?_
  refine gf_RX3_79 (i := 1) (isW_lit (by decide)) dX3_takePrices_14 rfl ?_
  refine gf_RX3_83 (i := 3) (isT_lit (by decide)) dX3_takePrices_17 rfl ?_
  refine w_icmp_ge (tgt := 49) dX3_takePrices_20 (by decide) rfl (fun q => ?_) (fun q => ?_)
  · have h := h.tt q
    exact w_return dX3_takePrices_49 h
  · have h := h.ff q
    refine w_aload_n 0 dX3_takePrices_23 rfl rfl rfl ?_
    refine gf_RX3_9 dX3_takePrices_24 rfl ?_
    refine w_iload_n 1 dX3_takePrices_27 rfl rfl rfl ?_
    refine w_aload_n 0 dX3_takePrices_28 rfl rfl rfl ?_
    refine gf_RX3_32 dX3_takePrices_29 rfl ?_
    refine gf_RX3_79 (i := 1) (isW_lit (by decide)) dX3_takePrices_32 rfl ?_
    refine w_iload_n 1 dX3_takePrices_35 rfl rfl rfl ?_
    refine w_iconst (5 : Int32) dX3_takePrices_36 ic_iconst_5 rfl ?_
    obtain ⟨r1, s2, h3, h⟩ := h.bd
    refine k_X9_cell ml_RX3_124 (Nat.le_of_ble_eq_true rfl) ⟨Nat.le_of_ble_eq_true rfl, Nat.le_of_ble_eq_true rfl⟩ dX3_takePrices_37 rfl h3 ?_
    obtain ⟨r4, s5, h6, h⟩ := h.bd
    refine k_X10_spread ml_RX3_127 (Nat.le_of_ble_eq_true rfl) ⟨Nat.le_of_ble_eq_true rfl, Nat.le_of_ble_eq_true rfl⟩ dX3_takePrices_40 rfl h6 ?_
    obtain ⟨x7, ex7⟩ : ∃ y : Int32, y = (v1 + (1 : Int32)) := ⟨_, rfl⟩
    replace h := h.bnd ex7
    refine w_iinc 1 x7 [(1, .int x7), (0, .ref (xd Γ 36))] dX3_takePrices_43 rfl (by rw [ex7, ic_iconst_1]) (by decide) rfl rfl ?_
    clear ex7
    refine w_goto (tgt := 9) dX3_takePrices_46 (by decide) ?_
    exact w_sub [1, 0] rfl (hK9 x7 s5 h)
def f_X3_takePrices (σ : St) : Option (Unit × St) :=
  gd (inb (0 : Int32) (ln 37)) <|
  bnd (sr σ 37 (0 : Int32).toNatClampNeg (0 : Int32)) fun s2 =>
  itr (g_X3_takePrices_9) FU ((0 : Int32), s2)
theorem e_X3_takePrices {Γ : CX} (σ : St) (h : RR vU Γ (f_X3_takePrices σ)) : WW Γ cX3_takePrices 2 RX3 none rX3_takePrices σ 0 [(0, .ref (xd Γ 36))] [] := by
  unfold f_X3_takePrices at h
  refine w_aload_n 0 dX3_takePrices_0 rfl rfl rfl ?_
  refine gf_RX3_9 dX3_takePrices_1 rfl ?_
  refine w_iconst (0 : Int32) dX3_takePrices_4 ic_iconst_0 rfl ?_
  refine w_iconst (0 : Int32) dX3_takePrices_5 ic_iconst_0 rfl ?_
  obtain ⟨hi1, h⟩ := h.gd
  refine w_iast (i := 37) (lt_lit (by decide)) rfl hi1 dX3_takePrices_6 rfl ?_
  obtain ⟨s2, es2⟩ : ∃ y : St, y = (sr σ 37 (0 : Int32).toNatClampNeg (0 : Int32)) := ⟨_, rfl⟩
  rw [← es2]
  replace h := h.bnd es2
  clear es2
  refine w_iconst (0 : Int32) dX3_takePrices_7 ic_iconst_0 rfl ?_
  refine w_istore_n [(1, .int (0 : Int32)), (0, .ref (xd Γ 36))] dX3_takePrices_8 rfl (by decide) rfl rfl ?_
  exact w_sub [1, 0] rfl (l_X3_takePrices_9 FU (0 : Int32) s2 h)
theorem c_X3_takePrices {l : Launch} {D : va_G} {cy : Nat → ClassId} {ad : Nat → Nat}  {σ σ' : St} {r : Unit} (hf : f_X3_takePrices σ = some (r, σ')) : CT l D cy ad yX3_takePrices cX3_takePrices 2 none rX3_takePrices [.ref (ad 36)] σ none σ' :=
  ct_of (by decide) (Nat.le_of_ble_eq_true rfl) (fun p e s m args below meth c A => e_X3_takePrices (Γ := (p, l, e, rX3_takePrices, s, m, args, below, meth, c, D, cy, ad, A, 0, 0, MQ below (QC D cy ad none σ' A) args s 0 0 A)) σ ⟨_, hf, rfl⟩)
theorem k_X3_takePrices {Γ : CX} {cc : ByteArray} {nL : Nat} {own : String} {ret : Option FieldType} {rm : Room} {σ σ' : St} {pc pc' idx : Nat} {lv : List (Nat × Value)} {rest : List Value}  {r : Unit} (hl : Cond.methodLink own idx yX3_takePrices ∈ TB) (hw : (rest.map fun v => v.category).sum ≤ 8) (hR : rX3_takePrices.frames + 1 ≤ rm.frames ∧ 8 + (2 + 11) + rX3_takePrices.locals ≤ rm.locals) (hd : decode cc pc = .ok (.invokevirtual idx, 3)) (hp : pc + 3 = pc') (hf : f_X3_takePrices σ = some (r, σ')) (h : WW Γ cc nL own ret rm σ' pc' lv (rest)) : WW Γ cc nL own ret rm σ pc lv (.ref (xd Γ 36) :: rest) :=
  w_callV (nn := 0) (i := 36) (As := []) (v := none) (T := TX3) (N := 8) (c_X3_takePrices hf) hl mw_X3_takePrices (by decide +kernel) ⟨rfl, rfl⟩ hR (lt_lit (by decide)) cel_36 rfl rfl hw hd rfl hp h
/-! WarByHours.Fares.fitByDelays (I)V -/
def rX3_fitByDelays : Room := { frames := 3, cells := 0, slots := 0, locals := 69 }
def f_X3_fitByDelays_89 (K24 : Int32 × Int32 × St → Option (Unit × St)) (v1 : Int32) (v2 : Int32) (k0 : Int32) (k1 : Int32) (σ : St) : Option (Unit × St) :=
  bd (f_X10_spread 38 k1 k0 σ) fun _ s2 =>
  bnd (v2 + (1 : Int32)) fun x4 =>
  K24 (v1, x4, s2)
theorem b_X3_fitByDelays_89 {Γ : CX} (K24 : Int32 × Int32 × St → Option (Unit × St)) (hK24 : ∀ (v1 : Int32) (v2 : Int32) (σ : St), RR vU Γ (K24 (v1, v2, σ)) → WW Γ cX3_fitByDelays 4 RX3 none rX3_fitByDelays σ 24 [(0, .ref (xd Γ 36)), (1, .int v1), (2, .int v2)] []) (v1 : Int32) (v2 : Int32) (k0 : Int32) (k1 : Int32) (σ : St) (h : RR vU Γ (f_X3_fitByDelays_89 K24 v1 v2 k0 k1 σ)) : WW Γ cX3_fitByDelays 4 RX3 none rX3_fitByDelays σ 89 [(0, .ref (xd Γ 36)), (1, .int v1), (2, .int v2)] [.int k0, .int k1, .ref (xd Γ 38)] := by
  unfold f_X3_fitByDelays_89 at h
  obtain ⟨r1, s2, h3, h⟩ := h.bd
  refine k_X10_spread ml_RX3_127 (Nat.le_of_ble_eq_true rfl) ⟨Nat.le_of_ble_eq_true rfl, Nat.le_of_ble_eq_true rfl⟩ dX3_fitByDelays_89 rfl h3 ?_
  obtain ⟨x4, ex4⟩ : ∃ y : Int32, y = (v2 + (1 : Int32)) := ⟨_, rfl⟩
  replace h := h.bnd ex4
  refine w_iinc 2 x4 [(2, .int x4), (0, .ref (xd Γ 36)), (1, .int v1)] dX3_fitByDelays_92 rfl (by rw [ex4, ic_iconst_1]) (by decide) rfl rfl ?_
  clear ex4
  refine w_goto (tgt := 24) dX3_fitByDelays_95 (by decide) ?_
  exact w_sub [1, 2, 0] rfl (hK24 v1 x4 s2 h)
def f_X3_fitByDelays_59 (K24 : Int32 × Int32 × St → Option (Unit × St)) (v1 : Int32) (v2 : Int32) (k0 : Int32) (σ : St) : Option (Unit × St) :=
  if k0 = 0 then
    f_X3_fitByDelays_89 K24 v1 v2 (0 : Int32) v2 σ
  else
    bd (f_X10_menLost 1 v2 (gf σ 1 2) σ) fun r1 s2 =>
    f_X3_fitByDelays_89 K24 v1 v2 (-r1) v2 s2
theorem b_X3_fitByDelays_59 {Γ : CX} (K24 : Int32 × Int32 × St → Option (Unit × St)) (hK24 : ∀ (v1 : Int32) (v2 : Int32) (σ : St), RR vU Γ (K24 (v1, v2, σ)) → WW Γ cX3_fitByDelays 4 RX3 none rX3_fitByDelays σ 24 [(0, .ref (xd Γ 36)), (1, .int v1), (2, .int v2)] []) (v1 : Int32) (v2 : Int32) (k0 : Int32) (σ : St) (h : RR vU Γ (f_X3_fitByDelays_59 K24 v1 v2 k0 σ)) : WW Γ cX3_fitByDelays 4 RX3 none rX3_fitByDelays σ 59 [(0, .ref (xd Γ 36)), (1, .int v1), (2, .int v2)] [.int k0] := by
  unfold f_X3_fitByDelays_59 at h
  refine w_istore_n [(3, .int k0), (0, .ref (xd Γ 36)), (1, .int v1), (2, .int v2)] dX3_fitByDelays_59 rfl (by decide) rfl rfl ?_
  refine w_aload_n 1 dX3_fitByDelays_60 rfl rfl rfl ?_
  refine gf_RX3_15 dX3_fitByDelays_61 rfl ?_
  refine w_iload_n 3 dX3_fitByDelays_64 rfl rfl rfl ?_
  refine w_iload_n 0 dX3_fitByDelays_65 rfl rfl rfl ?_
  refine w_if_eq (tgt := 88) dX3_fitByDelays_66 (by decide) rfl (fun q => ?_) (fun q => ?_)
  · have h := h.tt q
    refine w_iconst (0 : Int32) dX3_fitByDelays_88 ic_iconst_0 rfl ?_
    exact w_sub [1, 2, 3] rfl (b_X3_fitByDelays_89 K24 hK24 v1 v2 (0 : Int32) v2 σ h)
  · have h := h.ff q
    refine w_aload_n 1 dX3_fitByDelays_69 rfl rfl rfl ?_
    refine gf_RX3_32 dX3_fitByDelays_70 rfl ?_
    refine w_iload_n 3 dX3_fitByDelays_73 rfl rfl rfl ?_
    refine w_aload_n 1 dX3_fitByDelays_74 rfl rfl rfl ?_
    refine gf_RX3_32 dX3_fitByDelays_75 rfl ?_
    refine gf_RX3_131 (i := 1) (isW_lit (by decide)) dX3_fitByDelays_78 rfl ?_
    obtain ⟨r1, s2, h3, h⟩ := h.bd
    refine k_X10_menLost ml_RX3_138 (Nat.le_of_ble_eq_true rfl) ⟨Nat.le_of_ble_eq_true rfl, Nat.le_of_ble_eq_true rfl⟩ dX3_fitByDelays_81 rfl h3 ?_
    refine w_ineg dX3_fitByDelays_84 rfl ?_
    refine w_goto (tgt := 89) dX3_fitByDelays_85 (by decide) ?_
    exact w_sub [1, 2, 3] rfl (b_X3_fitByDelays_89 K24 hK24 v1 v2 (-r1) v2 s2 h)
def f_X3_fitByDelays_138 (K100 : Int32 × Int32 × St → Option (Unit × St)) (v1 : Int32) (v2 : Int32) (k0 : Int32) (k1 : Int32) (σ : St) : Option (Unit × St) :=
  gd (inb k1 (ln 40)) <|
  bnd (sr σ 40 k1.toNatClampNeg (vp_nar .boolean k0)) fun s2 =>
  bnd (v2 + (1 : Int32)) fun x3 =>
  K100 (v1, x3, s2)
theorem b_X3_fitByDelays_138 {Γ : CX} (K100 : Int32 × Int32 × St → Option (Unit × St)) (hK100 : ∀ (v1 : Int32) (v2 : Int32) (σ : St), RR vU Γ (K100 (v1, v2, σ)) → WW Γ cX3_fitByDelays 4 RX3 none rX3_fitByDelays σ 100 [(0, .ref (xd Γ 36)), (1, .int v1), (2, .int v2)] []) (v1 : Int32) (v2 : Int32) (k0 : Int32) (k1 : Int32) (σ : St) (h : RR vU Γ (f_X3_fitByDelays_138 K100 v1 v2 k0 k1 σ)) : WW Γ cX3_fitByDelays 4 RX3 none rX3_fitByDelays σ 138 [(0, .ref (xd Γ 36)), (1, .int v1), (2, .int v2)] [.int k0, .int k1, .ref (xd Γ 40)] := by
  unfold f_X3_fitByDelays_138 at h
  obtain ⟨hi1, h⟩ := h.gd
  refine w_zast (i := 40) (lt_lit (by decide)) rfl hi1 dX3_fitByDelays_138 rfl ?_
  obtain ⟨s2, es2⟩ : ∃ y : St, y = (sr σ 40 k1.toNatClampNeg (vp_nar .boolean k0)) := ⟨_, rfl⟩
  rw [← es2]
  replace h := h.bnd es2
  clear es2
  obtain ⟨x3, ex3⟩ : ∃ y : Int32, y = (v2 + (1 : Int32)) := ⟨_, rfl⟩
  replace h := h.bnd ex3
  refine w_iinc 2 x3 [(2, .int x3), (0, .ref (xd Γ 36)), (1, .int v1)] dX3_fitByDelays_139 rfl (by rw [ex3, ic_iconst_1]) (by decide) rfl rfl ?_
  clear ex3
  refine w_goto (tgt := 100) dX3_fitByDelays_142 (by decide) ?_
  exact w_sub [1, 2, 0] rfl (hK100 v1 x3 s2 h)
def g_X3_fitByDelays_100 (K100 : Int32 × Int32 × St → Option (Unit × St)) (x : Int32 × Int32 × St) : Option (Unit × St) := match x with
  | (v1, v2, σ) =>
  bd (f_X10_sets 1 σ) fun r1 s2 =>
  if r1 ≤ v2 then
    some ((), s2)
  else
    gd (inb v2 (ln 38)) <|
    bd (f_X10_needOf 1 v1 s2) fun r5 s6 =>
    if r5 ≤ (gr s2 38 v2.toNatClampNeg) then
      f_X3_fitByDelays_138 K100 v1 v2 (0 : Int32) v2 s6
    else
      f_X3_fitByDelays_138 K100 v1 v2 (1 : Int32) v2 s6
theorem l_X3_fitByDelays_100 {Γ : CX} : ∀ (n : Nat) (v1 : Int32) (v2 : Int32) (σ : St), RR vU Γ (itr (g_X3_fitByDelays_100) n (v1, v2, σ)) → WW Γ cX3_fitByDelays 4 RX3 none rX3_fitByDelays σ 100 [(0, .ref (xd Γ 36)), (1, .int v1), (2, .int v2)] [] := by
  intro n
  induction n with
  | zero => intro v1 v2 σ h; exact RR.no h
  | succ n hK100 =>
  intro v1 v2 σ h
  have h : RR vU Γ (g_X3_fitByDelays_100 (itr (g_X3_fitByDelays_100) n) (v1, v2, σ)) := h
  generalize itr (g_X3_fitByDelays_100) n = K100 at h hK100
  unfold g_X3_fitByDelays_100 at h
  dsimp only at h
  refine w_iload_n 2 dX3_fitByDelays_100 rfl rfl rfl ?_
  refine w_aload_n 0 dX3_fitByDelays_101 rfl rfl rfl ?_
  refine gf_RX3_32 dX3_fitByDelays_102 rfl ?_
  obtain ⟨r1, s2, h3, h⟩ := h.bd
  refine k_X10_sets ml_RX3_58 (Nat.le_of_ble_eq_true rfl) ⟨Nat.le_of_ble_eq_true rfl, Nat.le_of_ble_eq_true rfl⟩ dX3_fitByDelays_105 rfl h3 ?_
  refine w_icmp_ge (tgt := 145) dX3_fitByDelays_108 (by decide) rfl (fun q => ?_) (fun q => ?_)
  · have h := h.tt q
    exact w_return dX3_fitByDelays_145 h
  · have h := h.ff q
    refine w_aload_n 0 dX3_fitByDelays_111 rfl rfl rfl ?_
    refine gf_RX3_22 dX3_fitByDelays_112 rfl ?_
    refine w_iload_n 2 dX3_fitByDelays_115 rfl rfl rfl ?_
    refine w_aload_n 0 dX3_fitByDelays_116 rfl rfl rfl ?_
    refine gf_RX3_15 dX3_fitByDelays_117 rfl ?_
    refine w_iload_n 2 dX3_fitByDelays_120 rfl rfl rfl ?_
    obtain ⟨hi4, h⟩ := h.gd
    refine w_iald (i := 38) (lt_lit (by decide)) rfl hi4 dX3_fitByDelays_121 rfl ?_
    refine w_aload_n 0 dX3_fitByDelays_122 rfl rfl rfl ?_
    refine gf_RX3_32 dX3_fitByDelays_123 rfl ?_
    refine w_iload_n 1 dX3_fitByDelays_126 rfl rfl rfl ?_
    obtain ⟨r5, s6, h7, h⟩ := h.bd
    refine k_X10_needOf ml_RX3_141 (Nat.le_of_ble_eq_true rfl) ⟨Nat.le_of_ble_eq_true rfl, Nat.le_of_ble_eq_true rfl⟩ dX3_fitByDelays_127 rfl h7 ?_
    refine w_icmp_ge (tgt := 137) dX3_fitByDelays_130 (by decide) rfl (fun q => ?_) (fun q => ?_)
    · have h := h.tt q
      refine w_iconst (0 : Int32) dX3_fitByDelays_137 ic_iconst_0 rfl ?_
      exact w_sub [0, 1, 2] rfl (b_X3_fitByDelays_138 K100 hK100 v1 v2 (0 : Int32) v2 s6 h)
    · have h := h.ff q
      refine w_iconst (1 : Int32) dX3_fitByDelays_133 ic_iconst_1 rfl ?_
      refine w_goto (tgt := 138) dX3_fitByDelays_134 (by decide) ?_
      exact w_sub [0, 1, 2] rfl (b_X3_fitByDelays_138 K100 hK100 v1 v2 (1 : Int32) v2 s6 h)
def g_X3_fitByDelays_24 (K24 : Int32 × Int32 × St → Option (Unit × St)) (x : Int32 × Int32 × St) : Option (Unit × St) := match x with
  | (v1, v2, σ) =>
  if (gf σ 3 3) ≤ v2 then
    itr (g_X3_fitByDelays_100) FU (v1, (0 : Int32), σ)
  else
    bd (f_X9_cell 3 v2 (0 : Int32) σ) fun r1 s2 =>
    if r1 = v1 then
      f_X3_fitByDelays_59 K24 v1 v2 (1 : Int32) s2
    else
      f_X3_fitByDelays_59 K24 v1 v2 (0 : Int32) s2
theorem l_X3_fitByDelays_24 {Γ : CX} : ∀ (n : Nat) (v1 : Int32) (v2 : Int32) (σ : St), RR vU Γ (itr (g_X3_fitByDelays_24) n (v1, v2, σ)) → WW Γ cX3_fitByDelays 4 RX3 none rX3_fitByDelays σ 24 [(0, .ref (xd Γ 36)), (1, .int v1), (2, .int v2)] [] := by
  intro n
  induction n with
  | zero => intro v1 v2 σ h; exact RR.no h
  | succ n hK24 =>
  intro v1 v2 σ h
  have h : RR vU Γ (g_X3_fitByDelays_24 (itr (g_X3_fitByDelays_24) n) (v1, v2, σ)) := h
  generalize itr (g_X3_fitByDelays_24) n = K24 at h hK24
  unfold g_X3_fitByDelays_24 at h
  dsimp only at h
  refine w_iload_n 2 dX3_fitByDelays_24 rfl rfl rfl ?_
  refine w_aload_n 0 dX3_fitByDelays_25 rfl rfl rfl ?_
  refine gf_RX3_32 dX3_fitByDelays_26 rfl ?_
  refine gf_RX3_79 (i := 1) (isW_lit (by decide)) dX3_fitByDelays_29 rfl ?_
  refine gf_RX3_83 (i := 3) (isT_lit (by decide)) dX3_fitByDelays_32 rfl ?_
  refine w_icmp_ge (tgt := 98) dX3_fitByDelays_35 (by decide) rfl (fun q => ?_) (fun q => ?_)
  · have h := h.tt q
    refine w_iconst (0 : Int32) dX3_fitByDelays_98 ic_iconst_0 rfl ?_
    refine w_istore_n [(2, .int (0 : Int32)), (0, .ref (xd Γ 36)), (1, .int v1)] dX3_fitByDelays_99 rfl (by decide) rfl rfl ?_
    exact w_sub [1, 2, 0] rfl (l_X3_fitByDelays_100 FU v1 (0 : Int32) σ h)
  · have h := h.ff q
    refine w_aload_n 0 dX3_fitByDelays_38 rfl rfl rfl ?_
    refine gf_RX3_32 dX3_fitByDelays_39 rfl ?_
    refine gf_RX3_79 (i := 1) (isW_lit (by decide)) dX3_fitByDelays_42 rfl ?_
    refine w_iload_n 2 dX3_fitByDelays_45 rfl rfl rfl ?_
    refine w_iconst (0 : Int32) dX3_fitByDelays_46 ic_iconst_0 rfl ?_
    obtain ⟨r1, s2, h3, h⟩ := h.bd
    refine k_X9_cell ml_RX3_124 (Nat.le_of_ble_eq_true rfl) ⟨Nat.le_of_ble_eq_true rfl, Nat.le_of_ble_eq_true rfl⟩ dX3_fitByDelays_47 rfl h3 ?_
    refine w_iload_n 1 dX3_fitByDelays_50 rfl rfl rfl ?_
    refine w_icmp_ne (tgt := 58) dX3_fitByDelays_51 (by decide) rfl (fun q => ?_) (fun q => ?_)
    · have h := h.ff q
      refine w_iconst (0 : Int32) dX3_fitByDelays_58 ic_iconst_0 rfl ?_
      exact w_sub [0, 1, 2] rfl (b_X3_fitByDelays_59 K24 hK24 v1 v2 (0 : Int32) s2 h)
    · have h := h.tt q
      refine w_iconst (1 : Int32) dX3_fitByDelays_54 ic_iconst_1 rfl ?_
      refine w_goto (tgt := 59) dX3_fitByDelays_55 (by decide) ?_
      exact w_sub [0, 1, 2] rfl (b_X3_fitByDelays_59 K24 hK24 v1 v2 (1 : Int32) s2 h)
def f_X3_fitByDelays (p0 : Int32) (σ : St) : Option (Unit × St) :=
  bd (f_X10_menThere 1 p0 (gf σ 1 2) (0 : Int32) σ) fun r1 s2 =>
  gd (inb (0 : Int32) (ln 38)) <|
  bnd (sr s2 38 (0 : Int32).toNatClampNeg r1) fun s5 =>
  itr (g_X3_fitByDelays_24) FU (p0, (0 : Int32), s5)
theorem e_X3_fitByDelays {Γ : CX} (p0 : Int32) (σ : St) (h : RR vU Γ (f_X3_fitByDelays p0 σ)) : WW Γ cX3_fitByDelays 4 RX3 none rX3_fitByDelays σ 0 [(0, .ref (xd Γ 36)), (1, .int p0)] [] := by
  unfold f_X3_fitByDelays at h
  refine w_aload_n 0 dX3_fitByDelays_0 rfl rfl rfl ?_
  refine gf_RX3_15 dX3_fitByDelays_1 rfl ?_
  refine w_iconst (0 : Int32) dX3_fitByDelays_4 ic_iconst_0 rfl ?_
  refine w_aload_n 0 dX3_fitByDelays_5 rfl rfl rfl ?_
  refine gf_RX3_32 dX3_fitByDelays_6 rfl ?_
  refine w_iload_n 1 dX3_fitByDelays_9 rfl rfl rfl ?_
  refine w_aload_n 0 dX3_fitByDelays_10 rfl rfl rfl ?_
  refine gf_RX3_32 dX3_fitByDelays_11 rfl ?_
  refine gf_RX3_131 (i := 1) (isW_lit (by decide)) dX3_fitByDelays_14 rfl ?_
  refine w_iconst (0 : Int32) dX3_fitByDelays_17 ic_iconst_0 rfl ?_
  obtain ⟨r1, s2, h3, h⟩ := h.bd
  refine k_X10_menThere ml_RX3_134 (Nat.le_of_ble_eq_true rfl) ⟨Nat.le_of_ble_eq_true rfl, Nat.le_of_ble_eq_true rfl⟩ dX3_fitByDelays_18 rfl h3 ?_
  obtain ⟨hi4, h⟩ := h.gd
  refine w_iast (i := 38) (lt_lit (by decide)) rfl hi4 dX3_fitByDelays_21 rfl ?_
  obtain ⟨s5, es5⟩ : ∃ y : St, y = (sr s2 38 (0 : Int32).toNatClampNeg r1) := ⟨_, rfl⟩
  rw [← es5]
  replace h := h.bnd es5
  clear es5
  refine w_iconst (0 : Int32) dX3_fitByDelays_22 ic_iconst_0 rfl ?_
  refine w_istore_n [(2, .int (0 : Int32)), (0, .ref (xd Γ 36)), (1, .int p0)] dX3_fitByDelays_23 rfl (by decide) rfl rfl ?_
  exact w_sub [1, 2, 0] rfl (l_X3_fitByDelays_24 FU p0 (0 : Int32) s5 h)
theorem c_X3_fitByDelays {l : Launch} {D : va_G} {cy : Nat → ClassId} {ad : Nat → Nat} {p0 : Int32} {σ σ' : St} {r : Unit} (hf : f_X3_fitByDelays p0 σ = some (r, σ')) : CT l D cy ad yX3_fitByDelays cX3_fitByDelays 4 none rX3_fitByDelays [.ref (ad 36), .int p0] σ none σ' :=
  ct_of (by decide) (Nat.le_of_ble_eq_true rfl) (fun p e s m args below meth c A => e_X3_fitByDelays (Γ := (p, l, e, rX3_fitByDelays, s, m, args, below, meth, c, D, cy, ad, A, 0, 0, MQ below (QC D cy ad none σ' A) args s 0 0 A)) p0 σ ⟨_, hf, rfl⟩)
theorem k_X3_fitByDelays {Γ : CX} {cc : ByteArray} {nL : Nat} {own : String} {ret : Option FieldType} {rm : Room} {σ σ' : St} {pc pc' idx : Nat} {lv : List (Nat × Value)} {rest : List Value} {p0 : Int32} {r : Unit} (hl : Cond.methodLink own idx yX3_fitByDelays ∈ TB) (hw : (rest.map fun v => v.category).sum ≤ 8) (hR : rX3_fitByDelays.frames + 1 ≤ rm.frames ∧ 8 + (4 + 11) + rX3_fitByDelays.locals ≤ rm.locals) (hd : decode cc pc = .ok (.invokevirtual idx, 3)) (hp : pc + 3 = pc') (hf : f_X3_fitByDelays p0 σ = some (r, σ')) (h : WW Γ cc nL own ret rm σ' pc' lv (rest)) : WW Γ cc nL own ret rm σ pc lv (.int p0 :: .ref (xd Γ 36) :: rest) :=
  w_callV (nn := 1) (i := 36) (As := [.int p0]) (v := none) (T := TX3) (N := 8) (c_X3_fitByDelays hf) hl mw_X3_fitByDelays (by decide +kernel) ⟨rfl, rfl⟩ hR (lt_lit (by decide)) cel_36 rfl rfl hw hd rfl hp h
