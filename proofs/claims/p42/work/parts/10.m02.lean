/-! WarByHoursModel.since (II)I -/
def rX12_since : Room := { frames := 3, cells := 0, slots := 0, locals := 69 }
def f_X12_since_16 (σ : St) : Option (Int32 × St) :=
  some ((-2 : Int32), σ)
theorem b_X12_since_16 {Γ : CX} (σ : St) (h : RR vI Γ (f_X12_since_16 σ)) : WW Γ cX12_since 4 RX12 (some .int) rX12_since σ 16 [] [] := by
  unfold f_X12_since_16 at h
  refine w_bipush (-2 : Int32) dX12_since_16 ic_bipush_m2 rfl ?_
  exact w_ireturn dX12_since_18 h
def g_X12_since_21 (K21 : Int32 × Int32 × Int32 × St → Option (Int32 × St)) (x : Int32 × Int32 × Int32 × St) : Option (Int32 × St) := match x with
  | (v1, v2, v3, σ) =>
  if (100 : Int32) ≤ v3 then
    some ((-1 : Int32), σ)
  else
    bd (f_X12_menOf v1 v3 v2 σ) fun r1 s2 =>
    gd (inb ((11 : Int32) + v1) (ln 59)) <|
    if r1 < (gr s2 59 ((11 : Int32) + v1).toNatClampNeg) then
      bnd (v3 + (1 : Int32)) fun x5 =>
      K21 (v1, v2, x5, s2)
    else
      some (v3, s2)
theorem l_X12_since_21 {Γ : CX} : ∀ (n : Nat) (v1 : Int32) (v2 : Int32) (v3 : Int32) (σ : St), RR vI Γ (itr (g_X12_since_21) n (v1, v2, v3, σ)) → WW Γ cX12_since 4 RX12 (some .int) rX12_since σ 21 [(0, .ref (xd Γ 58)), (1, .int v1), (2, .int v2), (3, .int v3)] [] := by
  intro n
  induction n with
  | zero => intro v1 v2 v3 σ h; exact RR.no h
  | succ n hK21 =>
  intro v1 v2 v3 σ h
  have h : RR vI Γ (g_X12_since_21 (itr (g_X12_since_21) n) (v1, v2, v3, σ)) := h
  generalize itr (g_X12_since_21) n = K21 at h hK21
  unfold g_X12_since_21 at h
  dsimp only at h
  refine w_iload_n 3 dX12_since_21 rfl rfl rfl ?_
  refine w_bipush (100 : Int32) dX12_since_22 ic_bipush_100 rfl ?_
  refine w_icmp_ge (tgt := 54) dX12_since_24 (by decide) rfl (fun q => ?_) (fun q => ?_)
  · have h := h.tt q
    refine w_iconst (-1 : Int32) dX12_since_54 ic_iconst_m1 rfl ?_
    exact w_ireturn dX12_since_55 h
  · have h := h.ff q
    refine w_aload_n 0 dX12_since_27 rfl rfl rfl ?_
    refine w_iload_n 1 dX12_since_28 rfl rfl rfl ?_
    refine w_iload_n 3 dX12_since_29 rfl rfl rfl ?_
    refine w_iload_n 2 dX12_since_30 rfl rfl rfl ?_
    obtain ⟨r1, s2, h3, h⟩ := h.bd
    refine k_X12_menOf ml_RX12_247 (Nat.le_of_ble_eq_true rfl) ⟨Nat.le_of_ble_eq_true rfl, Nat.le_of_ble_eq_true rfl⟩ dX12_since_31 rfl h3 ?_
    refine w_aload_n 0 dX12_since_34 rfl rfl rfl ?_
    refine gf_RX12_9 dX12_since_35 rfl ?_
    refine w_bipush (11 : Int32) dX12_since_38 ic_bipush_11 rfl ?_
    refine w_iload_n 1 dX12_since_40 rfl rfl rfl ?_
    refine w_iadd dX12_since_41 rfl ?_
    obtain ⟨hi4, h⟩ := h.gd
    refine w_iald (i := 59) (lt_lit (by decide)) rfl hi4 dX12_since_42 rfl ?_
    refine w_icmp_lt (tgt := 48) dX12_since_43 (by decide) rfl (fun q => ?_) (fun q => ?_)
    · have h := h.tt q
      obtain ⟨x5, ex5⟩ : ∃ y : Int32, y = (v3 + (1 : Int32)) := ⟨_, rfl⟩
      replace h := h.bnd ex5
      refine w_iinc 3 x5 [(3, .int x5), (0, .ref (xd Γ 58)), (1, .int v1), (2, .int v2)] dX12_since_48 rfl (by rw [ex5, ic_iconst_1]) (by decide) rfl rfl ?_
      clear ex5
      refine w_goto (tgt := 21) dX12_since_51 (by decide) ?_
      exact w_sub [1, 2, 3, 0] rfl (hK21 v1 v2 x5 s2 h)
    · have h := h.ff q
      refine w_iload_n 3 dX12_since_46 rfl rfl rfl ?_
      exact w_ireturn dX12_since_47 h
def f_X12_since (p0 : Int32) (p1 : Int32) (σ : St) : Option (Int32 × St) :=
  bd (f_X12_isSide p0 σ) fun r1 s2 =>
  if r1 = 0 then
    f_X12_since_16 s2
  else
    bd (f_X12_areTrains p1 s2) fun r4 s5 =>
    if r4 = 0 then
      f_X12_since_16 s5
    else
      itr (g_X12_since_21) FU (p0, p1, (0 : Int32), s5)
theorem e_X12_since {Γ : CX} (p0 : Int32) (p1 : Int32) (σ : St) (h : RR vI Γ (f_X12_since p0 p1 σ)) : WW Γ cX12_since 4 RX12 (some .int) rX12_since σ 0 [(0, .ref (xd Γ 58)), (1, .int p0), (2, .int p1)] [] := by
  unfold f_X12_since at h
  refine w_aload_n 0 dX12_since_0 rfl rfl rfl ?_
  refine w_iload_n 1 dX12_since_1 rfl rfl rfl ?_
  obtain ⟨r1, s2, h3, h⟩ := h.bd
  refine k_X12_isSide ml_RX12_236 (Nat.le_of_ble_eq_true rfl) ⟨Nat.le_of_ble_eq_true rfl, Nat.le_of_ble_eq_true rfl⟩ dX12_since_2 rfl h3 ?_
  refine w_if_eq (tgt := 16) dX12_since_5 (by decide) rfl (fun q => ?_) (fun q => ?_)
  · have h := h.tt q
    exact w_sub [] rfl (b_X12_since_16 s2 h)
  · have h := h.ff q
    refine w_aload_n 0 dX12_since_8 rfl rfl rfl ?_
    refine w_iload_n 2 dX12_since_9 rfl rfl rfl ?_
    obtain ⟨r4, s5, h6, h⟩ := h.bd
    refine k_X12_areTrains ml_RX12_266 (Nat.le_of_ble_eq_true rfl) ⟨Nat.le_of_ble_eq_true rfl, Nat.le_of_ble_eq_true rfl⟩ dX12_since_10 rfl h6 ?_
    refine w_if_ne (tgt := 19) dX12_since_13 (by decide) rfl (fun q => ?_) (fun q => ?_)
    · have h := h.ff q
      refine w_iconst (0 : Int32) dX12_since_19 ic_iconst_0 rfl ?_
      refine w_istore_n [(3, .int (0 : Int32)), (0, .ref (xd Γ 58)), (1, .int p0), (2, .int p1)] dX12_since_20 rfl (by decide) rfl rfl ?_
      exact w_sub [1, 2, 3, 0] rfl (l_X12_since_21 FU p0 p1 (0 : Int32) s5 h)
    · have h := h.tt q
      exact w_sub [] rfl (b_X12_since_16 s5 h)
theorem c_X12_since {l : Launch} {D : va_G} {cy : Nat → ClassId} {ad : Nat → Nat} {p0 : Int32} {p1 : Int32} {σ σ' : St} {r : Int32} (hf : f_X12_since p0 p1 σ = some (r, σ')) : CT l D cy ad yX12_since cX12_since 4 (some .int) rX12_since [.ref (ad 58), .int p0, .int p1] σ (some (.int r)) σ' :=
  ct_of (by decide) (Nat.le_of_ble_eq_true rfl) (fun p e s m args below meth c A => e_X12_since (Γ := (p, l, e, rX12_since, s, m, args, below, meth, c, D, cy, ad, A, 0, 0, MQ below (QC D cy ad (some (.int r)) σ' A) args s 0 0 A)) p0 p1 σ ⟨_, hf, rfl⟩)
theorem k_X12_since {Γ : CX} {cc : ByteArray} {nL : Nat} {own : String} {ret : Option FieldType} {rm : Room} {σ σ' : St} {pc pc' idx : Nat} {lv : List (Nat × Value)} {rest : List Value} {p0 : Int32} {p1 : Int32} {r : Int32} (hl : Cond.methodLink own idx yX12_since ∈ TB) (hw : (rest.map fun v => v.category).sum ≤ 8) (hR : rX12_since.frames + 1 ≤ rm.frames ∧ 8 + (4 + 11) + rX12_since.locals ≤ rm.locals) (hd : decode cc pc = .ok (.invokevirtual idx, 3)) (hp : pc + 3 = pc') (hf : f_X12_since p0 p1 σ = some (r, σ')) (h : WW Γ cc nL own ret rm σ' pc' lv (.int r :: rest)) : WW Γ cc nL own ret rm σ pc lv (.int p1 :: .int p0 :: .ref (xd Γ 58) :: rest) :=
  w_callV (nn := 2) (i := 58) (As := [.int p0, .int p1]) (v := (some (.int r))) (T := TX12) (N := 32) (c_X12_since hf) hl mw_X12_since (by decide +kernel) ⟨rfl, rfl⟩ hR (lt_lit (by decide)) cel_58 rfl rfl hw hd rfl hp h
/-! WarByHoursModel.comes (II)I -/
def rX12_comes : Room := { frames := 2, cells := 0, slots := 0, locals := 46 }
def f_X12_comes_15 (σ : St) : Option (Int32 × St) :=
  some ((-2 : Int32), σ)
theorem b_X12_comes_15 {Γ : CX} (σ : St) (h : RR vI Γ (f_X12_comes_15 σ)) : WW Γ cX12_comes 5 RX12 (some .int) rX12_comes σ 15 [] [] := by
  unfold f_X12_comes_15 at h
  refine w_bipush (-2 : Int32) dX12_comes_15 ic_bipush_m2 rfl ?_
  exact w_ireturn dX12_comes_17 h
def f_X12_comes_54 (K23 : Int32 × Int32 × Int32 × Int32 × St → Option (Int32 × St)) (v1 : Int32) (v2 : Int32) (v4 : Int32) (k0 : Int32) (k1 : Int32) (σ : St) : Option (Int32 × St) :=
  bnd ((k1 ||| k0)) fun x1 =>
  bnd (v4 + (1 : Int32)) fun x2 =>
  K23 (v1, v2, x1, x2, σ)
theorem b_X12_comes_54 {Γ : CX} (K23 : Int32 × Int32 × Int32 × Int32 × St → Option (Int32 × St)) (hK23 : ∀ (v1 : Int32) (v2 : Int32) (v3 : Int32) (v4 : Int32) (σ : St), RR vI Γ (K23 (v1, v2, v3, v4, σ)) → WW Γ cX12_comes 5 RX12 (some .int) rX12_comes σ 23 [(0, .ref (xd Γ 58)), (1, .int v1), (2, .int v2), (3, .int v3), (4, .int v4)] []) (v1 : Int32) (v2 : Int32) (v4 : Int32) (k0 : Int32) (k1 : Int32) (σ : St) (h : RR vI Γ (f_X12_comes_54 K23 v1 v2 v4 k0 k1 σ)) : WW Γ cX12_comes 5 RX12 (some .int) rX12_comes σ 54 [(0, .ref (xd Γ 58)), (1, .int v1), (2, .int v2), (4, .int v4)] [.int k0, .int k1] := by
  unfold f_X12_comes_54 at h
  refine w_ior dX12_comes_54 rfl ?_
  refine w_nmI (fun x1 ex1 => ?_)
  replace h := h.bnd ex1
  clear ex1
  refine w_istore_n [(3, .int x1), (0, .ref (xd Γ 58)), (1, .int v1), (2, .int v2), (4, .int v4)] dX12_comes_55 rfl (by decide) rfl rfl ?_
  obtain ⟨x2, ex2⟩ : ∃ y : Int32, y = (v4 + (1 : Int32)) := ⟨_, rfl⟩
  replace h := h.bnd ex2
  refine w_iinc 4 x2 [(4, .int x2), (3, .int x1), (0, .ref (xd Γ 58)), (1, .int v1), (2, .int v2)] dX12_comes_56 rfl (by rw [ex2, ic_iconst_1]) (by decide) rfl rfl ?_
  clear ex2
  refine w_goto (tgt := 23) dX12_comes_59 (by decide) ?_
  exact w_sub [2, 3, 4, 1, 0] rfl (hK23 v1 v2 x1 x2 σ h)
def g_X12_comes_23 (K23 : Int32 × Int32 × Int32 × Int32 × St → Option (Int32 × St)) (x : Int32 × Int32 × Int32 × Int32 × St) : Option (Int32 × St) := match x with
  | (v1, v2, v3, v4, σ) =>
  gd (inb (4 : Int32) (ln 59)) <|
  if (gr σ 59 (4 : Int32).toNatClampNeg) ≤ v4 then
    some (v3, σ)
  else
    bd (f_X12_comesAt v4 v2 σ) fun r2 s3 =>
    if r2 = v1 then
      f_X12_comes_54 K23 v1 v2 v4 ((1 : Int32) <<< (v4 &&& 31)) v3 s3
    else
      f_X12_comes_54 K23 v1 v2 v4 (0 : Int32) v3 s3
theorem l_X12_comes_23 {Γ : CX} : ∀ (n : Nat) (v1 : Int32) (v2 : Int32) (v3 : Int32) (v4 : Int32) (σ : St), RR vI Γ (itr (g_X12_comes_23) n (v1, v2, v3, v4, σ)) → WW Γ cX12_comes 5 RX12 (some .int) rX12_comes σ 23 [(0, .ref (xd Γ 58)), (1, .int v1), (2, .int v2), (3, .int v3), (4, .int v4)] [] := by
  intro n
  induction n with
  | zero => intro v1 v2 v3 v4 σ h; exact RR.no h
  | succ n hK23 =>
  intro v1 v2 v3 v4 σ h
  have h : RR vI Γ (g_X12_comes_23 (itr (g_X12_comes_23) n) (v1, v2, v3, v4, σ)) := h
  generalize itr (g_X12_comes_23) n = K23 at h hK23
  unfold g_X12_comes_23 at h
  dsimp only at h
  refine w_iload 4 dX12_comes_23 rfl rfl ?_
  refine w_aload_n 0 dX12_comes_25 rfl rfl rfl ?_
  refine gf_RX12_9 dX12_comes_26 rfl ?_
  refine w_iconst (4 : Int32) dX12_comes_29 ic_iconst_4 rfl ?_
  obtain ⟨hi1, h⟩ := h.gd
  refine w_iald (i := 59) (lt_lit (by decide)) rfl hi1 dX12_comes_30 rfl ?_
  refine w_icmp_ge (tgt := 62) dX12_comes_31 (by decide) rfl (fun q => ?_) (fun q => ?_)
  · have h := h.tt q
    refine w_iload_n 3 dX12_comes_62 rfl rfl rfl ?_
    exact w_ireturn dX12_comes_63 h
  · have h := h.ff q
    refine w_iload_n 3 dX12_comes_34 rfl rfl rfl ?_
    refine w_aload_n 0 dX12_comes_35 rfl rfl rfl ?_
    refine w_iload 4 dX12_comes_36 rfl rfl ?_
    refine w_iload_n 2 dX12_comes_38 rfl rfl rfl ?_
    obtain ⟨r2, s3, h4, h⟩ := h.bd
    refine k_X12_comesAt ml_RX12_244 (Nat.le_of_ble_eq_true rfl) ⟨Nat.le_of_ble_eq_true rfl, Nat.le_of_ble_eq_true rfl⟩ dX12_comes_39 rfl h4 ?_
    refine w_iload_n 1 dX12_comes_42 rfl rfl rfl ?_
    refine w_icmp_ne (tgt := 53) dX12_comes_43 (by decide) rfl (fun q => ?_) (fun q => ?_)
    · have h := h.ff q
      refine w_iconst (0 : Int32) dX12_comes_53 ic_iconst_0 rfl ?_
      exact w_sub [0, 1, 2, 4] rfl (b_X12_comes_54 K23 hK23 v1 v2 v4 (0 : Int32) v3 s3 h)
    · have h := h.tt q
      refine w_iconst (1 : Int32) dX12_comes_46 ic_iconst_1 rfl ?_
      refine w_iload 4 dX12_comes_47 rfl rfl ?_
      refine w_ishl dX12_comes_49 rfl ?_
      refine w_goto (tgt := 54) dX12_comes_50 (by decide) ?_
      exact w_sub [0, 1, 2, 4] rfl (b_X12_comes_54 K23 hK23 v1 v2 v4 ((1 : Int32) <<< (v4 &&& 31)) v3 s3 h)
def f_X12_comes (p0 : Int32) (p1 : Int32) (σ : St) : Option (Int32 × St) :=
  bd (f_X12_isAny p0 σ) fun r1 s2 =>
  if r1 = 0 then
    f_X12_comes_15 s2
  else
    bd (f_X12_areTrains p1 s2) fun r4 s5 =>
    if r4 = 0 then
      f_X12_comes_15 s5
    else
      itr (g_X12_comes_23) FU (p0, p1, (0 : Int32), (0 : Int32), s5)
theorem e_X12_comes {Γ : CX} (p0 : Int32) (p1 : Int32) (σ : St) (h : RR vI Γ (f_X12_comes p0 p1 σ)) : WW Γ cX12_comes 5 RX12 (some .int) rX12_comes σ 0 [(0, .ref (xd Γ 58)), (1, .int p0), (2, .int p1)] [] := by
  unfold f_X12_comes at h
  refine w_iload_n 1 dX12_comes_0 rfl rfl rfl ?_
  obtain ⟨r1, s2, h3, h⟩ := h.bd
  refine k_X12_isAny ml_RX12_263 (Nat.le_of_ble_eq_true rfl) ⟨Nat.le_of_ble_eq_true rfl, Nat.le_of_ble_eq_true rfl⟩ dX12_comes_1 rfl h3 ?_
  refine w_if_eq (tgt := 15) dX12_comes_4 (by decide) rfl (fun q => ?_) (fun q => ?_)
  · have h := h.tt q
    exact w_sub [] rfl (b_X12_comes_15 s2 h)
  · have h := h.ff q
    refine w_aload_n 0 dX12_comes_7 rfl rfl rfl ?_
    refine w_iload_n 2 dX12_comes_8 rfl rfl rfl ?_
    obtain ⟨r4, s5, h6, h⟩ := h.bd
    refine k_X12_areTrains ml_RX12_266 (Nat.le_of_ble_eq_true rfl) ⟨Nat.le_of_ble_eq_true rfl, Nat.le_of_ble_eq_true rfl⟩ dX12_comes_9 rfl h6 ?_
    refine w_if_ne (tgt := 18) dX12_comes_12 (by decide) rfl (fun q => ?_) (fun q => ?_)
    · have h := h.ff q
      refine w_iconst (0 : Int32) dX12_comes_18 ic_iconst_0 rfl ?_
      refine w_istore_n [(3, .int (0 : Int32)), (0, .ref (xd Γ 58)), (1, .int p0), (2, .int p1)] dX12_comes_19 rfl (by decide) rfl rfl ?_
      refine w_iconst (0 : Int32) dX12_comes_20 ic_iconst_0 rfl ?_
      refine w_istore [(4, .int (0 : Int32)), (3, .int (0 : Int32)), (0, .ref (xd Γ 58)), (1, .int p0), (2, .int p1)] dX12_comes_21 (by decide) rfl rfl ?_
      exact w_sub [2, 3, 4, 1, 0] rfl (l_X12_comes_23 FU p0 p1 (0 : Int32) (0 : Int32) s5 h)
    · have h := h.tt q
      exact w_sub [] rfl (b_X12_comes_15 s5 h)
theorem c_X12_comes {l : Launch} {D : va_G} {cy : Nat → ClassId} {ad : Nat → Nat} {p0 : Int32} {p1 : Int32} {σ σ' : St} {r : Int32} (hf : f_X12_comes p0 p1 σ = some (r, σ')) : CT l D cy ad yX12_comes cX12_comes 5 (some .int) rX12_comes [.ref (ad 58), .int p0, .int p1] σ (some (.int r)) σ' :=
  ct_of (by decide) (Nat.le_of_ble_eq_true rfl) (fun p e s m args below meth c A => e_X12_comes (Γ := (p, l, e, rX12_comes, s, m, args, below, meth, c, D, cy, ad, A, 0, 0, MQ below (QC D cy ad (some (.int r)) σ' A) args s 0 0 A)) p0 p1 σ ⟨_, hf, rfl⟩)
theorem k_X12_comes {Γ : CX} {cc : ByteArray} {nL : Nat} {own : String} {ret : Option FieldType} {rm : Room} {σ σ' : St} {pc pc' idx : Nat} {lv : List (Nat × Value)} {rest : List Value} {p0 : Int32} {p1 : Int32} {r : Int32} (hl : Cond.methodLink own idx yX12_comes ∈ TB) (hw : (rest.map fun v => v.category).sum ≤ 8) (hR : rX12_comes.frames + 1 ≤ rm.frames ∧ 8 + (5 + 11) + rX12_comes.locals ≤ rm.locals) (hd : decode cc pc = .ok (.invokevirtual idx, 3)) (hp : pc + 3 = pc') (hf : f_X12_comes p0 p1 σ = some (r, σ')) (h : WW Γ cc nL own ret rm σ' pc' lv (.int r :: rest)) : WW Γ cc nL own ret rm σ pc lv (.int p1 :: .int p0 :: .ref (xd Γ 58) :: rest) :=
  w_callV (nn := 2) (i := 58) (As := [.int p0, .int p1]) (v := (some (.int r))) (T := TX12) (N := 32) (c_X12_comes hf) hl mw_X12_comes (by decide +kernel) ⟨rfl, rfl⟩ hR (lt_lit (by decide)) cel_58 rfl rfl hw hd rfl hp h
/-! WarByHoursModel.even (I)J -/
def rX12_even : Room := { frames := 3, cells := 0, slots := 0, locals := 69 }
def f_X12_even_56 (K17 : Int32 × Int64 × Int32 × St → Option (Int64 × St)) (v1 : Int32) (v4 : Int32) (k0 : Int64) (k1 : Int64) (σ : St) : Option (Int64 × St) :=
  bnd ((k1 ||| k0)) fun x1 =>
  bnd (v4 + (1 : Int32)) fun x2 =>
  K17 (v1, x1, x2, σ)
theorem b_X12_even_56 {Γ : CX} (K17 : Int32 × Int64 × Int32 × St → Option (Int64 × St)) (hK17 : ∀ (v1 : Int32) (v2 : Int64) (v4 : Int32) (σ : St), RR vL Γ (K17 (v1, v2, v4, σ)) → WW Γ cX12_even 5 RX12 (some .long) rX12_even σ 17 [(0, .ref (xd Γ 58)), (1, .int v1), (2, .long v2), (4, .int v4)] []) (v1 : Int32) (v4 : Int32) (k0 : Int64) (k1 : Int64) (σ : St) (h : RR vL Γ (f_X12_even_56 K17 v1 v4 k0 k1 σ)) : WW Γ cX12_even 5 RX12 (some .long) rX12_even σ 56 [(0, .ref (xd Γ 58)), (1, .int v1), (4, .int v4)] [.long k0, .long k1] := by
  unfold f_X12_even_56 at h
  refine w_lor dX12_even_56 rfl ?_
  refine w_nmL (fun x1 ex1 => ?_)
  replace h := h.bnd ex1
  clear ex1
  refine w_lstore_n [(2, .long x1), (0, .ref (xd Γ 58)), (1, .int v1), (4, .int v4)] dX12_even_57 rfl (by decide) rfl rfl ?_
  obtain ⟨x2, ex2⟩ : ∃ y : Int32, y = (v4 + (1 : Int32)) := ⟨_, rfl⟩
  replace h := h.bnd ex2
  refine w_iinc 3 x2 [(4, .int x2), (2, .long x1), (0, .ref (xd Γ 58)), (1, .int v1)] dX12_even_58 rfl (by rw [ex2, ic_iconst_1]) (by decide) rfl rfl ?_
  clear ex2
  refine w_goto (tgt := 17) dX12_even_61 (by decide) ?_
  exact w_sub [2, 3, 1, 0] rfl (hK17 v1 x1 x2 σ h)
def g_X12_even_17 (K17 : Int32 × Int64 × Int32 × St → Option (Int64 × St)) (x : Int32 × Int64 × Int32 × St) : Option (Int64 × St) := match x with
  | (v1, v2, v4, σ) =>
  gd (inb (0 : Int32) (ln 59)) <|
  if (gr σ 59 (0 : Int32).toNatClampNeg) ≤ v4 then
    some (v2, σ)
  else
    bd (f_X12_menOf (0 : Int32) v4 v1 σ) fun r2 s3 =>
    bd (f_X12_menOf (1 : Int32) v4 v1 s3) fun r5 s6 =>
    if r2 = r5 then
      f_X12_even_56 K17 v1 v4 ((1 : Int64) <<< (v4.toInt64 &&& 63)) v2 s6
    else
      f_X12_even_56 K17 v1 v4 (0 : Int64) v2 s6
theorem l_X12_even_17 {Γ : CX} : ∀ (n : Nat) (v1 : Int32) (v2 : Int64) (v4 : Int32) (σ : St), RR vL Γ (itr (g_X12_even_17) n (v1, v2, v4, σ)) → WW Γ cX12_even 5 RX12 (some .long) rX12_even σ 17 [(0, .ref (xd Γ 58)), (1, .int v1), (2, .long v2), (4, .int v4)] [] := by
  intro n
  induction n with
  | zero => intro v1 v2 v4 σ h; exact RR.no h
  | succ n hK17 =>
  intro v1 v2 v4 σ h
  have h : RR vL Γ (g_X12_even_17 (itr (g_X12_even_17) n) (v1, v2, v4, σ)) := h
  generalize itr (g_X12_even_17) n = K17 at h hK17
  unfold g_X12_even_17 at h
  dsimp only at h
  refine w_iload 3 dX12_even_17 rfl rfl ?_
  refine w_aload_n 0 dX12_even_19 rfl rfl rfl ?_
  refine gf_RX12_9 dX12_even_20 rfl ?_
  refine w_iconst (0 : Int32) dX12_even_23 ic_iconst_0 rfl ?_
  obtain ⟨hi1, h⟩ := h.gd
  refine w_iald (i := 59) (lt_lit (by decide)) rfl hi1 dX12_even_24 rfl ?_
  refine w_icmp_ge (tgt := 64) dX12_even_25 (by decide) rfl (fun q => ?_) (fun q => ?_)
  · have h := h.tt q
    refine w_lload_n 2 dX12_even_64 rfl rfl rfl ?_
    exact w_lreturn dX12_even_65 h
  · have h := h.ff q
    refine w_lload_n 2 dX12_even_28 rfl rfl rfl ?_
    refine w_aload_n 0 dX12_even_29 rfl rfl rfl ?_
    refine w_iconst (0 : Int32) dX12_even_30 ic_iconst_0 rfl ?_
    refine w_iload 3 dX12_even_31 rfl rfl ?_
    refine w_iload_n 1 dX12_even_33 rfl rfl rfl ?_
    obtain ⟨r2, s3, h4, h⟩ := h.bd
    refine k_X12_menOf ml_RX12_247 (Nat.le_of_ble_eq_true rfl) ⟨Nat.le_of_ble_eq_true rfl, Nat.le_of_ble_eq_true rfl⟩ dX12_even_34 rfl h4 ?_
    refine w_aload_n 0 dX12_even_37 rfl rfl rfl ?_
    refine w_iconst (1 : Int32) dX12_even_38 ic_iconst_1 rfl ?_
    refine w_iload 3 dX12_even_39 rfl rfl ?_
    refine w_iload_n 1 dX12_even_41 rfl rfl rfl ?_
    obtain ⟨r5, s6, h7, h⟩ := h.bd
    refine k_X12_menOf ml_RX12_247 (Nat.le_of_ble_eq_true rfl) ⟨Nat.le_of_ble_eq_true rfl, Nat.le_of_ble_eq_true rfl⟩ dX12_even_42 rfl h7 ?_
    refine w_icmp_ne (tgt := 55) dX12_even_45 (by decide) rfl (fun q => ?_) (fun q => ?_)
    · have h := h.ff q
      refine w_lconst (0 : Int64) dX12_even_55 rfl rfl ?_
      exact w_sub [0, 1, 3] rfl (b_X12_even_56 K17 hK17 v1 v4 (0 : Int64) v2 s6 h)
    · have h := h.tt q
      refine w_lconst (1 : Int64) dX12_even_48 rfl rfl ?_
      refine w_iload 3 dX12_even_49 rfl rfl ?_
      refine w_lshl dX12_even_51 rfl ?_
      refine w_goto (tgt := 56) dX12_even_52 (by decide) ?_
      exact w_sub [0, 1, 3] rfl (b_X12_even_56 K17 hK17 v1 v4 ((1 : Int64) <<< (v4.toInt64 &&& 63)) v2 s6 h)
def f_X12_even (p0 : Int32) (σ : St) : Option (Int64 × St) :=
  bd (f_X12_areTrains p0 σ) fun r1 s2 =>
  if r1 = 0 then
    some ((-2 : Int64), s2)
  else
    itr (g_X12_even_17) FU (p0, (0 : Int64), (0 : Int32), s2)
theorem e_X12_even {Γ : CX} (p0 : Int32) (σ : St) (h : RR vL Γ (f_X12_even p0 σ)) : WW Γ cX12_even 5 RX12 (some .long) rX12_even σ 0 [(0, .ref (xd Γ 58)), (1, .int p0)] [] := by
  unfold f_X12_even at h
  refine w_aload_n 0 dX12_even_0 rfl rfl rfl ?_
  refine w_iload_n 1 dX12_even_1 rfl rfl rfl ?_
  obtain ⟨r1, s2, h3, h⟩ := h.bd
  refine k_X12_areTrains ml_RX12_266 (Nat.le_of_ble_eq_true rfl) ⟨Nat.le_of_ble_eq_true rfl, Nat.le_of_ble_eq_true rfl⟩ dX12_even_2 rfl h3 ?_
  refine w_if_ne (tgt := 12) dX12_even_5 (by decide) rfl (fun q => ?_) (fun q => ?_)
  · have h := h.ff q
    refine w_lconst (0 : Int64) dX12_even_12 rfl rfl ?_
    refine w_lstore_n [(2, .long (0 : Int64)), (0, .ref (xd Γ 58)), (1, .int p0)] dX12_even_13 rfl (by decide) rfl rfl ?_
    refine w_iconst (0 : Int32) dX12_even_14 ic_iconst_0 rfl ?_
    refine w_istore [(4, .int (0 : Int32)), (2, .long (0 : Int64)), (0, .ref (xd Γ 58)), (1, .int p0)] dX12_even_15 (by decide) rfl rfl ?_
    exact w_sub [2, 3, 1, 0] rfl (l_X12_even_17 FU p0 (0 : Int64) (0 : Int32) s2 h)
  · have h := h.tt q
    refine w_ldc2_w (-2 : Int64) dX12_even_8 cl_RX12_275 rfl ?_
    exact w_lreturn dX12_even_11 h
theorem c_X12_even {l : Launch} {D : va_G} {cy : Nat → ClassId} {ad : Nat → Nat} {p0 : Int32} {σ σ' : St} {r : Int64} (hf : f_X12_even p0 σ = some (r, σ')) : CT l D cy ad yX12_even cX12_even 5 (some .long) rX12_even [.ref (ad 58), .int p0] σ (some (.long r)) σ' :=
  ct_of (by decide) (Nat.le_of_ble_eq_true rfl) (fun p e s m args below meth c A => e_X12_even (Γ := (p, l, e, rX12_even, s, m, args, below, meth, c, D, cy, ad, A, 0, 0, MQ below (QC D cy ad (some (.long r)) σ' A) args s 0 0 A)) p0 σ ⟨_, hf, rfl⟩)
theorem k_X12_even {Γ : CX} {cc : ByteArray} {nL : Nat} {own : String} {ret : Option FieldType} {rm : Room} {σ σ' : St} {pc pc' idx : Nat} {lv : List (Nat × Value)} {rest : List Value} {p0 : Int32} {r : Int64} (hl : Cond.methodLink own idx yX12_even ∈ TB) (hw : (rest.map fun v => v.category).sum ≤ 8) (hR : rX12_even.frames + 1 ≤ rm.frames ∧ 8 + (5 + 11) + rX12_even.locals ≤ rm.locals) (hd : decode cc pc = .ok (.invokevirtual idx, 3)) (hp : pc + 3 = pc') (hf : f_X12_even p0 σ = some (r, σ')) (h : WW Γ cc nL own ret rm σ' pc' lv (.long r :: rest)) : WW Γ cc nL own ret rm σ pc lv (.int p0 :: .ref (xd Γ 58) :: rest) :=
  w_callV (nn := 1) (i := 58) (As := [.int p0]) (v := (some (.long r))) (T := TX12) (N := 32) (c_X12_even hf) hl mw_X12_even (by decide +kernel) ⟨rfl, rfl⟩ hR (lt_lit (by decide)) cel_58 rfl rfl hw hd rfl hp h
/-! WarByHoursModel.worstOf (I)I -/
def rX12_worstOf : Room := { frames := 5, cells := 0, slots := 0, locals := 114 }
def f_X12_worstOf_67 (K11 : Int32 × Int32 × Int32 × St → Option (Int32 × St)) (v1 : Int32) (v2 : Int32) (v3 : Int32) (σ : St) : Option (Int32 × St) :=
  bnd (v3 + (1 : Int32)) fun x1 =>
  K11 (v1, v2, x1, σ)
theorem b_X12_worstOf_67 {Γ : CX} (K11 : Int32 × Int32 × Int32 × St → Option (Int32 × St)) (hK11 : ∀ (v1 : Int32) (v2 : Int32) (v3 : Int32) (σ : St), RR vI Γ (K11 (v1, v2, v3, σ)) → WW Γ cX12_worstOf 5 RX12 (some .int) rX12_worstOf σ 11 [(0, .ref (xd Γ 58)), (1, .int v1), (2, .int v2), (3, .int v3)] []) (v1 : Int32) (v2 : Int32) (v3 : Int32) (σ : St) (h : RR vI Γ (f_X12_worstOf_67 K11 v1 v2 v3 σ)) : WW Γ cX12_worstOf 5 RX12 (some .int) rX12_worstOf σ 67 [(0, .ref (xd Γ 58)), (1, .int v1), (2, .int v2), (3, .int v3)] [] := by
  unfold f_X12_worstOf_67 at h
  obtain ⟨x1, ex1⟩ : ∃ y : Int32, y = (v3 + (1 : Int32)) := ⟨_, rfl⟩
  replace h := h.bnd ex1
  refine w_iinc 3 x1 [(3, .int x1), (0, .ref (xd Γ 58)), (1, .int v1), (2, .int v2)] dX12_worstOf_67 rfl (by rw [ex1, ic_iconst_1]) (by decide) rfl rfl ?_
  clear ex1
  refine w_goto (tgt := 11) dX12_worstOf_70 (by decide) ?_
  exact w_sub [1, 2, 3, 0] rfl (hK11 v1 v2 x1 σ h)
def f_X12_worstOf_59 (K11 : Int32 × Int32 × Int32 × St → Option (Int32 × St)) (v1 : Int32) (v3 : Int32) (v4 : Int32) (σ : St) : Option (Int32 × St) :=
  bnd (sf σ 58 16 v3) fun s1 =>
  f_X12_worstOf_67 K11 v1 v4 v3 s1
theorem b_X12_worstOf_59 {Γ : CX} (K11 : Int32 × Int32 × Int32 × St → Option (Int32 × St)) (hK11 : ∀ (v1 : Int32) (v2 : Int32) (v3 : Int32) (σ : St), RR vI Γ (K11 (v1, v2, v3, σ)) → WW Γ cX12_worstOf 5 RX12 (some .int) rX12_worstOf σ 11 [(0, .ref (xd Γ 58)), (1, .int v1), (2, .int v2), (3, .int v3)] []) (v1 : Int32) (v3 : Int32) (v4 : Int32) (σ : St) (h : RR vI Γ (f_X12_worstOf_59 K11 v1 v3 v4 σ)) : WW Γ cX12_worstOf 5 RX12 (some .int) rX12_worstOf σ 59 [(0, .ref (xd Γ 58)), (1, .int v1), (3, .int v3), (4, .int v4)] [] := by
  unfold f_X12_worstOf_59 at h
  refine w_iload 3 dX12_worstOf_59 rfl rfl ?_
  refine w_istore_n [(2, .int v4), (0, .ref (xd Γ 58)), (1, .int v1), (3, .int v3), (4, .int v4)] dX12_worstOf_61 rfl (by decide) rfl rfl ?_
  refine w_aload_n 1 dX12_worstOf_62 rfl rfl rfl ?_
  refine w_iload_n 3 dX12_worstOf_63 rfl rfl rfl ?_
  refine pf_RX12_277 dX12_worstOf_64 rfl ?_
  obtain ⟨s1, es1⟩ : ∃ y : St, y = (sf σ 58 16 v3) := ⟨_, rfl⟩
  rw [← es1]
  replace h := h.bnd es1
  clear es1
  exact w_sub [1, 2, 0, 3] rfl (b_X12_worstOf_67 K11 hK11 v1 v4 v3 s1 h)
def g_X12_worstOf_11 (K11 : Int32 × Int32 × Int32 × St → Option (Int32 × St)) (x : Int32 × Int32 × Int32 × St) : Option (Int32 × St) := match x with
  | (v1, v2, v3, σ) =>
  bd (f_X12_allTrains σ) fun r1 s2 =>
  if r1 < v3 then
    some (v2, s2)
  else
    bd (f_X12_lastFront v3 s2) fun r4 s5 =>
    bd (f_X12_goodBy v1 r4 s5) fun r7 s8 =>
    if v2 < r7 then
      f_X12_worstOf_67 K11 v1 v2 v3 s8
    else
      if r7 = v2 then
        bd (f_X12_bits v3 s8) fun r10 s11 =>
        bd (f_X12_bits (gf s11 58 16) s11) fun r13 s14 =>
        if r10 < r13 then
          f_X12_worstOf_59 K11 v1 v3 r7 s14
        else
          f_X12_worstOf_67 K11 v1 v2 v3 s14
      else
        f_X12_worstOf_59 K11 v1 v3 r7 s8
theorem l_X12_worstOf_11 {Γ : CX} : ∀ (n : Nat) (v1 : Int32) (v2 : Int32) (v3 : Int32) (σ : St), RR vI Γ (itr (g_X12_worstOf_11) n (v1, v2, v3, σ)) → WW Γ cX12_worstOf 5 RX12 (some .int) rX12_worstOf σ 11 [(0, .ref (xd Γ 58)), (1, .int v1), (2, .int v2), (3, .int v3)] [] := by
  intro n
  induction n with
  | zero => intro v1 v2 v3 σ h; exact RR.no h
  | succ n hK11 =>
  intro v1 v2 v3 σ h
  have h : RR vI Γ (g_X12_worstOf_11 (itr (g_X12_worstOf_11) n) (v1, v2, v3, σ)) := h
  generalize itr (g_X12_worstOf_11) n = K11 at h hK11
  unfold g_X12_worstOf_11 at h
  dsimp only at h
  refine w_iload_n 3 dX12_worstOf_11 rfl rfl rfl ?_
  refine w_aload_n 0 dX12_worstOf_12 rfl rfl rfl ?_
  obtain ⟨r1, s2, h3, h⟩ := h.bd
  refine k_X12_allTrains ml_RX12_78 (Nat.le_of_ble_eq_true rfl) ⟨Nat.le_of_ble_eq_true rfl, Nat.le_of_ble_eq_true rfl⟩ dX12_worstOf_13 rfl h3 ?_
  refine w_icmp_gt (tgt := 73) dX12_worstOf_16 (by decide) rfl (fun q => ?_) (fun q => ?_)
  · have h := h.tt q
    refine w_iload_n 2 dX12_worstOf_73 rfl rfl rfl ?_
    exact w_ireturn dX12_worstOf_74 h
  · have h := h.ff q
    refine w_iload_n 1 dX12_worstOf_19 rfl rfl rfl ?_
    refine w_aload_n 0 dX12_worstOf_20 rfl rfl rfl ?_
    refine w_iload_n 3 dX12_worstOf_21 rfl rfl rfl ?_
    obtain ⟨r4, s5, h6, h⟩ := h.bd
    refine k_X12_lastFront ml_RX12_258 (Nat.le_of_ble_eq_true rfl) ⟨Nat.le_of_ble_eq_true rfl, Nat.le_of_ble_eq_true rfl⟩ dX12_worstOf_22 rfl h6 ?_
    obtain ⟨r7, s8, h9, h⟩ := h.bd
    refine k_X12_goodBy ml_RX12_272 (Nat.le_of_ble_eq_true rfl) ⟨Nat.le_of_ble_eq_true rfl, Nat.le_of_ble_eq_true rfl⟩ dX12_worstOf_25 rfl h9 ?_
    refine w_istore [(4, .int r7), (0, .ref (xd Γ 58)), (1, .int v1), (2, .int v2), (3, .int v3)] dX12_worstOf_28 (by decide) rfl rfl ?_
    refine w_iload 0 dX12_worstOf_30 rfl rfl ?_
    refine w_iload_n 3 dX12_worstOf_32 rfl rfl rfl ?_
    refine w_icmp_gt (tgt := 67) dX12_worstOf_33 (by decide) rfl (fun q => ?_) (fun q => ?_)
    · have h := h.tt q
      exact w_sub [1, 2, 3, 4] rfl (b_X12_worstOf_67 K11 hK11 v1 v2 v3 s8 h)
    · have h := h.ff q
      refine w_iload 0 dX12_worstOf_36 rfl rfl ?_
      refine w_iload_n 3 dX12_worstOf_38 rfl rfl rfl ?_
      refine w_icmp_ne (tgt := 59) dX12_worstOf_39 (by decide) rfl (fun q => ?_) (fun q => ?_)
      · have h := h.ff q
        exact w_sub [1, 2, 4, 0] rfl (b_X12_worstOf_59 K11 hK11 v1 v3 r7 s8 h)
      · have h := h.tt q
        refine w_iload_n 4 dX12_worstOf_42 rfl rfl rfl ?_
        obtain ⟨r10, s11, h12, h⟩ := h.bd
        refine k_X12_bits ml_RX12_281 (Nat.le_of_ble_eq_true rfl) ⟨Nat.le_of_ble_eq_true rfl, Nat.le_of_ble_eq_true rfl⟩ dX12_worstOf_43 rfl h12 ?_
        refine w_aload_n 1 dX12_worstOf_46 rfl rfl rfl ?_
        refine gf_RX12_277 dX12_worstOf_47 rfl ?_
        obtain ⟨r13, s14, h15, h⟩ := h.bd
        refine k_X12_bits ml_RX12_281 (Nat.le_of_ble_eq_true rfl) ⟨Nat.le_of_ble_eq_true rfl, Nat.le_of_ble_eq_true rfl⟩ dX12_worstOf_50 rfl h15 ?_
        refine w_icmp_lt (tgt := 59) dX12_worstOf_53 (by decide) rfl (fun q => ?_) (fun q => ?_)
        · have h := h.tt q
          exact w_sub [1, 2, 4, 0] rfl (b_X12_worstOf_59 K11 hK11 v1 v3 r7 s14 h)
        · have h := h.ff q
          refine w_goto (tgt := 67) dX12_worstOf_56 (by decide) ?_
          exact w_sub [1, 2, 3, 4] rfl (b_X12_worstOf_67 K11 hK11 v1 v2 v3 s14 h)
def f_X12_worstOf (p0 : Int32) (σ : St) : Option (Int32 × St) :=
  bnd (sf σ 58 16 (0 : Int32)) fun s1 =>
  itr (g_X12_worstOf_11) FU (p0, (1000000 : Int32), (0 : Int32), s1)
theorem e_X12_worstOf {Γ : CX} (p0 : Int32) (σ : St) (h : RR vI Γ (f_X12_worstOf p0 σ)) : WW Γ cX12_worstOf 5 RX12 (some .int) rX12_worstOf σ 0 [(0, .ref (xd Γ 58)), (1, .int p0)] [] := by
  unfold f_X12_worstOf at h
  refine w_aload_n 0 dX12_worstOf_0 rfl rfl rfl ?_
  refine w_iconst (0 : Int32) dX12_worstOf_1 ic_iconst_0 rfl ?_
  refine pf_RX12_277 dX12_worstOf_2 rfl ?_
  obtain ⟨s1, es1⟩ : ∃ y : St, y = (sf σ 58 16 (0 : Int32)) := ⟨_, rfl⟩
  rw [← es1]
  replace h := h.bnd es1
  clear es1
  refine w_ldc_w (1000000 : Int32) dX12_worstOf_5 cn_RX12_280 rfl ?_
  refine w_istore_n [(2, .int (1000000 : Int32)), (0, .ref (xd Γ 58)), (1, .int p0)] dX12_worstOf_8 rfl (by decide) rfl rfl ?_
  refine w_iconst (0 : Int32) dX12_worstOf_9 ic_iconst_0 rfl ?_
  refine w_istore_n [(3, .int (0 : Int32)), (2, .int (1000000 : Int32)), (0, .ref (xd Γ 58)), (1, .int p0)] dX12_worstOf_10 rfl (by decide) rfl rfl ?_
  exact w_sub [2, 3, 1, 0] rfl (l_X12_worstOf_11 FU p0 (1000000 : Int32) (0 : Int32) s1 h)
theorem c_X12_worstOf {l : Launch} {D : va_G} {cy : Nat → ClassId} {ad : Nat → Nat} {p0 : Int32} {σ σ' : St} {r : Int32} (hf : f_X12_worstOf p0 σ = some (r, σ')) : CT l D cy ad yX12_worstOf cX12_worstOf 5 (some .int) rX12_worstOf [.ref (ad 58), .int p0] σ (some (.int r)) σ' :=
  ct_of (by decide) (Nat.le_of_ble_eq_true rfl) (fun p e s m args below meth c A => e_X12_worstOf (Γ := (p, l, e, rX12_worstOf, s, m, args, below, meth, c, D, cy, ad, A, 0, 0, MQ below (QC D cy ad (some (.int r)) σ' A) args s 0 0 A)) p0 σ ⟨_, hf, rfl⟩)
theorem k_X12_worstOf {Γ : CX} {cc : ByteArray} {nL : Nat} {own : String} {ret : Option FieldType} {rm : Room} {σ σ' : St} {pc pc' idx : Nat} {lv : List (Nat × Value)} {rest : List Value} {p0 : Int32} {r : Int32} (hl : Cond.methodLink own idx yX12_worstOf ∈ TB) (hw : (rest.map fun v => v.category).sum ≤ 8) (hR : rX12_worstOf.frames + 1 ≤ rm.frames ∧ 8 + (5 + 11) + rX12_worstOf.locals ≤ rm.locals) (hd : decode cc pc = .ok (.invokevirtual idx, 3)) (hp : pc + 3 = pc') (hf : f_X12_worstOf p0 σ = some (r, σ')) (h : WW Γ cc nL own ret rm σ' pc' lv (.int r :: rest)) : WW Γ cc nL own ret rm σ pc lv (.int p0 :: .ref (xd Γ 58) :: rest) :=
  w_callV (nn := 1) (i := 58) (As := [.int p0]) (v := (some (.int r))) (T := TX12) (N := 32) (c_X12_worstOf hf) hl mw_X12_worstOf (by decide +kernel) ⟨rfl, rfl⟩ hR (lt_lit (by decide)) cel_58 rfl rfl hw hd rfl hp h
/-! WarByHoursModel.worst (I)I -/
def rX12_worst : Room := { frames := 6, cells := 0, slots := 0, locals := 138 }
def f_X12_worst_19 (k0 : Int32) (σ : St) : Option (Int32 × St) :=
  some (k0, σ)
theorem b_X12_worst_19 {Γ : CX} (k0 : Int32) (σ : St) (h : RR vI Γ (f_X12_worst_19 k0 σ)) : WW Γ cX12_worst 2 RX12 (some .int) rX12_worst σ 19 [] [.int k0] := by
  unfold f_X12_worst_19 at h
  exact w_ireturn dX12_worst_19 h
def f_X12_worst (p0 : Int32) (σ : St) : Option (Int32 × St) :=
  bd (f_X12_isSide p0 σ) fun r1 s2 =>
  if r1 = 0 then
    f_X12_worst_19 (-1000 : Int32) s2
  else
    bd (f_X12_worstOf p0 s2) fun r4 s5 =>
    f_X12_worst_19 r4 s5
theorem e_X12_worst {Γ : CX} (p0 : Int32) (σ : St) (h : RR vI Γ (f_X12_worst p0 σ)) : WW Γ cX12_worst 2 RX12 (some .int) rX12_worst σ 0 [(0, .ref (xd Γ 58)), (1, .int p0)] [] := by
  unfold f_X12_worst at h
  refine w_aload_n 0 dX12_worst_0 rfl rfl rfl ?_
  refine w_iload_n 1 dX12_worst_1 rfl rfl rfl ?_
  obtain ⟨r1, s2, h3, h⟩ := h.bd
  refine k_X12_isSide ml_RX12_236 (Nat.le_of_ble_eq_true rfl) ⟨Nat.le_of_ble_eq_true rfl, Nat.le_of_ble_eq_true rfl⟩ dX12_worst_2 rfl h3 ?_
  refine w_if_eq (tgt := 16) dX12_worst_5 (by decide) rfl (fun q => ?_) (fun q => ?_)
  · have h := h.tt q
    refine w_sipush (-1000 : Int32) dX12_worst_16 ic_sipush_m1000 rfl ?_
    exact w_sub [] rfl (b_X12_worst_19 (-1000 : Int32) s2 h)
  · have h := h.ff q
    refine w_aload_n 0 dX12_worst_8 rfl rfl rfl ?_
    refine w_iload_n 1 dX12_worst_9 rfl rfl rfl ?_
    obtain ⟨r4, s5, h6, h⟩ := h.bd
    refine k_X12_worstOf ml_RX12_284 (Nat.le_of_ble_eq_true rfl) ⟨Nat.le_of_ble_eq_true rfl, Nat.le_of_ble_eq_true rfl⟩ dX12_worst_10 rfl h6 ?_
    refine w_goto (tgt := 19) dX12_worst_13 (by decide) ?_
    exact w_sub [] rfl (b_X12_worst_19 r4 s5 h)
theorem c_X12_worst {l : Launch} {D : va_G} {cy : Nat → ClassId} {ad : Nat → Nat} {p0 : Int32} {σ σ' : St} {r : Int32} (hf : f_X12_worst p0 σ = some (r, σ')) : CT l D cy ad yX12_worst cX12_worst 2 (some .int) rX12_worst [.ref (ad 58), .int p0] σ (some (.int r)) σ' :=
  ct_of (by decide) (Nat.le_of_ble_eq_true rfl) (fun p e s m args below meth c A => e_X12_worst (Γ := (p, l, e, rX12_worst, s, m, args, below, meth, c, D, cy, ad, A, 0, 0, MQ below (QC D cy ad (some (.int r)) σ' A) args s 0 0 A)) p0 σ ⟨_, hf, rfl⟩)
theorem k_X12_worst {Γ : CX} {cc : ByteArray} {nL : Nat} {own : String} {ret : Option FieldType} {rm : Room} {σ σ' : St} {pc pc' idx : Nat} {lv : List (Nat × Value)} {rest : List Value} {p0 : Int32} {r : Int32} (hl : Cond.methodLink own idx yX12_worst ∈ TB) (hw : (rest.map fun v => v.category).sum ≤ 8) (hR : rX12_worst.frames + 1 ≤ rm.frames ∧ 8 + (2 + 11) + rX12_worst.locals ≤ rm.locals) (hd : decode cc pc = .ok (.invokevirtual idx, 3)) (hp : pc + 3 = pc') (hf : f_X12_worst p0 σ = some (r, σ')) (h : WW Γ cc nL own ret rm σ' pc' lv (.int r :: rest)) : WW Γ cc nL own ret rm σ pc lv (.int p0 :: .ref (xd Γ 58) :: rest) :=
  w_callV (nn := 1) (i := 58) (As := [.int p0]) (v := (some (.int r))) (T := TX12) (N := 32) (c_X12_worst hf) hl mw_X12_worst (by decide +kernel) ⟨rfl, rfl⟩ hR (lt_lit (by decide)) cel_58 rfl rfl hw hd rfl hp h
/-! WarByHoursModel.by (I)I -/
def rX12_by : Room := { frames := 6, cells := 0, slots := 0, locals := 138 }
def f_X12_by (p0 : Int32) (σ : St) : Option (Int32 × St) :=
  bd (f_X12_isSide p0 σ) fun r1 s2 =>
  if r1 = 0 then
    some ((-2 : Int32), s2)
  else
    bd (f_X12_worstOf p0 s2) fun r4 s5 =>
    some ((gf s5 58 16), s5)
theorem e_X12_by {Γ : CX} (p0 : Int32) (σ : St) (h : RR vI Γ (f_X12_by p0 σ)) : WW Γ cX12_by 2 RX12 (some .int) rX12_by σ 0 [(0, .ref (xd Γ 58)), (1, .int p0)] [] := by
  unfold f_X12_by at h
  refine w_aload_n 0 dX12_by_0 rfl rfl rfl ?_
  refine w_iload_n 1 dX12_by_1 rfl rfl rfl ?_
  obtain ⟨r1, s2, h3, h⟩ := h.bd
  refine k_X12_isSide ml_RX12_236 (Nat.le_of_ble_eq_true rfl) ⟨Nat.le_of_ble_eq_true rfl, Nat.le_of_ble_eq_true rfl⟩ dX12_by_2 rfl h3 ?_
  refine w_if_ne (tgt := 11) dX12_by_5 (by decide) rfl (fun q => ?_) (fun q => ?_)
  · have h := h.ff q
    refine w_aload_n 0 dX12_by_11 rfl rfl rfl ?_
    refine w_iload_n 1 dX12_by_12 rfl rfl rfl ?_
    obtain ⟨r4, s5, h6, h⟩ := h.bd
    refine k_X12_worstOf ml_RX12_284 (Nat.le_of_ble_eq_true rfl) ⟨Nat.le_of_ble_eq_true rfl, Nat.le_of_ble_eq_true rfl⟩ dX12_by_13 rfl h6 ?_
    refine w_pop dX12_by_16 rfl rfl ?_
    refine w_aload_n 0 dX12_by_17 rfl rfl rfl ?_
    refine gf_RX12_277 dX12_by_18 rfl ?_
    exact w_ireturn dX12_by_21 h
  · have h := h.tt q
    refine w_bipush (-2 : Int32) dX12_by_8 ic_bipush_m2 rfl ?_
    exact w_ireturn dX12_by_10 h
theorem c_X12_by {l : Launch} {D : va_G} {cy : Nat → ClassId} {ad : Nat → Nat} {p0 : Int32} {σ σ' : St} {r : Int32} (hf : f_X12_by p0 σ = some (r, σ')) : CT l D cy ad yX12_by cX12_by 2 (some .int) rX12_by [.ref (ad 58), .int p0] σ (some (.int r)) σ' :=
  ct_of (by decide) (Nat.le_of_ble_eq_true rfl) (fun p e s m args below meth c A => e_X12_by (Γ := (p, l, e, rX12_by, s, m, args, below, meth, c, D, cy, ad, A, 0, 0, MQ below (QC D cy ad (some (.int r)) σ' A) args s 0 0 A)) p0 σ ⟨_, hf, rfl⟩)
theorem k_X12_by {Γ : CX} {cc : ByteArray} {nL : Nat} {own : String} {ret : Option FieldType} {rm : Room} {σ σ' : St} {pc pc' idx : Nat} {lv : List (Nat × Value)} {rest : List Value} {p0 : Int32} {r : Int32} (hl : Cond.methodLink own idx yX12_by ∈ TB) (hw : (rest.map fun v => v.category).sum ≤ 8) (hR : rX12_by.frames + 1 ≤ rm.frames ∧ 8 + (2 + 11) + rX12_by.locals ≤ rm.locals) (hd : decode cc pc = .ok (.invokevirtual idx, 3)) (hp : pc + 3 = pc') (hf : f_X12_by p0 σ = some (r, σ')) (h : WW Γ cc nL own ret rm σ' pc' lv (.int r :: rest)) : WW Γ cc nL own ret rm σ pc lv (.int p0 :: .ref (xd Γ 58) :: rest) :=
  w_callV (nn := 1) (i := 58) (As := [.int p0]) (v := (some (.int r))) (T := TX12) (N := 32) (c_X12_by hf) hl mw_X12_by (by decide +kernel) ⟨rfl, rfl⟩ hR (lt_lit (by decide)) cel_58 rfl rfl hw hd rfl hp h
/-! WarByHoursModel.ways (I)I -/
def rX12_ways : Room := { frames := 6, cells := 0, slots := 0, locals := 138 }
def f_X12_ways_38 (K15 : Int32 × Int32 × Int32 × St → Option (Int32 × St)) (v1 : Int32) (v3 : Int32) (k0 : Int32) (k1 : Int32) (σ : St) : Option (Int32 × St) :=
  bnd ((k1 + k0)) fun x1 =>
  bnd (v3 + (1 : Int32)) fun x2 =>
  K15 (v1, x1, x2, σ)
theorem b_X12_ways_38 {Γ : CX} (K15 : Int32 × Int32 × Int32 × St → Option (Int32 × St)) (hK15 : ∀ (v1 : Int32) (v2 : Int32) (v3 : Int32) (σ : St), RR vI Γ (K15 (v1, v2, v3, σ)) → WW Γ cX12_ways 4 RX12 (some .int) rX12_ways σ 15 [(0, .ref (xd Γ 58)), (1, .int v1), (2, .int v2), (3, .int v3)] []) (v1 : Int32) (v3 : Int32) (k0 : Int32) (k1 : Int32) (σ : St) (h : RR vI Γ (f_X12_ways_38 K15 v1 v3 k0 k1 σ)) : WW Γ cX12_ways 4 RX12 (some .int) rX12_ways σ 38 [(0, .ref (xd Γ 58)), (1, .int v1), (3, .int v3)] [.int k0, .int k1] := by
  unfold f_X12_ways_38 at h
  refine w_iadd dX12_ways_38 rfl ?_
  refine w_nmI (fun x1 ex1 => ?_)
  replace h := h.bnd ex1
  clear ex1
  refine w_istore_n [(2, .int x1), (0, .ref (xd Γ 58)), (1, .int v1), (3, .int v3)] dX12_ways_39 rfl (by decide) rfl rfl ?_
  obtain ⟨x2, ex2⟩ : ∃ y : Int32, y = (v3 + (1 : Int32)) := ⟨_, rfl⟩
  replace h := h.bnd ex2
  refine w_iinc 3 x2 [(3, .int x2), (2, .int x1), (0, .ref (xd Γ 58)), (1, .int v1)] dX12_ways_40 rfl (by rw [ex2, ic_iconst_1]) (by decide) rfl rfl ?_
  clear ex2
  refine w_goto (tgt := 15) dX12_ways_43 (by decide) ?_
  exact w_sub [2, 3, 1, 0] rfl (hK15 v1 x1 x2 σ h)
def g_X12_ways_15 (K15 : Int32 × Int32 × Int32 × St → Option (Int32 × St)) (x : Int32 × Int32 × Int32 × St) : Option (Int32 × St) := match x with
  | (v1, v2, v3, σ) =>
  bd (f_X12_allTrains σ) fun r1 s2 =>
  if r1 < v3 then
    some (v2, s2)
  else
    bd (f_X12_winner v3 s2) fun r4 s5 =>
    if r4 = v1 then
      f_X12_ways_38 K15 v1 v3 (1 : Int32) v2 s5
    else
      f_X12_ways_38 K15 v1 v3 (0 : Int32) v2 s5
theorem l_X12_ways_15 {Γ : CX} : ∀ (n : Nat) (v1 : Int32) (v2 : Int32) (v3 : Int32) (σ : St), RR vI Γ (itr (g_X12_ways_15) n (v1, v2, v3, σ)) → WW Γ cX12_ways 4 RX12 (some .int) rX12_ways σ 15 [(0, .ref (xd Γ 58)), (1, .int v1), (2, .int v2), (3, .int v3)] [] := by
  intro n
  induction n with
  | zero => intro v1 v2 v3 σ h; exact RR.no h
  | succ n hK15 =>
  intro v1 v2 v3 σ h
  have h : RR vI Γ (g_X12_ways_15 (itr (g_X12_ways_15) n) (v1, v2, v3, σ)) := h
  generalize itr (g_X12_ways_15) n = K15 at h hK15
  unfold g_X12_ways_15 at h
  dsimp only at h
  refine w_iload_n 3 dX12_ways_15 rfl rfl rfl ?_
  refine w_aload_n 0 dX12_ways_16 rfl rfl rfl ?_
  obtain ⟨r1, s2, h3, h⟩ := h.bd
  refine k_X12_allTrains ml_RX12_78 (Nat.le_of_ble_eq_true rfl) ⟨Nat.le_of_ble_eq_true rfl, Nat.le_of_ble_eq_true rfl⟩ dX12_ways_17 rfl h3 ?_
  refine w_icmp_gt (tgt := 46) dX12_ways_20 (by decide) rfl (fun q => ?_) (fun q => ?_)
  · have h := h.tt q
    refine w_iload_n 2 dX12_ways_46 rfl rfl rfl ?_
    exact w_ireturn dX12_ways_47 h
  · have h := h.ff q
    refine w_iload_n 2 dX12_ways_23 rfl rfl rfl ?_
    refine w_aload_n 0 dX12_ways_24 rfl rfl rfl ?_
    refine w_iload_n 3 dX12_ways_25 rfl rfl rfl ?_
    obtain ⟨r4, s5, h6, h⟩ := h.bd
    refine k_X12_winner ml_RX12_269 (Nat.le_of_ble_eq_true rfl) ⟨Nat.le_of_ble_eq_true rfl, Nat.le_of_ble_eq_true rfl⟩ dX12_ways_26 rfl h6 ?_
    refine w_iload_n 1 dX12_ways_29 rfl rfl rfl ?_
    refine w_icmp_ne (tgt := 37) dX12_ways_30 (by decide) rfl (fun q => ?_) (fun q => ?_)
    · have h := h.ff q
      refine w_iconst (0 : Int32) dX12_ways_37 ic_iconst_0 rfl ?_
      exact w_sub [0, 1, 3] rfl (b_X12_ways_38 K15 hK15 v1 v3 (0 : Int32) v2 s5 h)
    · have h := h.tt q
      refine w_iconst (1 : Int32) dX12_ways_33 ic_iconst_1 rfl ?_
      refine w_goto (tgt := 38) dX12_ways_34 (by decide) ?_
      exact w_sub [0, 1, 3] rfl (b_X12_ways_38 K15 hK15 v1 v3 (1 : Int32) v2 s5 h)
def f_X12_ways (p0 : Int32) (σ : St) : Option (Int32 × St) :=
  bd (f_X12_isSide p0 σ) fun r1 s2 =>
  if r1 = 0 then
    some ((-2 : Int32), s2)
  else
    itr (g_X12_ways_15) FU (p0, (0 : Int32), (0 : Int32), s2)
theorem e_X12_ways {Γ : CX} (p0 : Int32) (σ : St) (h : RR vI Γ (f_X12_ways p0 σ)) : WW Γ cX12_ways 4 RX12 (some .int) rX12_ways σ 0 [(0, .ref (xd Γ 58)), (1, .int p0)] [] := by
  unfold f_X12_ways at h
  refine w_aload_n 0 dX12_ways_0 rfl rfl rfl ?_
  refine w_iload_n 1 dX12_ways_1 rfl rfl rfl ?_
  obtain ⟨r1, s2, h3, h⟩ := h.bd
  refine k_X12_isSide ml_RX12_236 (Nat.le_of_ble_eq_true rfl) ⟨Nat.le_of_ble_eq_true rfl, Nat.le_of_ble_eq_true rfl⟩ dX12_ways_2 rfl h3 ?_
  refine w_if_ne (tgt := 11) dX12_ways_5 (by decide) rfl (fun q => ?_) (fun q => ?_)
  · have h := h.ff q
    refine w_iconst (0 : Int32) dX12_ways_11 ic_iconst_0 rfl ?_
    refine w_istore_n [(2, .int (0 : Int32)), (0, .ref (xd Γ 58)), (1, .int p0)] dX12_ways_12 rfl (by decide) rfl rfl ?_
    refine w_iconst (0 : Int32) dX12_ways_13 ic_iconst_0 rfl ?_
    refine w_istore_n [(3, .int (0 : Int32)), (2, .int (0 : Int32)), (0, .ref (xd Γ 58)), (1, .int p0)] dX12_ways_14 rfl (by decide) rfl rfl ?_
    exact w_sub [2, 3, 1, 0] rfl (l_X12_ways_15 FU p0 (0 : Int32) (0 : Int32) s2 h)
  · have h := h.tt q
    refine w_bipush (-2 : Int32) dX12_ways_8 ic_bipush_m2 rfl ?_
    exact w_ireturn dX12_ways_10 h
theorem c_X12_ways {l : Launch} {D : va_G} {cy : Nat → ClassId} {ad : Nat → Nat} {p0 : Int32} {σ σ' : St} {r : Int32} (hf : f_X12_ways p0 σ = some (r, σ')) : CT l D cy ad yX12_ways cX12_ways 4 (some .int) rX12_ways [.ref (ad 58), .int p0] σ (some (.int r)) σ' :=
  ct_of (by decide) (Nat.le_of_ble_eq_true rfl) (fun p e s m args below meth c A => e_X12_ways (Γ := (p, l, e, rX12_ways, s, m, args, below, meth, c, D, cy, ad, A, 0, 0, MQ below (QC D cy ad (some (.int r)) σ' A) args s 0 0 A)) p0 σ ⟨_, hf, rfl⟩)
theorem k_X12_ways {Γ : CX} {cc : ByteArray} {nL : Nat} {own : String} {ret : Option FieldType} {rm : Room} {σ σ' : St} {pc pc' idx : Nat} {lv : List (Nat × Value)} {rest : List Value} {p0 : Int32} {r : Int32} (hl : Cond.methodLink own idx yX12_ways ∈ TB) (hw : (rest.map fun v => v.category).sum ≤ 8) (hR : rX12_ways.frames + 1 ≤ rm.frames ∧ 8 + (4 + 11) + rX12_ways.locals ≤ rm.locals) (hd : decode cc pc = .ok (.invokevirtual idx, 3)) (hp : pc + 3 = pc') (hf : f_X12_ways p0 σ = some (r, σ')) (h : WW Γ cc nL own ret rm σ' pc' lv (.int r :: rest)) : WW Γ cc nL own ret rm σ pc lv (.int p0 :: .ref (xd Γ 58) :: rest) :=
  w_callV (nn := 1) (i := 58) (As := [.int p0]) (v := (some (.int r))) (T := TX12) (N := 32) (c_X12_ways hf) hl mw_X12_ways (by decide +kernel) ⟨rfl, rfl⟩ hR (lt_lit (by decide)) cel_58 rfl rfl hw hd rfl hp h
/-! WarByHoursModel.idle ()I -/
def rX12_idle : Room := { frames := 6, cells := 0, slots := 0, locals := 138 }
def f_X12_idle_91 (K44 : Int32 × Int32 × St → Option (Int32 × St)) (K54 : Int32 × Int32 × Int32 × St → Option (Int32 × St)) (v1 : Int32) (v2 : Int32) (v3 : Int32) (σ : St) : Option (Int32 × St) :=
  bnd (v3 + (1 : Int32)) fun x1 =>
  K54 (v1, v2, x1, σ)
theorem b_X12_idle_91 {Γ : CX} (K44 : Int32 × Int32 × St → Option (Int32 × St)) (K54 : Int32 × Int32 × Int32 × St → Option (Int32 × St)) (hK44 : ∀ (v1 : Int32) (v2 : Int32) (σ : St), RR vI Γ (K44 (v1, v2, σ)) → WW Γ cX12_idle 4 RX12 (some .int) rX12_idle σ 44 [(0, .ref (xd Γ 58)), (1, .int v1), (2, .int v2)] []) (hK54 : ∀ (v1 : Int32) (v2 : Int32) (v3 : Int32) (σ : St), RR vI Γ (K54 (v1, v2, v3, σ)) → WW Γ cX12_idle 4 RX12 (some .int) rX12_idle σ 54 [(0, .ref (xd Γ 58)), (1, .int v1), (2, .int v2), (3, .int v3)] []) (v1 : Int32) (v2 : Int32) (v3 : Int32) (σ : St) (h : RR vI Γ (f_X12_idle_91 K44 K54 v1 v2 v3 σ)) : WW Γ cX12_idle 4 RX12 (some .int) rX12_idle σ 91 [(0, .ref (xd Γ 58)), (1, .int v1), (2, .int v2), (3, .int v3)] [] := by
  unfold f_X12_idle_91 at h
  obtain ⟨x1, ex1⟩ : ∃ y : Int32, y = (v3 + (1 : Int32)) := ⟨_, rfl⟩
  replace h := h.bnd ex1
  refine w_iinc 3 x1 [(3, .int x1), (0, .ref (xd Γ 58)), (1, .int v1), (2, .int v2)] dX12_idle_91 rfl (by rw [ex1, ic_iconst_1]) (by decide) rfl rfl ?_
  clear ex1
  refine w_goto (tgt := 54) dX12_idle_94 (by decide) ?_
  exact w_sub [1, 2, 3, 0] rfl (hK54 v1 v2 x1 σ h)
def g_X12_idle_54 (K44 : Int32 × Int32 × St → Option (Int32 × St)) (K54 : Int32 × Int32 × Int32 × St → Option (Int32 × St)) (x : Int32 × Int32 × Int32 × St) : Option (Int32 × St) := match x with
  | (v1, v2, v3, σ) =>
  gd (inb (4 : Int32) (ln 59)) <|
  if (gr σ 59 (4 : Int32).toNatClampNeg) ≤ v3 then
    bnd (v2 + (1 : Int32)) fun x2 =>
    K44 (v1, x2, σ)
  else
    gd (inb v2 (ln 66)) <|
    gd (inb (v2 ^^^ ((1 : Int32) <<< (v3 &&& 31))) (ln 66)) <|
    if (gr σ 66 v2.toNatClampNeg) = (gr σ 66 (v2 ^^^ ((1 : Int32) <<< (v3 &&& 31))).toNatClampNeg) then
      f_X12_idle_91 K44 K54 v1 v2 v3 σ
    else
      bnd ((v1 &&& (((1 : Int32) <<< (v3 &&& 31)) ^^^ (-1 : Int32)))) fun x5 =>
      f_X12_idle_91 K44 K54 x5 v2 v3 σ
theorem l_X12_idle_54 {Γ : CX} (K44 : Int32 × Int32 × St → Option (Int32 × St)) (hK44 : ∀ (v1 : Int32) (v2 : Int32) (σ : St), RR vI Γ (K44 (v1, v2, σ)) → WW Γ cX12_idle 4 RX12 (some .int) rX12_idle σ 44 [(0, .ref (xd Γ 58)), (1, .int v1), (2, .int v2)] []) : ∀ (n : Nat) (v1 : Int32) (v2 : Int32) (v3 : Int32) (σ : St), RR vI Γ (itr (g_X12_idle_54 K44) n (v1, v2, v3, σ)) → WW Γ cX12_idle 4 RX12 (some .int) rX12_idle σ 54 [(0, .ref (xd Γ 58)), (1, .int v1), (2, .int v2), (3, .int v3)] [] := by
  intro n
  induction n with
  | zero => intro v1 v2 v3 σ h; exact RR.no h
  | succ n hK54 =>
  intro v1 v2 v3 σ h
  have h : RR vI Γ (g_X12_idle_54 K44 (itr (g_X12_idle_54 K44) n) (v1, v2, v3, σ)) := h
  generalize itr (g_X12_idle_54 K44) n = K54 at h hK54
  unfold g_X12_idle_54 at h
  dsimp only at h
  refine w_iload_n 3 dX12_idle_54 rfl rfl rfl ?_
  refine w_aload_n 0 dX12_idle_55 rfl rfl rfl ?_
  refine gf_RX12_9 dX12_idle_56 rfl ?_
  refine w_iconst (4 : Int32) dX12_idle_59 ic_iconst_4 rfl ?_
  obtain ⟨hi1, h⟩ := h.gd
  refine w_iald (i := 59) (lt_lit (by decide)) rfl hi1 dX12_idle_60 rfl ?_
  refine w_icmp_ge (tgt := 97) dX12_idle_61 (by decide) rfl (fun q => ?_) (fun q => ?_)
  · have h := h.tt q
    obtain ⟨x2, ex2⟩ : ∃ y : Int32, y = (v2 + (1 : Int32)) := ⟨_, rfl⟩
    replace h := h.bnd ex2
    refine w_iinc 2 x2 [(2, .int x2), (0, .ref (xd Γ 58)), (1, .int v1), (3, .int v3)] dX12_idle_97 rfl (by rw [ex2, ic_iconst_1]) (by decide) rfl rfl ?_
    clear ex2
    refine w_goto (tgt := 44) dX12_idle_100 (by decide) ?_
    exact w_sub [1, 2, 0] rfl (hK44 v1 x2 σ h)
  · have h := h.ff q
    refine w_aload_n 0 dX12_idle_64 rfl rfl rfl ?_
    refine gf_RX12_37 dX12_idle_65 rfl ?_
    refine w_iload_n 2 dX12_idle_68 rfl rfl rfl ?_
    obtain ⟨hi3, h⟩ := h.gd
    refine w_iald (i := 66) (lt_lit (by decide)) rfl hi3 dX12_idle_69 rfl ?_
    refine w_aload_n 0 dX12_idle_70 rfl rfl rfl ?_
    refine gf_RX12_37 dX12_idle_71 rfl ?_
    refine w_iload_n 2 dX12_idle_74 rfl rfl rfl ?_
    refine w_iconst (1 : Int32) dX12_idle_75 ic_iconst_1 rfl ?_
    refine w_iload_n 3 dX12_idle_76 rfl rfl rfl ?_
    refine w_ishl dX12_idle_77 rfl ?_
    refine w_ixor dX12_idle_78 rfl ?_
    obtain ⟨hi4, h⟩ := h.gd
    refine w_iald (i := 66) (lt_lit (by decide)) rfl hi4 dX12_idle_79 rfl ?_
    refine w_icmp_eq (tgt := 91) dX12_idle_80 (by decide) rfl (fun q => ?_) (fun q => ?_)
    · have h := h.tt q
      exact w_sub [0, 1, 2, 3] rfl (b_X12_idle_91 K44 K54 hK44 hK54 v1 v2 v3 σ h)
    · have h := h.ff q
      refine w_iload_n 1 dX12_idle_83 rfl rfl rfl ?_
      refine w_iconst (1 : Int32) dX12_idle_84 ic_iconst_1 rfl ?_
      refine w_iload_n 3 dX12_idle_85 rfl rfl rfl ?_
      refine w_ishl dX12_idle_86 rfl ?_
      refine w_iconst (-1 : Int32) dX12_idle_87 ic_iconst_m1 rfl ?_
      refine w_ixor dX12_idle_88 rfl ?_
      refine w_iand dX12_idle_89 rfl ?_
      refine w_nmI (fun x5 ex5 => ?_)
      replace h := h.bnd ex5
      clear ex5
      refine w_istore_n [(1, .int x5), (0, .ref (xd Γ 58)), (2, .int v2), (3, .int v3)] dX12_idle_90 rfl (by decide) rfl rfl ?_
      exact w_sub [1, 0, 2, 3] rfl (b_X12_idle_91 K44 K54 hK44 hK54 x5 v2 v3 σ h)
def g_X12_idle_44 (K44 : Int32 × Int32 × St → Option (Int32 × St)) (x : Int32 × Int32 × St) : Option (Int32 × St) := match x with
  | (v1, v2, σ) =>
  bd (f_X12_allTrains σ) fun r1 s2 =>
  if r1 < v2 then
    some (v1, s2)
  else
    itr (g_X12_idle_54 K44) FU (v1, v2, (0 : Int32), s2)
theorem l_X12_idle_44 {Γ : CX} : ∀ (n : Nat) (v1 : Int32) (v2 : Int32) (σ : St), RR vI Γ (itr (g_X12_idle_44) n (v1, v2, σ)) → WW Γ cX12_idle 4 RX12 (some .int) rX12_idle σ 44 [(0, .ref (xd Γ 58)), (1, .int v1), (2, .int v2)] [] := by
  intro n
  induction n with
  | zero => intro v1 v2 σ h; exact RR.no h
  | succ n hK44 =>
  intro v1 v2 σ h
  have h : RR vI Γ (g_X12_idle_44 (itr (g_X12_idle_44) n) (v1, v2, σ)) := h
  generalize itr (g_X12_idle_44) n = K44 at h hK44
  unfold g_X12_idle_44 at h
  dsimp only at h
  refine w_iload_n 2 dX12_idle_44 rfl rfl rfl ?_
  refine w_aload_n 0 dX12_idle_45 rfl rfl rfl ?_
  obtain ⟨r1, s2, h3, h⟩ := h.bd
  refine k_X12_allTrains ml_RX12_78 (Nat.le_of_ble_eq_true rfl) ⟨Nat.le_of_ble_eq_true rfl, Nat.le_of_ble_eq_true rfl⟩ dX12_idle_46 rfl h3 ?_
  refine w_icmp_gt (tgt := 103) dX12_idle_49 (by decide) rfl (fun q => ?_) (fun q => ?_)
  · have h := h.tt q
    refine w_iload_n 1 dX12_idle_103 rfl rfl rfl ?_
    exact w_ireturn dX12_idle_104 h
  · have h := h.ff q
    refine w_iconst (0 : Int32) dX12_idle_52 ic_iconst_0 rfl ?_
    refine w_istore_n [(3, .int (0 : Int32)), (0, .ref (xd Γ 58)), (1, .int v1), (2, .int v2)] dX12_idle_53 rfl (by decide) rfl rfl ?_
    exact w_sub [1, 2, 3, 0] rfl (l_X12_idle_54 K44 hK44 FU v1 v2 (0 : Int32) s2 h)
def g_X12_idle_17 (K17 : Int32 × Int32 × St → Option (Int32 × St)) (x : Int32 × Int32 × St) : Option (Int32 × St) := match x with
  | (v1, v2, σ) =>
  bd (f_X12_allTrains σ) fun r1 s2 =>
  if r1 < v2 then
    itr (g_X12_idle_44) FU (v1, (0 : Int32), s2)
  else
    bd (f_X12_winner v2 s2) fun r4 s5 =>
    gd (inb v2 (ln 66)) <|
    bnd (sr s5 66 v2.toNatClampNeg r4) fun s8 =>
    bnd (v2 + (1 : Int32)) fun x9 =>
    K17 (v1, x9, s8)
theorem l_X12_idle_17 {Γ : CX} : ∀ (n : Nat) (v1 : Int32) (v2 : Int32) (σ : St), RR vI Γ (itr (g_X12_idle_17) n (v1, v2, σ)) → WW Γ cX12_idle 4 RX12 (some .int) rX12_idle σ 17 [(0, .ref (xd Γ 58)), (1, .int v1), (2, .int v2)] [] := by
  intro n
  induction n with
  | zero => intro v1 v2 σ h; exact RR.no h
  | succ n hK17 =>
  intro v1 v2 σ h
  have h : RR vI Γ (g_X12_idle_17 (itr (g_X12_idle_17) n) (v1, v2, σ)) := h
  generalize itr (g_X12_idle_17) n = K17 at h hK17
  unfold g_X12_idle_17 at h
  dsimp only at h
  refine w_iload_n 2 dX12_idle_17 rfl rfl rfl ?_
  refine w_aload_n 0 dX12_idle_18 rfl rfl rfl ?_
  obtain ⟨r1, s2, h3, h⟩ := h.bd
  refine k_X12_allTrains ml_RX12_78 (Nat.le_of_ble_eq_true rfl) ⟨Nat.le_of_ble_eq_true rfl, Nat.le_of_ble_eq_true rfl⟩ dX12_idle_19 rfl h3 ?_
  refine w_icmp_gt (tgt := 42) dX12_idle_22 (by decide) rfl (fun q => ?_) (fun q => ?_)
  · have h := h.tt q
    refine w_iconst (0 : Int32) dX12_idle_42 ic_iconst_0 rfl ?_
    refine w_istore_n [(2, .int (0 : Int32)), (0, .ref (xd Γ 58)), (1, .int v1)] dX12_idle_43 rfl (by decide) rfl rfl ?_
    exact w_sub [1, 2, 0] rfl (l_X12_idle_44 FU v1 (0 : Int32) s2 h)
  · have h := h.ff q
    refine w_aload_n 0 dX12_idle_25 rfl rfl rfl ?_
    refine gf_RX12_37 dX12_idle_26 rfl ?_
    refine w_iload_n 2 dX12_idle_29 rfl rfl rfl ?_
    refine w_aload_n 0 dX12_idle_30 rfl rfl rfl ?_
    refine w_iload_n 2 dX12_idle_31 rfl rfl rfl ?_
    obtain ⟨r4, s5, h6, h⟩ := h.bd
    refine k_X12_winner ml_RX12_269 (Nat.le_of_ble_eq_true rfl) ⟨Nat.le_of_ble_eq_true rfl, Nat.le_of_ble_eq_true rfl⟩ dX12_idle_32 rfl h6 ?_
    obtain ⟨hi7, h⟩ := h.gd
    refine w_iast (i := 66) (lt_lit (by decide)) rfl hi7 dX12_idle_35 rfl ?_
    obtain ⟨s8, es8⟩ : ∃ y : St, y = (sr s5 66 v2.toNatClampNeg r4) := ⟨_, rfl⟩
    rw [← es8]
    replace h := h.bnd es8
    clear es8
    obtain ⟨x9, ex9⟩ : ∃ y : Int32, y = (v2 + (1 : Int32)) := ⟨_, rfl⟩
    replace h := h.bnd ex9
    refine w_iinc 2 x9 [(2, .int x9), (0, .ref (xd Γ 58)), (1, .int v1)] dX12_idle_36 rfl (by rw [ex9, ic_iconst_1]) (by decide) rfl rfl ?_
    clear ex9
    refine w_goto (tgt := 17) dX12_idle_39 (by decide) ?_
    exact w_sub [1, 2, 0] rfl (hK17 v1 x9 s8 h)
def f_X12_idle (σ : St) : Option (Int32 × St) :=
  bd (f_X12_isWar σ) fun r1 s2 =>
  if r1 = 0 then
    some ((-2 : Int32), s2)
  else
    bd (f_X12_allTrains s2) fun r4 s5 =>
    itr (g_X12_idle_17) FU (r4, (0 : Int32), s5)
theorem e_X12_idle {Γ : CX} (σ : St) (h : RR vI Γ (f_X12_idle σ)) : WW Γ cX12_idle 4 RX12 (some .int) rX12_idle σ 0 [(0, .ref (xd Γ 58))] [] := by
  unfold f_X12_idle at h
  refine w_aload_n 0 dX12_idle_0 rfl rfl rfl ?_
  obtain ⟨r1, s2, h3, h⟩ := h.bd
  refine k_X12_isWar ml_RX12_74 (Nat.le_of_ble_eq_true rfl) ⟨Nat.le_of_ble_eq_true rfl, Nat.le_of_ble_eq_true rfl⟩ dX12_idle_1 rfl h3 ?_
  refine w_if_ne (tgt := 10) dX12_idle_4 (by decide) rfl (fun q => ?_) (fun q => ?_)
  · have h := h.ff q
    refine w_aload_n 0 dX12_idle_10 rfl rfl rfl ?_
    obtain ⟨r4, s5, h6, h⟩ := h.bd
    refine k_X12_allTrains ml_RX12_78 (Nat.le_of_ble_eq_true rfl) ⟨Nat.le_of_ble_eq_true rfl, Nat.le_of_ble_eq_true rfl⟩ dX12_idle_11 rfl h6 ?_
    refine w_istore_n [(1, .int r4), (0, .ref (xd Γ 58))] dX12_idle_14 rfl (by decide) rfl rfl ?_
    refine w_iconst (0 : Int32) dX12_idle_15 ic_iconst_0 rfl ?_
    refine w_istore_n [(2, .int (0 : Int32)), (1, .int r4), (0, .ref (xd Γ 58))] dX12_idle_16 rfl (by decide) rfl rfl ?_
    exact w_sub [2, 1, 0] rfl (l_X12_idle_17 FU r4 (0 : Int32) s5 h)
  · have h := h.tt q
    refine w_bipush (-2 : Int32) dX12_idle_7 ic_bipush_m2 rfl ?_
    exact w_ireturn dX12_idle_9 h
theorem c_X12_idle {l : Launch} {D : va_G} {cy : Nat → ClassId} {ad : Nat → Nat}  {σ σ' : St} {r : Int32} (hf : f_X12_idle σ = some (r, σ')) : CT l D cy ad yX12_idle cX12_idle 4 (some .int) rX12_idle [.ref (ad 58)] σ (some (.int r)) σ' :=
  ct_of (by decide) (Nat.le_of_ble_eq_true rfl) (fun p e s m args below meth c A => e_X12_idle (Γ := (p, l, e, rX12_idle, s, m, args, below, meth, c, D, cy, ad, A, 0, 0, MQ below (QC D cy ad (some (.int r)) σ' A) args s 0 0 A)) σ ⟨_, hf, rfl⟩)
theorem k_X12_idle {Γ : CX} {cc : ByteArray} {nL : Nat} {own : String} {ret : Option FieldType} {rm : Room} {σ σ' : St} {pc pc' idx : Nat} {lv : List (Nat × Value)} {rest : List Value}  {r : Int32} (hl : Cond.methodLink own idx yX12_idle ∈ TB) (hw : (rest.map fun v => v.category).sum ≤ 8) (hR : rX12_idle.frames + 1 ≤ rm.frames ∧ 8 + (4 + 11) + rX12_idle.locals ≤ rm.locals) (hd : decode cc pc = .ok (.invokevirtual idx, 3)) (hp : pc + 3 = pc') (hf : f_X12_idle σ = some (r, σ')) (h : WW Γ cc nL own ret rm σ' pc' lv (.int r :: rest)) : WW Γ cc nL own ret rm σ pc lv (.ref (xd Γ 58) :: rest) :=
  w_callV (nn := 0) (i := 58) (As := []) (v := (some (.int r))) (T := TX12) (N := 32) (c_X12_idle hf) hl mw_X12_idle (by decide +kernel) ⟨rfl, rfl⟩ hR (lt_lit (by decide)) cel_58 rfl rfl hw hd rfl hp h
/-! WarByHoursModel.divisor (JJ)J -/
def rX12_divisor : Room := { frames := 0, cells := 0, slots := 0, locals := 0 }
def g_X12_divisor_6 (K6 : Int64 × Int64 × St → Option (Int64 × St)) (x : Int64 × Int64 × St) : Option (Int64 × St) := match x with
  | (v4, v6, σ) =>
  if (lg_cmp v6 (0 : Int64)) = 0 then
    some (v4, σ)
  else
    gd (!decide (v6 = 0)) <|
    bnd ((v4 - v4 / v6 * v6)) fun x2 =>
    K6 (v6, x2, σ)
theorem l_X12_divisor_6 {Γ : CX} : ∀ (n : Nat) (v4 : Int64) (v6 : Int64) (σ : St), RR vL Γ (itr (g_X12_divisor_6) n (v4, v6, σ)) → WW Γ cX12_divisor 10 RX12 (some .long) rX12_divisor σ 6 [(4, .long v4), (6, .long v6)] [] := by
  intro n
  induction n with
  | zero => intro v4 v6 σ h; exact RR.no h
  | succ n hK6 =>
  intro v4 v6 σ h
  have h : RR vL Γ (g_X12_divisor_6 (itr (g_X12_divisor_6) n) (v4, v6, σ)) := h
  generalize itr (g_X12_divisor_6) n = K6 at h hK6
  unfold g_X12_divisor_6 at h
  dsimp only at h
  refine w_lload 1 dX12_divisor_6 rfl rfl ?_
  refine w_lconst (0 : Int64) dX12_divisor_8 rfl rfl ?_
  refine w_lcmp dX12_divisor_9 rfl ?_
  refine w_if_eq (tgt := 31) dX12_divisor_10 (by decide) rfl (fun q => ?_) (fun q => ?_)
  · have h := h.tt q
    refine w_lload 0 dX12_divisor_31 rfl rfl ?_
    exact w_lreturn dX12_divisor_33 h
  · have h := h.ff q
    refine w_lload 0 dX12_divisor_13 rfl rfl ?_
    refine w_lload 1 dX12_divisor_15 rfl rfl ?_
    obtain ⟨hz1, h⟩ := h.gd
    refine w_lrem dX12_divisor_17 (ne_of_gd hz1) rfl ?_
    refine w_nmL (fun x2 ex2 => ?_)
    replace h := h.bnd ex2
    clear ex2
    refine w_lstore [(8, .long x2), (4, .long v4), (6, .long v6)] dX12_divisor_18 (by decide) rfl rfl ?_
    refine w_lload 2 dX12_divisor_20 rfl rfl ?_
    refine w_lstore [(4, .long v6), (8, .long x2), (6, .long v6)] dX12_divisor_22 (by decide) rfl rfl ?_
    refine w_lload 1 dX12_divisor_24 rfl rfl ?_
    refine w_lstore [(6, .long x2), (4, .long v6), (8, .long x2)] dX12_divisor_26 (by decide) rfl rfl ?_
    refine w_goto (tgt := 6) dX12_divisor_28 (by decide) ?_
    exact w_sub [1, 0] rfl (hK6 v6 x2 σ h)
def f_X12_divisor (p0 : Int64) (p1 : Int64) (σ : St) : Option (Int64 × St) :=
  itr (g_X12_divisor_6) FU (p0, p1, σ)
theorem e_X12_divisor {Γ : CX} (p0 : Int64) (p1 : Int64) (σ : St) (h : RR vL Γ (f_X12_divisor p0 p1 σ)) : WW Γ cX12_divisor 10 RX12 (some .long) rX12_divisor σ 0 [(0, .long p0), (2, .long p1)] [] := by
  unfold f_X12_divisor at h
  refine w_lload_n 0 dX12_divisor_0 rfl rfl rfl ?_
  refine w_lstore [(4, .long p0), (0, .long p0), (2, .long p1)] dX12_divisor_1 (by decide) rfl rfl ?_
  refine w_lload_n 2 dX12_divisor_3 rfl rfl rfl ?_
  refine w_lstore [(6, .long p1), (4, .long p0), (0, .long p0), (2, .long p1)] dX12_divisor_4 (by decide) rfl rfl ?_
  exact w_sub [1, 0] rfl (l_X12_divisor_6 FU p0 p1 σ h)
theorem c_X12_divisor {l : Launch} {D : va_G} {cy : Nat → ClassId} {ad : Nat → Nat} {p0 : Int64} {p1 : Int64} {σ σ' : St} {r : Int64} (hf : f_X12_divisor p0 p1 σ = some (r, σ')) : CT l D cy ad yX12_divisor cX12_divisor 10 (some .long) rX12_divisor [.long p0, .long p1] σ (some (.long r)) σ' :=
  ct_of (by decide) (Nat.le_of_ble_eq_true rfl) (fun p e s m args below meth c A => e_X12_divisor (Γ := (p, l, e, rX12_divisor, s, m, args, below, meth, c, D, cy, ad, A, 0, 0, MQ below (QC D cy ad (some (.long r)) σ' A) args s 0 0 A)) p0 p1 σ ⟨_, hf, rfl⟩)
theorem k_X12_divisor {Γ : CX} {cc : ByteArray} {nL : Nat} {own : String} {ret : Option FieldType} {rm : Room} {σ σ' : St} {pc pc' idx : Nat} {lv : List (Nat × Value)} {rest : List Value} {p0 : Int64} {p1 : Int64} {r : Int64} (hl : Cond.methodLink own idx yX12_divisor ∈ TB) (hw : (rest.map fun v => v.category).sum ≤ 8) (hR : rX12_divisor.frames + 1 ≤ rm.frames ∧ 8 + (10 + 11) + rX12_divisor.locals ≤ rm.locals) (hd : decode cc pc = .ok (.invokestatic idx, 3)) (hp : pc + 3 = pc') (hf : f_X12_divisor p0 p1 σ = some (r, σ')) (h : WW Γ cc nL own ret rm σ' pc' lv (.long r :: rest)) : WW Γ cc nL own ret rm σ pc lv (.long p1 :: .long p0 :: rest) :=
  w_callS (nn := 2) (As := [.long p0, .long p1]) (v := (some (.long r))) (c_X12_divisor hf) hl mw_X12_divisor (by decide +kernel) ⟨rfl, rfl⟩ hR rfl hw hd rfl hp h
/-! WarByHoursModel.part (JJI)J -/
def rX12_part : Room := { frames := 1, cells := 0, slots := 0, locals := 29 }
def f_X12_part_10 (v0 : Int64) (v2 : Int64) (k0 : Int64) (σ : St) : Option (Int64 × St) :=
  bd (f_X12_divisor v0 v2 σ) fun r1 s2 =>
  gd (!decide (r1 = 0)) <|
  some ((k0 / r1), s2)
theorem b_X12_part_10 {Γ : CX} (v0 : Int64) (v2 : Int64) (k0 : Int64) (σ : St) (h : RR vL Γ (f_X12_part_10 v0 v2 k0 σ)) : WW Γ cX12_part 5 RX12 (some .long) rX12_part σ 10 [(0, .long v0), (2, .long v2)] [.long k0] := by
  unfold f_X12_part_10 at h
  refine w_lload_n 0 dX12_part_10 rfl rfl rfl ?_
  refine w_lload_n 1 dX12_part_11 rfl rfl rfl ?_
  obtain ⟨r1, s2, h3, h⟩ := h.bd
  refine k_X12_divisor ml_RX12_287 (Nat.le_of_ble_eq_true rfl) ⟨Nat.le_of_ble_eq_true rfl, Nat.le_of_ble_eq_true rfl⟩ dX12_part_12 rfl h3 ?_
  obtain ⟨hz4, h⟩ := h.gd
  refine w_ldiv dX12_part_15 (ne_of_gd hz4) rfl ?_
  exact w_lreturn dX12_part_16 h
def f_X12_part (p0 : Int64) (p1 : Int64) (p2 : Int32) (σ : St) : Option (Int64 × St) :=
  if p2 = 0 then
    f_X12_part_10 p0 p1 p0 σ
  else
    f_X12_part_10 p0 p1 p1 σ
theorem e_X12_part {Γ : CX} (p0 : Int64) (p1 : Int64) (p2 : Int32) (σ : St) (h : RR vL Γ (f_X12_part p0 p1 p2 σ)) : WW Γ cX12_part 5 RX12 (some .long) rX12_part σ 0 [(0, .long p0), (2, .long p1), (4, .int p2)] [] := by
  unfold f_X12_part at h
  refine w_iload 2 dX12_part_0 rfl rfl ?_
  refine w_if_ne (tgt := 9) dX12_part_2 (by decide) rfl (fun q => ?_) (fun q => ?_)
  · have h := h.ff q
    refine w_lload_n 1 dX12_part_9 rfl rfl rfl ?_
    exact w_sub [0, 1] rfl (b_X12_part_10 p0 p1 p1 σ h)
  · have h := h.tt q
    refine w_lload_n 0 dX12_part_5 rfl rfl rfl ?_
    refine w_goto (tgt := 10) dX12_part_6 (by decide) ?_
    exact w_sub [0, 1] rfl (b_X12_part_10 p0 p1 p0 σ h)
theorem c_X12_part {l : Launch} {D : va_G} {cy : Nat → ClassId} {ad : Nat → Nat} {p0 : Int64} {p1 : Int64} {p2 : Int32} {σ σ' : St} {r : Int64} (hf : f_X12_part p0 p1 p2 σ = some (r, σ')) : CT l D cy ad yX12_part cX12_part 5 (some .long) rX12_part [.long p0, .long p1, .int p2] σ (some (.long r)) σ' :=
  ct_of (by decide) (Nat.le_of_ble_eq_true rfl) (fun p e s m args below meth c A => e_X12_part (Γ := (p, l, e, rX12_part, s, m, args, below, meth, c, D, cy, ad, A, 0, 0, MQ below (QC D cy ad (some (.long r)) σ' A) args s 0 0 A)) p0 p1 p2 σ ⟨_, hf, rfl⟩)
theorem k_X12_part {Γ : CX} {cc : ByteArray} {nL : Nat} {own : String} {ret : Option FieldType} {rm : Room} {σ σ' : St} {pc pc' idx : Nat} {lv : List (Nat × Value)} {rest : List Value} {p0 : Int64} {p1 : Int64} {p2 : Int32} {r : Int64} (hl : Cond.methodLink own idx yX12_part ∈ TB) (hw : (rest.map fun v => v.category).sum ≤ 8) (hR : rX12_part.frames + 1 ≤ rm.frames ∧ 8 + (5 + 11) + rX12_part.locals ≤ rm.locals) (hd : decode cc pc = .ok (.invokestatic idx, 3)) (hp : pc + 3 = pc') (hf : f_X12_part p0 p1 p2 σ = some (r, σ')) (h : WW Γ cc nL own ret rm σ' pc' lv (.long r :: rest)) : WW Γ cc nL own ret rm σ pc lv (.int p2 :: .long p1 :: .long p0 :: rest) :=
  w_callS (nn := 3) (As := [.long p0, .long p1, .int p2]) (v := (some (.long r))) (c_X12_part hf) hl mw_X12_part (by decide +kernel) ⟨rfl, rfl⟩ hR rfl hw hd rfl hp h
/-! WarByHoursModel.oftenOf (I)J -/
def rX12_oftenOf : Room := { frames := 1, cells := 0, slots := 0, locals := 22 }
def f_X12_oftenOf_49 (K5 : Int32 × Int64 × Int32 × St → Option (Int64 × St)) (v1 : Int32) (v4 : Int32) (k0 : Int64) (k1 : Int64) (σ : St) : Option (Int64 × St) :=
  bnd ((k1 * k0)) fun x1 =>
  bnd (v4 + (1 : Int32)) fun x2 =>
  K5 (v1, x1, x2, σ)
theorem b_X12_oftenOf_49 {Γ : CX} (K5 : Int32 × Int64 × Int32 × St → Option (Int64 × St)) (hK5 : ∀ (v1 : Int32) (v2 : Int64) (v4 : Int32) (σ : St), RR vL Γ (K5 (v1, v2, v4, σ)) → WW Γ cX12_oftenOf 5 RX12 (some .long) rX12_oftenOf σ 5 [(0, .ref (xd Γ 58)), (1, .int v1), (2, .long v2), (4, .int v4)] []) (v1 : Int32) (v4 : Int32) (k0 : Int64) (k1 : Int64) (σ : St) (h : RR vL Γ (f_X12_oftenOf_49 K5 v1 v4 k0 k1 σ)) : WW Γ cX12_oftenOf 5 RX12 (some .long) rX12_oftenOf σ 49 [(0, .ref (xd Γ 58)), (1, .int v1), (4, .int v4)] [.long k0, .long k1] := by
  unfold f_X12_oftenOf_49 at h
  refine w_lmul dX12_oftenOf_49 rfl ?_
  refine w_nmL (fun x1 ex1 => ?_)
  replace h := h.bnd ex1
  clear ex1
  refine w_lstore_n [(2, .long x1), (0, .ref (xd Γ 58)), (1, .int v1), (4, .int v4)] dX12_oftenOf_50 rfl (by decide) rfl rfl ?_
  obtain ⟨x2, ex2⟩ : ∃ y : Int32, y = (v4 + (1 : Int32)) := ⟨_, rfl⟩
  replace h := h.bnd ex2
  refine w_iinc 3 x2 [(4, .int x2), (2, .long x1), (0, .ref (xd Γ 58)), (1, .int v1)] dX12_oftenOf_51 rfl (by rw [ex2, ic_iconst_1]) (by decide) rfl rfl ?_
  clear ex2
  refine w_goto (tgt := 5) dX12_oftenOf_54 (by decide) ?_
  exact w_sub [2, 3, 1, 0] rfl (hK5 v1 x1 x2 σ h)
def g_X12_oftenOf_5 (K5 : Int32 × Int64 × Int32 × St → Option (Int64 × St)) (x : Int32 × Int64 × Int32 × St) : Option (Int64 × St) := match x with
  | (v1, v2, v4, σ) =>
  gd (inb (4 : Int32) (ln 59)) <|
  if (gr σ 59 (4 : Int32).toNatClampNeg) ≤ v4 then
    some (v2, σ)
  else
    bd (f_X12_bit v1 v4 σ) fun r2 s3 =>
    if r2 = (1 : Int32) then
      bd (f_X12_of v4 (3 : Int32) s3) fun r8 s9 =>
      f_X12_oftenOf_49 K5 v1 v4 r8.toInt64 v2 s9
    else
      bd (f_X12_of v4 (3 : Int32) s3) fun r5 s6 =>
      f_X12_oftenOf_49 K5 v1 v4 ((100 : Int32) - r5).toInt64 v2 s6
theorem l_X12_oftenOf_5 {Γ : CX} : ∀ (n : Nat) (v1 : Int32) (v2 : Int64) (v4 : Int32) (σ : St), RR vL Γ (itr (g_X12_oftenOf_5) n (v1, v2, v4, σ)) → WW Γ cX12_oftenOf 5 RX12 (some .long) rX12_oftenOf σ 5 [(0, .ref (xd Γ 58)), (1, .int v1), (2, .long v2), (4, .int v4)] [] := by
  intro n
  induction n with
  | zero => intro v1 v2 v4 σ h; exact RR.no h
  | succ n hK5 =>
  intro v1 v2 v4 σ h
  have h : RR vL Γ (g_X12_oftenOf_5 (itr (g_X12_oftenOf_5) n) (v1, v2, v4, σ)) := h
  generalize itr (g_X12_oftenOf_5) n = K5 at h hK5
  unfold g_X12_oftenOf_5 at h
  dsimp only at h
  refine w_iload 3 dX12_oftenOf_5 rfl rfl ?_
  refine w_aload_n 0 dX12_oftenOf_7 rfl rfl rfl ?_
  refine gf_RX12_9 dX12_oftenOf_8 rfl ?_
  refine w_iconst (4 : Int32) dX12_oftenOf_11 ic_iconst_4 rfl ?_
  obtain ⟨hi1, h⟩ := h.gd
  refine w_iald (i := 59) (lt_lit (by decide)) rfl hi1 dX12_oftenOf_12 rfl ?_
  refine w_icmp_ge (tgt := 57) dX12_oftenOf_13 (by decide) rfl (fun q => ?_) (fun q => ?_)
  · have h := h.tt q
    refine w_lload_n 2 dX12_oftenOf_57 rfl rfl rfl ?_
    exact w_lreturn dX12_oftenOf_58 h
  · have h := h.ff q
    refine w_lload_n 2 dX12_oftenOf_16 rfl rfl rfl ?_
    refine w_iload_n 1 dX12_oftenOf_17 rfl rfl rfl ?_
    refine w_iload 3 dX12_oftenOf_18 rfl rfl ?_
    obtain ⟨r2, s3, h4, h⟩ := h.bd
    refine k_X12_bit ml_RX12_86 (Nat.le_of_ble_eq_true rfl) ⟨Nat.le_of_ble_eq_true rfl, Nat.le_of_ble_eq_true rfl⟩ dX12_oftenOf_20 rfl h4 ?_
    refine w_iconst (1 : Int32) dX12_oftenOf_23 ic_iconst_1 rfl ?_
    refine w_icmp_ne (tgt := 38) dX12_oftenOf_24 (by decide) rfl (fun q => ?_) (fun q => ?_)
    · have h := h.ff q
      refine w_bipush (100 : Int32) dX12_oftenOf_38 ic_bipush_100 rfl ?_
      refine w_aload_n 0 dX12_oftenOf_40 rfl rfl rfl ?_
      refine w_iload 3 dX12_oftenOf_41 rfl rfl ?_
      refine w_iconst (3 : Int32) dX12_oftenOf_43 ic_iconst_3 rfl ?_
      obtain ⟨r5, s6, h7, h⟩ := h.bd
      refine k_X12_of ml_RX12_82 (Nat.le_of_ble_eq_true rfl) ⟨Nat.le_of_ble_eq_true rfl, Nat.le_of_ble_eq_true rfl⟩ dX12_oftenOf_44 rfl h7 ?_
      refine w_isub dX12_oftenOf_47 rfl ?_
      refine w_i2l dX12_oftenOf_48 rfl ?_
      exact w_sub [0, 1, 3] rfl (b_X12_oftenOf_49 K5 hK5 v1 v4 ((100 : Int32) - r5).toInt64 v2 s6 h)
    · have h := h.tt q
      refine w_aload_n 0 dX12_oftenOf_27 rfl rfl rfl ?_
      refine w_iload 3 dX12_oftenOf_28 rfl rfl ?_
      refine w_iconst (3 : Int32) dX12_oftenOf_30 ic_iconst_3 rfl ?_
      obtain ⟨r8, s9, h10, h⟩ := h.bd
      refine k_X12_of ml_RX12_82 (Nat.le_of_ble_eq_true rfl) ⟨Nat.le_of_ble_eq_true rfl, Nat.le_of_ble_eq_true rfl⟩ dX12_oftenOf_31 rfl h10 ?_
      refine w_i2l dX12_oftenOf_34 rfl ?_
      refine w_goto (tgt := 49) dX12_oftenOf_35 (by decide) ?_
      exact w_sub [0, 1, 3] rfl (b_X12_oftenOf_49 K5 hK5 v1 v4 r8.toInt64 v2 s9 h)
def f_X12_oftenOf (p0 : Int32) (σ : St) : Option (Int64 × St) :=
  itr (g_X12_oftenOf_5) FU (p0, (1 : Int64), (0 : Int32), σ)
theorem e_X12_oftenOf {Γ : CX} (p0 : Int32) (σ : St) (h : RR vL Γ (f_X12_oftenOf p0 σ)) : WW Γ cX12_oftenOf 5 RX12 (some .long) rX12_oftenOf σ 0 [(0, .ref (xd Γ 58)), (1, .int p0)] [] := by
  unfold f_X12_oftenOf at h
  refine w_lconst (1 : Int64) dX12_oftenOf_0 rfl rfl ?_
  refine w_lstore_n [(2, .long (1 : Int64)), (0, .ref (xd Γ 58)), (1, .int p0)] dX12_oftenOf_1 rfl (by decide) rfl rfl ?_
  refine w_iconst (0 : Int32) dX12_oftenOf_2 ic_iconst_0 rfl ?_
  refine w_istore [(4, .int (0 : Int32)), (2, .long (1 : Int64)), (0, .ref (xd Γ 58)), (1, .int p0)] dX12_oftenOf_3 (by decide) rfl rfl ?_
  exact w_sub [2, 3, 1, 0] rfl (l_X12_oftenOf_5 FU p0 (1 : Int64) (0 : Int32) σ h)
theorem c_X12_oftenOf {l : Launch} {D : va_G} {cy : Nat → ClassId} {ad : Nat → Nat} {p0 : Int32} {σ σ' : St} {r : Int64} (hf : f_X12_oftenOf p0 σ = some (r, σ')) : CT l D cy ad yX12_oftenOf cX12_oftenOf 5 (some .long) rX12_oftenOf [.ref (ad 58), .int p0] σ (some (.long r)) σ' :=
  ct_of (by decide) (Nat.le_of_ble_eq_true rfl) (fun p e s m args below meth c A => e_X12_oftenOf (Γ := (p, l, e, rX12_oftenOf, s, m, args, below, meth, c, D, cy, ad, A, 0, 0, MQ below (QC D cy ad (some (.long r)) σ' A) args s 0 0 A)) p0 σ ⟨_, hf, rfl⟩)
theorem k_X12_oftenOf {Γ : CX} {cc : ByteArray} {nL : Nat} {own : String} {ret : Option FieldType} {rm : Room} {σ σ' : St} {pc pc' idx : Nat} {lv : List (Nat × Value)} {rest : List Value} {p0 : Int32} {r : Int64} (hl : Cond.methodLink own idx yX12_oftenOf ∈ TB) (hw : (rest.map fun v => v.category).sum ≤ 8) (hR : rX12_oftenOf.frames + 1 ≤ rm.frames ∧ 8 + (5 + 11) + rX12_oftenOf.locals ≤ rm.locals) (hd : decode cc pc = .ok (.invokevirtual idx, 3)) (hp : pc + 3 = pc') (hf : f_X12_oftenOf p0 σ = some (r, σ')) (h : WW Γ cc nL own ret rm σ' pc' lv (.long r :: rest)) : WW Γ cc nL own ret rm σ pc lv (.int p0 :: .ref (xd Γ 58) :: rest) :=
  w_callV (nn := 1) (i := 58) (As := [.int p0]) (v := (some (.long r))) (T := TX12) (N := 32) (c_X12_oftenOf hf) hl mw_X12_oftenOf (by decide +kernel) ⟨rfl, rfl⟩ hR (lt_lit (by decide)) cel_58 rfl rfl hw hd rfl hp h
/-! WarByHoursModel.allOften ()J -/
def rX12_allOften : Room := { frames := 0, cells := 0, slots := 0, locals := 0 }
def g_X12_allOften_4 (K4 : Int64 × Int32 × St → Option (Int64 × St)) (x : Int64 × Int32 × St) : Option (Int64 × St) := match x with
  | (v1, v3, σ) =>
  gd (inb (4 : Int32) (ln 59)) <|
  if (gr σ 59 (4 : Int32).toNatClampNeg) ≤ v3 then
    some (v1, σ)
  else
    bnd ((v1 * (100 : Int64))) fun x2 =>
    bnd (v3 + (1 : Int32)) fun x3 =>
    K4 (x2, x3, σ)
theorem l_X12_allOften_4 {Γ : CX} : ∀ (n : Nat) (v1 : Int64) (v3 : Int32) (σ : St), RR vL Γ (itr (g_X12_allOften_4) n (v1, v3, σ)) → WW Γ cX12_allOften 4 RX12 (some .long) rX12_allOften σ 4 [(0, .ref (xd Γ 58)), (1, .long v1), (3, .int v3)] [] := by
  intro n
  induction n with
  | zero => intro v1 v3 σ h; exact RR.no h
  | succ n hK4 =>
  intro v1 v3 σ h
  have h : RR vL Γ (g_X12_allOften_4 (itr (g_X12_allOften_4) n) (v1, v3, σ)) := h
  generalize itr (g_X12_allOften_4) n = K4 at h hK4
  unfold g_X12_allOften_4 at h
  dsimp only at h
  refine w_iload_n 2 dX12_allOften_4 rfl rfl rfl ?_
  refine w_aload_n 0 dX12_allOften_5 rfl rfl rfl ?_
  refine gf_RX12_9 dX12_allOften_6 rfl ?_
  refine w_iconst (4 : Int32) dX12_allOften_9 ic_iconst_4 rfl ?_
  obtain ⟨hi1, h⟩ := h.gd
  refine w_iald (i := 59) (lt_lit (by decide)) rfl hi1 dX12_allOften_10 rfl ?_
  refine w_icmp_ge (tgt := 26) dX12_allOften_11 (by decide) rfl (fun q => ?_) (fun q => ?_)
  · have h := h.tt q
    refine w_lload_n 1 dX12_allOften_26 rfl rfl rfl ?_
    exact w_lreturn dX12_allOften_27 h
  · have h := h.ff q
    refine w_lload_n 1 dX12_allOften_14 rfl rfl rfl ?_
    refine w_ldc2_w (100 : Int64) dX12_allOften_15 cl_RX12_291 rfl ?_
    refine w_lmul dX12_allOften_18 rfl ?_
    refine w_nmL (fun x2 ex2 => ?_)
    replace h := h.bnd ex2
    clear ex2
    refine w_lstore_n [(1, .long x2), (0, .ref (xd Γ 58)), (3, .int v3)] dX12_allOften_19 rfl (by decide) rfl rfl ?_
    obtain ⟨x3, ex3⟩ : ∃ y : Int32, y = (v3 + (1 : Int32)) := ⟨_, rfl⟩
    replace h := h.bnd ex3
    refine w_iinc 2 x3 [(3, .int x3), (1, .long x2), (0, .ref (xd Γ 58))] dX12_allOften_20 rfl (by rw [ex3, ic_iconst_1]) (by decide) rfl rfl ?_
    clear ex3
    refine w_goto (tgt := 4) dX12_allOften_23 (by decide) ?_
    exact w_sub [2, 1, 0] rfl (hK4 x2 x3 σ h)
def f_X12_allOften (σ : St) : Option (Int64 × St) :=
  itr (g_X12_allOften_4) FU ((1 : Int64), (0 : Int32), σ)
theorem e_X12_allOften {Γ : CX} (σ : St) (h : RR vL Γ (f_X12_allOften σ)) : WW Γ cX12_allOften 4 RX12 (some .long) rX12_allOften σ 0 [(0, .ref (xd Γ 58))] [] := by
  unfold f_X12_allOften at h
  refine w_lconst (1 : Int64) dX12_allOften_0 rfl rfl ?_
  refine w_lstore_n [(1, .long (1 : Int64)), (0, .ref (xd Γ 58))] dX12_allOften_1 rfl (by decide) rfl rfl ?_
  refine w_iconst (0 : Int32) dX12_allOften_2 ic_iconst_0 rfl ?_
  refine w_istore_n [(3, .int (0 : Int32)), (1, .long (1 : Int64)), (0, .ref (xd Γ 58))] dX12_allOften_3 rfl (by decide) rfl rfl ?_
  exact w_sub [2, 1, 0] rfl (l_X12_allOften_4 FU (1 : Int64) (0 : Int32) σ h)
theorem c_X12_allOften {l : Launch} {D : va_G} {cy : Nat → ClassId} {ad : Nat → Nat}  {σ σ' : St} {r : Int64} (hf : f_X12_allOften σ = some (r, σ')) : CT l D cy ad yX12_allOften cX12_allOften 4 (some .long) rX12_allOften [.ref (ad 58)] σ (some (.long r)) σ' :=
  ct_of (by decide) (Nat.le_of_ble_eq_true rfl) (fun p e s m args below meth c A => e_X12_allOften (Γ := (p, l, e, rX12_allOften, s, m, args, below, meth, c, D, cy, ad, A, 0, 0, MQ below (QC D cy ad (some (.long r)) σ' A) args s 0 0 A)) σ ⟨_, hf, rfl⟩)
theorem k_X12_allOften {Γ : CX} {cc : ByteArray} {nL : Nat} {own : String} {ret : Option FieldType} {rm : Room} {σ σ' : St} {pc pc' idx : Nat} {lv : List (Nat × Value)} {rest : List Value}  {r : Int64} (hl : Cond.methodLink own idx yX12_allOften ∈ TB) (hw : (rest.map fun v => v.category).sum ≤ 8) (hR : rX12_allOften.frames + 1 ≤ rm.frames ∧ 8 + (4 + 11) + rX12_allOften.locals ≤ rm.locals) (hd : decode cc pc = .ok (.invokevirtual idx, 3)) (hp : pc + 3 = pc') (hf : f_X12_allOften σ = some (r, σ')) (h : WW Γ cc nL own ret rm σ' pc' lv (.long r :: rest)) : WW Γ cc nL own ret rm σ pc lv (.ref (xd Γ 58) :: rest) :=
  w_callV (nn := 0) (i := 58) (As := []) (v := (some (.long r))) (T := TX12) (N := 32) (c_X12_allOften hf) hl mw_X12_allOften (by decide +kernel) ⟨rfl, rfl⟩ hR (lt_lit (by decide)) cel_58 rfl rfl hw hd rfl hp h
/-! WarByHoursModel.enough (II)J -/
def rX12_enough : Room := { frames := 4, cells := 0, slots := 0, locals := 91 }
def f_X12_enough_18 (σ : St) : Option (Int64 × St) :=
  some ((-2 : Int64), σ)
theorem b_X12_enough_18 {Γ : CX} (σ : St) (h : RR vL Γ (f_X12_enough_18 σ)) : WW Γ cX12_enough 6 RX12 (some .long) rX12_enough σ 18 [] [] := by
  unfold f_X12_enough_18 at h
  refine w_ldc2_w (-2 : Int64) dX12_enough_18 cl_RX12_275 rfl ?_
  exact w_lreturn dX12_enough_21 h
def f_X12_enough_57 (K27 : Int32 × Int32 × Int64 × Int32 × St → Option (Int64 × St)) (v1 : Int32) (v2 : Int32) (v5 : Int32) (k0 : Int64) (k1 : Int64) (σ : St) : Option (Int64 × St) :=
  bnd ((k1 + k0)) fun x1 =>
  bnd (v5 + (1 : Int32)) fun x2 =>
  K27 (v1, v2, x1, x2, σ)
theorem b_X12_enough_57 {Γ : CX} (K27 : Int32 × Int32 × Int64 × Int32 × St → Option (Int64 × St)) (hK27 : ∀ (v1 : Int32) (v2 : Int32) (v3 : Int64) (v5 : Int32) (σ : St), RR vL Γ (K27 (v1, v2, v3, v5, σ)) → WW Γ cX12_enough 6 RX12 (some .long) rX12_enough σ 27 [(0, .ref (xd Γ 58)), (1, .int v1), (2, .int v2), (3, .long v3), (5, .int v5)] []) (v1 : Int32) (v2 : Int32) (v5 : Int32) (k0 : Int64) (k1 : Int64) (σ : St) (h : RR vL Γ (f_X12_enough_57 K27 v1 v2 v5 k0 k1 σ)) : WW Γ cX12_enough 6 RX12 (some .long) rX12_enough σ 57 [(0, .ref (xd Γ 58)), (1, .int v1), (2, .int v2), (5, .int v5)] [.long k0, .long k1] := by
  unfold f_X12_enough_57 at h
  refine w_ladd dX12_enough_57 rfl ?_
  refine w_nmL (fun x1 ex1 => ?_)
  replace h := h.bnd ex1
  clear ex1
  refine w_lstore_n [(3, .long x1), (0, .ref (xd Γ 58)), (1, .int v1), (2, .int v2), (5, .int v5)] dX12_enough_58 rfl (by decide) rfl rfl ?_
  obtain ⟨x2, ex2⟩ : ∃ y : Int32, y = (v5 + (1 : Int32)) := ⟨_, rfl⟩
  replace h := h.bnd ex2
  refine w_iinc 4 x2 [(5, .int x2), (3, .long x1), (0, .ref (xd Γ 58)), (1, .int v1), (2, .int v2)] dX12_enough_59 rfl (by rw [ex2, ic_iconst_1]) (by decide) rfl rfl ?_
  clear ex2
  refine w_goto (tgt := 27) dX12_enough_62 (by decide) ?_
  exact w_sub [2, 3, 4, 1, 0] rfl (hK27 v1 v2 x1 x2 σ h)
def g_X12_enough_27 (K27 : Int32 × Int32 × Int64 × Int32 × St → Option (Int64 × St)) (x : Int32 × Int32 × Int64 × Int32 × St) : Option (Int64 × St) := match x with
  | (v1, v2, v3, v5, σ) =>
  bd (f_X12_allTrains σ) fun r1 s2 =>
  if r1 < v5 then
    bd (f_X12_allOften s2) fun r4 s5 =>
    bd (f_X12_part v3 r4 v2 s5) fun r7 s8 =>
    some (r7, s8)
  else
    bd (f_X12_isLate v1 v5 s2) fun r10 s11 =>
    if r10 = 0 then
      bd (f_X12_oftenOf v5 s11) fun r13 s14 =>
      f_X12_enough_57 K27 v1 v2 v5 r13 v3 s14
    else
      f_X12_enough_57 K27 v1 v2 v5 (0 : Int64) v3 s11
theorem l_X12_enough_27 {Γ : CX} : ∀ (n : Nat) (v1 : Int32) (v2 : Int32) (v3 : Int64) (v5 : Int32) (σ : St), RR vL Γ (itr (g_X12_enough_27) n (v1, v2, v3, v5, σ)) → WW Γ cX12_enough 6 RX12 (some .long) rX12_enough σ 27 [(0, .ref (xd Γ 58)), (1, .int v1), (2, .int v2), (3, .long v3), (5, .int v5)] [] := by
  intro n
  induction n with
  | zero => intro v1 v2 v3 v5 σ h; exact RR.no h
  | succ n hK27 =>
  intro v1 v2 v3 v5 σ h
  have h : RR vL Γ (g_X12_enough_27 (itr (g_X12_enough_27) n) (v1, v2, v3, v5, σ)) := h
  generalize itr (g_X12_enough_27) n = K27 at h hK27
  unfold g_X12_enough_27 at h
  dsimp only at h
  refine w_iload 4 dX12_enough_27 rfl rfl ?_
  refine w_aload_n 0 dX12_enough_29 rfl rfl rfl ?_
  obtain ⟨r1, s2, h3, h⟩ := h.bd
  refine k_X12_allTrains ml_RX12_78 (Nat.le_of_ble_eq_true rfl) ⟨Nat.le_of_ble_eq_true rfl, Nat.le_of_ble_eq_true rfl⟩ dX12_enough_30 rfl h3 ?_
  refine w_icmp_gt (tgt := 65) dX12_enough_33 (by decide) rfl (fun q => ?_) (fun q => ?_)
  · have h := h.tt q
    refine w_lload_n 3 dX12_enough_65 rfl rfl rfl ?_
    refine w_aload_n 0 dX12_enough_66 rfl rfl rfl ?_
    obtain ⟨r4, s5, h6, h⟩ := h.bd
    refine k_X12_allOften ml_RX12_297 (Nat.le_of_ble_eq_true rfl) ⟨Nat.le_of_ble_eq_true rfl, Nat.le_of_ble_eq_true rfl⟩ dX12_enough_67 rfl h6 ?_
    refine w_iload_n 2 dX12_enough_70 rfl rfl rfl ?_
    obtain ⟨r7, s8, h9, h⟩ := h.bd
    refine k_X12_part ml_RX12_301 (Nat.le_of_ble_eq_true rfl) ⟨Nat.le_of_ble_eq_true rfl, Nat.le_of_ble_eq_true rfl⟩ dX12_enough_71 rfl h9 ?_
    exact w_lreturn dX12_enough_74 h
  · have h := h.ff q
    refine w_lload_n 3 dX12_enough_36 rfl rfl rfl ?_
    refine w_aload_n 0 dX12_enough_37 rfl rfl rfl ?_
    refine w_iload_n 1 dX12_enough_38 rfl rfl rfl ?_
    refine w_iload 4 dX12_enough_39 rfl rfl ?_
    obtain ⟨r10, s11, h12, h⟩ := h.bd
    refine k_X12_isLate ml_RX12_254 (Nat.le_of_ble_eq_true rfl) ⟨Nat.le_of_ble_eq_true rfl, Nat.le_of_ble_eq_true rfl⟩ dX12_enough_41 rfl h12 ?_
    refine w_if_eq (tgt := 51) dX12_enough_44 (by decide) rfl (fun q => ?_) (fun q => ?_)
    · have h := h.tt q
      refine w_aload_n 0 dX12_enough_51 rfl rfl rfl ?_
      refine w_iload 4 dX12_enough_52 rfl rfl ?_
      obtain ⟨r13, s14, h15, h⟩ := h.bd
      refine k_X12_oftenOf ml_RX12_293 (Nat.le_of_ble_eq_true rfl) ⟨Nat.le_of_ble_eq_true rfl, Nat.le_of_ble_eq_true rfl⟩ dX12_enough_54 rfl h15 ?_
      exact w_sub [0, 1, 2, 4] rfl (b_X12_enough_57 K27 hK27 v1 v2 v5 r13 v3 s14 h)
    · have h := h.ff q
      refine w_lconst (0 : Int64) dX12_enough_47 rfl rfl ?_
      refine w_goto (tgt := 57) dX12_enough_48 (by decide) ?_
      exact w_sub [0, 1, 2, 4] rfl (b_X12_enough_57 K27 hK27 v1 v2 v5 (0 : Int64) v3 s11 h)
def f_X12_enough (p0 : Int32) (p1 : Int32) (σ : St) : Option (Int64 × St) :=
  bd (f_X12_isSide p0 σ) fun r1 s2 =>
  if r1 = 0 then
    f_X12_enough_18 s2
  else
    bd (f_X12_in p1.toInt64 (0 : Int64) (1 : Int64) s2) fun r4 s5 =>
    if r4 = 0 then
      f_X12_enough_18 s5
    else
      itr (g_X12_enough_27) FU (p0, p1, (0 : Int64), (0 : Int32), s5)
theorem e_X12_enough {Γ : CX} (p0 : Int32) (p1 : Int32) (σ : St) (h : RR vL Γ (f_X12_enough p0 p1 σ)) : WW Γ cX12_enough 6 RX12 (some .long) rX12_enough σ 0 [(0, .ref (xd Γ 58)), (1, .int p0), (2, .int p1)] [] := by
  unfold f_X12_enough at h
  refine w_aload_n 0 dX12_enough_0 rfl rfl rfl ?_
  refine w_iload_n 1 dX12_enough_1 rfl rfl rfl ?_
  obtain ⟨r1, s2, h3, h⟩ := h.bd
  refine k_X12_isSide ml_RX12_236 (Nat.le_of_ble_eq_true rfl) ⟨Nat.le_of_ble_eq_true rfl, Nat.le_of_ble_eq_true rfl⟩ dX12_enough_2 rfl h3 ?_
  refine w_if_eq (tgt := 18) dX12_enough_5 (by decide) rfl (fun q => ?_) (fun q => ?_)
  · have h := h.tt q
    exact w_sub [] rfl (b_X12_enough_18 s2 h)
  · have h := h.ff q
    refine w_iload_n 2 dX12_enough_8 rfl rfl rfl ?_
    refine w_i2l dX12_enough_9 rfl ?_
    refine w_lconst (0 : Int64) dX12_enough_10 rfl rfl ?_
    refine w_lconst (1 : Int64) dX12_enough_11 rfl rfl ?_
    obtain ⟨r4, s5, h6, h⟩ := h.bd
    refine k_X12_in ml_RX12_70 (Nat.le_of_ble_eq_true rfl) ⟨Nat.le_of_ble_eq_true rfl, Nat.le_of_ble_eq_true rfl⟩ dX12_enough_12 rfl h6 ?_
    refine w_if_ne (tgt := 22) dX12_enough_15 (by decide) rfl (fun q => ?_) (fun q => ?_)
    · have h := h.ff q
      refine w_lconst (0 : Int64) dX12_enough_22 rfl rfl ?_
      refine w_lstore_n [(3, .long (0 : Int64)), (0, .ref (xd Γ 58)), (1, .int p0), (2, .int p1)] dX12_enough_23 rfl (by decide) rfl rfl ?_
      refine w_iconst (0 : Int32) dX12_enough_24 ic_iconst_0 rfl ?_
      refine w_istore [(5, .int (0 : Int32)), (3, .long (0 : Int64)), (0, .ref (xd Γ 58)), (1, .int p0), (2, .int p1)] dX12_enough_25 (by decide) rfl rfl ?_
      exact w_sub [2, 3, 4, 1, 0] rfl (l_X12_enough_27 FU p0 p1 (0 : Int64) (0 : Int32) s5 h)
    · have h := h.tt q
      exact w_sub [] rfl (b_X12_enough_18 s5 h)
theorem c_X12_enough {l : Launch} {D : va_G} {cy : Nat → ClassId} {ad : Nat → Nat} {p0 : Int32} {p1 : Int32} {σ σ' : St} {r : Int64} (hf : f_X12_enough p0 p1 σ = some (r, σ')) : CT l D cy ad yX12_enough cX12_enough 6 (some .long) rX12_enough [.ref (ad 58), .int p0, .int p1] σ (some (.long r)) σ' :=
  ct_of (by decide) (Nat.le_of_ble_eq_true rfl) (fun p e s m args below meth c A => e_X12_enough (Γ := (p, l, e, rX12_enough, s, m, args, below, meth, c, D, cy, ad, A, 0, 0, MQ below (QC D cy ad (some (.long r)) σ' A) args s 0 0 A)) p0 p1 σ ⟨_, hf, rfl⟩)
theorem k_X12_enough {Γ : CX} {cc : ByteArray} {nL : Nat} {own : String} {ret : Option FieldType} {rm : Room} {σ σ' : St} {pc pc' idx : Nat} {lv : List (Nat × Value)} {rest : List Value} {p0 : Int32} {p1 : Int32} {r : Int64} (hl : Cond.methodLink own idx yX12_enough ∈ TB) (hw : (rest.map fun v => v.category).sum ≤ 8) (hR : rX12_enough.frames + 1 ≤ rm.frames ∧ 8 + (6 + 11) + rX12_enough.locals ≤ rm.locals) (hd : decode cc pc = .ok (.invokevirtual idx, 3)) (hp : pc + 3 = pc') (hf : f_X12_enough p0 p1 σ = some (r, σ')) (h : WW Γ cc nL own ret rm σ' pc' lv (.long r :: rest)) : WW Γ cc nL own ret rm σ pc lv (.int p1 :: .int p0 :: .ref (xd Γ 58) :: rest) :=
  w_callV (nn := 2) (i := 58) (As := [.int p0, .int p1]) (v := (some (.long r))) (T := TX12) (N := 32) (c_X12_enough hf) hl mw_X12_enough (by decide +kernel) ⟨rfl, rfl⟩ hR (lt_lit (by decide)) cel_58 rfl rfl hw hd rfl hp h
/-! WarByHoursModel.chance (II)J -/
def rX12_chance : Room := { frames := 6, cells := 0, slots := 0, locals := 138 }
def f_X12_chance_18 (σ : St) : Option (Int64 × St) :=
  some ((-2 : Int64), σ)
theorem b_X12_chance_18 {Γ : CX} (σ : St) (h : RR vL Γ (f_X12_chance_18 σ)) : WW Γ cX12_chance 6 RX12 (some .long) rX12_chance σ 18 [] [] := by
  unfold f_X12_chance_18 at h
  refine w_ldc2_w (-2 : Int64) dX12_chance_18 cl_RX12_275 rfl ?_
  exact w_lreturn dX12_chance_21 h
def f_X12_chance_57 (K27 : Int32 × Int32 × Int64 × Int32 × St → Option (Int64 × St)) (v1 : Int32) (v2 : Int32) (v5 : Int32) (k0 : Int64) (k1 : Int64) (σ : St) : Option (Int64 × St) :=
  bnd ((k1 + k0)) fun x1 =>
  bnd (v5 + (1 : Int32)) fun x2 =>
  K27 (v1, v2, x1, x2, σ)
theorem b_X12_chance_57 {Γ : CX} (K27 : Int32 × Int32 × Int64 × Int32 × St → Option (Int64 × St)) (hK27 : ∀ (v1 : Int32) (v2 : Int32) (v3 : Int64) (v5 : Int32) (σ : St), RR vL Γ (K27 (v1, v2, v3, v5, σ)) → WW Γ cX12_chance 6 RX12 (some .long) rX12_chance σ 27 [(0, .ref (xd Γ 58)), (1, .int v1), (2, .int v2), (3, .long v3), (5, .int v5)] []) (v1 : Int32) (v2 : Int32) (v5 : Int32) (k0 : Int64) (k1 : Int64) (σ : St) (h : RR vL Γ (f_X12_chance_57 K27 v1 v2 v5 k0 k1 σ)) : WW Γ cX12_chance 6 RX12 (some .long) rX12_chance σ 57 [(0, .ref (xd Γ 58)), (1, .int v1), (2, .int v2), (5, .int v5)] [.long k0, .long k1] := by
  unfold f_X12_chance_57 at h
  refine w_ladd dX12_chance_57 rfl ?_
  refine w_nmL (fun x1 ex1 => ?_)
  replace h := h.bnd ex1
  clear ex1
  refine w_lstore_n [(3, .long x1), (0, .ref (xd Γ 58)), (1, .int v1), (2, .int v2), (5, .int v5)] dX12_chance_58 rfl (by decide) rfl rfl ?_
  obtain ⟨x2, ex2⟩ : ∃ y : Int32, y = (v5 + (1 : Int32)) := ⟨_, rfl⟩
  replace h := h.bnd ex2
  refine w_iinc 4 x2 [(5, .int x2), (3, .long x1), (0, .ref (xd Γ 58)), (1, .int v1), (2, .int v2)] dX12_chance_59 rfl (by rw [ex2, ic_iconst_1]) (by decide) rfl rfl ?_
  clear ex2
  refine w_goto (tgt := 27) dX12_chance_62 (by decide) ?_
  exact w_sub [2, 3, 4, 1, 0] rfl (hK27 v1 v2 x1 x2 σ h)
def g_X12_chance_27 (K27 : Int32 × Int32 × Int64 × Int32 × St → Option (Int64 × St)) (x : Int32 × Int32 × Int64 × Int32 × St) : Option (Int64 × St) := match x with
  | (v1, v2, v3, v5, σ) =>
  bd (f_X12_allTrains σ) fun r1 s2 =>
  if r1 < v5 then
    bd (f_X12_allOften s2) fun r4 s5 =>
    bd (f_X12_part v3 r4 v2 s5) fun r7 s8 =>
    some (r7, s8)
  else
    bd (f_X12_winner v5 s2) fun r10 s11 =>
    if r10 = v1 then
      bd (f_X12_oftenOf v5 s11) fun r13 s14 =>
      f_X12_chance_57 K27 v1 v2 v5 r13 v3 s14
    else
      f_X12_chance_57 K27 v1 v2 v5 (0 : Int64) v3 s11
theorem l_X12_chance_27 {Γ : CX} : ∀ (n : Nat) (v1 : Int32) (v2 : Int32) (v3 : Int64) (v5 : Int32) (σ : St), RR vL Γ (itr (g_X12_chance_27) n (v1, v2, v3, v5, σ)) → WW Γ cX12_chance 6 RX12 (some .long) rX12_chance σ 27 [(0, .ref (xd Γ 58)), (1, .int v1), (2, .int v2), (3, .long v3), (5, .int v5)] [] := by
  intro n
  induction n with
  | zero => intro v1 v2 v3 v5 σ h; exact RR.no h
  | succ n hK27 =>
  intro v1 v2 v3 v5 σ h
  have h : RR vL Γ (g_X12_chance_27 (itr (g_X12_chance_27) n) (v1, v2, v3, v5, σ)) := h
  generalize itr (g_X12_chance_27) n = K27 at h hK27
  unfold g_X12_chance_27 at h
  dsimp only at h
  refine w_iload 4 dX12_chance_27 rfl rfl ?_
  refine w_aload_n 0 dX12_chance_29 rfl rfl rfl ?_
  obtain ⟨r1, s2, h3, h⟩ := h.bd
  refine k_X12_allTrains ml_RX12_78 (Nat.le_of_ble_eq_true rfl) ⟨Nat.le_of_ble_eq_true rfl, Nat.le_of_ble_eq_true rfl⟩ dX12_chance_30 rfl h3 ?_
  refine w_icmp_gt (tgt := 65) dX12_chance_33 (by decide) rfl (fun q => ?_) (fun q => ?_)
  · have h := h.tt q
    refine w_lload_n 3 dX12_chance_65 rfl rfl rfl ?_
    refine w_aload_n 0 dX12_chance_66 rfl rfl rfl ?_
    obtain ⟨r4, s5, h6, h⟩ := h.bd
    refine k_X12_allOften ml_RX12_297 (Nat.le_of_ble_eq_true rfl) ⟨Nat.le_of_ble_eq_true rfl, Nat.le_of_ble_eq_true rfl⟩ dX12_chance_67 rfl h6 ?_
    refine w_iload_n 2 dX12_chance_70 rfl rfl rfl ?_
    obtain ⟨r7, s8, h9, h⟩ := h.bd
    refine k_X12_part ml_RX12_301 (Nat.le_of_ble_eq_true rfl) ⟨Nat.le_of_ble_eq_true rfl, Nat.le_of_ble_eq_true rfl⟩ dX12_chance_71 rfl h9 ?_
    exact w_lreturn dX12_chance_74 h
  · have h := h.ff q
    refine w_lload_n 3 dX12_chance_36 rfl rfl rfl ?_
    refine w_aload_n 0 dX12_chance_37 rfl rfl rfl ?_
    refine w_iload 4 dX12_chance_38 rfl rfl ?_
    obtain ⟨r10, s11, h12, h⟩ := h.bd
    refine k_X12_winner ml_RX12_269 (Nat.le_of_ble_eq_true rfl) ⟨Nat.le_of_ble_eq_true rfl, Nat.le_of_ble_eq_true rfl⟩ dX12_chance_40 rfl h12 ?_
    refine w_iload_n 1 dX12_chance_43 rfl rfl rfl ?_
    refine w_icmp_ne (tgt := 56) dX12_chance_44 (by decide) rfl (fun q => ?_) (fun q => ?_)
    · have h := h.ff q
      refine w_lconst (0 : Int64) dX12_chance_56 rfl rfl ?_
      exact w_sub [0, 1, 2, 4] rfl (b_X12_chance_57 K27 hK27 v1 v2 v5 (0 : Int64) v3 s11 h)
    · have h := h.tt q
      refine w_aload_n 0 dX12_chance_47 rfl rfl rfl ?_
      refine w_iload 4 dX12_chance_48 rfl rfl ?_
      obtain ⟨r13, s14, h15, h⟩ := h.bd
      refine k_X12_oftenOf ml_RX12_293 (Nat.le_of_ble_eq_true rfl) ⟨Nat.le_of_ble_eq_true rfl, Nat.le_of_ble_eq_true rfl⟩ dX12_chance_50 rfl h15 ?_
      refine w_goto (tgt := 57) dX12_chance_53 (by decide) ?_
      exact w_sub [0, 1, 2, 4] rfl (b_X12_chance_57 K27 hK27 v1 v2 v5 r13 v3 s14 h)
def f_X12_chance (p0 : Int32) (p1 : Int32) (σ : St) : Option (Int64 × St) :=
  bd (f_X12_isSide p0 σ) fun r1 s2 =>
  if r1 = 0 then
    f_X12_chance_18 s2
  else
    bd (f_X12_in p1.toInt64 (0 : Int64) (1 : Int64) s2) fun r4 s5 =>
    if r4 = 0 then
      f_X12_chance_18 s5
    else
      itr (g_X12_chance_27) FU (p0, p1, (0 : Int64), (0 : Int32), s5)
theorem e_X12_chance {Γ : CX} (p0 : Int32) (p1 : Int32) (σ : St) (h : RR vL Γ (f_X12_chance p0 p1 σ)) : WW Γ cX12_chance 6 RX12 (some .long) rX12_chance σ 0 [(0, .ref (xd Γ 58)), (1, .int p0), (2, .int p1)] [] := by
  unfold f_X12_chance at h
  refine w_aload_n 0 dX12_chance_0 rfl rfl rfl ?_
  refine w_iload_n 1 dX12_chance_1 rfl rfl rfl ?_
  obtain ⟨r1, s2, h3, h⟩ := h.bd
  refine k_X12_isSide ml_RX12_236 (Nat.le_of_ble_eq_true rfl) ⟨Nat.le_of_ble_eq_true rfl, Nat.le_of_ble_eq_true rfl⟩ dX12_chance_2 rfl h3 ?_
  refine w_if_eq (tgt := 18) dX12_chance_5 (by decide) rfl (fun q => ?_) (fun q => ?_)
  · have h := h.tt q
    exact w_sub [] rfl (b_X12_chance_18 s2 h)
  · have h := h.ff q
    refine w_iload_n 2 dX12_chance_8 rfl rfl rfl ?_
    refine w_i2l dX12_chance_9 rfl ?_
    refine w_lconst (0 : Int64) dX12_chance_10 rfl rfl ?_
    refine w_lconst (1 : Int64) dX12_chance_11 rfl rfl ?_
    obtain ⟨r4, s5, h6, h⟩ := h.bd
    refine k_X12_in ml_RX12_70 (Nat.le_of_ble_eq_true rfl) ⟨Nat.le_of_ble_eq_true rfl, Nat.le_of_ble_eq_true rfl⟩ dX12_chance_12 rfl h6 ?_
    refine w_if_ne (tgt := 22) dX12_chance_15 (by decide) rfl (fun q => ?_) (fun q => ?_)
    · have h := h.ff q
      refine w_lconst (0 : Int64) dX12_chance_22 rfl rfl ?_
      refine w_lstore_n [(3, .long (0 : Int64)), (0, .ref (xd Γ 58)), (1, .int p0), (2, .int p1)] dX12_chance_23 rfl (by decide) rfl rfl ?_
      refine w_iconst (0 : Int32) dX12_chance_24 ic_iconst_0 rfl ?_
      refine w_istore [(5, .int (0 : Int32)), (3, .long (0 : Int64)), (0, .ref (xd Γ 58)), (1, .int p0), (2, .int p1)] dX12_chance_25 (by decide) rfl rfl ?_
      exact w_sub [2, 3, 4, 1, 0] rfl (l_X12_chance_27 FU p0 p1 (0 : Int64) (0 : Int32) s5 h)
    · have h := h.tt q
      exact w_sub [] rfl (b_X12_chance_18 s5 h)
theorem c_X12_chance {l : Launch} {D : va_G} {cy : Nat → ClassId} {ad : Nat → Nat} {p0 : Int32} {p1 : Int32} {σ σ' : St} {r : Int64} (hf : f_X12_chance p0 p1 σ = some (r, σ')) : CT l D cy ad yX12_chance cX12_chance 6 (some .long) rX12_chance [.ref (ad 58), .int p0, .int p1] σ (some (.long r)) σ' :=
  ct_of (by decide) (Nat.le_of_ble_eq_true rfl) (fun p e s m args below meth c A => e_X12_chance (Γ := (p, l, e, rX12_chance, s, m, args, below, meth, c, D, cy, ad, A, 0, 0, MQ below (QC D cy ad (some (.long r)) σ' A) args s 0 0 A)) p0 p1 σ ⟨_, hf, rfl⟩)
theorem k_X12_chance {Γ : CX} {cc : ByteArray} {nL : Nat} {own : String} {ret : Option FieldType} {rm : Room} {σ σ' : St} {pc pc' idx : Nat} {lv : List (Nat × Value)} {rest : List Value} {p0 : Int32} {p1 : Int32} {r : Int64} (hl : Cond.methodLink own idx yX12_chance ∈ TB) (hw : (rest.map fun v => v.category).sum ≤ 8) (hR : rX12_chance.frames + 1 ≤ rm.frames ∧ 8 + (6 + 11) + rX12_chance.locals ≤ rm.locals) (hd : decode cc pc = .ok (.invokevirtual idx, 3)) (hp : pc + 3 = pc') (hf : f_X12_chance p0 p1 σ = some (r, σ')) (h : WW Γ cc nL own ret rm σ' pc' lv (.long r :: rest)) : WW Γ cc nL own ret rm σ pc lv (.int p1 :: .int p0 :: .ref (xd Γ 58) :: rest) :=
  w_callV (nn := 2) (i := 58) (As := [.int p0, .int p1]) (v := (some (.long r))) (T := TX12) (N := 32) (c_X12_chance hf) hl mw_X12_chance (by decide +kernel) ⟨rfl, rfl⟩ hR (lt_lit (by decide)) cel_58 rfl rfl hw hd rfl hp h
/-! WarByHoursModel.menSent (II)I -/
def rX12_menSent : Room := { frames := 2, cells := 0, slots := 0, locals := 44 }
def f_X12_menSent_54 (K5 : Int32 × Int32 × Int32 × Int32 × St → Option (Int32 × St)) (v1 : Int32) (v2 : Int32) (v4 : Int32) (k0 : Int32) (k1 : Int32) (σ : St) : Option (Int32 × St) :=
  bnd ((k1 + k0)) fun x1 =>
  bnd (v4 + (1 : Int32)) fun x2 =>
  K5 (v1, v2, x1, x2, σ)
theorem b_X12_menSent_54 {Γ : CX} (K5 : Int32 × Int32 × Int32 × Int32 × St → Option (Int32 × St)) (hK5 : ∀ (v1 : Int32) (v2 : Int32) (v3 : Int32) (v4 : Int32) (σ : St), RR vI Γ (K5 (v1, v2, v3, v4, σ)) → WW Γ cX12_menSent 5 RX12 (some .int) rX12_menSent σ 5 [(0, .ref (xd Γ 58)), (1, .int v1), (2, .int v2), (3, .int v3), (4, .int v4)] []) (v1 : Int32) (v2 : Int32) (v4 : Int32) (k0 : Int32) (k1 : Int32) (σ : St) (h : RR vI Γ (f_X12_menSent_54 K5 v1 v2 v4 k0 k1 σ)) : WW Γ cX12_menSent 5 RX12 (some .int) rX12_menSent σ 54 [(0, .ref (xd Γ 58)), (1, .int v1), (2, .int v2), (4, .int v4)] [.int k0, .int k1] := by
  unfold f_X12_menSent_54 at h
  refine w_iadd dX12_menSent_54 rfl ?_
  refine w_nmI (fun x1 ex1 => ?_)
  replace h := h.bnd ex1
  clear ex1
  refine w_istore_n [(3, .int x1), (0, .ref (xd Γ 58)), (1, .int v1), (2, .int v2), (4, .int v4)] dX12_menSent_55 rfl (by decide) rfl rfl ?_
  obtain ⟨x2, ex2⟩ : ∃ y : Int32, y = (v4 + (1 : Int32)) := ⟨_, rfl⟩
  replace h := h.bnd ex2
  refine w_iinc 4 x2 [(4, .int x2), (3, .int x1), (0, .ref (xd Γ 58)), (1, .int v1), (2, .int v2)] dX12_menSent_56 rfl (by rw [ex2, ic_iconst_1]) (by decide) rfl rfl ?_
  clear ex2
  refine w_goto (tgt := 5) dX12_menSent_59 (by decide) ?_
  exact w_sub [2, 3, 4, 1, 0] rfl (hK5 v1 v2 x1 x2 σ h)
def f_X12_menSent_53 (K5 : Int32 × Int32 × Int32 × Int32 × St → Option (Int32 × St)) (v1 : Int32) (v2 : Int32) (v4 : Int32) (k0 : Int32) (σ : St) : Option (Int32 × St) :=
  f_X12_menSent_54 K5 v1 v2 v4 (0 : Int32) k0 σ
theorem b_X12_menSent_53 {Γ : CX} (K5 : Int32 × Int32 × Int32 × Int32 × St → Option (Int32 × St)) (hK5 : ∀ (v1 : Int32) (v2 : Int32) (v3 : Int32) (v4 : Int32) (σ : St), RR vI Γ (K5 (v1, v2, v3, v4, σ)) → WW Γ cX12_menSent 5 RX12 (some .int) rX12_menSent σ 5 [(0, .ref (xd Γ 58)), (1, .int v1), (2, .int v2), (3, .int v3), (4, .int v4)] []) (v1 : Int32) (v2 : Int32) (v4 : Int32) (k0 : Int32) (σ : St) (h : RR vI Γ (f_X12_menSent_53 K5 v1 v2 v4 k0 σ)) : WW Γ cX12_menSent 5 RX12 (some .int) rX12_menSent σ 53 [(0, .ref (xd Γ 58)), (1, .int v1), (2, .int v2), (4, .int v4)] [.int k0] := by
  unfold f_X12_menSent_53 at h
  refine w_iconst (0 : Int32) dX12_menSent_53 ic_iconst_0 rfl ?_
  exact w_sub [0, 1, 2, 3] rfl (b_X12_menSent_54 K5 hK5 v1 v2 v4 (0 : Int32) k0 σ h)
def g_X12_menSent_5 (K5 : Int32 × Int32 × Int32 × Int32 × St → Option (Int32 × St)) (x : Int32 × Int32 × Int32 × Int32 × St) : Option (Int32 × St) := match x with
  | (v1, v2, v3, v4, σ) =>
  gd (inb (4 : Int32) (ln 59)) <|
  if (gr σ 59 (4 : Int32).toNatClampNeg) ≤ v4 then
    some (v3, σ)
  else
    bd (f_X12_bit v1 v4 σ) fun r2 s3 =>
    if r2 = (1 : Int32) then
      bd (f_X12_comesAt v4 v2 s3) fun r5 s6 =>
      gd (inb (1 : Int32) (ln 59)) <|
      if (gr s6 59 (1 : Int32).toNatClampNeg) < r5 then
        f_X12_menSent_53 K5 v1 v2 v4 v3 s6
      else
        bd (f_X12_of v4 (1 : Int32) s6) fun r9 s10 =>
        f_X12_menSent_54 K5 v1 v2 v4 r9 v3 s10
    else
      f_X12_menSent_53 K5 v1 v2 v4 v3 s3
theorem l_X12_menSent_5 {Γ : CX} : ∀ (n : Nat) (v1 : Int32) (v2 : Int32) (v3 : Int32) (v4 : Int32) (σ : St), RR vI Γ (itr (g_X12_menSent_5) n (v1, v2, v3, v4, σ)) → WW Γ cX12_menSent 5 RX12 (some .int) rX12_menSent σ 5 [(0, .ref (xd Γ 58)), (1, .int v1), (2, .int v2), (3, .int v3), (4, .int v4)] [] := by
  intro n
  induction n with
  | zero => intro v1 v2 v3 v4 σ h; exact RR.no h
  | succ n hK5 =>
  intro v1 v2 v3 v4 σ h
  have h : RR vI Γ (g_X12_menSent_5 (itr (g_X12_menSent_5) n) (v1, v2, v3, v4, σ)) := h
  generalize itr (g_X12_menSent_5) n = K5 at h hK5
  unfold g_X12_menSent_5 at h
  dsimp only at h
  refine w_iload 4 dX12_menSent_5 rfl rfl ?_
  refine w_aload_n 0 dX12_menSent_7 rfl rfl rfl ?_
  refine gf_RX12_9 dX12_menSent_8 rfl ?_
  refine w_iconst (4 : Int32) dX12_menSent_11 ic_iconst_4 rfl ?_
  obtain ⟨hi1, h⟩ := h.gd
  refine w_iald (i := 59) (lt_lit (by decide)) rfl hi1 dX12_menSent_12 rfl ?_
  refine w_icmp_ge (tgt := 62) dX12_menSent_13 (by decide) rfl (fun q => ?_) (fun q => ?_)
  · have h := h.tt q
    refine w_iload_n 3 dX12_menSent_62 rfl rfl rfl ?_
    exact w_ireturn dX12_menSent_63 h
  · have h := h.ff q
    refine w_iload_n 3 dX12_menSent_16 rfl rfl rfl ?_
    refine w_iload_n 1 dX12_menSent_17 rfl rfl rfl ?_
    refine w_iload 4 dX12_menSent_18 rfl rfl ?_
    obtain ⟨r2, s3, h4, h⟩ := h.bd
    refine k_X12_bit ml_RX12_86 (Nat.le_of_ble_eq_true rfl) ⟨Nat.le_of_ble_eq_true rfl, Nat.le_of_ble_eq_true rfl⟩ dX12_menSent_20 rfl h4 ?_
    refine w_iconst (1 : Int32) dX12_menSent_23 ic_iconst_1 rfl ?_
    refine w_icmp_ne (tgt := 53) dX12_menSent_24 (by decide) rfl (fun q => ?_) (fun q => ?_)
    · have h := h.ff q
      exact w_sub [0, 1, 2, 4] rfl (b_X12_menSent_53 K5 hK5 v1 v2 v4 v3 s3 h)
    · have h := h.tt q
      refine w_aload_n 0 dX12_menSent_27 rfl rfl rfl ?_
      refine w_iload 4 dX12_menSent_28 rfl rfl ?_
      refine w_iload_n 2 dX12_menSent_30 rfl rfl rfl ?_
      obtain ⟨r5, s6, h7, h⟩ := h.bd
      refine k_X12_comesAt ml_RX12_244 (Nat.le_of_ble_eq_true rfl) ⟨Nat.le_of_ble_eq_true rfl, Nat.le_of_ble_eq_true rfl⟩ dX12_menSent_31 rfl h7 ?_
      refine w_aload_n 0 dX12_menSent_34 rfl rfl rfl ?_
      refine gf_RX12_9 dX12_menSent_35 rfl ?_
      refine w_iconst (1 : Int32) dX12_menSent_38 ic_iconst_1 rfl ?_
      obtain ⟨hi8, h⟩ := h.gd
      refine w_iald (i := 59) (lt_lit (by decide)) rfl hi8 dX12_menSent_39 rfl ?_
      refine w_icmp_gt (tgt := 53) dX12_menSent_40 (by decide) rfl (fun q => ?_) (fun q => ?_)
      · have h := h.tt q
        exact w_sub [0, 1, 2, 4] rfl (b_X12_menSent_53 K5 hK5 v1 v2 v4 v3 s6 h)
      · have h := h.ff q
        refine w_aload_n 0 dX12_menSent_43 rfl rfl rfl ?_
        refine w_iload 4 dX12_menSent_44 rfl rfl ?_
        refine w_iconst (1 : Int32) dX12_menSent_46 ic_iconst_1 rfl ?_
        obtain ⟨r9, s10, h11, h⟩ := h.bd
        refine k_X12_of ml_RX12_82 (Nat.le_of_ble_eq_true rfl) ⟨Nat.le_of_ble_eq_true rfl, Nat.le_of_ble_eq_true rfl⟩ dX12_menSent_47 rfl h11 ?_
        refine w_goto (tgt := 54) dX12_menSent_50 (by decide) ?_
        exact w_sub [0, 1, 2, 4] rfl (b_X12_menSent_54 K5 hK5 v1 v2 v4 r9 v3 s10 h)
def f_X12_menSent (p0 : Int32) (p1 : Int32) (σ : St) : Option (Int32 × St) :=
  itr (g_X12_menSent_5) FU (p0, p1, (0 : Int32), (0 : Int32), σ)
theorem e_X12_menSent {Γ : CX} (p0 : Int32) (p1 : Int32) (σ : St) (h : RR vI Γ (f_X12_menSent p0 p1 σ)) : WW Γ cX12_menSent 5 RX12 (some .int) rX12_menSent σ 0 [(0, .ref (xd Γ 58)), (1, .int p0), (2, .int p1)] [] := by
  unfold f_X12_menSent at h
  refine w_iconst (0 : Int32) dX12_menSent_0 ic_iconst_0 rfl ?_
  refine w_istore_n [(3, .int (0 : Int32)), (0, .ref (xd Γ 58)), (1, .int p0), (2, .int p1)] dX12_menSent_1 rfl (by decide) rfl rfl ?_
  refine w_iconst (0 : Int32) dX12_menSent_2 ic_iconst_0 rfl ?_
  refine w_istore [(4, .int (0 : Int32)), (3, .int (0 : Int32)), (0, .ref (xd Γ 58)), (1, .int p0), (2, .int p1)] dX12_menSent_3 (by decide) rfl rfl ?_
  exact w_sub [2, 3, 4, 1, 0] rfl (l_X12_menSent_5 FU p0 p1 (0 : Int32) (0 : Int32) σ h)
theorem c_X12_menSent {l : Launch} {D : va_G} {cy : Nat → ClassId} {ad : Nat → Nat} {p0 : Int32} {p1 : Int32} {σ σ' : St} {r : Int32} (hf : f_X12_menSent p0 p1 σ = some (r, σ')) : CT l D cy ad yX12_menSent cX12_menSent 5 (some .int) rX12_menSent [.ref (ad 58), .int p0, .int p1] σ (some (.int r)) σ' :=
  ct_of (by decide) (Nat.le_of_ble_eq_true rfl) (fun p e s m args below meth c A => e_X12_menSent (Γ := (p, l, e, rX12_menSent, s, m, args, below, meth, c, D, cy, ad, A, 0, 0, MQ below (QC D cy ad (some (.int r)) σ' A) args s 0 0 A)) p0 p1 σ ⟨_, hf, rfl⟩)
theorem k_X12_menSent {Γ : CX} {cc : ByteArray} {nL : Nat} {own : String} {ret : Option FieldType} {rm : Room} {σ σ' : St} {pc pc' idx : Nat} {lv : List (Nat × Value)} {rest : List Value} {p0 : Int32} {p1 : Int32} {r : Int32} (hl : Cond.methodLink own idx yX12_menSent ∈ TB) (hw : (rest.map fun v => v.category).sum ≤ 8) (hR : rX12_menSent.frames + 1 ≤ rm.frames ∧ 8 + (5 + 11) + rX12_menSent.locals ≤ rm.locals) (hd : decode cc pc = .ok (.invokevirtual idx, 3)) (hp : pc + 3 = pc') (hf : f_X12_menSent p0 p1 σ = some (r, σ')) (h : WW Γ cc nL own ret rm σ' pc' lv (.int r :: rest)) : WW Γ cc nL own ret rm σ pc lv (.int p1 :: .int p0 :: .ref (xd Γ 58) :: rest) :=
  w_callV (nn := 2) (i := 58) (As := [.int p0, .int p1]) (v := (some (.int r))) (T := TX12) (N := 32) (c_X12_menSent hf) hl mw_X12_menSent (by decide +kernel) ⟨rfl, rfl⟩ hR (lt_lit (by decide)) cel_58 rfl rfl hw hd rfl hp h
/-! WarByHoursModel.isSurely (II)Z -/
def rX12_isSurely : Room := { frames := 3, cells := 0, slots := 0, locals := 68 }
def f_X12_isSurely_26 (k0 : Int32) (σ : St) : Option (Int32 × St) :=
  gd (bz k0) <| some (k0, σ)
theorem b_X12_isSurely_26 {Γ : CX} (k0 : Int32) (σ : St) (h : RR vI Γ (f_X12_isSurely_26 k0 σ)) : WW Γ cX12_isSurely 3 RX12 (some .boolean) rX12_isSurely σ 26 [] [.int k0] := by
  unfold f_X12_isSurely_26 at h
  obtain ⟨hb, h⟩ := h.gd
  exact w_zreturn dX12_isSurely_26 hb h
def f_X12_isSurely (p0 : Int32) (p1 : Int32) (σ : St) : Option (Int32 × St) :=
  bd (f_X12_allTrains σ) fun r1 s2 =>
  bd (f_X12_menSent p1 r1 s2) fun r4 s5 =>
  gd (inb ((11 : Int32) + p0) (ln 59)) <|
  if r4 < (gr s5 59 ((11 : Int32) + p0).toNatClampNeg) then
    f_X12_isSurely_26 (0 : Int32) s5
  else
    f_X12_isSurely_26 (1 : Int32) s5
theorem e_X12_isSurely {Γ : CX} (p0 : Int32) (p1 : Int32) (σ : St) (h : RR vI Γ (f_X12_isSurely p0 p1 σ)) : WW Γ cX12_isSurely 3 RX12 (some .boolean) rX12_isSurely σ 0 [(0, .ref (xd Γ 58)), (1, .int p0), (2, .int p1)] [] := by
  unfold f_X12_isSurely at h
  refine w_aload_n 0 dX12_isSurely_0 rfl rfl rfl ?_
  refine w_iload_n 2 dX12_isSurely_1 rfl rfl rfl ?_
  refine w_aload_n 0 dX12_isSurely_2 rfl rfl rfl ?_
  obtain ⟨r1, s2, h3, h⟩ := h.bd
  refine k_X12_allTrains ml_RX12_78 (Nat.le_of_ble_eq_true rfl) ⟨Nat.le_of_ble_eq_true rfl, Nat.le_of_ble_eq_true rfl⟩ dX12_isSurely_3 rfl h3 ?_
  obtain ⟨r4, s5, h6, h⟩ := h.bd
  refine k_X12_menSent ml_RX12_305 (Nat.le_of_ble_eq_true rfl) ⟨Nat.le_of_ble_eq_true rfl, Nat.le_of_ble_eq_true rfl⟩ dX12_isSurely_6 rfl h6 ?_
  refine w_aload_n 0 dX12_isSurely_9 rfl rfl rfl ?_
  refine gf_RX12_9 dX12_isSurely_10 rfl ?_
  refine w_bipush (11 : Int32) dX12_isSurely_13 ic_bipush_11 rfl ?_
  refine w_iload_n 1 dX12_isSurely_15 rfl rfl rfl ?_
  refine w_iadd dX12_isSurely_16 rfl ?_
  obtain ⟨hi7, h⟩ := h.gd
  refine w_iald (i := 59) (lt_lit (by decide)) rfl hi7 dX12_isSurely_17 rfl ?_
  refine w_icmp_lt (tgt := 25) dX12_isSurely_18 (by decide) rfl (fun q => ?_) (fun q => ?_)
  · have h := h.tt q
    refine w_iconst (0 : Int32) dX12_isSurely_25 ic_iconst_0 rfl ?_
    exact w_sub [] rfl (b_X12_isSurely_26 (0 : Int32) s5 h)
  · have h := h.ff q
    refine w_iconst (1 : Int32) dX12_isSurely_21 ic_iconst_1 rfl ?_
    refine w_goto (tgt := 26) dX12_isSurely_22 (by decide) ?_
    exact w_sub [] rfl (b_X12_isSurely_26 (1 : Int32) s5 h)
theorem c_X12_isSurely {l : Launch} {D : va_G} {cy : Nat → ClassId} {ad : Nat → Nat} {p0 : Int32} {p1 : Int32} {σ σ' : St} {r : Int32} (hf : f_X12_isSurely p0 p1 σ = some (r, σ')) : CT l D cy ad yX12_isSurely cX12_isSurely 3 (some .boolean) rX12_isSurely [.ref (ad 58), .int p0, .int p1] σ (some (.int r)) σ' :=
  ct_of (by decide) (Nat.le_of_ble_eq_true rfl) (fun p e s m args below meth c A => e_X12_isSurely (Γ := (p, l, e, rX12_isSurely, s, m, args, below, meth, c, D, cy, ad, A, 0, 0, MQ below (QC D cy ad (some (.int r)) σ' A) args s 0 0 A)) p0 p1 σ ⟨_, hf, rfl⟩)
theorem k_X12_isSurely {Γ : CX} {cc : ByteArray} {nL : Nat} {own : String} {ret : Option FieldType} {rm : Room} {σ σ' : St} {pc pc' idx : Nat} {lv : List (Nat × Value)} {rest : List Value} {p0 : Int32} {p1 : Int32} {r : Int32} (hl : Cond.methodLink own idx yX12_isSurely ∈ TB) (hw : (rest.map fun v => v.category).sum ≤ 8) (hR : rX12_isSurely.frames + 1 ≤ rm.frames ∧ 8 + (3 + 11) + rX12_isSurely.locals ≤ rm.locals) (hd : decode cc pc = .ok (.invokevirtual idx, 3)) (hp : pc + 3 = pc') (hf : f_X12_isSurely p0 p1 σ = some (r, σ')) (h : WW Γ cc nL own ret rm σ' pc' lv (.int r :: rest)) : WW Γ cc nL own ret rm σ pc lv (.int p1 :: .int p0 :: .ref (xd Γ 58) :: rest) :=
  w_callV (nn := 2) (i := 58) (As := [.int p0, .int p1]) (v := (some (.int r))) (T := TX12) (N := 32) (c_X12_isSurely hf) hl mw_X12_isSurely (by decide +kernel) ⟨rfl, rfl⟩ hR (lt_lit (by decide)) cel_58 rfl rfl hw hd rfl hp h
/-! WarByHoursModel.take (II)V -/
def rX12_take : Room := { frames := 0, cells := 0, slots := 0, locals := 0 }
def f_X12_take_17 (v1 : Int32) (v2 : Int32) (σ : St) : Option (Unit × St) :=
  bnd (sf σ 58 18 v1) fun s1 =>
  bnd (sf s1 58 19 v2) fun s2 =>
  some ((), s2)
theorem b_X12_take_17 {Γ : CX} (v1 : Int32) (v2 : Int32) (σ : St) (h : RR vU Γ (f_X12_take_17 v1 v2 σ)) : WW Γ cX12_take 3 RX12 none rX12_take σ 17 [(0, .ref (xd Γ 58)), (1, .int v1), (2, .int v2)] [] := by
  unfold f_X12_take_17 at h
  refine w_aload_n 0 dX12_take_17 rfl rfl rfl ?_
  refine w_iload_n 1 dX12_take_18 rfl rfl rfl ?_
  refine pf_RX12_311 dX12_take_19 rfl ?_
  obtain ⟨s1, es1⟩ : ∃ y : St, y = (sf σ 58 18 v1) := ⟨_, rfl⟩
  rw [← es1]
  replace h := h.bnd es1
  clear es1
  refine w_aload_n 0 dX12_take_22 rfl rfl rfl ?_
  refine w_iload_n 2 dX12_take_23 rfl rfl rfl ?_
  refine pf_RX12_308 dX12_take_24 rfl ?_
  obtain ⟨s2, es2⟩ : ∃ y : St, y = (sf s1 58 19 v2) := ⟨_, rfl⟩
  rw [← es2]
  replace h := h.bnd es2
  clear es2
  exact w_return dX12_take_27 h
def f_X12_take (p0 : Int32) (p1 : Int32) (σ : St) : Option (Unit × St) :=
  if (gf σ 58 19) = (-1 : Int32) then
    f_X12_take_17 p0 p1 σ
  else
    if p0 < (gf σ 58 18) then
      f_X12_take_17 p0 p1 σ
    else
      some ((), σ)
theorem e_X12_take {Γ : CX} (p0 : Int32) (p1 : Int32) (σ : St) (h : RR vU Γ (f_X12_take p0 p1 σ)) : WW Γ cX12_take 3 RX12 none rX12_take σ 0 [(0, .ref (xd Γ 58)), (1, .int p0), (2, .int p1)] [] := by
  unfold f_X12_take at h
  refine w_aload_n 0 dX12_take_0 rfl rfl rfl ?_
  refine gf_RX12_308 dX12_take_1 rfl ?_
  refine w_iconst (-1 : Int32) dX12_take_4 ic_iconst_m1 rfl ?_
  refine w_icmp_eq (tgt := 17) dX12_take_5 (by decide) rfl (fun q => ?_) (fun q => ?_)
  · have h := h.tt q
    exact w_sub [0, 1, 2] rfl (b_X12_take_17 p0 p1 σ h)
  · have h := h.ff q
    refine w_iload_n 1 dX12_take_8 rfl rfl rfl ?_
    refine w_aload_n 0 dX12_take_9 rfl rfl rfl ?_
    refine gf_RX12_311 dX12_take_10 rfl ?_
    refine w_icmp_lt (tgt := 17) dX12_take_13 (by decide) rfl (fun q => ?_) (fun q => ?_)
    · have h := h.tt q
      exact w_sub [0, 1, 2] rfl (b_X12_take_17 p0 p1 σ h)
    · have h := h.ff q
      exact w_return dX12_take_16 h
theorem c_X12_take {l : Launch} {D : va_G} {cy : Nat → ClassId} {ad : Nat → Nat} {p0 : Int32} {p1 : Int32} {σ σ' : St} {r : Unit} (hf : f_X12_take p0 p1 σ = some (r, σ')) : CT l D cy ad yX12_take cX12_take 3 none rX12_take [.ref (ad 58), .int p0, .int p1] σ none σ' :=
  ct_of (by decide) (Nat.le_of_ble_eq_true rfl) (fun p e s m args below meth c A => e_X12_take (Γ := (p, l, e, rX12_take, s, m, args, below, meth, c, D, cy, ad, A, 0, 0, MQ below (QC D cy ad none σ' A) args s 0 0 A)) p0 p1 σ ⟨_, hf, rfl⟩)
theorem k_X12_take {Γ : CX} {cc : ByteArray} {nL : Nat} {own : String} {ret : Option FieldType} {rm : Room} {σ σ' : St} {pc pc' idx : Nat} {lv : List (Nat × Value)} {rest : List Value} {p0 : Int32} {p1 : Int32} {r : Unit} (hl : Cond.methodLink own idx yX12_take ∈ TB) (hw : (rest.map fun v => v.category).sum ≤ 8) (hR : rX12_take.frames + 1 ≤ rm.frames ∧ 8 + (3 + 11) + rX12_take.locals ≤ rm.locals) (hd : decode cc pc = .ok (.invokevirtual idx, 3)) (hp : pc + 3 = pc') (hf : f_X12_take p0 p1 σ = some (r, σ')) (h : WW Γ cc nL own ret rm σ' pc' lv (rest)) : WW Γ cc nL own ret rm σ pc lv (.int p1 :: .int p0 :: .ref (xd Γ 58) :: rest) :=
  w_callV (nn := 2) (i := 58) (As := [.int p0, .int p1]) (v := none) (T := TX12) (N := 32) (c_X12_take hf) hl mw_X12_take (by decide +kernel) ⟨rfl, rfl⟩ hR (lt_lit (by decide)) cel_58 rfl rfl hw hd rfl hp h
/-! WarByHoursModel.orNone ()I -/
def rX12_orNone : Room := { frames := 0, cells := 0, slots := 0, locals := 0 }
def f_X12_orNone_16 (k0 : Int32) (σ : St) : Option (Int32 × St) :=
  some (k0, σ)
theorem b_X12_orNone_16 {Γ : CX} (k0 : Int32) (σ : St) (h : RR vI Γ (f_X12_orNone_16 k0 σ)) : WW Γ cX12_orNone 1 RX12 (some .int) rX12_orNone σ 16 [] [.int k0] := by
  unfold f_X12_orNone_16 at h
  exact w_ireturn dX12_orNone_16 h
def f_X12_orNone (σ : St) : Option (Int32 × St) :=
  if (gf σ 58 19) = (-1 : Int32) then
    f_X12_orNone_16 (-1 : Int32) σ
  else
    f_X12_orNone_16 (gf σ 58 18) σ
theorem e_X12_orNone {Γ : CX} (σ : St) (h : RR vI Γ (f_X12_orNone σ)) : WW Γ cX12_orNone 1 RX12 (some .int) rX12_orNone σ 0 [(0, .ref (xd Γ 58))] [] := by
  unfold f_X12_orNone at h
  refine w_aload_n 0 dX12_orNone_0 rfl rfl rfl ?_
  refine gf_RX12_308 dX12_orNone_1 rfl ?_
  refine w_iconst (-1 : Int32) dX12_orNone_4 ic_iconst_m1 rfl ?_
  refine w_icmp_ne (tgt := 12) dX12_orNone_5 (by decide) rfl (fun q => ?_) (fun q => ?_)
  · have h := h.ff q
    refine w_aload_n 0 dX12_orNone_12 rfl rfl rfl ?_
    refine gf_RX12_311 dX12_orNone_13 rfl ?_
    exact w_sub [] rfl (b_X12_orNone_16 (gf σ 58 18) σ h)
  · have h := h.tt q
    refine w_iconst (-1 : Int32) dX12_orNone_8 ic_iconst_m1 rfl ?_
    refine w_goto (tgt := 16) dX12_orNone_9 (by decide) ?_
    exact w_sub [] rfl (b_X12_orNone_16 (-1 : Int32) σ h)
theorem c_X12_orNone {l : Launch} {D : va_G} {cy : Nat → ClassId} {ad : Nat → Nat}  {σ σ' : St} {r : Int32} (hf : f_X12_orNone σ = some (r, σ')) : CT l D cy ad yX12_orNone cX12_orNone 1 (some .int) rX12_orNone [.ref (ad 58)] σ (some (.int r)) σ' :=
  ct_of (by decide) (Nat.le_of_ble_eq_true rfl) (fun p e s m args below meth c A => e_X12_orNone (Γ := (p, l, e, rX12_orNone, s, m, args, below, meth, c, D, cy, ad, A, 0, 0, MQ below (QC D cy ad (some (.int r)) σ' A) args s 0 0 A)) σ ⟨_, hf, rfl⟩)
theorem k_X12_orNone {Γ : CX} {cc : ByteArray} {nL : Nat} {own : String} {ret : Option FieldType} {rm : Room} {σ σ' : St} {pc pc' idx : Nat} {lv : List (Nat × Value)} {rest : List Value}  {r : Int32} (hl : Cond.methodLink own idx yX12_orNone ∈ TB) (hw : (rest.map fun v => v.category).sum ≤ 8) (hR : rX12_orNone.frames + 1 ≤ rm.frames ∧ 8 + (1 + 11) + rX12_orNone.locals ≤ rm.locals) (hd : decode cc pc = .ok (.invokevirtual idx, 3)) (hp : pc + 3 = pc') (hf : f_X12_orNone σ = some (r, σ')) (h : WW Γ cc nL own ret rm σ' pc' lv (.int r :: rest)) : WW Γ cc nL own ret rm σ pc lv (.ref (xd Γ 58) :: rest) :=
  w_callV (nn := 0) (i := 58) (As := []) (v := (some (.int r))) (T := TX12) (N := 32) (c_X12_orNone hf) hl mw_X12_orNone (by decide +kernel) ⟨rfl, rfl⟩ hR (lt_lit (by decide)) cel_58 rfl rfl hw hd rfl hp h
/-! WarByHoursModel.findSend (IZ)V -/
def rX12_findSend : Room := { frames := 4, cells := 0, slots := 0, locals := 90 }
def f_X12_findSend_63 (K14 : Int32 × Int32 × Int32 × Int32 × St → Option (Unit × St)) (v1 : Int32) (v2 : Int32) (v3 : Int32) (v4 : Int32) (σ : St) : Option (Unit × St) :=
  bnd (v4 + (1 : Int32)) fun x1 =>
  K14 (v1, v2, v3, x1, σ)
theorem b_X12_findSend_63 {Γ : CX} (K14 : Int32 × Int32 × Int32 × Int32 × St → Option (Unit × St)) (hK14 : ∀ (v1 : Int32) (v2 : Int32) (v3 : Int32) (v4 : Int32) (σ : St), RR vU Γ (K14 (v1, v2, v3, v4, σ)) → WW Γ cX12_findSend 5 RX12 none rX12_findSend σ 14 [(0, .ref (xd Γ 58)), (1, .int v1), (2, .int v2), (3, .int v3), (4, .int v4)] []) (v1 : Int32) (v2 : Int32) (v3 : Int32) (v4 : Int32) (σ : St) (h : RR vU Γ (f_X12_findSend_63 K14 v1 v2 v3 v4 σ)) : WW Γ cX12_findSend 5 RX12 none rX12_findSend σ 63 [(0, .ref (xd Γ 58)), (1, .int v1), (2, .int v2), (3, .int v3), (4, .int v4)] [] := by
  unfold f_X12_findSend_63 at h
  obtain ⟨x1, ex1⟩ : ∃ y : Int32, y = (v4 + (1 : Int32)) := ⟨_, rfl⟩
  replace h := h.bnd ex1
  refine w_iinc 4 x1 [(4, .int x1), (0, .ref (xd Γ 58)), (1, .int v1), (2, .int v2), (3, .int v3)] dX12_findSend_63 rfl (by rw [ex1, ic_iconst_1]) (by decide) rfl rfl ?_
  clear ex1
  refine w_goto (tgt := 14) dX12_findSend_66 (by decide) ?_
  exact w_sub [1, 2, 3, 4, 0] rfl (hK14 v1 v2 v3 x1 σ h)
def f_X12_findSend_58 (K14 : Int32 × Int32 × Int32 × Int32 × St → Option (Unit × St)) (v1 : Int32) (v2 : Int32) (v3 : Int32) (v4 : Int32) (k0 : Int32) (σ : St) : Option (Unit × St) :=
  bd (f_X12_take k0 v4 σ) fun _ s2 =>
  f_X12_findSend_63 K14 v1 v2 v3 v4 s2
theorem b_X12_findSend_58 {Γ : CX} (K14 : Int32 × Int32 × Int32 × Int32 × St → Option (Unit × St)) (hK14 : ∀ (v1 : Int32) (v2 : Int32) (v3 : Int32) (v4 : Int32) (σ : St), RR vU Γ (K14 (v1, v2, v3, v4, σ)) → WW Γ cX12_findSend 5 RX12 none rX12_findSend σ 14 [(0, .ref (xd Γ 58)), (1, .int v1), (2, .int v2), (3, .int v3), (4, .int v4)] []) (v1 : Int32) (v2 : Int32) (v3 : Int32) (v4 : Int32) (k0 : Int32) (σ : St) (h : RR vU Γ (f_X12_findSend_58 K14 v1 v2 v3 v4 k0 σ)) : WW Γ cX12_findSend 5 RX12 none rX12_findSend σ 58 [(0, .ref (xd Γ 58)), (1, .int v1), (2, .int v2), (3, .int v3), (4, .int v4)] [.int k0, .ref (xd Γ 58)] := by
  unfold f_X12_findSend_58 at h
  refine w_iload 4 dX12_findSend_58 rfl rfl ?_
  obtain ⟨r1, s2, h3, h⟩ := h.bd
  refine k_X12_take ml_RX12_323 (Nat.le_of_ble_eq_true rfl) ⟨Nat.le_of_ble_eq_true rfl, Nat.le_of_ble_eq_true rfl⟩ dX12_findSend_60 rfl h3 ?_
  exact w_sub [0, 1, 2, 3, 4] rfl (b_X12_findSend_63 K14 hK14 v1 v2 v3 v4 s2 h)
def g_X12_findSend_14 (K14 : Int32 × Int32 × Int32 × Int32 × St → Option (Unit × St)) (x : Int32 × Int32 × Int32 × Int32 × St) : Option (Unit × St) := match x with
  | (v1, v2, v3, v4, σ) =>
  if v3 < v4 then
    some ((), σ)
  else
    if (v4 &&& (v3 ^^^ (-1 : Int32))) = 0 then
      bd (f_X12_isSurely v1 v4 σ) fun r1 s2 =>
      if r1 = 0 then
        f_X12_findSend_63 K14 v1 v2 v3 v4 s2
      else
        if v2 = 0 then
          bd (f_X12_bits v4 s2) fun r4 s5 =>
          f_X12_findSend_58 K14 v1 v2 v3 v4 r4 s5
        else
          bd (f_X12_priceOf v4 s2) fun r7 s8 =>
          f_X12_findSend_58 K14 v1 v2 v3 v4 r7 s8
    else
      f_X12_findSend_63 K14 v1 v2 v3 v4 σ
theorem l_X12_findSend_14 {Γ : CX} : ∀ (n : Nat) (v1 : Int32) (v2 : Int32) (v3 : Int32) (v4 : Int32) (σ : St), RR vU Γ (itr (g_X12_findSend_14) n (v1, v2, v3, v4, σ)) → WW Γ cX12_findSend 5 RX12 none rX12_findSend σ 14 [(0, .ref (xd Γ 58)), (1, .int v1), (2, .int v2), (3, .int v3), (4, .int v4)] [] := by
  intro n
  induction n with
  | zero => intro v1 v2 v3 v4 σ h; exact RR.no h
  | succ n hK14 =>
  intro v1 v2 v3 v4 σ h
  have h : RR vU Γ (g_X12_findSend_14 (itr (g_X12_findSend_14) n) (v1, v2, v3, v4, σ)) := h
  generalize itr (g_X12_findSend_14) n = K14 at h hK14
  unfold g_X12_findSend_14 at h
  dsimp only at h
  refine w_iload 4 dX12_findSend_14 rfl rfl ?_
  refine w_iload_n 3 dX12_findSend_16 rfl rfl rfl ?_
  refine w_icmp_gt (tgt := 69) dX12_findSend_17 (by decide) rfl (fun q => ?_) (fun q => ?_)
  · have h := h.tt q
    exact w_return dX12_findSend_69 h
  · have h := h.ff q
    refine w_iload 4 dX12_findSend_20 rfl rfl ?_
    refine w_iload_n 3 dX12_findSend_22 rfl rfl rfl ?_
    refine w_iconst (-1 : Int32) dX12_findSend_23 ic_iconst_m1 rfl ?_
    refine w_ixor dX12_findSend_24 rfl ?_
    refine w_iand dX12_findSend_25 rfl ?_
    refine w_if_ne (tgt := 63) dX12_findSend_26 (by decide) rfl (fun q => ?_) (fun q => ?_)
    · have h := h.ff q
      exact w_sub [0, 1, 2, 3, 4] rfl (b_X12_findSend_63 K14 hK14 v1 v2 v3 v4 σ h)
    · have h := h.tt q
      refine w_aload_n 0 dX12_findSend_29 rfl rfl rfl ?_
      refine w_iload_n 1 dX12_findSend_30 rfl rfl rfl ?_
      refine w_iload 4 dX12_findSend_31 rfl rfl ?_
      obtain ⟨r1, s2, h3, h⟩ := h.bd
      refine k_X12_isSurely ml_RX12_317 (Nat.le_of_ble_eq_true rfl) ⟨Nat.le_of_ble_eq_true rfl, Nat.le_of_ble_eq_true rfl⟩ dX12_findSend_33 rfl h3 ?_
      refine w_if_eq (tgt := 63) dX12_findSend_36 (by decide) rfl (fun q => ?_) (fun q => ?_)
      · have h := h.tt q
        exact w_sub [0, 1, 2, 3, 4] rfl (b_X12_findSend_63 K14 hK14 v1 v2 v3 v4 s2 h)
      · have h := h.ff q
        refine w_aload_n 0 dX12_findSend_39 rfl rfl rfl ?_
        refine w_iload_n 2 dX12_findSend_40 rfl rfl rfl ?_
        refine w_if_eq (tgt := 53) dX12_findSend_41 (by decide) rfl (fun q => ?_) (fun q => ?_)
        · have h := h.tt q
          refine w_iload 4 dX12_findSend_53 rfl rfl ?_
          obtain ⟨r4, s5, h6, h⟩ := h.bd
          refine k_X12_bits ml_RX12_281 (Nat.le_of_ble_eq_true rfl) ⟨Nat.le_of_ble_eq_true rfl, Nat.le_of_ble_eq_true rfl⟩ dX12_findSend_55 rfl h6 ?_
          exact w_sub [0, 1, 2, 3, 4] rfl (b_X12_findSend_58 K14 hK14 v1 v2 v3 v4 r4 s5 h)
        · have h := h.ff q
          refine w_aload_n 0 dX12_findSend_44 rfl rfl rfl ?_
          refine w_iload 4 dX12_findSend_45 rfl rfl ?_
          obtain ⟨r7, s8, h9, h⟩ := h.bd
          refine k_X12_priceOf ml_RX12_320 (Nat.le_of_ble_eq_true rfl) ⟨Nat.le_of_ble_eq_true rfl, Nat.le_of_ble_eq_true rfl⟩ dX12_findSend_47 rfl h9 ?_
          refine w_goto (tgt := 58) dX12_findSend_50 (by decide) ?_
          exact w_sub [0, 1, 2, 3, 4] rfl (b_X12_findSend_58 K14 hK14 v1 v2 v3 v4 r7 s8 h)
def f_X12_findSend (p0 : Int32) (p1 : Int32) (σ : St) : Option (Unit × St) :=
  bnd (sf σ 58 19 (-1 : Int32)) fun s1 =>
  bd (f_X12_trainsOf p0 s1) fun r2 s3 =>
  itr (g_X12_findSend_14) FU (p0, p1, r2, (0 : Int32), s3)
theorem e_X12_findSend {Γ : CX} (p0 : Int32) (p1 : Int32) (σ : St) (h : RR vU Γ (f_X12_findSend p0 p1 σ)) : WW Γ cX12_findSend 5 RX12 none rX12_findSend σ 0 [(0, .ref (xd Γ 58)), (1, .int p0), (2, .int p1)] [] := by
  unfold f_X12_findSend at h
  refine w_aload_n 0 dX12_findSend_0 rfl rfl rfl ?_
  refine w_iconst (-1 : Int32) dX12_findSend_1 ic_iconst_m1 rfl ?_
  refine pf_RX12_308 dX12_findSend_2 rfl ?_
  obtain ⟨s1, es1⟩ : ∃ y : St, y = (sf σ 58 19 (-1 : Int32)) := ⟨_, rfl⟩
  rw [← es1]
  replace h := h.bnd es1
  clear es1
  refine w_aload_n 0 dX12_findSend_5 rfl rfl rfl ?_
  refine w_iload_n 1 dX12_findSend_6 rfl rfl rfl ?_
  obtain ⟨r2, s3, h4, h⟩ := h.bd
  refine k_X12_trainsOf ml_RX12_314 (Nat.le_of_ble_eq_true rfl) ⟨Nat.le_of_ble_eq_true rfl, Nat.le_of_ble_eq_true rfl⟩ dX12_findSend_7 rfl h4 ?_
  refine w_istore_n [(3, .int r2), (0, .ref (xd Γ 58)), (1, .int p0), (2, .int p1)] dX12_findSend_10 rfl (by decide) rfl rfl ?_
  refine w_iconst (0 : Int32) dX12_findSend_11 ic_iconst_0 rfl ?_
  refine w_istore [(4, .int (0 : Int32)), (3, .int r2), (0, .ref (xd Γ 58)), (1, .int p0), (2, .int p1)] dX12_findSend_12 (by decide) rfl rfl ?_
  exact w_sub [2, 3, 4, 1, 0] rfl (l_X12_findSend_14 FU p0 p1 r2 (0 : Int32) s3 h)
theorem c_X12_findSend {l : Launch} {D : va_G} {cy : Nat → ClassId} {ad : Nat → Nat} {p0 : Int32} {p1 : Int32} {σ σ' : St} {r : Unit} (hf : f_X12_findSend p0 p1 σ = some (r, σ')) : CT l D cy ad yX12_findSend cX12_findSend 5 none rX12_findSend [.ref (ad 58), .int p0, .int p1] σ none σ' :=
  ct_of (by decide) (Nat.le_of_ble_eq_true rfl) (fun p e s m args below meth c A => e_X12_findSend (Γ := (p, l, e, rX12_findSend, s, m, args, below, meth, c, D, cy, ad, A, 0, 0, MQ below (QC D cy ad none σ' A) args s 0 0 A)) p0 p1 σ ⟨_, hf, rfl⟩)
theorem k_X12_findSend {Γ : CX} {cc : ByteArray} {nL : Nat} {own : String} {ret : Option FieldType} {rm : Room} {σ σ' : St} {pc pc' idx : Nat} {lv : List (Nat × Value)} {rest : List Value} {p0 : Int32} {p1 : Int32} {r : Unit} (hl : Cond.methodLink own idx yX12_findSend ∈ TB) (hw : (rest.map fun v => v.category).sum ≤ 8) (hR : rX12_findSend.frames + 1 ≤ rm.frames ∧ 8 + (5 + 11) + rX12_findSend.locals ≤ rm.locals) (hd : decode cc pc = .ok (.invokevirtual idx, 3)) (hp : pc + 3 = pc') (hf : f_X12_findSend p0 p1 σ = some (r, σ')) (h : WW Γ cc nL own ret rm σ' pc' lv (rest)) : WW Γ cc nL own ret rm σ pc lv (.int p1 :: .int p0 :: .ref (xd Γ 58) :: rest) :=
  w_callV (nn := 2) (i := 58) (As := [.int p0, .int p1]) (v := none) (T := TX12) (N := 32) (c_X12_findSend hf) hl mw_X12_findSend (by decide +kernel) ⟨rfl, rfl⟩ hR (lt_lit (by decide)) cel_58 rfl rfl hw hd rfl hp h
/-! WarByHoursModel.send (I)I -/
def rX12_send : Room := { frames := 5, cells := 0, slots := 0, locals := 114 }
def f_X12_send (p0 : Int32) (σ : St) : Option (Int32 × St) :=
  bd (f_X12_isSide p0 σ) fun r1 s2 =>
  if r1 = 0 then
    some ((-2 : Int32), s2)
  else
    bd (f_X12_findSend p0 (1 : Int32) s2) fun _ s5 =>
    bd (f_X12_orNone s5) fun r7 s8 =>
    some (r7, s8)
theorem e_X12_send {Γ : CX} (p0 : Int32) (σ : St) (h : RR vI Γ (f_X12_send p0 σ)) : WW Γ cX12_send 2 RX12 (some .int) rX12_send σ 0 [(0, .ref (xd Γ 58)), (1, .int p0)] [] := by
  unfold f_X12_send at h
  refine w_aload_n 0 dX12_send_0 rfl rfl rfl ?_
  refine w_iload_n 1 dX12_send_1 rfl rfl rfl ?_
  obtain ⟨r1, s2, h3, h⟩ := h.bd
  refine k_X12_isSide ml_RX12_236 (Nat.le_of_ble_eq_true rfl) ⟨Nat.le_of_ble_eq_true rfl, Nat.le_of_ble_eq_true rfl⟩ dX12_send_2 rfl h3 ?_
  refine w_if_ne (tgt := 11) dX12_send_5 (by decide) rfl (fun q => ?_) (fun q => ?_)
  · have h := h.ff q
    refine w_aload_n 0 dX12_send_11 rfl rfl rfl ?_
    refine w_iload_n 1 dX12_send_12 rfl rfl rfl ?_
    refine w_iconst (1 : Int32) dX12_send_13 ic_iconst_1 rfl ?_
    obtain ⟨r4, s5, h6, h⟩ := h.bd
    refine k_X12_findSend ml_RX12_327 (Nat.le_of_ble_eq_true rfl) ⟨Nat.le_of_ble_eq_true rfl, Nat.le_of_ble_eq_true rfl⟩ dX12_send_14 rfl h6 ?_
    refine w_aload_n 0 dX12_send_17 rfl rfl rfl ?_
    obtain ⟨r7, s8, h9, h⟩ := h.bd
    refine k_X12_orNone ml_RX12_331 (Nat.le_of_ble_eq_true rfl) ⟨Nat.le_of_ble_eq_true rfl, Nat.le_of_ble_eq_true rfl⟩ dX12_send_18 rfl h9 ?_
    exact w_ireturn dX12_send_21 h
  · have h := h.tt q
    refine w_bipush (-2 : Int32) dX12_send_8 ic_bipush_m2 rfl ?_
    exact w_ireturn dX12_send_10 h
theorem c_X12_send {l : Launch} {D : va_G} {cy : Nat → ClassId} {ad : Nat → Nat} {p0 : Int32} {σ σ' : St} {r : Int32} (hf : f_X12_send p0 σ = some (r, σ')) : CT l D cy ad yX12_send cX12_send 2 (some .int) rX12_send [.ref (ad 58), .int p0] σ (some (.int r)) σ' :=
  ct_of (by decide) (Nat.le_of_ble_eq_true rfl) (fun p e s m args below meth c A => e_X12_send (Γ := (p, l, e, rX12_send, s, m, args, below, meth, c, D, cy, ad, A, 0, 0, MQ below (QC D cy ad (some (.int r)) σ' A) args s 0 0 A)) p0 σ ⟨_, hf, rfl⟩)
theorem k_X12_send {Γ : CX} {cc : ByteArray} {nL : Nat} {own : String} {ret : Option FieldType} {rm : Room} {σ σ' : St} {pc pc' idx : Nat} {lv : List (Nat × Value)} {rest : List Value} {p0 : Int32} {r : Int32} (hl : Cond.methodLink own idx yX12_send ∈ TB) (hw : (rest.map fun v => v.category).sum ≤ 8) (hR : rX12_send.frames + 1 ≤ rm.frames ∧ 8 + (2 + 11) + rX12_send.locals ≤ rm.locals) (hd : decode cc pc = .ok (.invokevirtual idx, 3)) (hp : pc + 3 = pc') (hf : f_X12_send p0 σ = some (r, σ')) (h : WW Γ cc nL own ret rm σ' pc' lv (.int r :: rest)) : WW Γ cc nL own ret rm σ pc lv (.int p0 :: .ref (xd Γ 58) :: rest) :=
  w_callV (nn := 1) (i := 58) (As := [.int p0]) (v := (some (.int r))) (T := TX12) (N := 32) (c_X12_send hf) hl mw_X12_send (by decide +kernel) ⟨rfl, rfl⟩ hR (lt_lit (by decide)) cel_58 rfl rfl hw hd rfl hp h
/-! WarByHoursModel.sent (I)I -/
def rX12_sent : Room := { frames := 5, cells := 0, slots := 0, locals := 114 }
def f_X12_sent (p0 : Int32) (σ : St) : Option (Int32 × St) :=
  bd (f_X12_isSide p0 σ) fun r1 s2 =>
  if r1 = 0 then
    some ((-2 : Int32), s2)
  else
    bd (f_X12_findSend p0 (1 : Int32) s2) fun _ s5 =>
    some ((gf s5 58 19), s5)
theorem e_X12_sent {Γ : CX} (p0 : Int32) (σ : St) (h : RR vI Γ (f_X12_sent p0 σ)) : WW Γ cX12_sent 2 RX12 (some .int) rX12_sent σ 0 [(0, .ref (xd Γ 58)), (1, .int p0)] [] := by
  unfold f_X12_sent at h
  refine w_aload_n 0 dX12_sent_0 rfl rfl rfl ?_
  refine w_iload_n 1 dX12_sent_1 rfl rfl rfl ?_
  obtain ⟨r1, s2, h3, h⟩ := h.bd
  refine k_X12_isSide ml_RX12_236 (Nat.le_of_ble_eq_true rfl) ⟨Nat.le_of_ble_eq_true rfl, Nat.le_of_ble_eq_true rfl⟩ dX12_sent_2 rfl h3 ?_
  refine w_if_ne (tgt := 11) dX12_sent_5 (by decide) rfl (fun q => ?_) (fun q => ?_)
  · have h := h.ff q
    refine w_aload_n 0 dX12_sent_11 rfl rfl rfl ?_
    refine w_iload_n 1 dX12_sent_12 rfl rfl rfl ?_
    refine w_iconst (1 : Int32) dX12_sent_13 ic_iconst_1 rfl ?_
    obtain ⟨r4, s5, h6, h⟩ := h.bd
    refine k_X12_findSend ml_RX12_327 (Nat.le_of_ble_eq_true rfl) ⟨Nat.le_of_ble_eq_true rfl, Nat.le_of_ble_eq_true rfl⟩ dX12_sent_14 rfl h6 ?_
    refine w_aload_n 0 dX12_sent_17 rfl rfl rfl ?_
    refine gf_RX12_308 dX12_sent_18 rfl ?_
    exact w_ireturn dX12_sent_21 h
  · have h := h.tt q
    refine w_bipush (-2 : Int32) dX12_sent_8 ic_bipush_m2 rfl ?_
    exact w_ireturn dX12_sent_10 h
theorem c_X12_sent {l : Launch} {D : va_G} {cy : Nat → ClassId} {ad : Nat → Nat} {p0 : Int32} {σ σ' : St} {r : Int32} (hf : f_X12_sent p0 σ = some (r, σ')) : CT l D cy ad yX12_sent cX12_sent 2 (some .int) rX12_sent [.ref (ad 58), .int p0] σ (some (.int r)) σ' :=
  ct_of (by decide) (Nat.le_of_ble_eq_true rfl) (fun p e s m args below meth c A => e_X12_sent (Γ := (p, l, e, rX12_sent, s, m, args, below, meth, c, D, cy, ad, A, 0, 0, MQ below (QC D cy ad (some (.int r)) σ' A) args s 0 0 A)) p0 σ ⟨_, hf, rfl⟩)
theorem k_X12_sent {Γ : CX} {cc : ByteArray} {nL : Nat} {own : String} {ret : Option FieldType} {rm : Room} {σ σ' : St} {pc pc' idx : Nat} {lv : List (Nat × Value)} {rest : List Value} {p0 : Int32} {r : Int32} (hl : Cond.methodLink own idx yX12_sent ∈ TB) (hw : (rest.map fun v => v.category).sum ≤ 8) (hR : rX12_sent.frames + 1 ≤ rm.frames ∧ 8 + (2 + 11) + rX12_sent.locals ≤ rm.locals) (hd : decode cc pc = .ok (.invokevirtual idx, 3)) (hp : pc + 3 = pc') (hf : f_X12_sent p0 σ = some (r, σ')) (h : WW Γ cc nL own ret rm σ' pc' lv (.int r :: rest)) : WW Γ cc nL own ret rm σ pc lv (.int p0 :: .ref (xd Γ 58) :: rest) :=
  w_callV (nn := 1) (i := 58) (As := [.int p0]) (v := (some (.int r))) (T := TX12) (N := 32) (c_X12_sent hf) hl mw_X12_sent (by decide +kernel) ⟨rfl, rfl⟩ hR (lt_lit (by decide)) cel_58 rfl rfl hw hd rfl hp h
/-! WarByHoursModel.fewest (I)I -/
def rX12_fewest : Room := { frames := 5, cells := 0, slots := 0, locals := 114 }
def f_X12_fewest (p0 : Int32) (σ : St) : Option (Int32 × St) :=
  bd (f_X12_isSide p0 σ) fun r1 s2 =>
  if r1 = 0 then
    some ((-2 : Int32), s2)
  else
    bd (f_X12_findSend p0 (0 : Int32) s2) fun _ s5 =>
    bd (f_X12_orNone s5) fun r7 s8 =>
    some (r7, s8)
theorem e_X12_fewest {Γ : CX} (p0 : Int32) (σ : St) (h : RR vI Γ (f_X12_fewest p0 σ)) : WW Γ cX12_fewest 2 RX12 (some .int) rX12_fewest σ 0 [(0, .ref (xd Γ 58)), (1, .int p0)] [] := by
  unfold f_X12_fewest at h
  refine w_aload_n 0 dX12_fewest_0 rfl rfl rfl ?_
  refine w_iload_n 1 dX12_fewest_1 rfl rfl rfl ?_
  obtain ⟨r1, s2, h3, h⟩ := h.bd
  refine k_X12_isSide ml_RX12_236 (Nat.le_of_ble_eq_true rfl) ⟨Nat.le_of_ble_eq_true rfl, Nat.le_of_ble_eq_true rfl⟩ dX12_fewest_2 rfl h3 ?_
  refine w_if_ne (tgt := 11) dX12_fewest_5 (by decide) rfl (fun q => ?_) (fun q => ?_)
  · have h := h.ff q
    refine w_aload_n 0 dX12_fewest_11 rfl rfl rfl ?_
    refine w_iload_n 1 dX12_fewest_12 rfl rfl rfl ?_
    refine w_iconst (0 : Int32) dX12_fewest_13 ic_iconst_0 rfl ?_
    obtain ⟨r4, s5, h6, h⟩ := h.bd
    refine k_X12_findSend ml_RX12_327 (Nat.le_of_ble_eq_true rfl) ⟨Nat.le_of_ble_eq_true rfl, Nat.le_of_ble_eq_true rfl⟩ dX12_fewest_14 rfl h6 ?_
    refine w_aload_n 0 dX12_fewest_17 rfl rfl rfl ?_
    obtain ⟨r7, s8, h9, h⟩ := h.bd
    refine k_X12_orNone ml_RX12_331 (Nat.le_of_ble_eq_true rfl) ⟨Nat.le_of_ble_eq_true rfl, Nat.le_of_ble_eq_true rfl⟩ dX12_fewest_18 rfl h9 ?_
    exact w_ireturn dX12_fewest_21 h
  · have h := h.tt q
    refine w_bipush (-2 : Int32) dX12_fewest_8 ic_bipush_m2 rfl ?_
    exact w_ireturn dX12_fewest_10 h
theorem c_X12_fewest {l : Launch} {D : va_G} {cy : Nat → ClassId} {ad : Nat → Nat} {p0 : Int32} {σ σ' : St} {r : Int32} (hf : f_X12_fewest p0 σ = some (r, σ')) : CT l D cy ad yX12_fewest cX12_fewest 2 (some .int) rX12_fewest [.ref (ad 58), .int p0] σ (some (.int r)) σ' :=
  ct_of (by decide) (Nat.le_of_ble_eq_true rfl) (fun p e s m args below meth c A => e_X12_fewest (Γ := (p, l, e, rX12_fewest, s, m, args, below, meth, c, D, cy, ad, A, 0, 0, MQ below (QC D cy ad (some (.int r)) σ' A) args s 0 0 A)) p0 σ ⟨_, hf, rfl⟩)
theorem k_X12_fewest {Γ : CX} {cc : ByteArray} {nL : Nat} {own : String} {ret : Option FieldType} {rm : Room} {σ σ' : St} {pc pc' idx : Nat} {lv : List (Nat × Value)} {rest : List Value} {p0 : Int32} {r : Int32} (hl : Cond.methodLink own idx yX12_fewest ∈ TB) (hw : (rest.map fun v => v.category).sum ≤ 8) (hR : rX12_fewest.frames + 1 ≤ rm.frames ∧ 8 + (2 + 11) + rX12_fewest.locals ≤ rm.locals) (hd : decode cc pc = .ok (.invokevirtual idx, 3)) (hp : pc + 3 = pc') (hf : f_X12_fewest p0 σ = some (r, σ')) (h : WW Γ cc nL own ret rm σ' pc' lv (.int r :: rest)) : WW Γ cc nL own ret rm σ pc lv (.int p0 :: .ref (xd Γ 58) :: rest) :=
  w_callV (nn := 1) (i := 58) (As := [.int p0]) (v := (some (.int r))) (T := TX12) (N := 32) (c_X12_fewest hf) hl mw_X12_fewest (by decide +kernel) ⟨rfl, rfl⟩ hR (lt_lit (by decide)) cel_58 rfl rfl hw hd rfl hp h
/-! WarByHoursModel.enoughBy (II)J -/
def rX12_enoughBy : Room := { frames := 3, cells := 0, slots := 0, locals := 68 }
def f_X12_enoughBy_44 (K5 : Int32 × Int32 × Int64 × Int32 × St → Option (Int64 × St)) (v1 : Int32) (v2 : Int32) (v5 : Int32) (k0 : Int64) (k1 : Int64) (σ : St) : Option (Int64 × St) :=
  bnd ((k1 + k0)) fun x1 =>
  bnd (v5 + (1 : Int32)) fun x2 =>
  K5 (v1, v2, x1, x2, σ)
theorem b_X12_enoughBy_44 {Γ : CX} (K5 : Int32 × Int32 × Int64 × Int32 × St → Option (Int64 × St)) (hK5 : ∀ (v1 : Int32) (v2 : Int32) (v3 : Int64) (v5 : Int32) (σ : St), RR vL Γ (K5 (v1, v2, v3, v5, σ)) → WW Γ cX12_enoughBy 6 RX12 (some .long) rX12_enoughBy σ 5 [(0, .ref (xd Γ 58)), (1, .int v1), (2, .int v2), (3, .long v3), (5, .int v5)] []) (v1 : Int32) (v2 : Int32) (v5 : Int32) (k0 : Int64) (k1 : Int64) (σ : St) (h : RR vL Γ (f_X12_enoughBy_44 K5 v1 v2 v5 k0 k1 σ)) : WW Γ cX12_enoughBy 6 RX12 (some .long) rX12_enoughBy σ 44 [(0, .ref (xd Γ 58)), (1, .int v1), (2, .int v2), (5, .int v5)] [.long k0, .long k1] := by
  unfold f_X12_enoughBy_44 at h
  refine w_ladd dX12_enoughBy_44 rfl ?_
  refine w_nmL (fun x1 ex1 => ?_)
  replace h := h.bnd ex1
  clear ex1
  refine w_lstore_n [(3, .long x1), (0, .ref (xd Γ 58)), (1, .int v1), (2, .int v2), (5, .int v5)] dX12_enoughBy_45 rfl (by decide) rfl rfl ?_
  obtain ⟨x2, ex2⟩ : ∃ y : Int32, y = (v5 + (1 : Int32)) := ⟨_, rfl⟩
  replace h := h.bnd ex2
  refine w_iinc 4 x2 [(5, .int x2), (3, .long x1), (0, .ref (xd Γ 58)), (1, .int v1), (2, .int v2)] dX12_enoughBy_46 rfl (by rw [ex2, ic_iconst_1]) (by decide) rfl rfl ?_
  clear ex2
  refine w_goto (tgt := 5) dX12_enoughBy_49 (by decide) ?_
  exact w_sub [2, 3, 4, 1, 0] rfl (hK5 v1 v2 x1 x2 σ h)
def g_X12_enoughBy_5 (K5 : Int32 × Int32 × Int64 × Int32 × St → Option (Int64 × St)) (x : Int32 × Int32 × Int64 × Int32 × St) : Option (Int64 × St) := match x with
  | (v1, v2, v3, v5, σ) =>
  bd (f_X12_allTrains σ) fun r1 s2 =>
  if r1 < v5 then
    some (v3, s2)
  else
    bd (f_X12_menSent v2 v5 s2) fun r4 s5 =>
    gd (inb ((11 : Int32) + v1) (ln 59)) <|
    if r4 < (gr s5 59 ((11 : Int32) + v1).toNatClampNeg) then
      f_X12_enoughBy_44 K5 v1 v2 v5 (0 : Int64) v3 s5
    else
      bd (f_X12_oftenOf v5 s5) fun r8 s9 =>
      f_X12_enoughBy_44 K5 v1 v2 v5 r8 v3 s9
theorem l_X12_enoughBy_5 {Γ : CX} : ∀ (n : Nat) (v1 : Int32) (v2 : Int32) (v3 : Int64) (v5 : Int32) (σ : St), RR vL Γ (itr (g_X12_enoughBy_5) n (v1, v2, v3, v5, σ)) → WW Γ cX12_enoughBy 6 RX12 (some .long) rX12_enoughBy σ 5 [(0, .ref (xd Γ 58)), (1, .int v1), (2, .int v2), (3, .long v3), (5, .int v5)] [] := by
  intro n
  induction n with
  | zero => intro v1 v2 v3 v5 σ h; exact RR.no h
  | succ n hK5 =>
  intro v1 v2 v3 v5 σ h
  have h : RR vL Γ (g_X12_enoughBy_5 (itr (g_X12_enoughBy_5) n) (v1, v2, v3, v5, σ)) := h
  generalize itr (g_X12_enoughBy_5) n = K5 at h hK5
  unfold g_X12_enoughBy_5 at h
  dsimp only at h
  refine w_iload 4 dX12_enoughBy_5 rfl rfl ?_
  refine w_aload_n 0 dX12_enoughBy_7 rfl rfl rfl ?_
  obtain ⟨r1, s2, h3, h⟩ := h.bd
  refine k_X12_allTrains ml_RX12_78 (Nat.le_of_ble_eq_true rfl) ⟨Nat.le_of_ble_eq_true rfl, Nat.le_of_ble_eq_true rfl⟩ dX12_enoughBy_8 rfl h3 ?_
  refine w_icmp_gt (tgt := 52) dX12_enoughBy_11 (by decide) rfl (fun q => ?_) (fun q => ?_)
  · have h := h.tt q
    refine w_lload_n 3 dX12_enoughBy_52 rfl rfl rfl ?_
    exact w_lreturn dX12_enoughBy_53 h
  · have h := h.ff q
    refine w_lload_n 3 dX12_enoughBy_14 rfl rfl rfl ?_
    refine w_aload_n 0 dX12_enoughBy_15 rfl rfl rfl ?_
    refine w_iload_n 2 dX12_enoughBy_16 rfl rfl rfl ?_
    refine w_iload 4 dX12_enoughBy_17 rfl rfl ?_
    obtain ⟨r4, s5, h6, h⟩ := h.bd
    refine k_X12_menSent ml_RX12_305 (Nat.le_of_ble_eq_true rfl) ⟨Nat.le_of_ble_eq_true rfl, Nat.le_of_ble_eq_true rfl⟩ dX12_enoughBy_19 rfl h6 ?_
    refine w_aload_n 0 dX12_enoughBy_22 rfl rfl rfl ?_
    refine gf_RX12_9 dX12_enoughBy_23 rfl ?_
    refine w_bipush (11 : Int32) dX12_enoughBy_26 ic_bipush_11 rfl ?_
    refine w_iload_n 1 dX12_enoughBy_28 rfl rfl rfl ?_
    refine w_iadd dX12_enoughBy_29 rfl ?_
    obtain ⟨hi7, h⟩ := h.gd
    refine w_iald (i := 59) (lt_lit (by decide)) rfl hi7 dX12_enoughBy_30 rfl ?_
    refine w_icmp_lt (tgt := 43) dX12_enoughBy_31 (by decide) rfl (fun q => ?_) (fun q => ?_)
    · have h := h.tt q
      refine w_lconst (0 : Int64) dX12_enoughBy_43 rfl rfl ?_
      exact w_sub [0, 1, 2, 4] rfl (b_X12_enoughBy_44 K5 hK5 v1 v2 v5 (0 : Int64) v3 s5 h)
    · have h := h.ff q
      refine w_aload_n 0 dX12_enoughBy_34 rfl rfl rfl ?_
      refine w_iload 4 dX12_enoughBy_35 rfl rfl ?_
      obtain ⟨r8, s9, h10, h⟩ := h.bd
      refine k_X12_oftenOf ml_RX12_293 (Nat.le_of_ble_eq_true rfl) ⟨Nat.le_of_ble_eq_true rfl, Nat.le_of_ble_eq_true rfl⟩ dX12_enoughBy_37 rfl h10 ?_
      refine w_goto (tgt := 44) dX12_enoughBy_40 (by decide) ?_
      exact w_sub [0, 1, 2, 4] rfl (b_X12_enoughBy_44 K5 hK5 v1 v2 v5 r8 v3 s9 h)
def f_X12_enoughBy (p0 : Int32) (p1 : Int32) (σ : St) : Option (Int64 × St) :=
  itr (g_X12_enoughBy_5) FU (p0, p1, (0 : Int64), (0 : Int32), σ)
theorem e_X12_enoughBy {Γ : CX} (p0 : Int32) (p1 : Int32) (σ : St) (h : RR vL Γ (f_X12_enoughBy p0 p1 σ)) : WW Γ cX12_enoughBy 6 RX12 (some .long) rX12_enoughBy σ 0 [(0, .ref (xd Γ 58)), (1, .int p0), (2, .int p1)] [] := by
  unfold f_X12_enoughBy at h
  refine w_lconst (0 : Int64) dX12_enoughBy_0 rfl rfl ?_
  refine w_lstore_n [(3, .long (0 : Int64)), (0, .ref (xd Γ 58)), (1, .int p0), (2, .int p1)] dX12_enoughBy_1 rfl (by decide) rfl rfl ?_
  refine w_iconst (0 : Int32) dX12_enoughBy_2 ic_iconst_0 rfl ?_
  refine w_istore [(5, .int (0 : Int32)), (3, .long (0 : Int64)), (0, .ref (xd Γ 58)), (1, .int p0), (2, .int p1)] dX12_enoughBy_3 (by decide) rfl rfl ?_
  exact w_sub [2, 3, 4, 1, 0] rfl (l_X12_enoughBy_5 FU p0 p1 (0 : Int64) (0 : Int32) σ h)
theorem c_X12_enoughBy {l : Launch} {D : va_G} {cy : Nat → ClassId} {ad : Nat → Nat} {p0 : Int32} {p1 : Int32} {σ σ' : St} {r : Int64} (hf : f_X12_enoughBy p0 p1 σ = some (r, σ')) : CT l D cy ad yX12_enoughBy cX12_enoughBy 6 (some .long) rX12_enoughBy [.ref (ad 58), .int p0, .int p1] σ (some (.long r)) σ' :=
  ct_of (by decide) (Nat.le_of_ble_eq_true rfl) (fun p e s m args below meth c A => e_X12_enoughBy (Γ := (p, l, e, rX12_enoughBy, s, m, args, below, meth, c, D, cy, ad, A, 0, 0, MQ below (QC D cy ad (some (.long r)) σ' A) args s 0 0 A)) p0 p1 σ ⟨_, hf, rfl⟩)
theorem k_X12_enoughBy {Γ : CX} {cc : ByteArray} {nL : Nat} {own : String} {ret : Option FieldType} {rm : Room} {σ σ' : St} {pc pc' idx : Nat} {lv : List (Nat × Value)} {rest : List Value} {p0 : Int32} {p1 : Int32} {r : Int64} (hl : Cond.methodLink own idx yX12_enoughBy ∈ TB) (hw : (rest.map fun v => v.category).sum ≤ 8) (hR : rX12_enoughBy.frames + 1 ≤ rm.frames ∧ 8 + (6 + 11) + rX12_enoughBy.locals ≤ rm.locals) (hd : decode cc pc = .ok (.invokevirtual idx, 3)) (hp : pc + 3 = pc') (hf : f_X12_enoughBy p0 p1 σ = some (r, σ')) (h : WW Γ cc nL own ret rm σ' pc' lv (.long r :: rest)) : WW Γ cc nL own ret rm σ pc lv (.int p1 :: .int p0 :: .ref (xd Γ 58) :: rest) :=
  w_callV (nn := 2) (i := 58) (As := [.int p0, .int p1]) (v := (some (.long r))) (T := TX12) (N := 32) (c_X12_enoughBy hf) hl mw_X12_enoughBy (by decide +kernel) ⟨rfl, rfl⟩ hR (lt_lit (by decide)) cel_58 rfl rfl hw hd rfl hp h
/-! WarByHoursModel.isOften (JI)Z -/
def rX12_isOften : Room := { frames := 1, cells := 0, slots := 0, locals := 23 }
def f_X12_isOften_49 (k0 : Int32) (σ : St) : Option (Int32 × St) :=
  gd (bz k0) <| some (k0, σ)
theorem b_X12_isOften_49 {Γ : CX} (k0 : Int32) (σ : St) (h : RR vI Γ (f_X12_isOften_49 k0 σ)) : WW Γ cX12_isOften 4 RX12 (some .boolean) rX12_isOften σ 49 [] [.int k0] := by
  unfold f_X12_isOften_49 at h
  obtain ⟨hb, h⟩ := h.gd
  exact w_zreturn dX12_isOften_49 hb h
def f_X12_isOften (p0 : Int64) (p1 : Int32) (σ : St) : Option (Int32 × St) :=
  gd (inb (4 : Int32) (ln 59)) <|
  if (gr σ 59 (4 : Int32).toNatClampNeg) = 0 then
    if (lg_cmp (p0 * (100 : Int64)) p1.toInt64) < 0 then
      f_X12_isOften_49 (0 : Int32) σ
    else
      f_X12_isOften_49 (1 : Int32) σ
  else
    bd (f_X12_allOften σ) fun r2 s3 =>
    if (lg_cmp p0 ((r2 / (100 : Int64)) * p1.toInt64)) < 0 then
      f_X12_isOften_49 (0 : Int32) s3
    else
      f_X12_isOften_49 (1 : Int32) s3
theorem e_X12_isOften {Γ : CX} (p0 : Int64) (p1 : Int32) (σ : St) (h : RR vI Γ (f_X12_isOften p0 p1 σ)) : WW Γ cX12_isOften 4 RX12 (some .boolean) rX12_isOften σ 0 [(0, .ref (xd Γ 58)), (1, .long p0), (3, .int p1)] [] := by
  unfold f_X12_isOften at h
  refine w_aload_n 0 dX12_isOften_0 rfl rfl rfl ?_
  refine gf_RX12_9 dX12_isOften_1 rfl ?_
  refine w_iconst (4 : Int32) dX12_isOften_4 ic_iconst_4 rfl ?_
  obtain ⟨hi1, h⟩ := h.gd
  refine w_iald (i := 59) (lt_lit (by decide)) rfl hi1 dX12_isOften_5 rfl ?_
  refine w_if_ne (tgt := 28) dX12_isOften_6 (by decide) rfl (fun q => ?_) (fun q => ?_)
  · have h := h.ff q
    refine w_lload_n 1 dX12_isOften_28 rfl rfl rfl ?_
    refine w_aload_n 0 dX12_isOften_29 rfl rfl rfl ?_
    obtain ⟨r2, s3, h4, h⟩ := h.bd
    refine k_X12_allOften ml_RX12_297 (Nat.le_of_ble_eq_true rfl) ⟨Nat.le_of_ble_eq_true rfl, Nat.le_of_ble_eq_true rfl⟩ dX12_isOften_30 rfl h4 ?_
    refine w_ldc2_w (100 : Int64) dX12_isOften_33 cl_RX12_291 rfl ?_
    refine w_ldiv dX12_isOften_36 (by decide) rfl ?_
    refine w_iload_n 2 dX12_isOften_37 rfl rfl rfl ?_
    refine w_i2l dX12_isOften_38 rfl ?_
    refine w_lmul dX12_isOften_39 rfl ?_
    refine w_lcmp dX12_isOften_40 rfl ?_
    refine w_if_lt (tgt := 48) dX12_isOften_41 (by decide) rfl (fun q => ?_) (fun q => ?_)
    · have h := h.tt q
      refine w_iconst (0 : Int32) dX12_isOften_48 ic_iconst_0 rfl ?_
      exact w_sub [] rfl (b_X12_isOften_49 (0 : Int32) s3 h)
    · have h := h.ff q
      refine w_iconst (1 : Int32) dX12_isOften_44 ic_iconst_1 rfl ?_
      refine w_goto (tgt := 49) dX12_isOften_45 (by decide) ?_
      exact w_sub [] rfl (b_X12_isOften_49 (1 : Int32) s3 h)
  · have h := h.tt q
    refine w_lload_n 1 dX12_isOften_9 rfl rfl rfl ?_
    refine w_ldc2_w (100 : Int64) dX12_isOften_10 cl_RX12_291 rfl ?_
    refine w_lmul dX12_isOften_13 rfl ?_
    refine w_iload_n 2 dX12_isOften_14 rfl rfl rfl ?_
    refine w_i2l dX12_isOften_15 rfl ?_
    refine w_lcmp dX12_isOften_16 rfl ?_
    refine w_if_lt (tgt := 24) dX12_isOften_17 (by decide) rfl (fun q => ?_) (fun q => ?_)
    · have h := h.tt q
      refine w_iconst (0 : Int32) dX12_isOften_24 ic_iconst_0 rfl ?_
      refine w_goto (tgt := 49) dX12_isOften_25 (by decide) ?_
      exact w_sub [] rfl (b_X12_isOften_49 (0 : Int32) σ h)
    · have h := h.ff q
      refine w_iconst (1 : Int32) dX12_isOften_20 ic_iconst_1 rfl ?_
      refine w_goto (tgt := 49) dX12_isOften_21 (by decide) ?_
      exact w_sub [] rfl (b_X12_isOften_49 (1 : Int32) σ h)
theorem c_X12_isOften {l : Launch} {D : va_G} {cy : Nat → ClassId} {ad : Nat → Nat} {p0 : Int64} {p1 : Int32} {σ σ' : St} {r : Int32} (hf : f_X12_isOften p0 p1 σ = some (r, σ')) : CT l D cy ad yX12_isOften cX12_isOften 4 (some .boolean) rX12_isOften [.ref (ad 58), .long p0, .int p1] σ (some (.int r)) σ' :=
  ct_of (by decide) (Nat.le_of_ble_eq_true rfl) (fun p e s m args below meth c A => e_X12_isOften (Γ := (p, l, e, rX12_isOften, s, m, args, below, meth, c, D, cy, ad, A, 0, 0, MQ below (QC D cy ad (some (.int r)) σ' A) args s 0 0 A)) p0 p1 σ ⟨_, hf, rfl⟩)
theorem k_X12_isOften {Γ : CX} {cc : ByteArray} {nL : Nat} {own : String} {ret : Option FieldType} {rm : Room} {σ σ' : St} {pc pc' idx : Nat} {lv : List (Nat × Value)} {rest : List Value} {p0 : Int64} {p1 : Int32} {r : Int32} (hl : Cond.methodLink own idx yX12_isOften ∈ TB) (hw : (rest.map fun v => v.category).sum ≤ 8) (hR : rX12_isOften.frames + 1 ≤ rm.frames ∧ 8 + (4 + 11) + rX12_isOften.locals ≤ rm.locals) (hd : decode cc pc = .ok (.invokevirtual idx, 3)) (hp : pc + 3 = pc') (hf : f_X12_isOften p0 p1 σ = some (r, σ')) (h : WW Γ cc nL own ret rm σ' pc' lv (.int r :: rest)) : WW Γ cc nL own ret rm σ pc lv (.int p1 :: .long p0 :: .ref (xd Γ 58) :: rest) :=
  w_callV (nn := 2) (i := 58) (As := [.long p0, .int p1]) (v := (some (.int r))) (T := TX12) (N := 32) (c_X12_isOften hf) hl mw_X12_isOften (by decide +kernel) ⟨rfl, rfl⟩ hR (lt_lit (by decide)) cel_58 rfl rfl hw hd rfl hp h
/-! WarByHoursModel.findRisk (II)V -/
def rX12_findRisk : Room := { frames := 4, cells := 0, slots := 0, locals := 93 }
def f_X12_findRisk_77 (K14 : Int32 × Int32 × Int32 × Int32 × St → Option (Unit × St)) (v1 : Int32) (v2 : Int32) (v3 : Int32) (v4 : Int32) (σ : St) : Option (Unit × St) :=
  bnd (v4 + (1 : Int32)) fun x1 =>
  K14 (v1, v2, v3, x1, σ)
theorem b_X12_findRisk_77 {Γ : CX} (K14 : Int32 × Int32 × Int32 × Int32 × St → Option (Unit × St)) (hK14 : ∀ (v1 : Int32) (v2 : Int32) (v3 : Int32) (v4 : Int32) (σ : St), RR vU Γ (K14 (v1, v2, v3, v4, σ)) → WW Γ cX12_findRisk 5 RX12 none rX12_findRisk σ 14 [(0, .ref (xd Γ 58)), (1, .int v1), (2, .int v2), (3, .int v3), (4, .int v4)] []) (v1 : Int32) (v2 : Int32) (v3 : Int32) (v4 : Int32) (σ : St) (h : RR vU Γ (f_X12_findRisk_77 K14 v1 v2 v3 v4 σ)) : WW Γ cX12_findRisk 5 RX12 none rX12_findRisk σ 77 [(0, .ref (xd Γ 58)), (1, .int v1), (2, .int v2), (3, .int v3), (4, .int v4)] [] := by
  unfold f_X12_findRisk_77 at h
  obtain ⟨x1, ex1⟩ : ∃ y : Int32, y = (v4 + (1 : Int32)) := ⟨_, rfl⟩
  replace h := h.bnd ex1
  refine w_iinc 4 x1 [(4, .int x1), (0, .ref (xd Γ 58)), (1, .int v1), (2, .int v2), (3, .int v3)] dX12_findRisk_77 rfl (by rw [ex1, ic_iconst_1]) (by decide) rfl rfl ?_
  clear ex1
  refine w_goto (tgt := 14) dX12_findRisk_80 (by decide) ?_
  exact w_sub [1, 2, 3, 4, 0] rfl (hK14 v1 v2 v3 x1 σ h)
def f_X12_findRisk_50 (K14 : Int32 × Int32 × Int32 × Int32 × St → Option (Unit × St)) (v1 : Int32) (v2 : Int32) (v3 : Int32) (v4 : Int32) (σ : St) : Option (Unit × St) :=
  bd (f_X12_enoughBy v1 v4 σ) fun r1 s2 =>
  bd (f_X12_isOften r1 v2 s2) fun r4 s5 =>
  if r4 = 0 then
    f_X12_findRisk_77 K14 v1 v2 v3 v4 s5
  else
    bd (f_X12_priceOf v4 s5) fun r7 s8 =>
    bd (f_X12_take r7 v4 s8) fun _ s11 =>
    f_X12_findRisk_77 K14 v1 v2 v3 v4 s11
theorem b_X12_findRisk_50 {Γ : CX} (K14 : Int32 × Int32 × Int32 × Int32 × St → Option (Unit × St)) (hK14 : ∀ (v1 : Int32) (v2 : Int32) (v3 : Int32) (v4 : Int32) (σ : St), RR vU Γ (K14 (v1, v2, v3, v4, σ)) → WW Γ cX12_findRisk 5 RX12 none rX12_findRisk σ 14 [(0, .ref (xd Γ 58)), (1, .int v1), (2, .int v2), (3, .int v3), (4, .int v4)] []) (v1 : Int32) (v2 : Int32) (v3 : Int32) (v4 : Int32) (σ : St) (h : RR vU Γ (f_X12_findRisk_50 K14 v1 v2 v3 v4 σ)) : WW Γ cX12_findRisk 5 RX12 none rX12_findRisk σ 50 [(0, .ref (xd Γ 58)), (1, .int v1), (2, .int v2), (3, .int v3), (4, .int v4)] [] := by
  unfold f_X12_findRisk_50 at h
  refine w_aload_n 0 dX12_findRisk_50 rfl rfl rfl ?_
  refine w_aload_n 0 dX12_findRisk_51 rfl rfl rfl ?_
  refine w_iload_n 1 dX12_findRisk_52 rfl rfl rfl ?_
  refine w_iload 4 dX12_findRisk_53 rfl rfl ?_
  obtain ⟨r1, s2, h3, h⟩ := h.bd
  refine k_X12_enoughBy ml_RX12_334 (Nat.le_of_ble_eq_true rfl) ⟨Nat.le_of_ble_eq_true rfl, Nat.le_of_ble_eq_true rfl⟩ dX12_findRisk_55 rfl h3 ?_
  refine w_iload_n 2 dX12_findRisk_58 rfl rfl rfl ?_
  obtain ⟨r4, s5, h6, h⟩ := h.bd
  refine k_X12_isOften ml_RX12_338 (Nat.le_of_ble_eq_true rfl) ⟨Nat.le_of_ble_eq_true rfl, Nat.le_of_ble_eq_true rfl⟩ dX12_findRisk_59 rfl h6 ?_
  refine w_if_eq (tgt := 77) dX12_findRisk_62 (by decide) rfl (fun q => ?_) (fun q => ?_)
  · have h := h.tt q
    exact w_sub [0, 1, 2, 3, 4] rfl (b_X12_findRisk_77 K14 hK14 v1 v2 v3 v4 s5 h)
  · have h := h.ff q
    refine w_aload_n 0 dX12_findRisk_65 rfl rfl rfl ?_
    refine w_aload_n 0 dX12_findRisk_66 rfl rfl rfl ?_
    refine w_iload 4 dX12_findRisk_67 rfl rfl ?_
    obtain ⟨r7, s8, h9, h⟩ := h.bd
    refine k_X12_priceOf ml_RX12_320 (Nat.le_of_ble_eq_true rfl) ⟨Nat.le_of_ble_eq_true rfl, Nat.le_of_ble_eq_true rfl⟩ dX12_findRisk_69 rfl h9 ?_
    refine w_iload 4 dX12_findRisk_72 rfl rfl ?_
    obtain ⟨r10, s11, h12, h⟩ := h.bd
    refine k_X12_take ml_RX12_323 (Nat.le_of_ble_eq_true rfl) ⟨Nat.le_of_ble_eq_true rfl, Nat.le_of_ble_eq_true rfl⟩ dX12_findRisk_74 rfl h12 ?_
    exact w_sub [0, 1, 2, 3, 4] rfl (b_X12_findRisk_77 K14 hK14 v1 v2 v3 v4 s11 h)
def g_X12_findRisk_14 (K14 : Int32 × Int32 × Int32 × Int32 × St → Option (Unit × St)) (x : Int32 × Int32 × Int32 × Int32 × St) : Option (Unit × St) := match x with
  | (v1, v2, v3, v4, σ) =>
  if v3 < v4 then
    some ((), σ)
  else
    if (v4 &&& (v3 ^^^ (-1 : Int32))) = 0 then
      if (gf σ 58 19) = (-1 : Int32) then
        f_X12_findRisk_50 K14 v1 v2 v3 v4 σ
      else
        bd (f_X12_priceOf v4 σ) fun r1 s2 =>
        if (gf s2 58 18) ≤ r1 then
          f_X12_findRisk_77 K14 v1 v2 v3 v4 s2
        else
          f_X12_findRisk_50 K14 v1 v2 v3 v4 s2
    else
      f_X12_findRisk_77 K14 v1 v2 v3 v4 σ
theorem l_X12_findRisk_14 {Γ : CX} : ∀ (n : Nat) (v1 : Int32) (v2 : Int32) (v3 : Int32) (v4 : Int32) (σ : St), RR vU Γ (itr (g_X12_findRisk_14) n (v1, v2, v3, v4, σ)) → WW Γ cX12_findRisk 5 RX12 none rX12_findRisk σ 14 [(0, .ref (xd Γ 58)), (1, .int v1), (2, .int v2), (3, .int v3), (4, .int v4)] [] := by
  intro n
  induction n with
  | zero => intro v1 v2 v3 v4 σ h; exact RR.no h
  | succ n hK14 =>
  intro v1 v2 v3 v4 σ h
  have h : RR vU Γ (g_X12_findRisk_14 (itr (g_X12_findRisk_14) n) (v1, v2, v3, v4, σ)) := h
  generalize itr (g_X12_findRisk_14) n = K14 at h hK14
  unfold g_X12_findRisk_14 at h
  dsimp only at h
  refine w_iload 4 dX12_findRisk_14 rfl rfl ?_
  refine w_iload_n 3 dX12_findRisk_16 rfl rfl rfl ?_
  refine w_icmp_gt (tgt := 83) dX12_findRisk_17 (by decide) rfl (fun q => ?_) (fun q => ?_)
  · have h := h.tt q
    exact w_return dX12_findRisk_83 h
  · have h := h.ff q
    refine w_iload 4 dX12_findRisk_20 rfl rfl ?_
    refine w_iload_n 3 dX12_findRisk_22 rfl rfl rfl ?_
    refine w_iconst (-1 : Int32) dX12_findRisk_23 ic_iconst_m1 rfl ?_
    refine w_ixor dX12_findRisk_24 rfl ?_
    refine w_iand dX12_findRisk_25 rfl ?_
    refine w_if_ne (tgt := 77) dX12_findRisk_26 (by decide) rfl (fun q => ?_) (fun q => ?_)
    · have h := h.ff q
      exact w_sub [0, 1, 2, 3, 4] rfl (b_X12_findRisk_77 K14 hK14 v1 v2 v3 v4 σ h)
    · have h := h.tt q
      refine w_aload_n 0 dX12_findRisk_29 rfl rfl rfl ?_
      refine gf_RX12_308 dX12_findRisk_30 rfl ?_
      refine w_iconst (-1 : Int32) dX12_findRisk_33 ic_iconst_m1 rfl ?_
      refine w_icmp_eq (tgt := 50) dX12_findRisk_34 (by decide) rfl (fun q => ?_) (fun q => ?_)
      · have h := h.tt q
        exact w_sub [0, 1, 2, 3, 4] rfl (b_X12_findRisk_50 K14 hK14 v1 v2 v3 v4 σ h)
      · have h := h.ff q
        refine w_aload_n 0 dX12_findRisk_37 rfl rfl rfl ?_
        refine w_iload 4 dX12_findRisk_38 rfl rfl ?_
        obtain ⟨r1, s2, h3, h⟩ := h.bd
        refine k_X12_priceOf ml_RX12_320 (Nat.le_of_ble_eq_true rfl) ⟨Nat.le_of_ble_eq_true rfl, Nat.le_of_ble_eq_true rfl⟩ dX12_findRisk_40 rfl h3 ?_
        refine w_aload_n 0 dX12_findRisk_43 rfl rfl rfl ?_
        refine gf_RX12_311 dX12_findRisk_44 rfl ?_
        refine w_icmp_ge (tgt := 77) dX12_findRisk_47 (by decide) rfl (fun q => ?_) (fun q => ?_)
        · have h := h.tt q
          exact w_sub [0, 1, 2, 3, 4] rfl (b_X12_findRisk_77 K14 hK14 v1 v2 v3 v4 s2 h)
        · have h := h.ff q
          exact w_sub [0, 1, 2, 3, 4] rfl (b_X12_findRisk_50 K14 hK14 v1 v2 v3 v4 s2 h)
def f_X12_findRisk (p0 : Int32) (p1 : Int32) (σ : St) : Option (Unit × St) :=
  bnd (sf σ 58 19 (-1 : Int32)) fun s1 =>
  bd (f_X12_trainsOf p0 s1) fun r2 s3 =>
  itr (g_X12_findRisk_14) FU (p0, p1, r2, (0 : Int32), s3)
theorem e_X12_findRisk {Γ : CX} (p0 : Int32) (p1 : Int32) (σ : St) (h : RR vU Γ (f_X12_findRisk p0 p1 σ)) : WW Γ cX12_findRisk 5 RX12 none rX12_findRisk σ 0 [(0, .ref (xd Γ 58)), (1, .int p0), (2, .int p1)] [] := by
  unfold f_X12_findRisk at h
  refine w_aload_n 0 dX12_findRisk_0 rfl rfl rfl ?_
  refine w_iconst (-1 : Int32) dX12_findRisk_1 ic_iconst_m1 rfl ?_
  refine pf_RX12_308 dX12_findRisk_2 rfl ?_
  obtain ⟨s1, es1⟩ : ∃ y : St, y = (sf σ 58 19 (-1 : Int32)) := ⟨_, rfl⟩
  rw [← es1]
  replace h := h.bnd es1
  clear es1
  refine w_aload_n 0 dX12_findRisk_5 rfl rfl rfl ?_
  refine w_iload_n 1 dX12_findRisk_6 rfl rfl rfl ?_
  obtain ⟨r2, s3, h4, h⟩ := h.bd
  refine k_X12_trainsOf ml_RX12_314 (Nat.le_of_ble_eq_true rfl) ⟨Nat.le_of_ble_eq_true rfl, Nat.le_of_ble_eq_true rfl⟩ dX12_findRisk_7 rfl h4 ?_
  refine w_istore_n [(3, .int r2), (0, .ref (xd Γ 58)), (1, .int p0), (2, .int p1)] dX12_findRisk_10 rfl (by decide) rfl rfl ?_
  refine w_iconst (0 : Int32) dX12_findRisk_11 ic_iconst_0 rfl ?_
  refine w_istore [(4, .int (0 : Int32)), (3, .int r2), (0, .ref (xd Γ 58)), (1, .int p0), (2, .int p1)] dX12_findRisk_12 (by decide) rfl rfl ?_
  exact w_sub [2, 3, 4, 1, 0] rfl (l_X12_findRisk_14 FU p0 p1 r2 (0 : Int32) s3 h)
theorem c_X12_findRisk {l : Launch} {D : va_G} {cy : Nat → ClassId} {ad : Nat → Nat} {p0 : Int32} {p1 : Int32} {σ σ' : St} {r : Unit} (hf : f_X12_findRisk p0 p1 σ = some (r, σ')) : CT l D cy ad yX12_findRisk cX12_findRisk 5 none rX12_findRisk [.ref (ad 58), .int p0, .int p1] σ none σ' :=
  ct_of (by decide) (Nat.le_of_ble_eq_true rfl) (fun p e s m args below meth c A => e_X12_findRisk (Γ := (p, l, e, rX12_findRisk, s, m, args, below, meth, c, D, cy, ad, A, 0, 0, MQ below (QC D cy ad none σ' A) args s 0 0 A)) p0 p1 σ ⟨_, hf, rfl⟩)
theorem k_X12_findRisk {Γ : CX} {cc : ByteArray} {nL : Nat} {own : String} {ret : Option FieldType} {rm : Room} {σ σ' : St} {pc pc' idx : Nat} {lv : List (Nat × Value)} {rest : List Value} {p0 : Int32} {p1 : Int32} {r : Unit} (hl : Cond.methodLink own idx yX12_findRisk ∈ TB) (hw : (rest.map fun v => v.category).sum ≤ 8) (hR : rX12_findRisk.frames + 1 ≤ rm.frames ∧ 8 + (5 + 11) + rX12_findRisk.locals ≤ rm.locals) (hd : decode cc pc = .ok (.invokevirtual idx, 3)) (hp : pc + 3 = pc') (hf : f_X12_findRisk p0 p1 σ = some (r, σ')) (h : WW Γ cc nL own ret rm σ' pc' lv (rest)) : WW Γ cc nL own ret rm σ pc lv (.int p1 :: .int p0 :: .ref (xd Γ 58) :: rest) :=
  w_callV (nn := 2) (i := 58) (As := [.int p0, .int p1]) (v := none) (T := TX12) (N := 32) (c_X12_findRisk hf) hl mw_X12_findRisk (by decide +kernel) ⟨rfl, rfl⟩ hR (lt_lit (by decide)) cel_58 rfl rfl hw hd rfl hp h
/-! WarByHoursModel.risk (II)I -/
def rX12_risk : Room := { frames := 5, cells := 0, slots := 0, locals := 117 }
def f_X12_risk_20 (σ : St) : Option (Int32 × St) :=
  some ((-2 : Int32), σ)
theorem b_X12_risk_20 {Γ : CX} (σ : St) (h : RR vI Γ (f_X12_risk_20 σ)) : WW Γ cX12_risk 3 RX12 (some .int) rX12_risk σ 20 [] [] := by
  unfold f_X12_risk_20 at h
  refine w_bipush (-2 : Int32) dX12_risk_20 ic_bipush_m2 rfl ?_
  exact w_ireturn dX12_risk_22 h
def f_X12_risk (p0 : Int32) (p1 : Int32) (σ : St) : Option (Int32 × St) :=
  bd (f_X12_isSide p0 σ) fun r1 s2 =>
  if r1 = 0 then
    f_X12_risk_20 s2
  else
    bd (f_X12_in p1.toInt64 (0 : Int64) (100 : Int64) s2) fun r4 s5 =>
    if r4 = 0 then
      f_X12_risk_20 s5
    else
      bd (f_X12_findRisk p0 p1 s5) fun _ s8 =>
      bd (f_X12_orNone s8) fun r10 s11 =>
      some (r10, s11)
theorem e_X12_risk {Γ : CX} (p0 : Int32) (p1 : Int32) (σ : St) (h : RR vI Γ (f_X12_risk p0 p1 σ)) : WW Γ cX12_risk 3 RX12 (some .int) rX12_risk σ 0 [(0, .ref (xd Γ 58)), (1, .int p0), (2, .int p1)] [] := by
  unfold f_X12_risk at h
  refine w_aload_n 0 dX12_risk_0 rfl rfl rfl ?_
  refine w_iload_n 1 dX12_risk_1 rfl rfl rfl ?_
  obtain ⟨r1, s2, h3, h⟩ := h.bd
  refine k_X12_isSide ml_RX12_236 (Nat.le_of_ble_eq_true rfl) ⟨Nat.le_of_ble_eq_true rfl, Nat.le_of_ble_eq_true rfl⟩ dX12_risk_2 rfl h3 ?_
  refine w_if_eq (tgt := 20) dX12_risk_5 (by decide) rfl (fun q => ?_) (fun q => ?_)
  · have h := h.tt q
    exact w_sub [] rfl (b_X12_risk_20 s2 h)
  · have h := h.ff q
    refine w_iload_n 2 dX12_risk_8 rfl rfl rfl ?_
    refine w_i2l dX12_risk_9 rfl ?_
    refine w_lconst (0 : Int64) dX12_risk_10 rfl rfl ?_
    refine w_ldc2_w (100 : Int64) dX12_risk_11 cl_RX12_291 rfl ?_
    obtain ⟨r4, s5, h6, h⟩ := h.bd
    refine k_X12_in ml_RX12_70 (Nat.le_of_ble_eq_true rfl) ⟨Nat.le_of_ble_eq_true rfl, Nat.le_of_ble_eq_true rfl⟩ dX12_risk_14 rfl h6 ?_
    refine w_if_ne (tgt := 23) dX12_risk_17 (by decide) rfl (fun q => ?_) (fun q => ?_)
    · have h := h.ff q
      refine w_aload_n 0 dX12_risk_23 rfl rfl rfl ?_
      refine w_iload_n 1 dX12_risk_24 rfl rfl rfl ?_
      refine w_iload_n 2 dX12_risk_25 rfl rfl rfl ?_
      obtain ⟨r7, s8, h9, h⟩ := h.bd
      refine k_X12_findRisk ml_RX12_342 (Nat.le_of_ble_eq_true rfl) ⟨Nat.le_of_ble_eq_true rfl, Nat.le_of_ble_eq_true rfl⟩ dX12_risk_26 rfl h9 ?_
      refine w_aload_n 0 dX12_risk_29 rfl rfl rfl ?_
      obtain ⟨r10, s11, h12, h⟩ := h.bd
      refine k_X12_orNone ml_RX12_331 (Nat.le_of_ble_eq_true rfl) ⟨Nat.le_of_ble_eq_true rfl, Nat.le_of_ble_eq_true rfl⟩ dX12_risk_30 rfl h12 ?_
      exact w_ireturn dX12_risk_33 h
    · have h := h.tt q
      exact w_sub [] rfl (b_X12_risk_20 s5 h)
theorem c_X12_risk {l : Launch} {D : va_G} {cy : Nat → ClassId} {ad : Nat → Nat} {p0 : Int32} {p1 : Int32} {σ σ' : St} {r : Int32} (hf : f_X12_risk p0 p1 σ = some (r, σ')) : CT l D cy ad yX12_risk cX12_risk 3 (some .int) rX12_risk [.ref (ad 58), .int p0, .int p1] σ (some (.int r)) σ' :=
  ct_of (by decide) (Nat.le_of_ble_eq_true rfl) (fun p e s m args below meth c A => e_X12_risk (Γ := (p, l, e, rX12_risk, s, m, args, below, meth, c, D, cy, ad, A, 0, 0, MQ below (QC D cy ad (some (.int r)) σ' A) args s 0 0 A)) p0 p1 σ ⟨_, hf, rfl⟩)
theorem k_X12_risk {Γ : CX} {cc : ByteArray} {nL : Nat} {own : String} {ret : Option FieldType} {rm : Room} {σ σ' : St} {pc pc' idx : Nat} {lv : List (Nat × Value)} {rest : List Value} {p0 : Int32} {p1 : Int32} {r : Int32} (hl : Cond.methodLink own idx yX12_risk ∈ TB) (hw : (rest.map fun v => v.category).sum ≤ 8) (hR : rX12_risk.frames + 1 ≤ rm.frames ∧ 8 + (3 + 11) + rX12_risk.locals ≤ rm.locals) (hd : decode cc pc = .ok (.invokevirtual idx, 3)) (hp : pc + 3 = pc') (hf : f_X12_risk p0 p1 σ = some (r, σ')) (h : WW Γ cc nL own ret rm σ' pc' lv (.int r :: rest)) : WW Γ cc nL own ret rm σ pc lv (.int p1 :: .int p0 :: .ref (xd Γ 58) :: rest) :=
  w_callV (nn := 2) (i := 58) (As := [.int p0, .int p1]) (v := (some (.int r))) (T := TX12) (N := 32) (c_X12_risk hf) hl mw_X12_risk (by decide +kernel) ⟨rfl, rfl⟩ hR (lt_lit (by decide)) cel_58 rfl rfl hw hd rfl hp h
/-! WarByHoursModel.risked (II)I -/
def rX12_risked : Room := { frames := 5, cells := 0, slots := 0, locals := 117 }
def f_X12_risked_20 (σ : St) : Option (Int32 × St) :=
  some ((-2 : Int32), σ)
theorem b_X12_risked_20 {Γ : CX} (σ : St) (h : RR vI Γ (f_X12_risked_20 σ)) : WW Γ cX12_risked 3 RX12 (some .int) rX12_risked σ 20 [] [] := by
  unfold f_X12_risked_20 at h
  refine w_bipush (-2 : Int32) dX12_risked_20 ic_bipush_m2 rfl ?_
  exact w_ireturn dX12_risked_22 h
def f_X12_risked (p0 : Int32) (p1 : Int32) (σ : St) : Option (Int32 × St) :=
  bd (f_X12_isSide p0 σ) fun r1 s2 =>
  if r1 = 0 then
    f_X12_risked_20 s2
  else
    bd (f_X12_in p1.toInt64 (0 : Int64) (100 : Int64) s2) fun r4 s5 =>
    if r4 = 0 then
      f_X12_risked_20 s5
    else
      bd (f_X12_findRisk p0 p1 s5) fun _ s8 =>
      some ((gf s8 58 19), s8)
theorem e_X12_risked {Γ : CX} (p0 : Int32) (p1 : Int32) (σ : St) (h : RR vI Γ (f_X12_risked p0 p1 σ)) : WW Γ cX12_risked 3 RX12 (some .int) rX12_risked σ 0 [(0, .ref (xd Γ 58)), (1, .int p0), (2, .int p1)] [] := by
  unfold f_X12_risked at h
  refine w_aload_n 0 dX12_risked_0 rfl rfl rfl ?_
  refine w_iload_n 1 dX12_risked_1 rfl rfl rfl ?_
  obtain ⟨r1, s2, h3, h⟩ := h.bd
  refine k_X12_isSide ml_RX12_236 (Nat.le_of_ble_eq_true rfl) ⟨Nat.le_of_ble_eq_true rfl, Nat.le_of_ble_eq_true rfl⟩ dX12_risked_2 rfl h3 ?_
  refine w_if_eq (tgt := 20) dX12_risked_5 (by decide) rfl (fun q => ?_) (fun q => ?_)
  · have h := h.tt q
    exact w_sub [] rfl (b_X12_risked_20 s2 h)
  · have h := h.ff q
    refine w_iload_n 2 dX12_risked_8 rfl rfl rfl ?_
    refine w_i2l dX12_risked_9 rfl ?_
    refine w_lconst (0 : Int64) dX12_risked_10 rfl rfl ?_
    refine w_ldc2_w (100 : Int64) dX12_risked_11 cl_RX12_291 rfl ?_
    obtain ⟨r4, s5, h6, h⟩ := h.bd
    refine k_X12_in ml_RX12_70 (Nat.le_of_ble_eq_true rfl) ⟨Nat.le_of_ble_eq_true rfl, Nat.le_of_ble_eq_true rfl⟩ dX12_risked_14 rfl h6 ?_
    refine w_if_ne (tgt := 23) dX12_risked_17 (by decide) rfl (fun q => ?_) (fun q => ?_)
    · have h := h.ff q
      refine w_aload_n 0 dX12_risked_23 rfl rfl rfl ?_
      refine w_iload_n 1 dX12_risked_24 rfl rfl rfl ?_
      refine w_iload_n 2 dX12_risked_25 rfl rfl rfl ?_
      obtain ⟨r7, s8, h9, h⟩ := h.bd
      refine k_X12_findRisk ml_RX12_342 (Nat.le_of_ble_eq_true rfl) ⟨Nat.le_of_ble_eq_true rfl, Nat.le_of_ble_eq_true rfl⟩ dX12_risked_26 rfl h9 ?_
      refine w_aload_n 0 dX12_risked_29 rfl rfl rfl ?_
      refine gf_RX12_308 dX12_risked_30 rfl ?_
      exact w_ireturn dX12_risked_33 h
    · have h := h.tt q
      exact w_sub [] rfl (b_X12_risked_20 s5 h)
theorem c_X12_risked {l : Launch} {D : va_G} {cy : Nat → ClassId} {ad : Nat → Nat} {p0 : Int32} {p1 : Int32} {σ σ' : St} {r : Int32} (hf : f_X12_risked p0 p1 σ = some (r, σ')) : CT l D cy ad yX12_risked cX12_risked 3 (some .int) rX12_risked [.ref (ad 58), .int p0, .int p1] σ (some (.int r)) σ' :=
  ct_of (by decide) (Nat.le_of_ble_eq_true rfl) (fun p e s m args below meth c A => e_X12_risked (Γ := (p, l, e, rX12_risked, s, m, args, below, meth, c, D, cy, ad, A, 0, 0, MQ below (QC D cy ad (some (.int r)) σ' A) args s 0 0 A)) p0 p1 σ ⟨_, hf, rfl⟩)
theorem k_X12_risked {Γ : CX} {cc : ByteArray} {nL : Nat} {own : String} {ret : Option FieldType} {rm : Room} {σ σ' : St} {pc pc' idx : Nat} {lv : List (Nat × Value)} {rest : List Value} {p0 : Int32} {p1 : Int32} {r : Int32} (hl : Cond.methodLink own idx yX12_risked ∈ TB) (hw : (rest.map fun v => v.category).sum ≤ 8) (hR : rX12_risked.frames + 1 ≤ rm.frames ∧ 8 + (3 + 11) + rX12_risked.locals ≤ rm.locals) (hd : decode cc pc = .ok (.invokevirtual idx, 3)) (hp : pc + 3 = pc') (hf : f_X12_risked p0 p1 σ = some (r, σ')) (h : WW Γ cc nL own ret rm σ' pc' lv (.int r :: rest)) : WW Γ cc nL own ret rm σ pc lv (.int p1 :: .int p0 :: .ref (xd Γ 58) :: rest) :=
  w_callV (nn := 2) (i := 58) (As := [.int p0, .int p1]) (v := (some (.int r))) (T := TX12) (N := 32) (c_X12_risked hf) hl mw_X12_risked (by decide +kernel) ⟨rfl, rfl⟩ hR (lt_lit (by decide)) cel_58 rfl rfl hw hd rfl hp h
/-! WarByHoursModel.findBribe (II)V -/
def rX12_findBribe : Room := { frames := 4, cells := 0, slots := 0, locals := 91 }
def f_X12_findBribe_55 (K18 : Int32 × Int32 × Int32 × St → Option (Unit × St)) (v1 : Int32) (v3 : Int32) (v4 : Int32) (σ : St) : Option (Unit × St) :=
  bnd (v4 + (1 : Int32)) fun x1 =>
  K18 (v1, v3, x1, σ)
theorem b_X12_findBribe_55 {Γ : CX} (K18 : Int32 × Int32 × Int32 × St → Option (Unit × St)) (hK18 : ∀ (v1 : Int32) (v3 : Int32) (v4 : Int32) (σ : St), RR vU Γ (K18 (v1, v3, v4, σ)) → WW Γ cX12_findBribe 5 RX12 none rX12_findBribe σ 18 [(0, .ref (xd Γ 58)), (1, .int v1), (3, .int v3), (4, .int v4)] []) (v1 : Int32) (v3 : Int32) (v4 : Int32) (σ : St) (h : RR vU Γ (f_X12_findBribe_55 K18 v1 v3 v4 σ)) : WW Γ cX12_findBribe 5 RX12 none rX12_findBribe σ 55 [(0, .ref (xd Γ 58)), (1, .int v1), (3, .int v3), (4, .int v4)] [] := by
  unfold f_X12_findBribe_55 at h
  obtain ⟨x1, ex1⟩ : ∃ y : Int32, y = (v4 + (1 : Int32)) := ⟨_, rfl⟩
  replace h := h.bnd ex1
  refine w_iinc 3 x1 [(4, .int x1), (0, .ref (xd Γ 58)), (1, .int v1), (3, .int v3)] dX12_findBribe_55 rfl (by rw [ex1, ic_iconst_1]) (by decide) rfl rfl ?_
  clear ex1
  refine w_goto (tgt := 18) dX12_findBribe_58 (by decide) ?_
  exact w_sub [1, 2, 3, 0] rfl (hK18 v1 v3 x1 σ h)
def g_X12_findBribe_18 (K18 : Int32 × Int32 × Int32 × St → Option (Unit × St)) (x : Int32 × Int32 × Int32 × St) : Option (Unit × St) := match x with
  | (v1, v3, v4, σ) =>
  if v3 < v4 then
    some ((), σ)
  else
    if (v4 &&& (v3 ^^^ (-1 : Int32))) = 0 then
      bd (f_X12_isLate v1 v4 σ) fun r1 s2 =>
      if r1 = 0 then
        f_X12_findBribe_55 K18 v1 v3 v4 s2
      else
        bd (f_X12_priceOf v4 s2) fun r4 s5 =>
        bd (f_X12_take r4 v4 s5) fun _ s8 =>
        f_X12_findBribe_55 K18 v1 v3 v4 s8
    else
      f_X12_findBribe_55 K18 v1 v3 v4 σ
theorem l_X12_findBribe_18 {Γ : CX} : ∀ (n : Nat) (v1 : Int32) (v3 : Int32) (v4 : Int32) (σ : St), RR vU Γ (itr (g_X12_findBribe_18) n (v1, v3, v4, σ)) → WW Γ cX12_findBribe 5 RX12 none rX12_findBribe σ 18 [(0, .ref (xd Γ 58)), (1, .int v1), (3, .int v3), (4, .int v4)] [] := by
  intro n
  induction n with
  | zero => intro v1 v3 v4 σ h; exact RR.no h
  | succ n hK18 =>
  intro v1 v3 v4 σ h
  have h : RR vU Γ (g_X12_findBribe_18 (itr (g_X12_findBribe_18) n) (v1, v3, v4, σ)) := h
  generalize itr (g_X12_findBribe_18) n = K18 at h hK18
  unfold g_X12_findBribe_18 at h
  dsimp only at h
  refine w_iload 3 dX12_findBribe_18 rfl rfl ?_
  refine w_iload_n 2 dX12_findBribe_20 rfl rfl rfl ?_
  refine w_icmp_gt (tgt := 61) dX12_findBribe_21 (by decide) rfl (fun q => ?_) (fun q => ?_)
  · have h := h.tt q
    exact w_return dX12_findBribe_61 h
  · have h := h.ff q
    refine w_iload 3 dX12_findBribe_24 rfl rfl ?_
    refine w_iload_n 2 dX12_findBribe_26 rfl rfl rfl ?_
    refine w_iconst (-1 : Int32) dX12_findBribe_27 ic_iconst_m1 rfl ?_
    refine w_ixor dX12_findBribe_28 rfl ?_
    refine w_iand dX12_findBribe_29 rfl ?_
    refine w_if_ne (tgt := 55) dX12_findBribe_30 (by decide) rfl (fun q => ?_) (fun q => ?_)
    · have h := h.ff q
      exact w_sub [0, 1, 2, 3] rfl (b_X12_findBribe_55 K18 hK18 v1 v3 v4 σ h)
    · have h := h.tt q
      refine w_aload_n 0 dX12_findBribe_33 rfl rfl rfl ?_
      refine w_iload_n 1 dX12_findBribe_34 rfl rfl rfl ?_
      refine w_iload 3 dX12_findBribe_35 rfl rfl ?_
      obtain ⟨r1, s2, h3, h⟩ := h.bd
      refine k_X12_isLate ml_RX12_254 (Nat.le_of_ble_eq_true rfl) ⟨Nat.le_of_ble_eq_true rfl, Nat.le_of_ble_eq_true rfl⟩ dX12_findBribe_37 rfl h3 ?_
      refine w_if_eq (tgt := 55) dX12_findBribe_40 (by decide) rfl (fun q => ?_) (fun q => ?_)
      · have h := h.tt q
        exact w_sub [0, 1, 2, 3] rfl (b_X12_findBribe_55 K18 hK18 v1 v3 v4 s2 h)
      · have h := h.ff q
        refine w_aload_n 0 dX12_findBribe_43 rfl rfl rfl ?_
        refine w_aload_n 0 dX12_findBribe_44 rfl rfl rfl ?_
        refine w_iload 3 dX12_findBribe_45 rfl rfl ?_
        obtain ⟨r4, s5, h6, h⟩ := h.bd
        refine k_X12_priceOf ml_RX12_320 (Nat.le_of_ble_eq_true rfl) ⟨Nat.le_of_ble_eq_true rfl, Nat.le_of_ble_eq_true rfl⟩ dX12_findBribe_47 rfl h6 ?_
        refine w_iload 3 dX12_findBribe_50 rfl rfl ?_
        obtain ⟨r7, s8, h9, h⟩ := h.bd
        refine k_X12_take ml_RX12_323 (Nat.le_of_ble_eq_true rfl) ⟨Nat.le_of_ble_eq_true rfl, Nat.le_of_ble_eq_true rfl⟩ dX12_findBribe_52 rfl h9 ?_
        exact w_sub [0, 1, 2, 3] rfl (b_X12_findBribe_55 K18 hK18 v1 v3 v4 s8 h)
def f_X12_findBribe (p0 : Int32) (p1 : Int32) (σ : St) : Option (Unit × St) :=
  bnd (sf σ 58 19 (-1 : Int32)) fun s1 =>
  bd (f_X12_trainsOf p0 s1) fun r2 s3 =>
  bnd ((r2 &&& (p1 ^^^ (-1 : Int32)))) fun x5 =>
  itr (g_X12_findBribe_18) FU (p0, x5, (0 : Int32), s3)
theorem e_X12_findBribe {Γ : CX} (p0 : Int32) (p1 : Int32) (σ : St) (h : RR vU Γ (f_X12_findBribe p0 p1 σ)) : WW Γ cX12_findBribe 5 RX12 none rX12_findBribe σ 0 [(0, .ref (xd Γ 58)), (1, .int p0), (2, .int p1)] [] := by
  unfold f_X12_findBribe at h
  refine w_aload_n 0 dX12_findBribe_0 rfl rfl rfl ?_
  refine w_iconst (-1 : Int32) dX12_findBribe_1 ic_iconst_m1 rfl ?_
  refine pf_RX12_308 dX12_findBribe_2 rfl ?_
  obtain ⟨s1, es1⟩ : ∃ y : St, y = (sf σ 58 19 (-1 : Int32)) := ⟨_, rfl⟩
  rw [← es1]
  replace h := h.bnd es1
  clear es1
  refine w_aload_n 0 dX12_findBribe_5 rfl rfl rfl ?_
  refine w_iload_n 1 dX12_findBribe_6 rfl rfl rfl ?_
  obtain ⟨r2, s3, h4, h⟩ := h.bd
  refine k_X12_trainsOf ml_RX12_314 (Nat.le_of_ble_eq_true rfl) ⟨Nat.le_of_ble_eq_true rfl, Nat.le_of_ble_eq_true rfl⟩ dX12_findBribe_7 rfl h4 ?_
  refine w_iload_n 2 dX12_findBribe_10 rfl rfl rfl ?_
  refine w_iconst (-1 : Int32) dX12_findBribe_11 ic_iconst_m1 rfl ?_
  refine w_ixor dX12_findBribe_12 rfl ?_
  refine w_iand dX12_findBribe_13 rfl ?_
  refine w_nmI (fun x5 ex5 => ?_)
  replace h := h.bnd ex5
  clear ex5
  refine w_istore_n [(3, .int x5), (0, .ref (xd Γ 58)), (1, .int p0), (2, .int p1)] dX12_findBribe_14 rfl (by decide) rfl rfl ?_
  refine w_iconst (0 : Int32) dX12_findBribe_15 ic_iconst_0 rfl ?_
  refine w_istore [(4, .int (0 : Int32)), (3, .int x5), (0, .ref (xd Γ 58)), (1, .int p0), (2, .int p1)] dX12_findBribe_16 (by decide) rfl rfl ?_
  exact w_sub [2, 3, 1, 0] rfl (l_X12_findBribe_18 FU p0 x5 (0 : Int32) s3 h)
theorem c_X12_findBribe {l : Launch} {D : va_G} {cy : Nat → ClassId} {ad : Nat → Nat} {p0 : Int32} {p1 : Int32} {σ σ' : St} {r : Unit} (hf : f_X12_findBribe p0 p1 σ = some (r, σ')) : CT l D cy ad yX12_findBribe cX12_findBribe 5 none rX12_findBribe [.ref (ad 58), .int p0, .int p1] σ none σ' :=
  ct_of (by decide) (Nat.le_of_ble_eq_true rfl) (fun p e s m args below meth c A => e_X12_findBribe (Γ := (p, l, e, rX12_findBribe, s, m, args, below, meth, c, D, cy, ad, A, 0, 0, MQ below (QC D cy ad none σ' A) args s 0 0 A)) p0 p1 σ ⟨_, hf, rfl⟩)
theorem k_X12_findBribe {Γ : CX} {cc : ByteArray} {nL : Nat} {own : String} {ret : Option FieldType} {rm : Room} {σ σ' : St} {pc pc' idx : Nat} {lv : List (Nat × Value)} {rest : List Value} {p0 : Int32} {p1 : Int32} {r : Unit} (hl : Cond.methodLink own idx yX12_findBribe ∈ TB) (hw : (rest.map fun v => v.category).sum ≤ 8) (hR : rX12_findBribe.frames + 1 ≤ rm.frames ∧ 8 + (5 + 11) + rX12_findBribe.locals ≤ rm.locals) (hd : decode cc pc = .ok (.invokevirtual idx, 3)) (hp : pc + 3 = pc') (hf : f_X12_findBribe p0 p1 σ = some (r, σ')) (h : WW Γ cc nL own ret rm σ' pc' lv (rest)) : WW Γ cc nL own ret rm σ pc lv (.int p1 :: .int p0 :: .ref (xd Γ 58) :: rest) :=
  w_callV (nn := 2) (i := 58) (As := [.int p0, .int p1]) (v := none) (T := TX12) (N := 32) (c_X12_findBribe hf) hl mw_X12_findBribe (by decide +kernel) ⟨rfl, rfl⟩ hR (lt_lit (by decide)) cel_58 rfl rfl hw hd rfl hp h
/-! WarByHoursModel.bribe (I)I -/
def rX12_bribe : Room := { frames := 5, cells := 0, slots := 0, locals := 115 }
def f_X12_bribe (p0 : Int32) (σ : St) : Option (Int32 × St) :=
  bd (f_X12_isSide p0 σ) fun r1 s2 =>
  if r1 = 0 then
    some ((-2 : Int32), s2)
  else
    bd (f_X12_findBribe p0 (0 : Int32) s2) fun _ s5 =>
    bd (f_X12_orNone s5) fun r7 s8 =>
    some (r7, s8)
theorem e_X12_bribe {Γ : CX} (p0 : Int32) (σ : St) (h : RR vI Γ (f_X12_bribe p0 σ)) : WW Γ cX12_bribe 2 RX12 (some .int) rX12_bribe σ 0 [(0, .ref (xd Γ 58)), (1, .int p0)] [] := by
  unfold f_X12_bribe at h
  refine w_aload_n 0 dX12_bribe_0 rfl rfl rfl ?_
  refine w_iload_n 1 dX12_bribe_1 rfl rfl rfl ?_
  obtain ⟨r1, s2, h3, h⟩ := h.bd
  refine k_X12_isSide ml_RX12_236 (Nat.le_of_ble_eq_true rfl) ⟨Nat.le_of_ble_eq_true rfl, Nat.le_of_ble_eq_true rfl⟩ dX12_bribe_2 rfl h3 ?_
  refine w_if_ne (tgt := 11) dX12_bribe_5 (by decide) rfl (fun q => ?_) (fun q => ?_)
  · have h := h.ff q
    refine w_aload_n 0 dX12_bribe_11 rfl rfl rfl ?_
    refine w_iload_n 1 dX12_bribe_12 rfl rfl rfl ?_
    refine w_iconst (0 : Int32) dX12_bribe_13 ic_iconst_0 rfl ?_
    obtain ⟨r4, s5, h6, h⟩ := h.bd
    refine k_X12_findBribe ml_RX12_345 (Nat.le_of_ble_eq_true rfl) ⟨Nat.le_of_ble_eq_true rfl, Nat.le_of_ble_eq_true rfl⟩ dX12_bribe_14 rfl h6 ?_
    refine w_aload_n 0 dX12_bribe_17 rfl rfl rfl ?_
    obtain ⟨r7, s8, h9, h⟩ := h.bd
    refine k_X12_orNone ml_RX12_331 (Nat.le_of_ble_eq_true rfl) ⟨Nat.le_of_ble_eq_true rfl, Nat.le_of_ble_eq_true rfl⟩ dX12_bribe_18 rfl h9 ?_
    exact w_ireturn dX12_bribe_21 h
  · have h := h.tt q
    refine w_bipush (-2 : Int32) dX12_bribe_8 ic_bipush_m2 rfl ?_
    exact w_ireturn dX12_bribe_10 h
theorem c_X12_bribe {l : Launch} {D : va_G} {cy : Nat → ClassId} {ad : Nat → Nat} {p0 : Int32} {σ σ' : St} {r : Int32} (hf : f_X12_bribe p0 σ = some (r, σ')) : CT l D cy ad yX12_bribe cX12_bribe 2 (some .int) rX12_bribe [.ref (ad 58), .int p0] σ (some (.int r)) σ' :=
  ct_of (by decide) (Nat.le_of_ble_eq_true rfl) (fun p e s m args below meth c A => e_X12_bribe (Γ := (p, l, e, rX12_bribe, s, m, args, below, meth, c, D, cy, ad, A, 0, 0, MQ below (QC D cy ad (some (.int r)) σ' A) args s 0 0 A)) p0 σ ⟨_, hf, rfl⟩)
theorem k_X12_bribe {Γ : CX} {cc : ByteArray} {nL : Nat} {own : String} {ret : Option FieldType} {rm : Room} {σ σ' : St} {pc pc' idx : Nat} {lv : List (Nat × Value)} {rest : List Value} {p0 : Int32} {r : Int32} (hl : Cond.methodLink own idx yX12_bribe ∈ TB) (hw : (rest.map fun v => v.category).sum ≤ 8) (hR : rX12_bribe.frames + 1 ≤ rm.frames ∧ 8 + (2 + 11) + rX12_bribe.locals ≤ rm.locals) (hd : decode cc pc = .ok (.invokevirtual idx, 3)) (hp : pc + 3 = pc') (hf : f_X12_bribe p0 σ = some (r, σ')) (h : WW Γ cc nL own ret rm σ' pc' lv (.int r :: rest)) : WW Γ cc nL own ret rm σ pc lv (.int p0 :: .ref (xd Γ 58) :: rest) :=
  w_callV (nn := 1) (i := 58) (As := [.int p0]) (v := (some (.int r))) (T := TX12) (N := 32) (c_X12_bribe hf) hl mw_X12_bribe (by decide +kernel) ⟨rfl, rfl⟩ hR (lt_lit (by decide)) cel_58 rfl rfl hw hd rfl hp h
/-! WarByHoursModel.bribed (I)I -/
def rX12_bribed : Room := { frames := 5, cells := 0, slots := 0, locals := 115 }
def f_X12_bribed (p0 : Int32) (σ : St) : Option (Int32 × St) :=
  bd (f_X12_isSide p0 σ) fun r1 s2 =>
  if r1 = 0 then
    some ((-2 : Int32), s2)
  else
    bd (f_X12_findBribe p0 (0 : Int32) s2) fun _ s5 =>
    some ((gf s5 58 19), s5)
theorem e_X12_bribed {Γ : CX} (p0 : Int32) (σ : St) (h : RR vI Γ (f_X12_bribed p0 σ)) : WW Γ cX12_bribed 2 RX12 (some .int) rX12_bribed σ 0 [(0, .ref (xd Γ 58)), (1, .int p0)] [] := by
  unfold f_X12_bribed at h
  refine w_aload_n 0 dX12_bribed_0 rfl rfl rfl ?_
  refine w_iload_n 1 dX12_bribed_1 rfl rfl rfl ?_
  obtain ⟨r1, s2, h3, h⟩ := h.bd
  refine k_X12_isSide ml_RX12_236 (Nat.le_of_ble_eq_true rfl) ⟨Nat.le_of_ble_eq_true rfl, Nat.le_of_ble_eq_true rfl⟩ dX12_bribed_2 rfl h3 ?_
  refine w_if_ne (tgt := 11) dX12_bribed_5 (by decide) rfl (fun q => ?_) (fun q => ?_)
  · have h := h.ff q
    refine w_aload_n 0 dX12_bribed_11 rfl rfl rfl ?_
    refine w_iload_n 1 dX12_bribed_12 rfl rfl rfl ?_
    refine w_iconst (0 : Int32) dX12_bribed_13 ic_iconst_0 rfl ?_
    obtain ⟨r4, s5, h6, h⟩ := h.bd
    refine k_X12_findBribe ml_RX12_345 (Nat.le_of_ble_eq_true rfl) ⟨Nat.le_of_ble_eq_true rfl, Nat.le_of_ble_eq_true rfl⟩ dX12_bribed_14 rfl h6 ?_
    refine w_aload_n 0 dX12_bribed_17 rfl rfl rfl ?_
    refine gf_RX12_308 dX12_bribed_18 rfl ?_
    exact w_ireturn dX12_bribed_21 h
  · have h := h.tt q
    refine w_bipush (-2 : Int32) dX12_bribed_8 ic_bipush_m2 rfl ?_
    exact w_ireturn dX12_bribed_10 h
theorem c_X12_bribed {l : Launch} {D : va_G} {cy : Nat → ClassId} {ad : Nat → Nat} {p0 : Int32} {σ σ' : St} {r : Int32} (hf : f_X12_bribed p0 σ = some (r, σ')) : CT l D cy ad yX12_bribed cX12_bribed 2 (some .int) rX12_bribed [.ref (ad 58), .int p0] σ (some (.int r)) σ' :=
  ct_of (by decide) (Nat.le_of_ble_eq_true rfl) (fun p e s m args below meth c A => e_X12_bribed (Γ := (p, l, e, rX12_bribed, s, m, args, below, meth, c, D, cy, ad, A, 0, 0, MQ below (QC D cy ad (some (.int r)) σ' A) args s 0 0 A)) p0 σ ⟨_, hf, rfl⟩)
theorem k_X12_bribed {Γ : CX} {cc : ByteArray} {nL : Nat} {own : String} {ret : Option FieldType} {rm : Room} {σ σ' : St} {pc pc' idx : Nat} {lv : List (Nat × Value)} {rest : List Value} {p0 : Int32} {r : Int32} (hl : Cond.methodLink own idx yX12_bribed ∈ TB) (hw : (rest.map fun v => v.category).sum ≤ 8) (hR : rX12_bribed.frames + 1 ≤ rm.frames ∧ 8 + (2 + 11) + rX12_bribed.locals ≤ rm.locals) (hd : decode cc pc = .ok (.invokevirtual idx, 3)) (hp : pc + 3 = pc') (hf : f_X12_bribed p0 σ = some (r, σ')) (h : WW Γ cc nL own ret rm σ' pc' lv (.int r :: rest)) : WW Γ cc nL own ret rm σ pc lv (.int p0 :: .ref (xd Γ 58) :: rest) :=
  w_callV (nn := 1) (i := 58) (As := [.int p0]) (v := (some (.int r))) (T := TX12) (N := 32) (c_X12_bribed hf) hl mw_X12_bribed (by decide +kernel) ⟨rfl, rfl⟩ hR (lt_lit (by decide)) cel_58 rfl rfl hw hd rfl hp h
/-! WarByHoursModel.guardOf (I)I -/
def rX12_guardOf : Room := { frames := 5, cells := 0, slots := 0, locals := 115 }
def f_X12_guardOf_103 (K32 : Int32 × Int32 × Int32 × St → Option (Int32 × St)) (v1 : Int32) (v2 : Int32) (v3 : Int32) (σ : St) : Option (Int32 × St) :=
  bnd (v3 + (1 : Int32)) fun x1 =>
  K32 (v1, v2, x1, σ)
theorem b_X12_guardOf_103 {Γ : CX} (K32 : Int32 × Int32 × Int32 × St → Option (Int32 × St)) (hK32 : ∀ (v1 : Int32) (v2 : Int32) (v3 : Int32) (σ : St), RR vI Γ (K32 (v1, v2, v3, σ)) → WW Γ cX12_guardOf 5 RX12 (some .int) rX12_guardOf σ 32 [(0, .ref (xd Γ 58)), (1, .int v1), (2, .int v2), (3, .int v3)] []) (v1 : Int32) (v2 : Int32) (v3 : Int32) (σ : St) (h : RR vI Γ (f_X12_guardOf_103 K32 v1 v2 v3 σ)) : WW Γ cX12_guardOf 5 RX12 (some .int) rX12_guardOf σ 103 [(0, .ref (xd Γ 58)), (1, .int v1), (2, .int v2), (3, .int v3)] [] := by
  unfold f_X12_guardOf_103 at h
  obtain ⟨x1, ex1⟩ : ∃ y : Int32, y = (v3 + (1 : Int32)) := ⟨_, rfl⟩
  replace h := h.bnd ex1
  refine w_iinc 3 x1 [(3, .int x1), (0, .ref (xd Γ 58)), (1, .int v1), (2, .int v2)] dX12_guardOf_103 rfl (by rw [ex1, ic_iconst_1]) (by decide) rfl rfl ?_
  clear ex1
  refine w_goto (tgt := 32) dX12_guardOf_106 (by decide) ?_
  exact w_sub [1, 2, 3, 0] rfl (hK32 v1 v2 x1 σ h)
def f_X12_guardOf_81 (K32 : Int32 × Int32 × Int32 × St → Option (Int32 × St)) (v1 : Int32) (v2 : Int32) (v3 : Int32) (k0 : Int32) (σ : St) : Option (Int32 × St) :=
  if (gf σ 58 20) < k0 then
    bnd (sf σ 58 20 k0) fun s1 =>
    f_X12_guardOf_103 K32 v1 v3 v3 s1
  else
    f_X12_guardOf_103 K32 v1 v2 v3 σ
theorem b_X12_guardOf_81 {Γ : CX} (K32 : Int32 × Int32 × Int32 × St → Option (Int32 × St)) (hK32 : ∀ (v1 : Int32) (v2 : Int32) (v3 : Int32) (σ : St), RR vI Γ (K32 (v1, v2, v3, σ)) → WW Γ cX12_guardOf 5 RX12 (some .int) rX12_guardOf σ 32 [(0, .ref (xd Γ 58)), (1, .int v1), (2, .int v2), (3, .int v3)] []) (v1 : Int32) (v2 : Int32) (v3 : Int32) (k0 : Int32) (σ : St) (h : RR vI Γ (f_X12_guardOf_81 K32 v1 v2 v3 k0 σ)) : WW Γ cX12_guardOf 5 RX12 (some .int) rX12_guardOf σ 81 [(0, .ref (xd Γ 58)), (1, .int v1), (2, .int v2), (3, .int v3)] [.int k0] := by
  unfold f_X12_guardOf_81 at h
  refine w_istore [(4, .int k0), (0, .ref (xd Γ 58)), (1, .int v1), (2, .int v2), (3, .int v3)] dX12_guardOf_81 (by decide) rfl rfl ?_
  refine w_iload 0 dX12_guardOf_83 rfl rfl ?_
  refine w_aload_n 1 dX12_guardOf_85 rfl rfl rfl ?_
  refine gf_RX12_348 dX12_guardOf_86 rfl ?_
  refine w_icmp_gt (tgt := 95) dX12_guardOf_89 (by decide) rfl (fun q => ?_) (fun q => ?_)
  · have h := h.tt q
    refine w_aload_n 1 dX12_guardOf_95 rfl rfl rfl ?_
    refine w_iload 0 dX12_guardOf_96 rfl rfl ?_
    refine pf_RX12_348 dX12_guardOf_98 rfl ?_
    obtain ⟨s1, es1⟩ : ∃ y : St, y = (sf σ 58 20 k0) := ⟨_, rfl⟩
    rw [← es1]
    replace h := h.bnd es1
    clear es1
    refine w_iload_n 4 dX12_guardOf_101 rfl rfl rfl ?_
    refine w_istore_n [(2, .int v3), (4, .int k0), (0, .ref (xd Γ 58)), (1, .int v1), (3, .int v3)] dX12_guardOf_102 rfl (by decide) rfl rfl ?_
    exact w_sub [2, 3, 0, 4] rfl (b_X12_guardOf_103 K32 hK32 v1 v3 v3 s1 h)
  · have h := h.ff q
    refine w_goto (tgt := 103) dX12_guardOf_92 (by decide) ?_
    exact w_sub [1, 2, 3, 4] rfl (b_X12_guardOf_103 K32 hK32 v1 v2 v3 σ h)
def g_X12_guardOf_32 (K32 : Int32 × Int32 × Int32 × St → Option (Int32 × St)) (x : Int32 × Int32 × Int32 × St) : Option (Int32 × St) := match x with
  | (v1, v2, v3, σ) =>
  gd (inb (4 : Int32) (ln 59)) <|
  if (gr σ 59 (4 : Int32).toNatClampNeg) ≤ v3 then
    some (v2, σ)
  else
    bd (f_X12_of v3 (0 : Int32) σ) fun r2 s3 =>
    if r2 = v1 then
      bd (f_X12_findBribe v1 ((1 : Int32) <<< (v3 &&& 31)) s3) fun _ s6 =>
      if (gf s6 58 19) = (-1 : Int32) then
        f_X12_guardOf_81 K32 v1 v2 v3 (1000000 : Int32) s6
      else
        f_X12_guardOf_81 K32 v1 v2 v3 (gf s6 58 18) s6
    else
      f_X12_guardOf_103 K32 v1 v2 v3 s3
theorem l_X12_guardOf_32 {Γ : CX} : ∀ (n : Nat) (v1 : Int32) (v2 : Int32) (v3 : Int32) (σ : St), RR vI Γ (itr (g_X12_guardOf_32) n (v1, v2, v3, σ)) → WW Γ cX12_guardOf 5 RX12 (some .int) rX12_guardOf σ 32 [(0, .ref (xd Γ 58)), (1, .int v1), (2, .int v2), (3, .int v3)] [] := by
  intro n
  induction n with
  | zero => intro v1 v2 v3 σ h; exact RR.no h
  | succ n hK32 =>
  intro v1 v2 v3 σ h
  have h : RR vI Γ (g_X12_guardOf_32 (itr (g_X12_guardOf_32) n) (v1, v2, v3, σ)) := h
  generalize itr (g_X12_guardOf_32) n = K32 at h hK32
  unfold g_X12_guardOf_32 at h
  dsimp only at h
  refine w_iload_n 3 dX12_guardOf_32 rfl rfl rfl ?_
  refine w_aload_n 0 dX12_guardOf_33 rfl rfl rfl ?_
  refine gf_RX12_9 dX12_guardOf_34 rfl ?_
  refine w_iconst (4 : Int32) dX12_guardOf_37 ic_iconst_4 rfl ?_
  obtain ⟨hi1, h⟩ := h.gd
  refine w_iald (i := 59) (lt_lit (by decide)) rfl hi1 dX12_guardOf_38 rfl ?_
  refine w_icmp_ge (tgt := 109) dX12_guardOf_39 (by decide) rfl (fun q => ?_) (fun q => ?_)
  · have h := h.tt q
    refine w_iload_n 2 dX12_guardOf_109 rfl rfl rfl ?_
    exact w_ireturn dX12_guardOf_110 h
  · have h := h.ff q
    refine w_aload_n 0 dX12_guardOf_42 rfl rfl rfl ?_
    refine w_iload_n 3 dX12_guardOf_43 rfl rfl rfl ?_
    refine w_iconst (0 : Int32) dX12_guardOf_44 ic_iconst_0 rfl ?_
    obtain ⟨r2, s3, h4, h⟩ := h.bd
    refine k_X12_of ml_RX12_82 (Nat.le_of_ble_eq_true rfl) ⟨Nat.le_of_ble_eq_true rfl, Nat.le_of_ble_eq_true rfl⟩ dX12_guardOf_45 rfl h4 ?_
    refine w_iload_n 1 dX12_guardOf_48 rfl rfl rfl ?_
    refine w_icmp_eq (tgt := 55) dX12_guardOf_49 (by decide) rfl (fun q => ?_) (fun q => ?_)
    · have h := h.tt q
      refine w_aload_n 0 dX12_guardOf_55 rfl rfl rfl ?_
      refine w_iload_n 1 dX12_guardOf_56 rfl rfl rfl ?_
      refine w_iconst (1 : Int32) dX12_guardOf_57 ic_iconst_1 rfl ?_
      refine w_iload_n 3 dX12_guardOf_58 rfl rfl rfl ?_
      refine w_ishl dX12_guardOf_59 rfl ?_
      obtain ⟨r5, s6, h7, h⟩ := h.bd
      refine k_X12_findBribe ml_RX12_345 (Nat.le_of_ble_eq_true rfl) ⟨Nat.le_of_ble_eq_true rfl, Nat.le_of_ble_eq_true rfl⟩ dX12_guardOf_60 rfl h7 ?_
      refine w_aload_n 0 dX12_guardOf_63 rfl rfl rfl ?_
      refine gf_RX12_308 dX12_guardOf_64 rfl ?_
      refine w_iconst (-1 : Int32) dX12_guardOf_67 ic_iconst_m1 rfl ?_
      refine w_icmp_ne (tgt := 77) dX12_guardOf_68 (by decide) rfl (fun q => ?_) (fun q => ?_)
      · have h := h.ff q
        refine w_aload_n 0 dX12_guardOf_77 rfl rfl rfl ?_
        refine gf_RX12_311 dX12_guardOf_78 rfl ?_
        exact w_sub [0, 1, 2, 3] rfl (b_X12_guardOf_81 K32 hK32 v1 v2 v3 (gf s6 58 18) s6 h)
      · have h := h.tt q
        refine w_ldc_w (1000000 : Int32) dX12_guardOf_71 cn_RX12_280 rfl ?_
        refine w_goto (tgt := 81) dX12_guardOf_74 (by decide) ?_
        exact w_sub [0, 1, 2, 3] rfl (b_X12_guardOf_81 K32 hK32 v1 v2 v3 (1000000 : Int32) s6 h)
    · have h := h.ff q
      refine w_goto (tgt := 103) dX12_guardOf_52 (by decide) ?_
      exact w_sub [0, 1, 2, 3] rfl (b_X12_guardOf_103 K32 hK32 v1 v2 v3 s3 h)
def f_X12_guardOf_27 (v1 : Int32) (v2 : Int32) (k0 : Int32) (σ : St) : Option (Int32 × St) :=
  bnd (sf σ 58 20 k0) fun s1 =>
  itr (g_X12_guardOf_32) FU (v1, v2, (0 : Int32), s1)
theorem b_X12_guardOf_27 {Γ : CX} (v1 : Int32) (v2 : Int32) (k0 : Int32) (σ : St) (h : RR vI Γ (f_X12_guardOf_27 v1 v2 k0 σ)) : WW Γ cX12_guardOf 5 RX12 (some .int) rX12_guardOf σ 27 [(0, .ref (xd Γ 58)), (1, .int v1), (2, .int v2)] [.int k0, .ref (xd Γ 58)] := by
  unfold f_X12_guardOf_27 at h
  refine pf_RX12_348 dX12_guardOf_27 rfl ?_
  obtain ⟨s1, es1⟩ : ∃ y : St, y = (sf σ 58 20 k0) := ⟨_, rfl⟩
  rw [← es1]
  replace h := h.bnd es1
  clear es1
  refine w_iconst (0 : Int32) dX12_guardOf_30 ic_iconst_0 rfl ?_
  refine w_istore_n [(3, .int (0 : Int32)), (0, .ref (xd Γ 58)), (1, .int v1), (2, .int v2)] dX12_guardOf_31 rfl (by decide) rfl rfl ?_
  exact w_sub [1, 2, 3, 0] rfl (l_X12_guardOf_32 FU v1 v2 (0 : Int32) s1 h)
def f_X12_guardOf (p0 : Int32) (σ : St) : Option (Int32 × St) :=
  bd (f_X12_findBribe p0 (0 : Int32) σ) fun _ s2 =>
  if (gf s2 58 19) = (-1 : Int32) then
    f_X12_guardOf_27 p0 (-1 : Int32) (1000000 : Int32) s2
  else
    f_X12_guardOf_27 p0 (-1 : Int32) (gf s2 58 18) s2
theorem e_X12_guardOf {Γ : CX} (p0 : Int32) (σ : St) (h : RR vI Γ (f_X12_guardOf p0 σ)) : WW Γ cX12_guardOf 5 RX12 (some .int) rX12_guardOf σ 0 [(0, .ref (xd Γ 58)), (1, .int p0)] [] := by
  unfold f_X12_guardOf at h
  refine w_aload_n 0 dX12_guardOf_0 rfl rfl rfl ?_
  refine w_iload_n 1 dX12_guardOf_1 rfl rfl rfl ?_
  refine w_iconst (0 : Int32) dX12_guardOf_2 ic_iconst_0 rfl ?_
  obtain ⟨r1, s2, h3, h⟩ := h.bd
  refine k_X12_findBribe ml_RX12_345 (Nat.le_of_ble_eq_true rfl) ⟨Nat.le_of_ble_eq_true rfl, Nat.le_of_ble_eq_true rfl⟩ dX12_guardOf_3 rfl h3 ?_
  refine w_iconst (-1 : Int32) dX12_guardOf_6 ic_iconst_m1 rfl ?_
  refine w_istore_n [(2, .int (-1 : Int32)), (0, .ref (xd Γ 58)), (1, .int p0)] dX12_guardOf_7 rfl (by decide) rfl rfl ?_
  refine w_aload_n 1 dX12_guardOf_8 rfl rfl rfl ?_
  refine w_aload_n 1 dX12_guardOf_9 rfl rfl rfl ?_
  refine gf_RX12_308 dX12_guardOf_10 rfl ?_
  refine w_iconst (-1 : Int32) dX12_guardOf_13 ic_iconst_m1 rfl ?_
  refine w_icmp_ne (tgt := 23) dX12_guardOf_14 (by decide) rfl (fun q => ?_) (fun q => ?_)
  · have h := h.ff q
    refine w_aload_n 1 dX12_guardOf_23 rfl rfl rfl ?_
    refine gf_RX12_311 dX12_guardOf_24 rfl ?_
    exact w_sub [1, 2, 0] rfl (b_X12_guardOf_27 p0 (-1 : Int32) (gf s2 58 18) s2 h)
  · have h := h.tt q
    refine w_ldc_w (1000000 : Int32) dX12_guardOf_17 cn_RX12_280 rfl ?_
    refine w_goto (tgt := 27) dX12_guardOf_20 (by decide) ?_
    exact w_sub [1, 2, 0] rfl (b_X12_guardOf_27 p0 (-1 : Int32) (1000000 : Int32) s2 h)
theorem c_X12_guardOf {l : Launch} {D : va_G} {cy : Nat → ClassId} {ad : Nat → Nat} {p0 : Int32} {σ σ' : St} {r : Int32} (hf : f_X12_guardOf p0 σ = some (r, σ')) : CT l D cy ad yX12_guardOf cX12_guardOf 5 (some .int) rX12_guardOf [.ref (ad 58), .int p0] σ (some (.int r)) σ' :=
  ct_of (by decide) (Nat.le_of_ble_eq_true rfl) (fun p e s m args below meth c A => e_X12_guardOf (Γ := (p, l, e, rX12_guardOf, s, m, args, below, meth, c, D, cy, ad, A, 0, 0, MQ below (QC D cy ad (some (.int r)) σ' A) args s 0 0 A)) p0 σ ⟨_, hf, rfl⟩)
theorem k_X12_guardOf {Γ : CX} {cc : ByteArray} {nL : Nat} {own : String} {ret : Option FieldType} {rm : Room} {σ σ' : St} {pc pc' idx : Nat} {lv : List (Nat × Value)} {rest : List Value} {p0 : Int32} {r : Int32} (hl : Cond.methodLink own idx yX12_guardOf ∈ TB) (hw : (rest.map fun v => v.category).sum ≤ 8) (hR : rX12_guardOf.frames + 1 ≤ rm.frames ∧ 8 + (5 + 11) + rX12_guardOf.locals ≤ rm.locals) (hd : decode cc pc = .ok (.invokevirtual idx, 3)) (hp : pc + 3 = pc') (hf : f_X12_guardOf p0 σ = some (r, σ')) (h : WW Γ cc nL own ret rm σ' pc' lv (.int r :: rest)) : WW Γ cc nL own ret rm σ pc lv (.int p0 :: .ref (xd Γ 58) :: rest) :=
  w_callV (nn := 1) (i := 58) (As := [.int p0]) (v := (some (.int r))) (T := TX12) (N := 32) (c_X12_guardOf hf) hl mw_X12_guardOf (by decide +kernel) ⟨rfl, rfl⟩ hR (lt_lit (by decide)) cel_58 rfl rfl hw hd rfl hp h
/-! WarByHoursModel.guard (I)I -/
def rX12_guard : Room := { frames := 6, cells := 0, slots := 0, locals := 139 }
def f_X12_guard_18 (k0 : Int32) (σ : St) : Option (Int32 × St) :=
  some (k0, σ)
theorem b_X12_guard_18 {Γ : CX} (k0 : Int32) (σ : St) (h : RR vI Γ (f_X12_guard_18 k0 σ)) : WW Γ cX12_guard 2 RX12 (some .int) rX12_guard σ 18 [] [.int k0] := by
  unfold f_X12_guard_18 at h
  exact w_ireturn dX12_guard_18 h
def f_X12_guard (p0 : Int32) (σ : St) : Option (Int32 × St) :=
  bd (f_X12_isSide p0 σ) fun r1 s2 =>
  if r1 = 0 then
    f_X12_guard_18 (-2 : Int32) s2
  else
    bd (f_X12_guardOf p0 s2) fun r4 s5 =>
    f_X12_guard_18 r4 s5
theorem e_X12_guard {Γ : CX} (p0 : Int32) (σ : St) (h : RR vI Γ (f_X12_guard p0 σ)) : WW Γ cX12_guard 2 RX12 (some .int) rX12_guard σ 0 [(0, .ref (xd Γ 58)), (1, .int p0)] [] := by
  unfold f_X12_guard at h
  refine w_aload_n 0 dX12_guard_0 rfl rfl rfl ?_
  refine w_iload_n 1 dX12_guard_1 rfl rfl rfl ?_
  obtain ⟨r1, s2, h3, h⟩ := h.bd
  refine k_X12_isSide ml_RX12_236 (Nat.le_of_ble_eq_true rfl) ⟨Nat.le_of_ble_eq_true rfl, Nat.le_of_ble_eq_true rfl⟩ dX12_guard_2 rfl h3 ?_
  refine w_if_eq (tgt := 16) dX12_guard_5 (by decide) rfl (fun q => ?_) (fun q => ?_)
  · have h := h.tt q
    refine w_bipush (-2 : Int32) dX12_guard_16 ic_bipush_m2 rfl ?_
    exact w_sub [] rfl (b_X12_guard_18 (-2 : Int32) s2 h)
  · have h := h.ff q
    refine w_aload_n 0 dX12_guard_8 rfl rfl rfl ?_
    refine w_iload_n 1 dX12_guard_9 rfl rfl rfl ?_
    obtain ⟨r4, s5, h6, h⟩ := h.bd
    refine k_X12_guardOf ml_RX12_351 (Nat.le_of_ble_eq_true rfl) ⟨Nat.le_of_ble_eq_true rfl, Nat.le_of_ble_eq_true rfl⟩ dX12_guard_10 rfl h6 ?_
    refine w_goto (tgt := 18) dX12_guard_13 (by decide) ?_
    exact w_sub [] rfl (b_X12_guard_18 r4 s5 h)
theorem c_X12_guard {l : Launch} {D : va_G} {cy : Nat → ClassId} {ad : Nat → Nat} {p0 : Int32} {σ σ' : St} {r : Int32} (hf : f_X12_guard p0 σ = some (r, σ')) : CT l D cy ad yX12_guard cX12_guard 2 (some .int) rX12_guard [.ref (ad 58), .int p0] σ (some (.int r)) σ' :=
  ct_of (by decide) (Nat.le_of_ble_eq_true rfl) (fun p e s m args below meth c A => e_X12_guard (Γ := (p, l, e, rX12_guard, s, m, args, below, meth, c, D, cy, ad, A, 0, 0, MQ below (QC D cy ad (some (.int r)) σ' A) args s 0 0 A)) p0 σ ⟨_, hf, rfl⟩)
theorem k_X12_guard {Γ : CX} {cc : ByteArray} {nL : Nat} {own : String} {ret : Option FieldType} {rm : Room} {σ σ' : St} {pc pc' idx : Nat} {lv : List (Nat × Value)} {rest : List Value} {p0 : Int32} {r : Int32} (hl : Cond.methodLink own idx yX12_guard ∈ TB) (hw : (rest.map fun v => v.category).sum ≤ 8) (hR : rX12_guard.frames + 1 ≤ rm.frames ∧ 8 + (2 + 11) + rX12_guard.locals ≤ rm.locals) (hd : decode cc pc = .ok (.invokevirtual idx, 3)) (hp : pc + 3 = pc') (hf : f_X12_guard p0 σ = some (r, σ')) (h : WW Γ cc nL own ret rm σ' pc' lv (.int r :: rest)) : WW Γ cc nL own ret rm σ pc lv (.int p0 :: .ref (xd Γ 58) :: rest) :=
  w_callV (nn := 1) (i := 58) (As := [.int p0]) (v := (some (.int r))) (T := TX12) (N := 32) (c_X12_guard hf) hl mw_X12_guard (by decide +kernel) ⟨rfl, rfl⟩ hR (lt_lit (by decide)) cel_58 rfl rfl hw hd rfl hp h
/-! WarByHoursModel.guarded (I)I -/
def rX12_guarded : Room := { frames := 6, cells := 0, slots := 0, locals := 139 }
def f_X12_guarded_17 (σ : St) : Option (Int32 × St) :=
  some ((-2 : Int32), σ)
theorem b_X12_guarded_17 {Γ : CX} (σ : St) (h : RR vI Γ (f_X12_guarded_17 σ)) : WW Γ cX12_guarded 2 RX12 (some .int) rX12_guarded σ 17 [] [] := by
  unfold f_X12_guarded_17 at h
  refine w_bipush (-2 : Int32) dX12_guarded_17 ic_bipush_m2 rfl ?_
  exact w_ireturn dX12_guarded_19 h
def f_X12_guarded_38 (k0 : Int32) (σ : St) : Option (Int32 × St) :=
  some (k0, σ)
theorem b_X12_guarded_38 {Γ : CX} (k0 : Int32) (σ : St) (h : RR vI Γ (f_X12_guarded_38 k0 σ)) : WW Γ cX12_guarded 2 RX12 (some .int) rX12_guarded σ 38 [] [.int k0] := by
  unfold f_X12_guarded_38 at h
  exact w_ireturn dX12_guarded_38 h
def f_X12_guarded (p0 : Int32) (σ : St) : Option (Int32 × St) :=
  bd (f_X12_isSide p0 σ) fun r1 s2 =>
  if r1 = 0 then
    f_X12_guarded_17 s2
  else
    bd (f_X12_guardOf p0 s2) fun r4 s5 =>
    if r4 = (-1 : Int32) then
      f_X12_guarded_17 s5
    else
      if (gf s5 58 20) = (1000000 : Int32) then
        f_X12_guarded_38 (-1 : Int32) s5
      else
        f_X12_guarded_38 (gf s5 58 20) s5
theorem e_X12_guarded {Γ : CX} (p0 : Int32) (σ : St) (h : RR vI Γ (f_X12_guarded p0 σ)) : WW Γ cX12_guarded 2 RX12 (some .int) rX12_guarded σ 0 [(0, .ref (xd Γ 58)), (1, .int p0)] [] := by
  unfold f_X12_guarded at h
  refine w_aload_n 0 dX12_guarded_0 rfl rfl rfl ?_
  refine w_iload_n 1 dX12_guarded_1 rfl rfl rfl ?_
  obtain ⟨r1, s2, h3, h⟩ := h.bd
  refine k_X12_isSide ml_RX12_236 (Nat.le_of_ble_eq_true rfl) ⟨Nat.le_of_ble_eq_true rfl, Nat.le_of_ble_eq_true rfl⟩ dX12_guarded_2 rfl h3 ?_
  refine w_if_eq (tgt := 17) dX12_guarded_5 (by decide) rfl (fun q => ?_) (fun q => ?_)
  · have h := h.tt q
    exact w_sub [] rfl (b_X12_guarded_17 s2 h)
  · have h := h.ff q
    refine w_aload_n 0 dX12_guarded_8 rfl rfl rfl ?_
    refine w_iload_n 1 dX12_guarded_9 rfl rfl rfl ?_
    obtain ⟨r4, s5, h6, h⟩ := h.bd
    refine k_X12_guardOf ml_RX12_351 (Nat.le_of_ble_eq_true rfl) ⟨Nat.le_of_ble_eq_true rfl, Nat.le_of_ble_eq_true rfl⟩ dX12_guarded_10 rfl h6 ?_
    refine w_iconst (-1 : Int32) dX12_guarded_13 ic_iconst_m1 rfl ?_
    refine w_icmp_ne (tgt := 20) dX12_guarded_14 (by decide) rfl (fun q => ?_) (fun q => ?_)
    · have h := h.ff q
      refine w_aload_n 0 dX12_guarded_20 rfl rfl rfl ?_
      refine gf_RX12_348 dX12_guarded_21 rfl ?_
      refine w_ldc_w (1000000 : Int32) dX12_guarded_24 cn_RX12_280 rfl ?_
      refine w_icmp_ne (tgt := 34) dX12_guarded_27 (by decide) rfl (fun q => ?_) (fun q => ?_)
      · have h := h.ff q
        refine w_aload_n 0 dX12_guarded_34 rfl rfl rfl ?_
        refine gf_RX12_348 dX12_guarded_35 rfl ?_
        exact w_sub [] rfl (b_X12_guarded_38 (gf s5 58 20) s5 h)
      · have h := h.tt q
        refine w_iconst (-1 : Int32) dX12_guarded_30 ic_iconst_m1 rfl ?_
        refine w_goto (tgt := 38) dX12_guarded_31 (by decide) ?_
        exact w_sub [] rfl (b_X12_guarded_38 (-1 : Int32) s5 h)
    · have h := h.tt q
      exact w_sub [] rfl (b_X12_guarded_17 s5 h)
theorem c_X12_guarded {l : Launch} {D : va_G} {cy : Nat → ClassId} {ad : Nat → Nat} {p0 : Int32} {σ σ' : St} {r : Int32} (hf : f_X12_guarded p0 σ = some (r, σ')) : CT l D cy ad yX12_guarded cX12_guarded 2 (some .int) rX12_guarded [.ref (ad 58), .int p0] σ (some (.int r)) σ' :=
  ct_of (by decide) (Nat.le_of_ble_eq_true rfl) (fun p e s m args below meth c A => e_X12_guarded (Γ := (p, l, e, rX12_guarded, s, m, args, below, meth, c, D, cy, ad, A, 0, 0, MQ below (QC D cy ad (some (.int r)) σ' A) args s 0 0 A)) p0 σ ⟨_, hf, rfl⟩)
theorem k_X12_guarded {Γ : CX} {cc : ByteArray} {nL : Nat} {own : String} {ret : Option FieldType} {rm : Room} {σ σ' : St} {pc pc' idx : Nat} {lv : List (Nat × Value)} {rest : List Value} {p0 : Int32} {r : Int32} (hl : Cond.methodLink own idx yX12_guarded ∈ TB) (hw : (rest.map fun v => v.category).sum ≤ 8) (hR : rX12_guarded.frames + 1 ≤ rm.frames ∧ 8 + (2 + 11) + rX12_guarded.locals ≤ rm.locals) (hd : decode cc pc = .ok (.invokevirtual idx, 3)) (hp : pc + 3 = pc') (hf : f_X12_guarded p0 σ = some (r, σ')) (h : WW Γ cc nL own ret rm σ' pc' lv (.int r :: rest)) : WW Γ cc nL own ret rm σ pc lv (.int p0 :: .ref (xd Γ 58) :: rest) :=
  w_callV (nn := 1) (i := 58) (As := [.int p0]) (v := (some (.int r))) (T := TX12) (N := 32) (c_X12_guarded hf) hl mw_X12_guarded (by decide +kernel) ⟨rfl, rfl⟩ hR (lt_lit (by decide)) cel_58 rfl rfl hw hd rfl hp h
/-! WarByHoursModel.fillFronts ()V -/
def rX12_fillFronts : Room := { frames := 5, cells := 0, slots := 0, locals := 114 }
def g_X12_fillFronts_2 (K2 : Int32 × St → Option (Unit × St)) (x : Int32 × St) : Option (Unit × St) := match x with
  | (v1, σ) =>
  bd (f_X12_allTrains σ) fun r1 s2 =>
  if r1 < v1 then
    some ((), s2)
  else
    bd (f_X12_lastFront v1 s2) fun r4 s5 =>
    gd (inb v1 (ln 67)) <|
    bnd (sr s5 67 v1.toNatClampNeg r4) fun s8 =>
    bnd (v1 + (1 : Int32)) fun x9 =>
    K2 (x9, s8)
theorem l_X12_fillFronts_2 {Γ : CX} : ∀ (n : Nat) (v1 : Int32) (σ : St), RR vU Γ (itr (g_X12_fillFronts_2) n (v1, σ)) → WW Γ cX12_fillFronts 2 RX12 none rX12_fillFronts σ 2 [(0, .ref (xd Γ 58)), (1, .int v1)] [] := by
  intro n
  induction n with
  | zero => intro v1 σ h; exact RR.no h
  | succ n hK2 =>
  intro v1 σ h
  have h : RR vU Γ (g_X12_fillFronts_2 (itr (g_X12_fillFronts_2) n) (v1, σ)) := h
  generalize itr (g_X12_fillFronts_2) n = K2 at h hK2
  unfold g_X12_fillFronts_2 at h
  dsimp only at h
  refine w_iload_n 1 dX12_fillFronts_2 rfl rfl rfl ?_
  refine w_aload_n 0 dX12_fillFronts_3 rfl rfl rfl ?_
  obtain ⟨r1, s2, h3, h⟩ := h.bd
  refine k_X12_allTrains ml_RX12_78 (Nat.le_of_ble_eq_true rfl) ⟨Nat.le_of_ble_eq_true rfl, Nat.le_of_ble_eq_true rfl⟩ dX12_fillFronts_4 rfl h3 ?_
  refine w_icmp_gt (tgt := 27) dX12_fillFronts_7 (by decide) rfl (fun q => ?_) (fun q => ?_)
  · have h := h.tt q
    exact w_return dX12_fillFronts_27 h
  · have h := h.ff q
    refine w_aload_n 0 dX12_fillFronts_10 rfl rfl rfl ?_
    refine gf_RX12_40 dX12_fillFronts_11 rfl ?_
    refine w_iload_n 1 dX12_fillFronts_14 rfl rfl rfl ?_
    refine w_aload_n 0 dX12_fillFronts_15 rfl rfl rfl ?_
    refine w_iload_n 1 dX12_fillFronts_16 rfl rfl rfl ?_
    obtain ⟨r4, s5, h6, h⟩ := h.bd
    refine k_X12_lastFront ml_RX12_258 (Nat.le_of_ble_eq_true rfl) ⟨Nat.le_of_ble_eq_true rfl, Nat.le_of_ble_eq_true rfl⟩ dX12_fillFronts_17 rfl h6 ?_
    obtain ⟨hi7, h⟩ := h.gd
    refine w_iast (i := 67) (lt_lit (by decide)) rfl hi7 dX12_fillFronts_20 rfl ?_
    obtain ⟨s8, es8⟩ : ∃ y : St, y = (sr s5 67 v1.toNatClampNeg r4) := ⟨_, rfl⟩
    rw [← es8]
    replace h := h.bnd es8
    clear es8
    obtain ⟨x9, ex9⟩ : ∃ y : Int32, y = (v1 + (1 : Int32)) := ⟨_, rfl⟩
    replace h := h.bnd ex9
    refine w_iinc 1 x9 [(1, .int x9), (0, .ref (xd Γ 58))] dX12_fillFronts_21 rfl (by rw [ex9, ic_iconst_1]) (by decide) rfl rfl ?_
    clear ex9
    refine w_goto (tgt := 2) dX12_fillFronts_24 (by decide) ?_
    exact w_sub [1, 0] rfl (hK2 x9 s8 h)
def f_X12_fillFronts (σ : St) : Option (Unit × St) :=
  itr (g_X12_fillFronts_2) FU ((0 : Int32), σ)
theorem e_X12_fillFronts {Γ : CX} (σ : St) (h : RR vU Γ (f_X12_fillFronts σ)) : WW Γ cX12_fillFronts 2 RX12 none rX12_fillFronts σ 0 [(0, .ref (xd Γ 58))] [] := by
  unfold f_X12_fillFronts at h
  refine w_iconst (0 : Int32) dX12_fillFronts_0 ic_iconst_0 rfl ?_
  refine w_istore_n [(1, .int (0 : Int32)), (0, .ref (xd Γ 58))] dX12_fillFronts_1 rfl (by decide) rfl rfl ?_
  exact w_sub [1, 0] rfl (l_X12_fillFronts_2 FU (0 : Int32) σ h)
theorem c_X12_fillFronts {l : Launch} {D : va_G} {cy : Nat → ClassId} {ad : Nat → Nat}  {σ σ' : St} {r : Unit} (hf : f_X12_fillFronts σ = some (r, σ')) : CT l D cy ad yX12_fillFronts cX12_fillFronts 2 none rX12_fillFronts [.ref (ad 58)] σ none σ' :=
  ct_of (by decide) (Nat.le_of_ble_eq_true rfl) (fun p e s m args below meth c A => e_X12_fillFronts (Γ := (p, l, e, rX12_fillFronts, s, m, args, below, meth, c, D, cy, ad, A, 0, 0, MQ below (QC D cy ad none σ' A) args s 0 0 A)) σ ⟨_, hf, rfl⟩)
theorem k_X12_fillFronts {Γ : CX} {cc : ByteArray} {nL : Nat} {own : String} {ret : Option FieldType} {rm : Room} {σ σ' : St} {pc pc' idx : Nat} {lv : List (Nat × Value)} {rest : List Value}  {r : Unit} (hl : Cond.methodLink own idx yX12_fillFronts ∈ TB) (hw : (rest.map fun v => v.category).sum ≤ 8) (hR : rX12_fillFronts.frames + 1 ≤ rm.frames ∧ 8 + (2 + 11) + rX12_fillFronts.locals ≤ rm.locals) (hd : decode cc pc = .ok (.invokevirtual idx, 3)) (hp : pc + 3 = pc') (hf : f_X12_fillFronts σ = some (r, σ')) (h : WW Γ cc nL own ret rm σ' pc' lv (rest)) : WW Γ cc nL own ret rm σ pc lv (.ref (xd Γ 58) :: rest) :=
  w_callV (nn := 0) (i := 58) (As := []) (v := none) (T := TX12) (N := 32) (c_X12_fillFronts hf) hl mw_X12_fillFronts (by decide +kernel) ⟨rfl, rfl⟩ hR (lt_lit (by decide)) cel_58 rfl rfl hw hd rfl hp h
/-! WarByHoursModel.isPrice (I)Z -/
def rX12_isPrice : Room := { frames := 1, cells := 0, slots := 0, locals := 25 }
def f_X12_isPrice (p0 : Int32) (σ : St) : Option (Int32 × St) :=
  bd (f_X12_in p0.toInt64 (0 : Int64) (999 : Int64) σ) fun r1 s2 =>
  gd (bz r1) <| some (r1, s2)
theorem e_X12_isPrice {Γ : CX} (p0 : Int32) (σ : St) (h : RR vI Γ (f_X12_isPrice p0 σ)) : WW Γ cX12_isPrice 1 RX12 (some .boolean) rX12_isPrice σ 0 [(0, .int p0)] [] := by
  unfold f_X12_isPrice at h
  refine w_iload_n 0 dX12_isPrice_0 rfl rfl rfl ?_
  refine w_i2l dX12_isPrice_1 rfl ?_
  refine w_lconst (0 : Int64) dX12_isPrice_2 rfl rfl ?_
  refine w_ldc2_w (999 : Int64) dX12_isPrice_3 cl_RX12_354 rfl ?_
  obtain ⟨r1, s2, h3, h⟩ := h.bd
  refine k_X12_in ml_RX12_70 (Nat.le_of_ble_eq_true rfl) ⟨Nat.le_of_ble_eq_true rfl, Nat.le_of_ble_eq_true rfl⟩ dX12_isPrice_6 rfl h3 ?_
  obtain ⟨hb, h⟩ := h.gd
  exact w_zreturn dX12_isPrice_9 hb h
theorem c_X12_isPrice {l : Launch} {D : va_G} {cy : Nat → ClassId} {ad : Nat → Nat} {p0 : Int32} {σ σ' : St} {r : Int32} (hf : f_X12_isPrice p0 σ = some (r, σ')) : CT l D cy ad yX12_isPrice cX12_isPrice 1 (some .boolean) rX12_isPrice [.int p0] σ (some (.int r)) σ' :=
  ct_of (by decide) (Nat.le_of_ble_eq_true rfl) (fun p e s m args below meth c A => e_X12_isPrice (Γ := (p, l, e, rX12_isPrice, s, m, args, below, meth, c, D, cy, ad, A, 0, 0, MQ below (QC D cy ad (some (.int r)) σ' A) args s 0 0 A)) p0 σ ⟨_, hf, rfl⟩)
theorem k_X12_isPrice {Γ : CX} {cc : ByteArray} {nL : Nat} {own : String} {ret : Option FieldType} {rm : Room} {σ σ' : St} {pc pc' idx : Nat} {lv : List (Nat × Value)} {rest : List Value} {p0 : Int32} {r : Int32} (hl : Cond.methodLink own idx yX12_isPrice ∈ TB) (hw : (rest.map fun v => v.category).sum ≤ 8) (hR : rX12_isPrice.frames + 1 ≤ rm.frames ∧ 8 + (1 + 11) + rX12_isPrice.locals ≤ rm.locals) (hd : decode cc pc = .ok (.invokestatic idx, 3)) (hp : pc + 3 = pc') (hf : f_X12_isPrice p0 σ = some (r, σ')) (h : WW Γ cc nL own ret rm σ' pc' lv (.int r :: rest)) : WW Γ cc nL own ret rm σ pc lv (.int p0 :: rest) :=
  w_callS (nn := 1) (As := [.int p0]) (v := (some (.int r))) (c_X12_isPrice hf) hl mw_X12_isPrice (by decide +kernel) ⟨rfl, rfl⟩ hR rfl hw hd rfl hp h
/-! WarByHoursModel.isBought (III)Z -/
def rX12_isBought : Room := { frames := 2, cells := 0, slots := 0, locals := 45 }
def f_X12_isBought_26 (k0 : Int32) (σ : St) : Option (Int32 × St) :=
  gd (bz k0) <| some (k0, σ)
theorem b_X12_isBought_26 {Γ : CX} (k0 : Int32) (σ : St) (h : RR vI Γ (f_X12_isBought_26 k0 σ)) : WW Γ cX12_isBought 4 RX12 (some .boolean) rX12_isBought σ 26 [] [.int k0] := by
  unfold f_X12_isBought_26 at h
  obtain ⟨hb, h⟩ := h.gd
  exact w_zreturn dX12_isBought_26 hb h
def f_X12_isBought_25 (σ : St) : Option (Int32 × St) :=
  f_X12_isBought_26 (0 : Int32) σ
theorem b_X12_isBought_25 {Γ : CX} (σ : St) (h : RR vI Γ (f_X12_isBought_25 σ)) : WW Γ cX12_isBought 4 RX12 (some .boolean) rX12_isBought σ 25 [] [] := by
  unfold f_X12_isBought_25 at h
  refine w_iconst (0 : Int32) dX12_isBought_25 ic_iconst_0 rfl ?_
  exact w_sub [] rfl (b_X12_isBought_26 (0 : Int32) σ h)
def f_X12_isBought (p0 : Int32) (p1 : Int32) (p2 : Int32) (σ : St) : Option (Int32 × St) :=
  bd (f_X12_trainsOf p0 σ) fun r1 s2 =>
  if (p1 &&& (r1 ^^^ (-1 : Int32))) = 0 then
    bd (f_X12_priceOf p1 s2) fun r4 s5 =>
    if p2 < r4 then
      f_X12_isBought_25 s5
    else
      f_X12_isBought_26 (1 : Int32) s5
  else
    f_X12_isBought_25 s2
theorem e_X12_isBought {Γ : CX} (p0 : Int32) (p1 : Int32) (p2 : Int32) (σ : St) (h : RR vI Γ (f_X12_isBought p0 p1 p2 σ)) : WW Γ cX12_isBought 4 RX12 (some .boolean) rX12_isBought σ 0 [(0, .ref (xd Γ 58)), (1, .int p0), (2, .int p1), (3, .int p2)] [] := by
  unfold f_X12_isBought at h
  refine w_iload_n 2 dX12_isBought_0 rfl rfl rfl ?_
  refine w_aload_n 0 dX12_isBought_1 rfl rfl rfl ?_
  refine w_iload_n 1 dX12_isBought_2 rfl rfl rfl ?_
  obtain ⟨r1, s2, h3, h⟩ := h.bd
  refine k_X12_trainsOf ml_RX12_314 (Nat.le_of_ble_eq_true rfl) ⟨Nat.le_of_ble_eq_true rfl, Nat.le_of_ble_eq_true rfl⟩ dX12_isBought_3 rfl h3 ?_
  refine w_iconst (-1 : Int32) dX12_isBought_6 ic_iconst_m1 rfl ?_
  refine w_ixor dX12_isBought_7 rfl ?_
  refine w_iand dX12_isBought_8 rfl ?_
  refine w_if_ne (tgt := 25) dX12_isBought_9 (by decide) rfl (fun q => ?_) (fun q => ?_)
  · have h := h.ff q
    exact w_sub [] rfl (b_X12_isBought_25 s2 h)
  · have h := h.tt q
    refine w_aload_n 0 dX12_isBought_12 rfl rfl rfl ?_
    refine w_iload_n 2 dX12_isBought_13 rfl rfl rfl ?_
    obtain ⟨r4, s5, h6, h⟩ := h.bd
    refine k_X12_priceOf ml_RX12_320 (Nat.le_of_ble_eq_true rfl) ⟨Nat.le_of_ble_eq_true rfl, Nat.le_of_ble_eq_true rfl⟩ dX12_isBought_14 rfl h6 ?_
    refine w_iload_n 3 dX12_isBought_17 rfl rfl rfl ?_
    refine w_icmp_gt (tgt := 25) dX12_isBought_18 (by decide) rfl (fun q => ?_) (fun q => ?_)
    · have h := h.tt q
      exact w_sub [] rfl (b_X12_isBought_25 s5 h)
    · have h := h.ff q
      refine w_iconst (1 : Int32) dX12_isBought_21 ic_iconst_1 rfl ?_
      refine w_goto (tgt := 26) dX12_isBought_22 (by decide) ?_
      exact w_sub [] rfl (b_X12_isBought_26 (1 : Int32) s5 h)
theorem c_X12_isBought {l : Launch} {D : va_G} {cy : Nat → ClassId} {ad : Nat → Nat} {p0 : Int32} {p1 : Int32} {p2 : Int32} {σ σ' : St} {r : Int32} (hf : f_X12_isBought p0 p1 p2 σ = some (r, σ')) : CT l D cy ad yX12_isBought cX12_isBought 4 (some .boolean) rX12_isBought [.ref (ad 58), .int p0, .int p1, .int p2] σ (some (.int r)) σ' :=
  ct_of (by decide) (Nat.le_of_ble_eq_true rfl) (fun p e s m args below meth c A => e_X12_isBought (Γ := (p, l, e, rX12_isBought, s, m, args, below, meth, c, D, cy, ad, A, 0, 0, MQ below (QC D cy ad (some (.int r)) σ' A) args s 0 0 A)) p0 p1 p2 σ ⟨_, hf, rfl⟩)
theorem k_X12_isBought {Γ : CX} {cc : ByteArray} {nL : Nat} {own : String} {ret : Option FieldType} {rm : Room} {σ σ' : St} {pc pc' idx : Nat} {lv : List (Nat × Value)} {rest : List Value} {p0 : Int32} {p1 : Int32} {p2 : Int32} {r : Int32} (hl : Cond.methodLink own idx yX12_isBought ∈ TB) (hw : (rest.map fun v => v.category).sum ≤ 8) (hR : rX12_isBought.frames + 1 ≤ rm.frames ∧ 8 + (4 + 11) + rX12_isBought.locals ≤ rm.locals) (hd : decode cc pc = .ok (.invokevirtual idx, 3)) (hp : pc + 3 = pc') (hf : f_X12_isBought p0 p1 p2 σ = some (r, σ')) (h : WW Γ cc nL own ret rm σ' pc' lv (.int r :: rest)) : WW Γ cc nL own ret rm σ pc lv (.int p2 :: .int p1 :: .int p0 :: .ref (xd Γ 58) :: rest) :=
  w_callV (nn := 3) (i := 58) (As := [.int p0, .int p1, .int p2]) (v := (some (.int r))) (T := TX12) (N := 32) (c_X12_isBought hf) hl mw_X12_isBought (by decide +kernel) ⟨rfl, rfl⟩ hR (lt_lit (by decide)) cel_58 rfl rfl hw hd rfl hp h
/-! WarByHoursModel.spoilOf (II)I -/
def rX12_spoilOf : Room := { frames := 6, cells := 0, slots := 0, locals := 135 }
def f_X12_spoilOf_67 (K11 : Int32 × Int32 × Int32 × Int32 × St → Option (Int32 × St)) (v1 : Int32) (v2 : Int32) (v3 : Int32) (v4 : Int32) (σ : St) : Option (Int32 × St) :=
  bnd (v4 + (1 : Int32)) fun x1 =>
  K11 (v1, v2, v3, x1, σ)
theorem b_X12_spoilOf_67 {Γ : CX} (K11 : Int32 × Int32 × Int32 × Int32 × St → Option (Int32 × St)) (hK11 : ∀ (v1 : Int32) (v2 : Int32) (v3 : Int32) (v4 : Int32) (σ : St), RR vI Γ (K11 (v1, v2, v3, v4, σ)) → WW Γ cX12_spoilOf 5 RX12 (some .int) rX12_spoilOf σ 11 [(0, .ref (xd Γ 58)), (1, .int v1), (2, .int v2), (3, .int v3), (4, .int v4)] []) (v1 : Int32) (v2 : Int32) (v3 : Int32) (v4 : Int32) (σ : St) (h : RR vI Γ (f_X12_spoilOf_67 K11 v1 v2 v3 v4 σ)) : WW Γ cX12_spoilOf 5 RX12 (some .int) rX12_spoilOf σ 67 [(0, .ref (xd Γ 58)), (1, .int v1), (2, .int v2), (3, .int v3), (4, .int v4)] [] := by
  unfold f_X12_spoilOf_67 at h
  obtain ⟨x1, ex1⟩ : ∃ y : Int32, y = (v4 + (1 : Int32)) := ⟨_, rfl⟩
  replace h := h.bnd ex1
  refine w_iinc 4 x1 [(4, .int x1), (0, .ref (xd Γ 58)), (1, .int v1), (2, .int v2), (3, .int v3)] dX12_spoilOf_67 rfl (by rw [ex1, ic_iconst_1]) (by decide) rfl rfl ?_
  clear ex1
  refine w_goto (tgt := 11) dX12_spoilOf_70 (by decide) ?_
  exact w_sub [1, 2, 3, 4, 0] rfl (hK11 v1 v2 v3 x1 σ h)
def g_X12_spoilOf_11 (K11 : Int32 × Int32 × Int32 × Int32 × St → Option (Int32 × St)) (x : Int32 × Int32 × Int32 × Int32 × St) : Option (Int32 × St) := match x with
  | (v1, v2, v3, v4, σ) =>
  bd (f_X12_allTrains σ) fun r1 s2 =>
  if r1 < v4 then
    some (v3, s2)
  else
    bd (f_X12_isBought v1 v4 v2 s2) fun r4 s5 =>
    if r4 = 0 then
      f_X12_spoilOf_67 K11 v1 v2 v3 v4 s5
    else
      gd (inb v4 (ln 67)) <|
      bd (f_X12_goodBy v1 (gr s5 67 v4.toNatClampNeg) s5) fun r8 s9 =>
      if r8 < v3 then
        gd (inb v4 (ln 67)) <|
        bd (f_X12_goodBy v1 (gr s9 67 v4.toNatClampNeg) s9) fun r12 s13 =>
        bnd (sf s13 58 22 v4) fun s15 =>
        f_X12_spoilOf_67 K11 v1 v2 r12 v4 s15
      else
        f_X12_spoilOf_67 K11 v1 v2 v3 v4 s9
theorem l_X12_spoilOf_11 {Γ : CX} : ∀ (n : Nat) (v1 : Int32) (v2 : Int32) (v3 : Int32) (v4 : Int32) (σ : St), RR vI Γ (itr (g_X12_spoilOf_11) n (v1, v2, v3, v4, σ)) → WW Γ cX12_spoilOf 5 RX12 (some .int) rX12_spoilOf σ 11 [(0, .ref (xd Γ 58)), (1, .int v1), (2, .int v2), (3, .int v3), (4, .int v4)] [] := by
  intro n
  induction n with
  | zero => intro v1 v2 v3 v4 σ h; exact RR.no h
  | succ n hK11 =>
  intro v1 v2 v3 v4 σ h
  have h : RR vI Γ (g_X12_spoilOf_11 (itr (g_X12_spoilOf_11) n) (v1, v2, v3, v4, σ)) := h
  generalize itr (g_X12_spoilOf_11) n = K11 at h hK11
  unfold g_X12_spoilOf_11 at h
  dsimp only at h
  refine w_iload 4 dX12_spoilOf_11 rfl rfl ?_
  refine w_aload_n 0 dX12_spoilOf_13 rfl rfl rfl ?_
  obtain ⟨r1, s2, h3, h⟩ := h.bd
  refine k_X12_allTrains ml_RX12_78 (Nat.le_of_ble_eq_true rfl) ⟨Nat.le_of_ble_eq_true rfl, Nat.le_of_ble_eq_true rfl⟩ dX12_spoilOf_14 rfl h3 ?_
  refine w_icmp_gt (tgt := 73) dX12_spoilOf_17 (by decide) rfl (fun q => ?_) (fun q => ?_)
  · have h := h.tt q
    refine w_iload_n 3 dX12_spoilOf_73 rfl rfl rfl ?_
    exact w_ireturn dX12_spoilOf_74 h
  · have h := h.ff q
    refine w_aload_n 0 dX12_spoilOf_20 rfl rfl rfl ?_
    refine w_iload_n 1 dX12_spoilOf_21 rfl rfl rfl ?_
    refine w_iload 4 dX12_spoilOf_22 rfl rfl ?_
    refine w_iload_n 2 dX12_spoilOf_24 rfl rfl rfl ?_
    obtain ⟨r4, s5, h6, h⟩ := h.bd
    refine k_X12_isBought ml_RX12_359 (Nat.le_of_ble_eq_true rfl) ⟨Nat.le_of_ble_eq_true rfl, Nat.le_of_ble_eq_true rfl⟩ dX12_spoilOf_25 rfl h6 ?_
    refine w_if_eq (tgt := 67) dX12_spoilOf_28 (by decide) rfl (fun q => ?_) (fun q => ?_)
    · have h := h.tt q
      exact w_sub [0, 1, 2, 3, 4] rfl (b_X12_spoilOf_67 K11 hK11 v1 v2 v3 v4 s5 h)
    · have h := h.ff q
      refine w_iload_n 1 dX12_spoilOf_31 rfl rfl rfl ?_
      refine w_aload_n 0 dX12_spoilOf_32 rfl rfl rfl ?_
      refine gf_RX12_40 dX12_spoilOf_33 rfl ?_
      refine w_iload 4 dX12_spoilOf_36 rfl rfl ?_
      obtain ⟨hi7, h⟩ := h.gd
      refine w_iald (i := 67) (lt_lit (by decide)) rfl hi7 dX12_spoilOf_38 rfl ?_
      obtain ⟨r8, s9, h10, h⟩ := h.bd
      refine k_X12_goodBy ml_RX12_272 (Nat.le_of_ble_eq_true rfl) ⟨Nat.le_of_ble_eq_true rfl, Nat.le_of_ble_eq_true rfl⟩ dX12_spoilOf_39 rfl h10 ?_
      refine w_iload_n 3 dX12_spoilOf_42 rfl rfl rfl ?_
      refine w_icmp_lt (tgt := 49) dX12_spoilOf_43 (by decide) rfl (fun q => ?_) (fun q => ?_)
      · have h := h.tt q
        refine w_iload_n 1 dX12_spoilOf_49 rfl rfl rfl ?_
        refine w_aload_n 0 dX12_spoilOf_50 rfl rfl rfl ?_
        refine gf_RX12_40 dX12_spoilOf_51 rfl ?_
        refine w_iload 4 dX12_spoilOf_54 rfl rfl ?_
        obtain ⟨hi11, h⟩ := h.gd
        refine w_iald (i := 67) (lt_lit (by decide)) rfl hi11 dX12_spoilOf_56 rfl ?_
        obtain ⟨r12, s13, h14, h⟩ := h.bd
        refine k_X12_goodBy ml_RX12_272 (Nat.le_of_ble_eq_true rfl) ⟨Nat.le_of_ble_eq_true rfl, Nat.le_of_ble_eq_true rfl⟩ dX12_spoilOf_57 rfl h14 ?_
        refine w_istore_n [(3, .int r12), (0, .ref (xd Γ 58)), (1, .int v1), (2, .int v2), (4, .int v4)] dX12_spoilOf_60 rfl (by decide) rfl rfl ?_
        refine w_aload_n 1 dX12_spoilOf_61 rfl rfl rfl ?_
        refine w_iload 4 dX12_spoilOf_62 rfl rfl ?_
        refine pf_RX12_363 dX12_spoilOf_64 rfl ?_
        obtain ⟨s15, es15⟩ : ∃ y : St, y = (sf s13 58 22 v4) := ⟨_, rfl⟩
        rw [← es15]
        replace h := h.bnd es15
        clear es15
        exact w_sub [1, 2, 3, 0, 4] rfl (b_X12_spoilOf_67 K11 hK11 v1 v2 r12 v4 s15 h)
      · have h := h.ff q
        refine w_goto (tgt := 67) dX12_spoilOf_46 (by decide) ?_
        exact w_sub [0, 1, 2, 3, 4] rfl (b_X12_spoilOf_67 K11 hK11 v1 v2 v3 v4 s9 h)
def f_X12_spoilOf (p0 : Int32) (p1 : Int32) (σ : St) : Option (Int32 × St) :=
  bd (f_X12_fillFronts σ) fun _ s2 =>
  itr (g_X12_spoilOf_11) FU (p0, p1, (1000000 : Int32), (0 : Int32), s2)
theorem e_X12_spoilOf {Γ : CX} (p0 : Int32) (p1 : Int32) (σ : St) (h : RR vI Γ (f_X12_spoilOf p0 p1 σ)) : WW Γ cX12_spoilOf 5 RX12 (some .int) rX12_spoilOf σ 0 [(0, .ref (xd Γ 58)), (1, .int p0), (2, .int p1)] [] := by
  unfold f_X12_spoilOf at h
  refine w_aload_n 0 dX12_spoilOf_0 rfl rfl rfl ?_
  obtain ⟨r1, s2, h3, h⟩ := h.bd
  refine k_X12_fillFronts ml_RX12_356 (Nat.le_of_ble_eq_true rfl) ⟨Nat.le_of_ble_eq_true rfl, Nat.le_of_ble_eq_true rfl⟩ dX12_spoilOf_1 rfl h3 ?_
  refine w_ldc_w (1000000 : Int32) dX12_spoilOf_4 cn_RX12_280 rfl ?_
  refine w_istore_n [(3, .int (1000000 : Int32)), (0, .ref (xd Γ 58)), (1, .int p0), (2, .int p1)] dX12_spoilOf_7 rfl (by decide) rfl rfl ?_
  refine w_iconst (0 : Int32) dX12_spoilOf_8 ic_iconst_0 rfl ?_
  refine w_istore [(4, .int (0 : Int32)), (3, .int (1000000 : Int32)), (0, .ref (xd Γ 58)), (1, .int p0), (2, .int p1)] dX12_spoilOf_9 (by decide) rfl rfl ?_
  exact w_sub [2, 3, 4, 1, 0] rfl (l_X12_spoilOf_11 FU p0 p1 (1000000 : Int32) (0 : Int32) s2 h)
theorem c_X12_spoilOf {l : Launch} {D : va_G} {cy : Nat → ClassId} {ad : Nat → Nat} {p0 : Int32} {p1 : Int32} {σ σ' : St} {r : Int32} (hf : f_X12_spoilOf p0 p1 σ = some (r, σ')) : CT l D cy ad yX12_spoilOf cX12_spoilOf 5 (some .int) rX12_spoilOf [.ref (ad 58), .int p0, .int p1] σ (some (.int r)) σ' :=
  ct_of (by decide) (Nat.le_of_ble_eq_true rfl) (fun p e s m args below meth c A => e_X12_spoilOf (Γ := (p, l, e, rX12_spoilOf, s, m, args, below, meth, c, D, cy, ad, A, 0, 0, MQ below (QC D cy ad (some (.int r)) σ' A) args s 0 0 A)) p0 p1 σ ⟨_, hf, rfl⟩)
theorem k_X12_spoilOf {Γ : CX} {cc : ByteArray} {nL : Nat} {own : String} {ret : Option FieldType} {rm : Room} {σ σ' : St} {pc pc' idx : Nat} {lv : List (Nat × Value)} {rest : List Value} {p0 : Int32} {p1 : Int32} {r : Int32} (hl : Cond.methodLink own idx yX12_spoilOf ∈ TB) (hw : (rest.map fun v => v.category).sum ≤ 8) (hR : rX12_spoilOf.frames + 1 ≤ rm.frames ∧ 8 + (5 + 11) + rX12_spoilOf.locals ≤ rm.locals) (hd : decode cc pc = .ok (.invokevirtual idx, 3)) (hp : pc + 3 = pc') (hf : f_X12_spoilOf p0 p1 σ = some (r, σ')) (h : WW Γ cc nL own ret rm σ' pc' lv (.int r :: rest)) : WW Γ cc nL own ret rm σ pc lv (.int p1 :: .int p0 :: .ref (xd Γ 58) :: rest) :=
  w_callV (nn := 2) (i := 58) (As := [.int p0, .int p1]) (v := (some (.int r))) (T := TX12) (N := 32) (c_X12_spoilOf hf) hl mw_X12_spoilOf (by decide +kernel) ⟨rfl, rfl⟩ hR (lt_lit (by decide)) cel_58 rfl rfl hw hd rfl hp h
/-! WarByHoursModel.spoil (II)I -/
def rX12_spoil : Room := { frames := 7, cells := 0, slots := 0, locals := 159 }
def f_X12_spoil_27 (k0 : Int32) (σ : St) : Option (Int32 × St) :=
  some (k0, σ)
theorem b_X12_spoil_27 {Γ : CX} (k0 : Int32) (σ : St) (h : RR vI Γ (f_X12_spoil_27 k0 σ)) : WW Γ cX12_spoil 3 RX12 (some .int) rX12_spoil σ 27 [] [.int k0] := by
  unfold f_X12_spoil_27 at h
  exact w_ireturn dX12_spoil_27 h
def f_X12_spoil_24 (σ : St) : Option (Int32 × St) :=
  f_X12_spoil_27 (-1000 : Int32) σ
theorem b_X12_spoil_24 {Γ : CX} (σ : St) (h : RR vI Γ (f_X12_spoil_24 σ)) : WW Γ cX12_spoil 3 RX12 (some .int) rX12_spoil σ 24 [] [] := by
  unfold f_X12_spoil_24 at h
  refine w_sipush (-1000 : Int32) dX12_spoil_24 ic_sipush_m1000 rfl ?_
  exact w_sub [] rfl (b_X12_spoil_27 (-1000 : Int32) σ h)
def f_X12_spoil (p0 : Int32) (p1 : Int32) (σ : St) : Option (Int32 × St) :=
  bd (f_X12_isSide p0 σ) fun r1 s2 =>
  if r1 = 0 then
    f_X12_spoil_24 s2
  else
    bd (f_X12_isPrice p1 s2) fun r4 s5 =>
    if r4 = 0 then
      f_X12_spoil_24 s5
    else
      bd (f_X12_spoilOf p0 p1 s5) fun r7 s8 =>
      f_X12_spoil_27 r7 s8
theorem e_X12_spoil {Γ : CX} (p0 : Int32) (p1 : Int32) (σ : St) (h : RR vI Γ (f_X12_spoil p0 p1 σ)) : WW Γ cX12_spoil 3 RX12 (some .int) rX12_spoil σ 0 [(0, .ref (xd Γ 58)), (1, .int p0), (2, .int p1)] [] := by
  unfold f_X12_spoil at h
  refine w_aload_n 0 dX12_spoil_0 rfl rfl rfl ?_
  refine w_iload_n 1 dX12_spoil_1 rfl rfl rfl ?_
  obtain ⟨r1, s2, h3, h⟩ := h.bd
  refine k_X12_isSide ml_RX12_236 (Nat.le_of_ble_eq_true rfl) ⟨Nat.le_of_ble_eq_true rfl, Nat.le_of_ble_eq_true rfl⟩ dX12_spoil_2 rfl h3 ?_
  refine w_if_eq (tgt := 24) dX12_spoil_5 (by decide) rfl (fun q => ?_) (fun q => ?_)
  · have h := h.tt q
    exact w_sub [] rfl (b_X12_spoil_24 s2 h)
  · have h := h.ff q
    refine w_iload_n 2 dX12_spoil_8 rfl rfl rfl ?_
    obtain ⟨r4, s5, h6, h⟩ := h.bd
    refine k_X12_isPrice ml_RX12_366 (Nat.le_of_ble_eq_true rfl) ⟨Nat.le_of_ble_eq_true rfl, Nat.le_of_ble_eq_true rfl⟩ dX12_spoil_9 rfl h6 ?_
    refine w_if_eq (tgt := 24) dX12_spoil_12 (by decide) rfl (fun q => ?_) (fun q => ?_)
    · have h := h.tt q
      exact w_sub [] rfl (b_X12_spoil_24 s5 h)
    · have h := h.ff q
      refine w_aload_n 0 dX12_spoil_15 rfl rfl rfl ?_
      refine w_iload_n 1 dX12_spoil_16 rfl rfl rfl ?_
      refine w_iload_n 2 dX12_spoil_17 rfl rfl rfl ?_
      obtain ⟨r7, s8, h9, h⟩ := h.bd
      refine k_X12_spoilOf ml_RX12_369 (Nat.le_of_ble_eq_true rfl) ⟨Nat.le_of_ble_eq_true rfl, Nat.le_of_ble_eq_true rfl⟩ dX12_spoil_18 rfl h9 ?_
      refine w_goto (tgt := 27) dX12_spoil_21 (by decide) ?_
      exact w_sub [] rfl (b_X12_spoil_27 r7 s8 h)
theorem c_X12_spoil {l : Launch} {D : va_G} {cy : Nat → ClassId} {ad : Nat → Nat} {p0 : Int32} {p1 : Int32} {σ σ' : St} {r : Int32} (hf : f_X12_spoil p0 p1 σ = some (r, σ')) : CT l D cy ad yX12_spoil cX12_spoil 3 (some .int) rX12_spoil [.ref (ad 58), .int p0, .int p1] σ (some (.int r)) σ' :=
  ct_of (by decide) (Nat.le_of_ble_eq_true rfl) (fun p e s m args below meth c A => e_X12_spoil (Γ := (p, l, e, rX12_spoil, s, m, args, below, meth, c, D, cy, ad, A, 0, 0, MQ below (QC D cy ad (some (.int r)) σ' A) args s 0 0 A)) p0 p1 σ ⟨_, hf, rfl⟩)
theorem k_X12_spoil {Γ : CX} {cc : ByteArray} {nL : Nat} {own : String} {ret : Option FieldType} {rm : Room} {σ σ' : St} {pc pc' idx : Nat} {lv : List (Nat × Value)} {rest : List Value} {p0 : Int32} {p1 : Int32} {r : Int32} (hl : Cond.methodLink own idx yX12_spoil ∈ TB) (hw : (rest.map fun v => v.category).sum ≤ 8) (hR : rX12_spoil.frames + 1 ≤ rm.frames ∧ 8 + (3 + 11) + rX12_spoil.locals ≤ rm.locals) (hd : decode cc pc = .ok (.invokevirtual idx, 3)) (hp : pc + 3 = pc') (hf : f_X12_spoil p0 p1 σ = some (r, σ')) (h : WW Γ cc nL own ret rm σ' pc' lv (.int r :: rest)) : WW Γ cc nL own ret rm σ pc lv (.int p1 :: .int p0 :: .ref (xd Γ 58) :: rest) :=
  w_callV (nn := 2) (i := 58) (As := [.int p0, .int p1]) (v := (some (.int r))) (T := TX12) (N := 32) (c_X12_spoil hf) hl mw_X12_spoil (by decide +kernel) ⟨rfl, rfl⟩ hR (lt_lit (by decide)) cel_58 rfl rfl hw hd rfl hp h
/-! WarByHoursModel.spoils (II)I -/
def rX12_spoils : Room := { frames := 7, cells := 0, slots := 0, locals := 159 }
def f_X12_spoils_15 (σ : St) : Option (Int32 × St) :=
  some ((-2 : Int32), σ)
theorem b_X12_spoils_15 {Γ : CX} (σ : St) (h : RR vI Γ (f_X12_spoils_15 σ)) : WW Γ cX12_spoils 3 RX12 (some .int) rX12_spoils σ 15 [] [] := by
  unfold f_X12_spoils_15 at h
  refine w_bipush (-2 : Int32) dX12_spoils_15 ic_bipush_m2 rfl ?_
  exact w_ireturn dX12_spoils_17 h
def f_X12_spoils (p0 : Int32) (p1 : Int32) (σ : St) : Option (Int32 × St) :=
  bd (f_X12_isSide p0 σ) fun r1 s2 =>
  if r1 = 0 then
    f_X12_spoils_15 s2
  else
    bd (f_X12_isPrice p1 s2) fun r4 s5 =>
    if r4 = 0 then
      f_X12_spoils_15 s5
    else
      bd (f_X12_spoilOf p0 p1 s5) fun r7 s8 =>
      some ((gf s8 58 22), s8)
theorem e_X12_spoils {Γ : CX} (p0 : Int32) (p1 : Int32) (σ : St) (h : RR vI Γ (f_X12_spoils p0 p1 σ)) : WW Γ cX12_spoils 3 RX12 (some .int) rX12_spoils σ 0 [(0, .ref (xd Γ 58)), (1, .int p0), (2, .int p1)] [] := by
  unfold f_X12_spoils at h
  refine w_aload_n 0 dX12_spoils_0 rfl rfl rfl ?_
  refine w_iload_n 1 dX12_spoils_1 rfl rfl rfl ?_
  obtain ⟨r1, s2, h3, h⟩ := h.bd
  refine k_X12_isSide ml_RX12_236 (Nat.le_of_ble_eq_true rfl) ⟨Nat.le_of_ble_eq_true rfl, Nat.le_of_ble_eq_true rfl⟩ dX12_spoils_2 rfl h3 ?_
  refine w_if_eq (tgt := 15) dX12_spoils_5 (by decide) rfl (fun q => ?_) (fun q => ?_)
  · have h := h.tt q
    exact w_sub [] rfl (b_X12_spoils_15 s2 h)
  · have h := h.ff q
    refine w_iload_n 2 dX12_spoils_8 rfl rfl rfl ?_
    obtain ⟨r4, s5, h6, h⟩ := h.bd
    refine k_X12_isPrice ml_RX12_366 (Nat.le_of_ble_eq_true rfl) ⟨Nat.le_of_ble_eq_true rfl, Nat.le_of_ble_eq_true rfl⟩ dX12_spoils_9 rfl h6 ?_
    refine w_if_ne (tgt := 18) dX12_spoils_12 (by decide) rfl (fun q => ?_) (fun q => ?_)
    · have h := h.ff q
      refine w_aload_n 0 dX12_spoils_18 rfl rfl rfl ?_
      refine w_iload_n 1 dX12_spoils_19 rfl rfl rfl ?_
      refine w_iload_n 2 dX12_spoils_20 rfl rfl rfl ?_
      obtain ⟨r7, s8, h9, h⟩ := h.bd
      refine k_X12_spoilOf ml_RX12_369 (Nat.le_of_ble_eq_true rfl) ⟨Nat.le_of_ble_eq_true rfl, Nat.le_of_ble_eq_true rfl⟩ dX12_spoils_21 rfl h9 ?_
      refine w_pop dX12_spoils_24 rfl rfl ?_
      refine w_aload_n 0 dX12_spoils_25 rfl rfl rfl ?_
      refine gf_RX12_363 dX12_spoils_26 rfl ?_
      exact w_ireturn dX12_spoils_29 h
    · have h := h.tt q
      exact w_sub [] rfl (b_X12_spoils_15 s5 h)
theorem c_X12_spoils {l : Launch} {D : va_G} {cy : Nat → ClassId} {ad : Nat → Nat} {p0 : Int32} {p1 : Int32} {σ σ' : St} {r : Int32} (hf : f_X12_spoils p0 p1 σ = some (r, σ')) : CT l D cy ad yX12_spoils cX12_spoils 3 (some .int) rX12_spoils [.ref (ad 58), .int p0, .int p1] σ (some (.int r)) σ' :=
  ct_of (by decide) (Nat.le_of_ble_eq_true rfl) (fun p e s m args below meth c A => e_X12_spoils (Γ := (p, l, e, rX12_spoils, s, m, args, below, meth, c, D, cy, ad, A, 0, 0, MQ below (QC D cy ad (some (.int r)) σ' A) args s 0 0 A)) p0 p1 σ ⟨_, hf, rfl⟩)
theorem k_X12_spoils {Γ : CX} {cc : ByteArray} {nL : Nat} {own : String} {ret : Option FieldType} {rm : Room} {σ σ' : St} {pc pc' idx : Nat} {lv : List (Nat × Value)} {rest : List Value} {p0 : Int32} {p1 : Int32} {r : Int32} (hl : Cond.methodLink own idx yX12_spoils ∈ TB) (hw : (rest.map fun v => v.category).sum ≤ 8) (hR : rX12_spoils.frames + 1 ≤ rm.frames ∧ 8 + (3 + 11) + rX12_spoils.locals ≤ rm.locals) (hd : decode cc pc = .ok (.invokevirtual idx, 3)) (hp : pc + 3 = pc') (hf : f_X12_spoils p0 p1 σ = some (r, σ')) (h : WW Γ cc nL own ret rm σ' pc' lv (.int r :: rest)) : WW Γ cc nL own ret rm σ pc lv (.int p1 :: .int p0 :: .ref (xd Γ 58) :: rest) :=
  w_callV (nn := 2) (i := 58) (As := [.int p0, .int p1]) (v := (some (.int r))) (T := TX12) (N := 32) (c_X12_spoils hf) hl mw_X12_spoils (by decide +kernel) ⟨rfl, rfl⟩ hR (lt_lit (by decide)) cel_58 rfl rfl hw hd rfl hp h
/-! WarByHoursModel.bestGood (III)I -/
def rX12_bestGood : Room := { frames := 3, cells := 0, slots := 0, locals := 68 }
def f_X12_bestGood_50 (K8 : Int32 × Int32 × Int32 × Int32 × Int32 × St → Option (Int32 × St)) (v1 : Int32) (v2 : Int32) (v3 : Int32) (v4 : Int32) (v5 : Int32) (σ : St) : Option (Int32 × St) :=
  bnd (v5 + (1 : Int32)) fun x1 =>
  K8 (v1, v2, v3, v4, x1, σ)
theorem b_X12_bestGood_50 {Γ : CX} (K8 : Int32 × Int32 × Int32 × Int32 × Int32 × St → Option (Int32 × St)) (hK8 : ∀ (v1 : Int32) (v2 : Int32) (v3 : Int32) (v4 : Int32) (v5 : Int32) (σ : St), RR vI Γ (K8 (v1, v2, v3, v4, v5, σ)) → WW Γ cX12_bestGood 6 RX12 (some .int) rX12_bestGood σ 8 [(0, .ref (xd Γ 58)), (1, .int v1), (2, .int v2), (3, .int v3), (4, .int v4), (5, .int v5)] []) (v1 : Int32) (v2 : Int32) (v3 : Int32) (v4 : Int32) (v5 : Int32) (σ : St) (h : RR vI Γ (f_X12_bestGood_50 K8 v1 v2 v3 v4 v5 σ)) : WW Γ cX12_bestGood 6 RX12 (some .int) rX12_bestGood σ 50 [(0, .ref (xd Γ 58)), (1, .int v1), (2, .int v2), (3, .int v3), (4, .int v4), (5, .int v5)] [] := by
  unfold f_X12_bestGood_50 at h
  obtain ⟨x1, ex1⟩ : ∃ y : Int32, y = (v5 + (1 : Int32)) := ⟨_, rfl⟩
  replace h := h.bnd ex1
  refine w_iinc 5 x1 [(5, .int x1), (0, .ref (xd Γ 58)), (1, .int v1), (2, .int v2), (3, .int v3), (4, .int v4)] dX12_bestGood_50 rfl (by rw [ex1, ic_iconst_1]) (by decide) rfl rfl ?_
  clear ex1
  refine w_goto (tgt := 8) dX12_bestGood_53 (by decide) ?_
  exact w_sub [1, 2, 3, 4, 5, 0] rfl (hK8 v1 v2 v3 v4 x1 σ h)
def g_X12_bestGood_8 (K8 : Int32 × Int32 × Int32 × Int32 × Int32 × St → Option (Int32 × St)) (x : Int32 × Int32 × Int32 × Int32 × Int32 × St) : Option (Int32 × St) := match x with
  | (v1, v2, v3, v4, v5, σ) =>
  bd (f_X12_allTrains σ) fun r1 s2 =>
  if r1 < v5 then
    some (v4, s2)
  else
    bd (f_X12_isBought ((1 : Int32) - v1) v5 v3 s2) fun r4 s5 =>
    if r4 = 0 then
      f_X12_bestGood_50 K8 v1 v2 v3 v4 v5 s5
    else
      gd (inb (v2 ||| v5) (ln 67)) <|
      bd (f_X12_goodBy v1 (gr s5 67 (v2 ||| v5).toNatClampNeg) s5) fun r8 s9 =>
      bnd ((if v4 < r8 then r8 else v4)) fun x11 =>
      f_X12_bestGood_50 K8 v1 v2 v3 x11 v5 s9
theorem l_X12_bestGood_8 {Γ : CX} : ∀ (n : Nat) (v1 : Int32) (v2 : Int32) (v3 : Int32) (v4 : Int32) (v5 : Int32) (σ : St), RR vI Γ (itr (g_X12_bestGood_8) n (v1, v2, v3, v4, v5, σ)) → WW Γ cX12_bestGood 6 RX12 (some .int) rX12_bestGood σ 8 [(0, .ref (xd Γ 58)), (1, .int v1), (2, .int v2), (3, .int v3), (4, .int v4), (5, .int v5)] [] := by
  intro n
  induction n with
  | zero => intro v1 v2 v3 v4 v5 σ h; exact RR.no h
  | succ n hK8 =>
  intro v1 v2 v3 v4 v5 σ h
  have h : RR vI Γ (g_X12_bestGood_8 (itr (g_X12_bestGood_8) n) (v1, v2, v3, v4, v5, σ)) := h
  generalize itr (g_X12_bestGood_8) n = K8 at h hK8
  unfold g_X12_bestGood_8 at h
  dsimp only at h
  refine w_iload 5 dX12_bestGood_8 rfl rfl ?_
  refine w_aload_n 0 dX12_bestGood_10 rfl rfl rfl ?_
  obtain ⟨r1, s2, h3, h⟩ := h.bd
  refine k_X12_allTrains ml_RX12_78 (Nat.le_of_ble_eq_true rfl) ⟨Nat.le_of_ble_eq_true rfl, Nat.le_of_ble_eq_true rfl⟩ dX12_bestGood_11 rfl h3 ?_
  refine w_icmp_gt (tgt := 56) dX12_bestGood_14 (by decide) rfl (fun q => ?_) (fun q => ?_)
  · have h := h.tt q
    refine w_iload 4 dX12_bestGood_56 rfl rfl ?_
    exact w_ireturn dX12_bestGood_58 h
  · have h := h.ff q
    refine w_aload_n 0 dX12_bestGood_17 rfl rfl rfl ?_
    refine w_iconst (1 : Int32) dX12_bestGood_18 ic_iconst_1 rfl ?_
    refine w_iload_n 1 dX12_bestGood_19 rfl rfl rfl ?_
    refine w_isub dX12_bestGood_20 rfl ?_
    refine w_iload 5 dX12_bestGood_21 rfl rfl ?_
    refine w_iload_n 3 dX12_bestGood_23 rfl rfl rfl ?_
    obtain ⟨r4, s5, h6, h⟩ := h.bd
    refine k_X12_isBought ml_RX12_359 (Nat.le_of_ble_eq_true rfl) ⟨Nat.le_of_ble_eq_true rfl, Nat.le_of_ble_eq_true rfl⟩ dX12_bestGood_24 rfl h6 ?_
    refine w_if_eq (tgt := 50) dX12_bestGood_27 (by decide) rfl (fun q => ?_) (fun q => ?_)
    · have h := h.tt q
      exact w_sub [0, 1, 2, 3, 4, 5] rfl (b_X12_bestGood_50 K8 hK8 v1 v2 v3 v4 v5 s5 h)
    · have h := h.ff q
      refine w_iload 4 dX12_bestGood_30 rfl rfl ?_
      refine w_iload_n 1 dX12_bestGood_32 rfl rfl rfl ?_
      refine w_aload_n 0 dX12_bestGood_33 rfl rfl rfl ?_
      refine gf_RX12_40 dX12_bestGood_34 rfl ?_
      refine w_iload_n 2 dX12_bestGood_37 rfl rfl rfl ?_
      refine w_iload 5 dX12_bestGood_38 rfl rfl ?_
      refine w_ior dX12_bestGood_40 rfl ?_
      obtain ⟨hi7, h⟩ := h.gd
      refine w_iald (i := 67) (lt_lit (by decide)) rfl hi7 dX12_bestGood_41 rfl ?_
      obtain ⟨r8, s9, h10, h⟩ := h.bd
      refine k_X12_goodBy ml_RX12_272 (Nat.le_of_ble_eq_true rfl) ⟨Nat.le_of_ble_eq_true rfl, Nat.le_of_ble_eq_true rfl⟩ dX12_bestGood_42 rfl h10 ?_
      refine w_mmax ml_RX12_373 (Nat.le_of_ble_eq_true rfl) ⟨Nat.le_of_ble_eq_true rfl, Nat.le_of_ble_eq_true rfl⟩ dX12_bestGood_45 rfl ?_
      refine w_nmI (fun x11 ex11 => ?_)
      replace h := h.bnd ex11
      clear ex11
      refine w_istore [(4, .int x11), (0, .ref (xd Γ 58)), (1, .int v1), (2, .int v2), (3, .int v3), (5, .int v5)] dX12_bestGood_48 (by decide) rfl rfl ?_
      exact w_sub [1, 2, 3, 4, 0, 5] rfl (b_X12_bestGood_50 K8 hK8 v1 v2 v3 x11 v5 s9 h)
def f_X12_bestGood (p0 : Int32) (p1 : Int32) (p2 : Int32) (σ : St) : Option (Int32 × St) :=
  itr (g_X12_bestGood_8) FU (p0, p1, p2, (-1000000 : Int32), (0 : Int32), σ)
theorem e_X12_bestGood {Γ : CX} (p0 : Int32) (p1 : Int32) (p2 : Int32) (σ : St) (h : RR vI Γ (f_X12_bestGood p0 p1 p2 σ)) : WW Γ cX12_bestGood 6 RX12 (some .int) rX12_bestGood σ 0 [(0, .ref (xd Γ 58)), (1, .int p0), (2, .int p1), (3, .int p2)] [] := by
  unfold f_X12_bestGood at h
  refine w_ldc_w (-1000000 : Int32) dX12_bestGood_0 cn_RX12_372 rfl ?_
  refine w_istore [(4, .int (-1000000 : Int32)), (0, .ref (xd Γ 58)), (1, .int p0), (2, .int p1), (3, .int p2)] dX12_bestGood_3 (by decide) rfl rfl ?_
  refine w_iconst (0 : Int32) dX12_bestGood_5 ic_iconst_0 rfl ?_
  refine w_istore [(5, .int (0 : Int32)), (4, .int (-1000000 : Int32)), (0, .ref (xd Γ 58)), (1, .int p0), (2, .int p1), (3, .int p2)] dX12_bestGood_6 (by decide) rfl rfl ?_
  exact w_sub [2, 3, 4, 5, 1, 0] rfl (l_X12_bestGood_8 FU p0 p1 p2 (-1000000 : Int32) (0 : Int32) σ h)
theorem c_X12_bestGood {l : Launch} {D : va_G} {cy : Nat → ClassId} {ad : Nat → Nat} {p0 : Int32} {p1 : Int32} {p2 : Int32} {σ σ' : St} {r : Int32} (hf : f_X12_bestGood p0 p1 p2 σ = some (r, σ')) : CT l D cy ad yX12_bestGood cX12_bestGood 6 (some .int) rX12_bestGood [.ref (ad 58), .int p0, .int p1, .int p2] σ (some (.int r)) σ' :=
  ct_of (by decide) (Nat.le_of_ble_eq_true rfl) (fun p e s m args below meth c A => e_X12_bestGood (Γ := (p, l, e, rX12_bestGood, s, m, args, below, meth, c, D, cy, ad, A, 0, 0, MQ below (QC D cy ad (some (.int r)) σ' A) args s 0 0 A)) p0 p1 p2 σ ⟨_, hf, rfl⟩)
theorem k_X12_bestGood {Γ : CX} {cc : ByteArray} {nL : Nat} {own : String} {ret : Option FieldType} {rm : Room} {σ σ' : St} {pc pc' idx : Nat} {lv : List (Nat × Value)} {rest : List Value} {p0 : Int32} {p1 : Int32} {p2 : Int32} {r : Int32} (hl : Cond.methodLink own idx yX12_bestGood ∈ TB) (hw : (rest.map fun v => v.category).sum ≤ 8) (hR : rX12_bestGood.frames + 1 ≤ rm.frames ∧ 8 + (6 + 11) + rX12_bestGood.locals ≤ rm.locals) (hd : decode cc pc = .ok (.invokevirtual idx, 3)) (hp : pc + 3 = pc') (hf : f_X12_bestGood p0 p1 p2 σ = some (r, σ')) (h : WW Γ cc nL own ret rm σ' pc' lv (.int r :: rest)) : WW Γ cc nL own ret rm σ pc lv (.int p2 :: .int p1 :: .int p0 :: .ref (xd Γ 58) :: rest) :=
  w_callV (nn := 3) (i := 58) (As := [.int p0, .int p1, .int p2]) (v := (some (.int r))) (T := TX12) (N := 32) (c_X12_bestGood hf) hl mw_X12_bestGood (by decide +kernel) ⟨rfl, rfl⟩ hR (lt_lit (by decide)) cel_58 rfl rfl hw hd rfl hp h
/-! WarByHoursModel.answer (II)I -/
def rX12_answer : Room := { frames := 6, cells := 0, slots := 0, locals := 135 }
def f_X12_answer_15 (σ : St) : Option (Int32 × St) :=
  some ((-1000 : Int32), σ)
theorem b_X12_answer_15 {Γ : CX} (σ : St) (h : RR vI Γ (f_X12_answer_15 σ)) : WW Γ cX12_answer 5 RX12 (some .int) rX12_answer σ 15 [] [] := by
  unfold f_X12_answer_15 at h
  refine w_sipush (-1000 : Int32) dX12_answer_15 ic_sipush_m1000 rfl ?_
  exact w_ireturn dX12_answer_18 h
def f_X12_answer_63 (K30 : Int32 × Int32 × Int32 × Int32 × St → Option (Int32 × St)) (v1 : Int32) (v2 : Int32) (v3 : Int32) (v4 : Int32) (σ : St) : Option (Int32 × St) :=
  bnd (v4 + (1 : Int32)) fun x1 =>
  K30 (v1, v2, v3, x1, σ)
theorem b_X12_answer_63 {Γ : CX} (K30 : Int32 × Int32 × Int32 × Int32 × St → Option (Int32 × St)) (hK30 : ∀ (v1 : Int32) (v2 : Int32) (v3 : Int32) (v4 : Int32) (σ : St), RR vI Γ (K30 (v1, v2, v3, v4, σ)) → WW Γ cX12_answer 5 RX12 (some .int) rX12_answer σ 30 [(0, .ref (xd Γ 58)), (1, .int v1), (2, .int v2), (3, .int v3), (4, .int v4)] []) (v1 : Int32) (v2 : Int32) (v3 : Int32) (v4 : Int32) (σ : St) (h : RR vI Γ (f_X12_answer_63 K30 v1 v2 v3 v4 σ)) : WW Γ cX12_answer 5 RX12 (some .int) rX12_answer σ 63 [(0, .ref (xd Γ 58)), (1, .int v1), (2, .int v2), (3, .int v3), (4, .int v4)] [] := by
  unfold f_X12_answer_63 at h
  obtain ⟨x1, ex1⟩ : ∃ y : Int32, y = (v4 + (1 : Int32)) := ⟨_, rfl⟩
  replace h := h.bnd ex1
  refine w_iinc 4 x1 [(4, .int x1), (0, .ref (xd Γ 58)), (1, .int v1), (2, .int v2), (3, .int v3)] dX12_answer_63 rfl (by rw [ex1, ic_iconst_1]) (by decide) rfl rfl ?_
  clear ex1
  refine w_goto (tgt := 30) dX12_answer_66 (by decide) ?_
  exact w_sub [1, 2, 3, 4, 0] rfl (hK30 v1 v2 v3 x1 σ h)
def g_X12_answer_30 (K30 : Int32 × Int32 × Int32 × Int32 × St → Option (Int32 × St)) (x : Int32 × Int32 × Int32 × Int32 × St) : Option (Int32 × St) := match x with
  | (v1, v2, v3, v4, σ) =>
  bd (f_X12_allTrains σ) fun r1 s2 =>
  if r1 < v4 then
    some (v3, s2)
  else
    bd (f_X12_isBought v1 v4 v2 s2) fun r4 s5 =>
    if r4 = 0 then
      f_X12_answer_63 K30 v1 v2 v3 v4 s5
    else
      bd (f_X12_bestGood v1 v4 v2 s5) fun r7 s8 =>
      bnd ((if r7 < v3 then r7 else v3)) fun x10 =>
      f_X12_answer_63 K30 v1 v2 x10 v4 s8
theorem l_X12_answer_30 {Γ : CX} : ∀ (n : Nat) (v1 : Int32) (v2 : Int32) (v3 : Int32) (v4 : Int32) (σ : St), RR vI Γ (itr (g_X12_answer_30) n (v1, v2, v3, v4, σ)) → WW Γ cX12_answer 5 RX12 (some .int) rX12_answer σ 30 [(0, .ref (xd Γ 58)), (1, .int v1), (2, .int v2), (3, .int v3), (4, .int v4)] [] := by
  intro n
  induction n with
  | zero => intro v1 v2 v3 v4 σ h; exact RR.no h
  | succ n hK30 =>
  intro v1 v2 v3 v4 σ h
  have h : RR vI Γ (g_X12_answer_30 (itr (g_X12_answer_30) n) (v1, v2, v3, v4, σ)) := h
  generalize itr (g_X12_answer_30) n = K30 at h hK30
  unfold g_X12_answer_30 at h
  dsimp only at h
  refine w_iload 4 dX12_answer_30 rfl rfl ?_
  refine w_aload_n 0 dX12_answer_32 rfl rfl rfl ?_
  obtain ⟨r1, s2, h3, h⟩ := h.bd
  refine k_X12_allTrains ml_RX12_78 (Nat.le_of_ble_eq_true rfl) ⟨Nat.le_of_ble_eq_true rfl, Nat.le_of_ble_eq_true rfl⟩ dX12_answer_33 rfl h3 ?_
  refine w_icmp_gt (tgt := 69) dX12_answer_36 (by decide) rfl (fun q => ?_) (fun q => ?_)
  · have h := h.tt q
    refine w_iload_n 3 dX12_answer_69 rfl rfl rfl ?_
    exact w_ireturn dX12_answer_70 h
  · have h := h.ff q
    refine w_aload_n 0 dX12_answer_39 rfl rfl rfl ?_
    refine w_iload_n 1 dX12_answer_40 rfl rfl rfl ?_
    refine w_iload 4 dX12_answer_41 rfl rfl ?_
    refine w_iload_n 2 dX12_answer_43 rfl rfl rfl ?_
    obtain ⟨r4, s5, h6, h⟩ := h.bd
    refine k_X12_isBought ml_RX12_359 (Nat.le_of_ble_eq_true rfl) ⟨Nat.le_of_ble_eq_true rfl, Nat.le_of_ble_eq_true rfl⟩ dX12_answer_44 rfl h6 ?_
    refine w_if_eq (tgt := 63) dX12_answer_47 (by decide) rfl (fun q => ?_) (fun q => ?_)
    · have h := h.tt q
      exact w_sub [0, 1, 2, 3, 4] rfl (b_X12_answer_63 K30 hK30 v1 v2 v3 v4 s5 h)
    · have h := h.ff q
      refine w_iload_n 3 dX12_answer_50 rfl rfl rfl ?_
      refine w_aload_n 0 dX12_answer_51 rfl rfl rfl ?_
      refine w_iload_n 1 dX12_answer_52 rfl rfl rfl ?_
      refine w_iload 4 dX12_answer_53 rfl rfl ?_
      refine w_iload_n 2 dX12_answer_55 rfl rfl rfl ?_
      obtain ⟨r7, s8, h9, h⟩ := h.bd
      refine k_X12_bestGood ml_RX12_376 (Nat.le_of_ble_eq_true rfl) ⟨Nat.le_of_ble_eq_true rfl, Nat.le_of_ble_eq_true rfl⟩ dX12_answer_56 rfl h9 ?_
      refine w_mmin ml_RX12_120 (Nat.le_of_ble_eq_true rfl) ⟨Nat.le_of_ble_eq_true rfl, Nat.le_of_ble_eq_true rfl⟩ dX12_answer_59 rfl ?_
      refine w_nmI (fun x10 ex10 => ?_)
      replace h := h.bnd ex10
      clear ex10
      refine w_istore_n [(3, .int x10), (0, .ref (xd Γ 58)), (1, .int v1), (2, .int v2), (4, .int v4)] dX12_answer_62 rfl (by decide) rfl rfl ?_
      exact w_sub [1, 2, 3, 0, 4] rfl (b_X12_answer_63 K30 hK30 v1 v2 x10 v4 s8 h)
def f_X12_answer (p0 : Int32) (p1 : Int32) (σ : St) : Option (Int32 × St) :=
  bd (f_X12_isSide p0 σ) fun r1 s2 =>
  if r1 = 0 then
    f_X12_answer_15 s2
  else
    bd (f_X12_isPrice p1 s2) fun r4 s5 =>
    if r4 = 0 then
      f_X12_answer_15 s5
    else
      bd (f_X12_fillFronts s5) fun _ s8 =>
      itr (g_X12_answer_30) FU (p0, p1, (1000000 : Int32), (0 : Int32), s8)
theorem e_X12_answer {Γ : CX} (p0 : Int32) (p1 : Int32) (σ : St) (h : RR vI Γ (f_X12_answer p0 p1 σ)) : WW Γ cX12_answer 5 RX12 (some .int) rX12_answer σ 0 [(0, .ref (xd Γ 58)), (1, .int p0), (2, .int p1)] [] := by
  unfold f_X12_answer at h
  refine w_aload_n 0 dX12_answer_0 rfl rfl rfl ?_
  refine w_iload_n 1 dX12_answer_1 rfl rfl rfl ?_
  obtain ⟨r1, s2, h3, h⟩ := h.bd
  refine k_X12_isSide ml_RX12_236 (Nat.le_of_ble_eq_true rfl) ⟨Nat.le_of_ble_eq_true rfl, Nat.le_of_ble_eq_true rfl⟩ dX12_answer_2 rfl h3 ?_
  refine w_if_eq (tgt := 15) dX12_answer_5 (by decide) rfl (fun q => ?_) (fun q => ?_)
  · have h := h.tt q
    exact w_sub [] rfl (b_X12_answer_15 s2 h)
  · have h := h.ff q
    refine w_iload_n 2 dX12_answer_8 rfl rfl rfl ?_
    obtain ⟨r4, s5, h6, h⟩ := h.bd
    refine k_X12_isPrice ml_RX12_366 (Nat.le_of_ble_eq_true rfl) ⟨Nat.le_of_ble_eq_true rfl, Nat.le_of_ble_eq_true rfl⟩ dX12_answer_9 rfl h6 ?_
    refine w_if_ne (tgt := 19) dX12_answer_12 (by decide) rfl (fun q => ?_) (fun q => ?_)
    · have h := h.ff q
      refine w_aload_n 0 dX12_answer_19 rfl rfl rfl ?_
      obtain ⟨r7, s8, h9, h⟩ := h.bd
      refine k_X12_fillFronts ml_RX12_356 (Nat.le_of_ble_eq_true rfl) ⟨Nat.le_of_ble_eq_true rfl, Nat.le_of_ble_eq_true rfl⟩ dX12_answer_20 rfl h9 ?_
      refine w_ldc_w (1000000 : Int32) dX12_answer_23 cn_RX12_280 rfl ?_
      refine w_istore_n [(3, .int (1000000 : Int32)), (0, .ref (xd Γ 58)), (1, .int p0), (2, .int p1)] dX12_answer_26 rfl (by decide) rfl rfl ?_
      refine w_iconst (0 : Int32) dX12_answer_27 ic_iconst_0 rfl ?_
      refine w_istore [(4, .int (0 : Int32)), (3, .int (1000000 : Int32)), (0, .ref (xd Γ 58)), (1, .int p0), (2, .int p1)] dX12_answer_28 (by decide) rfl rfl ?_
      exact w_sub [2, 3, 4, 1, 0] rfl (l_X12_answer_30 FU p0 p1 (1000000 : Int32) (0 : Int32) s8 h)
    · have h := h.tt q
      exact w_sub [] rfl (b_X12_answer_15 s5 h)
theorem c_X12_answer {l : Launch} {D : va_G} {cy : Nat → ClassId} {ad : Nat → Nat} {p0 : Int32} {p1 : Int32} {σ σ' : St} {r : Int32} (hf : f_X12_answer p0 p1 σ = some (r, σ')) : CT l D cy ad yX12_answer cX12_answer 5 (some .int) rX12_answer [.ref (ad 58), .int p0, .int p1] σ (some (.int r)) σ' :=
  ct_of (by decide) (Nat.le_of_ble_eq_true rfl) (fun p e s m args below meth c A => e_X12_answer (Γ := (p, l, e, rX12_answer, s, m, args, below, meth, c, D, cy, ad, A, 0, 0, MQ below (QC D cy ad (some (.int r)) σ' A) args s 0 0 A)) p0 p1 σ ⟨_, hf, rfl⟩)
theorem k_X12_answer {Γ : CX} {cc : ByteArray} {nL : Nat} {own : String} {ret : Option FieldType} {rm : Room} {σ σ' : St} {pc pc' idx : Nat} {lv : List (Nat × Value)} {rest : List Value} {p0 : Int32} {p1 : Int32} {r : Int32} (hl : Cond.methodLink own idx yX12_answer ∈ TB) (hw : (rest.map fun v => v.category).sum ≤ 8) (hR : rX12_answer.frames + 1 ≤ rm.frames ∧ 8 + (5 + 11) + rX12_answer.locals ≤ rm.locals) (hd : decode cc pc = .ok (.invokevirtual idx, 3)) (hp : pc + 3 = pc') (hf : f_X12_answer p0 p1 σ = some (r, σ')) (h : WW Γ cc nL own ret rm σ' pc' lv (.int r :: rest)) : WW Γ cc nL own ret rm σ pc lv (.int p1 :: .int p0 :: .ref (xd Γ 58) :: rest) :=
  w_callV (nn := 2) (i := 58) (As := [.int p0, .int p1]) (v := (some (.int r))) (T := TX12) (N := 32) (c_X12_answer hf) hl mw_X12_answer (by decide +kernel) ⟨rfl, rfl⟩ hR (lt_lit (by decide)) cel_58 rfl rfl hw hd rfl hp h
/-! WarByHoursModel.rests (I)I -/
def rX12_rests : Room := { frames := 6, cells := 0, slots := 0, locals := 135 }
def f_X12_rests_14 (σ : St) : Option (Int32 × St) :=
  some ((-2 : Int32), σ)
theorem b_X12_rests_14 {Γ : CX} (σ : St) (h : RR vI Γ (f_X12_rests_14 σ)) : WW Γ cX12_rests 6 RX12 (some .int) rX12_rests σ 14 [] [] := by
  unfold f_X12_rests_14 at h
  refine w_bipush (-2 : Int32) dX12_rests_14 ic_bipush_m2 rfl ?_
  exact w_ireturn dX12_rests_16 h
def f_X12_rests_116 (K25 : Int32 × Int32 × Int32 × St → Option (Int32 × St)) (K58 : Int32 × Int32 × Int32 × Int32 × Int32 × St → Option (Int32 × St)) (v1 : Int32) (v2 : Int32) (v3 : Int32) (v4 : Int32) (v5 : Int32) (σ : St) : Option (Int32 × St) :=
  bnd (v5 + (1 : Int32)) fun x1 =>
  K58 (v1, v2, v3, v4, x1, σ)
theorem b_X12_rests_116 {Γ : CX} (K25 : Int32 × Int32 × Int32 × St → Option (Int32 × St)) (K58 : Int32 × Int32 × Int32 × Int32 × Int32 × St → Option (Int32 × St)) (hK25 : ∀ (v1 : Int32) (v2 : Int32) (v3 : Int32) (σ : St), RR vI Γ (K25 (v1, v2, v3, σ)) → WW Γ cX12_rests 6 RX12 (some .int) rX12_rests σ 25 [(0, .ref (xd Γ 58)), (1, .int v1), (2, .int v2), (3, .int v3)] []) (hK58 : ∀ (v1 : Int32) (v2 : Int32) (v3 : Int32) (v4 : Int32) (v5 : Int32) (σ : St), RR vI Γ (K58 (v1, v2, v3, v4, v5, σ)) → WW Γ cX12_rests 6 RX12 (some .int) rX12_rests σ 58 [(0, .ref (xd Γ 58)), (1, .int v1), (2, .int v2), (3, .int v3), (4, .int v4), (5, .int v5)] []) (v1 : Int32) (v2 : Int32) (v3 : Int32) (v4 : Int32) (v5 : Int32) (σ : St) (h : RR vI Γ (f_X12_rests_116 K25 K58 v1 v2 v3 v4 v5 σ)) : WW Γ cX12_rests 6 RX12 (some .int) rX12_rests σ 116 [(0, .ref (xd Γ 58)), (1, .int v1), (2, .int v2), (3, .int v3), (4, .int v4), (5, .int v5)] [] := by
  unfold f_X12_rests_116 at h
  obtain ⟨x1, ex1⟩ : ∃ y : Int32, y = (v5 + (1 : Int32)) := ⟨_, rfl⟩
  replace h := h.bnd ex1
  refine w_iinc 5 x1 [(5, .int x1), (0, .ref (xd Γ 58)), (1, .int v1), (2, .int v2), (3, .int v3), (4, .int v4)] dX12_rests_116 rfl (by rw [ex1, ic_iconst_1]) (by decide) rfl rfl ?_
  clear ex1
  refine w_goto (tgt := 58) dX12_rests_119 (by decide) ?_
  exact w_sub [1, 2, 3, 4, 5, 0] rfl (hK58 v1 v2 v3 v4 x1 σ h)
def f_X12_rests_122 (K25 : Int32 × Int32 × Int32 × St → Option (Int32 × St)) (v1 : Int32) (v2 : Int32) (v3 : Int32) (σ : St) : Option (Int32 × St) :=
  bnd (v3 + (1 : Int32)) fun x1 =>
  K25 (v1, v2, x1, σ)
theorem b_X12_rests_122 {Γ : CX} (K25 : Int32 × Int32 × Int32 × St → Option (Int32 × St)) (hK25 : ∀ (v1 : Int32) (v2 : Int32) (v3 : Int32) (σ : St), RR vI Γ (K25 (v1, v2, v3, σ)) → WW Γ cX12_rests 6 RX12 (some .int) rX12_rests σ 25 [(0, .ref (xd Γ 58)), (1, .int v1), (2, .int v2), (3, .int v3)] []) (v1 : Int32) (v2 : Int32) (v3 : Int32) (σ : St) (h : RR vI Γ (f_X12_rests_122 K25 v1 v2 v3 σ)) : WW Γ cX12_rests 6 RX12 (some .int) rX12_rests σ 122 [(0, .ref (xd Γ 58)), (1, .int v1), (2, .int v2), (3, .int v3)] [] := by
  unfold f_X12_rests_122 at h
  obtain ⟨x1, ex1⟩ : ∃ y : Int32, y = (v3 + (1 : Int32)) := ⟨_, rfl⟩
  replace h := h.bnd ex1
  refine w_iinc 3 x1 [(3, .int x1), (0, .ref (xd Γ 58)), (1, .int v1), (2, .int v2)] dX12_rests_122 rfl (by rw [ex1, ic_iconst_1]) (by decide) rfl rfl ?_
  clear ex1
  refine w_goto (tgt := 25) dX12_rests_125 (by decide) ?_
  exact w_sub [1, 2, 3, 0] rfl (hK25 v1 v2 x1 σ h)
def g_X12_rests_58 (K25 : Int32 × Int32 × Int32 × St → Option (Int32 × St)) (K58 : Int32 × Int32 × Int32 × Int32 × Int32 × St → Option (Int32 × St)) (x : Int32 × Int32 × Int32 × Int32 × Int32 × St) : Option (Int32 × St) := match x with
  | (v1, v2, v3, v4, v5, σ) =>
  bd (f_X12_allTrains σ) fun r1 s2 =>
  if r1 < v5 then
    f_X12_rests_122 K25 v1 v2 v3 s2
  else
    bd (f_X12_isBought (1 : Int32) v5 v1 s2) fun r4 s5 =>
    if r4 = 0 then
      f_X12_rests_116 K25 K58 v1 v2 v3 v4 v5 s5
    else
      gd (inb (v3 ||| v5) (ln 67)) <|
      if (gr s5 67 (v3 ||| v5).toNatClampNeg) = v4 then
        gd (inb (v3 ||| v5) (ln 67)) <|
        bd (f_X12_bestGood (1 : Int32) v5 v1 s5) fun r9 s10 =>
        if (-(gr s5 67 (v3 ||| v5).toNatClampNeg)) = r9 then
          bnd (v2 + (1 : Int32)) fun x12 =>
          f_X12_rests_116 K25 K58 v1 x12 v3 v4 v5 s10
        else
          f_X12_rests_116 K25 K58 v1 v2 v3 v4 v5 s10
      else
        f_X12_rests_116 K25 K58 v1 v2 v3 v4 v5 s5
theorem l_X12_rests_58 {Γ : CX} (K25 : Int32 × Int32 × Int32 × St → Option (Int32 × St)) (hK25 : ∀ (v1 : Int32) (v2 : Int32) (v3 : Int32) (σ : St), RR vI Γ (K25 (v1, v2, v3, σ)) → WW Γ cX12_rests 6 RX12 (some .int) rX12_rests σ 25 [(0, .ref (xd Γ 58)), (1, .int v1), (2, .int v2), (3, .int v3)] []) : ∀ (n : Nat) (v1 : Int32) (v2 : Int32) (v3 : Int32) (v4 : Int32) (v5 : Int32) (σ : St), RR vI Γ (itr (g_X12_rests_58 K25) n (v1, v2, v3, v4, v5, σ)) → WW Γ cX12_rests 6 RX12 (some .int) rX12_rests σ 58 [(0, .ref (xd Γ 58)), (1, .int v1), (2, .int v2), (3, .int v3), (4, .int v4), (5, .int v5)] [] := by
  intro n
  induction n with
  | zero => intro v1 v2 v3 v4 v5 σ h; exact RR.no h
  | succ n hK58 =>
  intro v1 v2 v3 v4 v5 σ h
  have h : RR vI Γ (g_X12_rests_58 K25 (itr (g_X12_rests_58 K25) n) (v1, v2, v3, v4, v5, σ)) := h
  generalize itr (g_X12_rests_58 K25) n = K58 at h hK58
  unfold g_X12_rests_58 at h
  dsimp only at h
  refine w_iload 5 dX12_rests_58 rfl rfl ?_
  refine w_aload_n 0 dX12_rests_60 rfl rfl rfl ?_
  obtain ⟨r1, s2, h3, h⟩ := h.bd
  refine k_X12_allTrains ml_RX12_78 (Nat.le_of_ble_eq_true rfl) ⟨Nat.le_of_ble_eq_true rfl, Nat.le_of_ble_eq_true rfl⟩ dX12_rests_61 rfl h3 ?_
  refine w_icmp_gt (tgt := 122) dX12_rests_64 (by decide) rfl (fun q => ?_) (fun q => ?_)
  · have h := h.tt q
    exact w_sub [0, 1, 2, 3] rfl (b_X12_rests_122 K25 hK25 v1 v2 v3 s2 h)
  · have h := h.ff q
    refine w_aload_n 0 dX12_rests_67 rfl rfl rfl ?_
    refine w_iconst (1 : Int32) dX12_rests_68 ic_iconst_1 rfl ?_
    refine w_iload 5 dX12_rests_69 rfl rfl ?_
    refine w_iload_n 1 dX12_rests_71 rfl rfl rfl ?_
    obtain ⟨r4, s5, h6, h⟩ := h.bd
    refine k_X12_isBought ml_RX12_359 (Nat.le_of_ble_eq_true rfl) ⟨Nat.le_of_ble_eq_true rfl, Nat.le_of_ble_eq_true rfl⟩ dX12_rests_72 rfl h6 ?_
    refine w_if_eq (tgt := 116) dX12_rests_75 (by decide) rfl (fun q => ?_) (fun q => ?_)
    · have h := h.tt q
      exact w_sub [0, 1, 2, 3, 4, 5] rfl (b_X12_rests_116 K25 K58 hK25 hK58 v1 v2 v3 v4 v5 s5 h)
    · have h := h.ff q
      refine w_aload_n 0 dX12_rests_78 rfl rfl rfl ?_
      refine gf_RX12_40 dX12_rests_79 rfl ?_
      refine w_iload_n 3 dX12_rests_82 rfl rfl rfl ?_
      refine w_iload 5 dX12_rests_83 rfl rfl ?_
      refine w_ior dX12_rests_85 rfl ?_
      obtain ⟨hi7, h⟩ := h.gd
      refine w_iald (i := 67) (lt_lit (by decide)) rfl hi7 dX12_rests_86 rfl ?_
      refine w_iload 4 dX12_rests_87 rfl rfl ?_
      refine w_icmp_ne (tgt := 116) dX12_rests_89 (by decide) rfl (fun q => ?_) (fun q => ?_)
      · have h := h.ff q
        exact w_sub [0, 1, 2, 3, 4, 5] rfl (b_X12_rests_116 K25 K58 hK25 hK58 v1 v2 v3 v4 v5 s5 h)
      · have h := h.tt q
        refine w_aload_n 0 dX12_rests_92 rfl rfl rfl ?_
        refine gf_RX12_40 dX12_rests_93 rfl ?_
        refine w_iload_n 3 dX12_rests_96 rfl rfl rfl ?_
        refine w_iload 5 dX12_rests_97 rfl rfl ?_
        refine w_ior dX12_rests_99 rfl ?_
        obtain ⟨hi8, h⟩ := h.gd
        refine w_iald (i := 67) (lt_lit (by decide)) rfl hi8 dX12_rests_100 rfl ?_
        refine w_ineg dX12_rests_101 rfl ?_
        refine w_aload_n 0 dX12_rests_102 rfl rfl rfl ?_
        refine w_iconst (1 : Int32) dX12_rests_103 ic_iconst_1 rfl ?_
        refine w_iload 5 dX12_rests_104 rfl rfl ?_
        refine w_iload_n 1 dX12_rests_106 rfl rfl rfl ?_
        obtain ⟨r9, s10, h11, h⟩ := h.bd
        refine k_X12_bestGood ml_RX12_376 (Nat.le_of_ble_eq_true rfl) ⟨Nat.le_of_ble_eq_true rfl, Nat.le_of_ble_eq_true rfl⟩ dX12_rests_107 rfl h11 ?_
        refine w_icmp_ne (tgt := 116) dX12_rests_110 (by decide) rfl (fun q => ?_) (fun q => ?_)
        · have h := h.ff q
          exact w_sub [0, 1, 2, 3, 4, 5] rfl (b_X12_rests_116 K25 K58 hK25 hK58 v1 v2 v3 v4 v5 s10 h)
        · have h := h.tt q
          obtain ⟨x12, ex12⟩ : ∃ y : Int32, y = (v2 + (1 : Int32)) := ⟨_, rfl⟩
          replace h := h.bnd ex12
          refine w_iinc 2 x12 [(2, .int x12), (0, .ref (xd Γ 58)), (1, .int v1), (3, .int v3), (4, .int v4), (5, .int v5)] dX12_rests_113 rfl (by rw [ex12, ic_iconst_1]) (by decide) rfl rfl ?_
          clear ex12
          exact w_sub [1, 2, 0, 3, 4, 5] rfl (b_X12_rests_116 K25 K58 hK25 hK58 v1 x12 v3 v4 v5 s10 h)
def g_X12_rests_25 (K25 : Int32 × Int32 × Int32 × St → Option (Int32 × St)) (x : Int32 × Int32 × Int32 × St) : Option (Int32 × St) := match x with
  | (v1, v2, v3, σ) =>
  bd (f_X12_allTrains σ) fun r1 s2 =>
  if r1 < v3 then
    some (v2, s2)
  else
    bd (f_X12_isBought (0 : Int32) v3 v1 s2) fun r4 s5 =>
    if r4 = 0 then
      f_X12_rests_122 K25 v1 v2 v3 s5
    else
      bd (f_X12_bestGood (0 : Int32) v3 v1 s5) fun r7 s8 =>
      itr (g_X12_rests_58 K25) FU (v1, v2, v3, r7, (0 : Int32), s8)
theorem l_X12_rests_25 {Γ : CX} : ∀ (n : Nat) (v1 : Int32) (v2 : Int32) (v3 : Int32) (σ : St), RR vI Γ (itr (g_X12_rests_25) n (v1, v2, v3, σ)) → WW Γ cX12_rests 6 RX12 (some .int) rX12_rests σ 25 [(0, .ref (xd Γ 58)), (1, .int v1), (2, .int v2), (3, .int v3)] [] := by
  intro n
  induction n with
  | zero => intro v1 v2 v3 σ h; exact RR.no h
  | succ n hK25 =>
  intro v1 v2 v3 σ h
  have h : RR vI Γ (g_X12_rests_25 (itr (g_X12_rests_25) n) (v1, v2, v3, σ)) := h
  generalize itr (g_X12_rests_25) n = K25 at h hK25
  unfold g_X12_rests_25 at h
  dsimp only at h
  refine w_iload_n 3 dX12_rests_25 rfl rfl rfl ?_
  refine w_aload_n 0 dX12_rests_26 rfl rfl rfl ?_
  obtain ⟨r1, s2, h3, h⟩ := h.bd
  refine k_X12_allTrains ml_RX12_78 (Nat.le_of_ble_eq_true rfl) ⟨Nat.le_of_ble_eq_true rfl, Nat.le_of_ble_eq_true rfl⟩ dX12_rests_27 rfl h3 ?_
  refine w_icmp_gt (tgt := 128) dX12_rests_30 (by decide) rfl (fun q => ?_) (fun q => ?_)
  · have h := h.tt q
    refine w_iload_n 2 dX12_rests_128 rfl rfl rfl ?_
    exact w_ireturn dX12_rests_129 h
  · have h := h.ff q
    refine w_aload_n 0 dX12_rests_33 rfl rfl rfl ?_
    refine w_iconst (0 : Int32) dX12_rests_34 ic_iconst_0 rfl ?_
    refine w_iload_n 3 dX12_rests_35 rfl rfl rfl ?_
    refine w_iload_n 1 dX12_rests_36 rfl rfl rfl ?_
    obtain ⟨r4, s5, h6, h⟩ := h.bd
    refine k_X12_isBought ml_RX12_359 (Nat.le_of_ble_eq_true rfl) ⟨Nat.le_of_ble_eq_true rfl, Nat.le_of_ble_eq_true rfl⟩ dX12_rests_37 rfl h6 ?_
    refine w_if_ne (tgt := 46) dX12_rests_40 (by decide) rfl (fun q => ?_) (fun q => ?_)
    · have h := h.ff q
      refine w_aload_n 0 dX12_rests_46 rfl rfl rfl ?_
      refine w_iconst (0 : Int32) dX12_rests_47 ic_iconst_0 rfl ?_
      refine w_iload_n 3 dX12_rests_48 rfl rfl rfl ?_
      refine w_iload_n 1 dX12_rests_49 rfl rfl rfl ?_
      obtain ⟨r7, s8, h9, h⟩ := h.bd
      refine k_X12_bestGood ml_RX12_376 (Nat.le_of_ble_eq_true rfl) ⟨Nat.le_of_ble_eq_true rfl, Nat.le_of_ble_eq_true rfl⟩ dX12_rests_50 rfl h9 ?_
      refine w_istore [(4, .int r7), (0, .ref (xd Γ 58)), (1, .int v1), (2, .int v2), (3, .int v3)] dX12_rests_53 (by decide) rfl rfl ?_
      refine w_iconst (0 : Int32) dX12_rests_55 ic_iconst_0 rfl ?_
      refine w_istore [(5, .int (0 : Int32)), (4, .int r7), (0, .ref (xd Γ 58)), (1, .int v1), (2, .int v2), (3, .int v3)] dX12_rests_56 (by decide) rfl rfl ?_
      exact w_sub [2, 3, 4, 5, 1, 0] rfl (l_X12_rests_58 K25 hK25 FU v1 v2 v3 r7 (0 : Int32) s8 h)
    · have h := h.tt q
      refine w_goto (tgt := 122) dX12_rests_43 (by decide) ?_
      exact w_sub [0, 1, 2, 3] rfl (b_X12_rests_122 K25 hK25 v1 v2 v3 s5 h)
def f_X12_rests (p0 : Int32) (σ : St) : Option (Int32 × St) :=
  bd (f_X12_isWar σ) fun r1 s2 =>
  if r1 = 0 then
    f_X12_rests_14 s2
  else
    bd (f_X12_isPrice p0 s2) fun r4 s5 =>
    if r4 = 0 then
      f_X12_rests_14 s5
    else
      bd (f_X12_fillFronts s5) fun _ s8 =>
      itr (g_X12_rests_25) FU (p0, (0 : Int32), (0 : Int32), s8)
theorem e_X12_rests {Γ : CX} (p0 : Int32) (σ : St) (h : RR vI Γ (f_X12_rests p0 σ)) : WW Γ cX12_rests 6 RX12 (some .int) rX12_rests σ 0 [(0, .ref (xd Γ 58)), (1, .int p0)] [] := by
  unfold f_X12_rests at h
  refine w_aload_n 0 dX12_rests_0 rfl rfl rfl ?_
  obtain ⟨r1, s2, h3, h⟩ := h.bd
  refine k_X12_isWar ml_RX12_74 (Nat.le_of_ble_eq_true rfl) ⟨Nat.le_of_ble_eq_true rfl, Nat.le_of_ble_eq_true rfl⟩ dX12_rests_1 rfl h3 ?_
  refine w_if_eq (tgt := 14) dX12_rests_4 (by decide) rfl (fun q => ?_) (fun q => ?_)
  · have h := h.tt q
    exact w_sub [] rfl (b_X12_rests_14 s2 h)
  · have h := h.ff q
    refine w_iload_n 1 dX12_rests_7 rfl rfl rfl ?_
    obtain ⟨r4, s5, h6, h⟩ := h.bd
    refine k_X12_isPrice ml_RX12_366 (Nat.le_of_ble_eq_true rfl) ⟨Nat.le_of_ble_eq_true rfl, Nat.le_of_ble_eq_true rfl⟩ dX12_rests_8 rfl h6 ?_
    refine w_if_ne (tgt := 17) dX12_rests_11 (by decide) rfl (fun q => ?_) (fun q => ?_)
    · have h := h.ff q
      refine w_aload_n 0 dX12_rests_17 rfl rfl rfl ?_
      obtain ⟨r7, s8, h9, h⟩ := h.bd
      refine k_X12_fillFronts ml_RX12_356 (Nat.le_of_ble_eq_true rfl) ⟨Nat.le_of_ble_eq_true rfl, Nat.le_of_ble_eq_true rfl⟩ dX12_rests_18 rfl h9 ?_
      refine w_iconst (0 : Int32) dX12_rests_21 ic_iconst_0 rfl ?_
      refine w_istore_n [(2, .int (0 : Int32)), (0, .ref (xd Γ 58)), (1, .int p0)] dX12_rests_22 rfl (by decide) rfl rfl ?_
      refine w_iconst (0 : Int32) dX12_rests_23 ic_iconst_0 rfl ?_
      refine w_istore_n [(3, .int (0 : Int32)), (2, .int (0 : Int32)), (0, .ref (xd Γ 58)), (1, .int p0)] dX12_rests_24 rfl (by decide) rfl rfl ?_
      exact w_sub [2, 3, 1, 0] rfl (l_X12_rests_25 FU p0 (0 : Int32) (0 : Int32) s8 h)
    · have h := h.tt q
      exact w_sub [] rfl (b_X12_rests_14 s5 h)
theorem c_X12_rests {l : Launch} {D : va_G} {cy : Nat → ClassId} {ad : Nat → Nat} {p0 : Int32} {σ σ' : St} {r : Int32} (hf : f_X12_rests p0 σ = some (r, σ')) : CT l D cy ad yX12_rests cX12_rests 6 (some .int) rX12_rests [.ref (ad 58), .int p0] σ (some (.int r)) σ' :=
  ct_of (by decide) (Nat.le_of_ble_eq_true rfl) (fun p e s m args below meth c A => e_X12_rests (Γ := (p, l, e, rX12_rests, s, m, args, below, meth, c, D, cy, ad, A, 0, 0, MQ below (QC D cy ad (some (.int r)) σ' A) args s 0 0 A)) p0 σ ⟨_, hf, rfl⟩)
theorem k_X12_rests {Γ : CX} {cc : ByteArray} {nL : Nat} {own : String} {ret : Option FieldType} {rm : Room} {σ σ' : St} {pc pc' idx : Nat} {lv : List (Nat × Value)} {rest : List Value} {p0 : Int32} {r : Int32} (hl : Cond.methodLink own idx yX12_rests ∈ TB) (hw : (rest.map fun v => v.category).sum ≤ 8) (hR : rX12_rests.frames + 1 ≤ rm.frames ∧ 8 + (6 + 11) + rX12_rests.locals ≤ rm.locals) (hd : decode cc pc = .ok (.invokevirtual idx, 3)) (hp : pc + 3 = pc') (hf : f_X12_rests p0 σ = some (r, σ')) (h : WW Γ cc nL own ret rm σ' pc' lv (.int r :: rest)) : WW Γ cc nL own ret rm σ pc lv (.int p0 :: .ref (xd Γ 58) :: rest) :=
  w_callV (nn := 1) (i := 58) (As := [.int p0]) (v := (some (.int r))) (T := TX12) (N := 32) (c_X12_rests hf) hl mw_X12_rests (by decide +kernel) ⟨rfl, rfl⟩ hR (lt_lit (by decide)) cel_58 rfl rfl hw hd rfl hp h
/-! WarByHoursModel.valueOf (I)I -/
def rX12_valueOf : Room := { frames := 0, cells := 0, slots := 0, locals := 0 }
def f_X12_valueOf_17 (k0 : Int32) (σ : St) : Option (Int32 × St) :=
  some (k0, σ)
theorem b_X12_valueOf_17 {Γ : CX} (k0 : Int32) (σ : St) (h : RR vI Γ (f_X12_valueOf_17 k0 σ)) : WW Γ cX12_valueOf 1 RX12 (some .int) rX12_valueOf σ 17 [] [.int k0] := by
  unfold f_X12_valueOf_17 at h
  exact w_ireturn dX12_valueOf_17 h
def f_X12_valueOf (p0 : Int32) (σ : St) : Option (Int32 × St) :=
  if p0 ≤ 0 then
    if 0 ≤ p0 then
      f_X12_valueOf_17 (0 : Int32) σ
    else
      f_X12_valueOf_17 (-1 : Int32) σ
  else
    f_X12_valueOf_17 (1 : Int32) σ
theorem e_X12_valueOf {Γ : CX} (p0 : Int32) (σ : St) (h : RR vI Γ (f_X12_valueOf p0 σ)) : WW Γ cX12_valueOf 1 RX12 (some .int) rX12_valueOf σ 0 [(0, .int p0)] [] := by
  unfold f_X12_valueOf at h
  refine w_iload_n 0 dX12_valueOf_0 rfl rfl rfl ?_
  refine w_if_le (tgt := 8) dX12_valueOf_1 (by decide) rfl (fun q => ?_) (fun q => ?_)
  · have h := h.tt q
    refine w_iload_n 0 dX12_valueOf_8 rfl rfl rfl ?_
    refine w_if_ge (tgt := 16) dX12_valueOf_9 (by decide) rfl (fun q => ?_) (fun q => ?_)
    · have h := h.tt q
      refine w_iconst (0 : Int32) dX12_valueOf_16 ic_iconst_0 rfl ?_
      exact w_sub [] rfl (b_X12_valueOf_17 (0 : Int32) σ h)
    · have h := h.ff q
      refine w_iconst (-1 : Int32) dX12_valueOf_12 ic_iconst_m1 rfl ?_
      refine w_goto (tgt := 17) dX12_valueOf_13 (by decide) ?_
      exact w_sub [] rfl (b_X12_valueOf_17 (-1 : Int32) σ h)
  · have h := h.ff q
    refine w_iconst (1 : Int32) dX12_valueOf_4 ic_iconst_1 rfl ?_
    refine w_goto (tgt := 17) dX12_valueOf_5 (by decide) ?_
    exact w_sub [] rfl (b_X12_valueOf_17 (1 : Int32) σ h)
theorem c_X12_valueOf {l : Launch} {D : va_G} {cy : Nat → ClassId} {ad : Nat → Nat} {p0 : Int32} {σ σ' : St} {r : Int32} (hf : f_X12_valueOf p0 σ = some (r, σ')) : CT l D cy ad yX12_valueOf cX12_valueOf 1 (some .int) rX12_valueOf [.int p0] σ (some (.int r)) σ' :=
  ct_of (by decide) (Nat.le_of_ble_eq_true rfl) (fun p e s m args below meth c A => e_X12_valueOf (Γ := (p, l, e, rX12_valueOf, s, m, args, below, meth, c, D, cy, ad, A, 0, 0, MQ below (QC D cy ad (some (.int r)) σ' A) args s 0 0 A)) p0 σ ⟨_, hf, rfl⟩)
theorem k_X12_valueOf {Γ : CX} {cc : ByteArray} {nL : Nat} {own : String} {ret : Option FieldType} {rm : Room} {σ σ' : St} {pc pc' idx : Nat} {lv : List (Nat × Value)} {rest : List Value} {p0 : Int32} {r : Int32} (hl : Cond.methodLink own idx yX12_valueOf ∈ TB) (hw : (rest.map fun v => v.category).sum ≤ 8) (hR : rX12_valueOf.frames + 1 ≤ rm.frames ∧ 8 + (1 + 11) + rX12_valueOf.locals ≤ rm.locals) (hd : decode cc pc = .ok (.invokestatic idx, 3)) (hp : pc + 3 = pc') (hf : f_X12_valueOf p0 σ = some (r, σ')) (h : WW Γ cc nL own ret rm σ' pc' lv (.int r :: rest)) : WW Γ cc nL own ret rm σ pc lv (.int p0 :: rest) :=
  w_callS (nn := 1) (As := [.int p0]) (v := (some (.int r))) (c_X12_valueOf hf) hl mw_X12_valueOf (by decide +kernel) ⟨rfl, rfl⟩ hR rfl hw hd rfl hp h
/-! WarByHoursModel.heldBy (I)I -/
def rX12_heldBy : Room := { frames := 1, cells := 0, slots := 0, locals := 20 }
def f_X12_heldBy_104 (K6 : Int32 × Int32 × Int32 × St → Option (Int32 × St)) (K14 : Int32 × Int32 × Int32 × Int32 × St → Option (Int32 × St)) (v1 : Int32) (v2 : Int32) (v3 : Int32) (v4 : Int32) (σ : St) : Option (Int32 × St) :=
  bnd (v4 + (1 : Int32)) fun x1 =>
  K14 (v1, v2, v3, x1, σ)
theorem b_X12_heldBy_104 {Γ : CX} (K6 : Int32 × Int32 × Int32 × St → Option (Int32 × St)) (K14 : Int32 × Int32 × Int32 × Int32 × St → Option (Int32 × St)) (hK6 : ∀ (v1 : Int32) (v2 : Int32) (v3 : Int32) (σ : St), RR vI Γ (K6 (v1, v2, v3, σ)) → WW Γ cX12_heldBy 6 RX12 (some .int) rX12_heldBy σ 6 [(0, .ref (xd Γ 58)), (1, .int v1), (2, .int v2), (3, .int v3)] []) (hK14 : ∀ (v1 : Int32) (v2 : Int32) (v3 : Int32) (v4 : Int32) (σ : St), RR vI Γ (K14 (v1, v2, v3, v4, σ)) → WW Γ cX12_heldBy 6 RX12 (some .int) rX12_heldBy σ 14 [(0, .ref (xd Γ 58)), (1, .int v1), (2, .int v2), (3, .int v3), (4, .int v4)] []) (v1 : Int32) (v2 : Int32) (v3 : Int32) (v4 : Int32) (σ : St) (h : RR vI Γ (f_X12_heldBy_104 K6 K14 v1 v2 v3 v4 σ)) : WW Γ cX12_heldBy 6 RX12 (some .int) rX12_heldBy σ 104 [(0, .ref (xd Γ 58)), (1, .int v1), (2, .int v2), (3, .int v3), (4, .int v4)] [] := by
  unfold f_X12_heldBy_104 at h
  obtain ⟨x1, ex1⟩ : ∃ y : Int32, y = (v4 + (1 : Int32)) := ⟨_, rfl⟩
  replace h := h.bnd ex1
  refine w_iinc 4 x1 [(4, .int x1), (0, .ref (xd Γ 58)), (1, .int v1), (2, .int v2), (3, .int v3)] dX12_heldBy_104 rfl (by rw [ex1, ic_iconst_1]) (by decide) rfl rfl ?_
  clear ex1
  refine w_goto (tgt := 14) dX12_heldBy_107 (by decide) ?_
  exact w_sub [1, 2, 3, 4, 0] rfl (hK14 v1 v2 v3 x1 σ h)
def g_X12_heldBy_14 (K6 : Int32 × Int32 × Int32 × St → Option (Int32 × St)) (K14 : Int32 × Int32 × Int32 × Int32 × St → Option (Int32 × St)) (x : Int32 × Int32 × Int32 × Int32 × St) : Option (Int32 × St) := match x with
  | (v1, v2, v3, v4, σ) =>
  if v1 < (v3 + v4) then
    bnd (v3 + (1 : Int32)) fun x1 =>
    K6 (v1, v2, x1, σ)
  else
    gd (inb (0 : Int32) (ln 68)) <|
    bd (f_X12_valueOf ((gr σ 68 (0 : Int32).toNatClampNeg) - v3) σ) fun r3 s4 =>
    gd (inb (1 : Int32) (ln 68)) <|
    bd (f_X12_valueOf ((gr s4 68 (1 : Int32).toNatClampNeg) - v4) s4) fun r7 s8 =>
    gd (inb (2 : Int32) (ln 68)) <|
    bd (f_X12_valueOf ((gr s8 68 (2 : Int32).toNatClampNeg) - ((v1 - v3) - v4)) s8) fun r11 s12 =>
    bnd (((r3 + r7) + r11)) fun x14 =>
    if x14 < v2 then
      gd (inb (0 : Int32) (ln 70)) <|
      bnd (sr s12 70 (0 : Int32).toNatClampNeg v3) fun s16 =>
      gd (inb (1 : Int32) (ln 70)) <|
      bnd (sr s16 70 (1 : Int32).toNatClampNeg v4) fun s18 =>
      gd (inb (2 : Int32) (ln 70)) <|
      bnd (sr s18 70 (2 : Int32).toNatClampNeg ((v1 - v3) - v4)) fun s20 =>
      f_X12_heldBy_104 K6 K14 v1 x14 v3 v4 s20
    else
      f_X12_heldBy_104 K6 K14 v1 v2 v3 v4 s12
theorem l_X12_heldBy_14 {Γ : CX} (K6 : Int32 × Int32 × Int32 × St → Option (Int32 × St)) (hK6 : ∀ (v1 : Int32) (v2 : Int32) (v3 : Int32) (σ : St), RR vI Γ (K6 (v1, v2, v3, σ)) → WW Γ cX12_heldBy 6 RX12 (some .int) rX12_heldBy σ 6 [(0, .ref (xd Γ 58)), (1, .int v1), (2, .int v2), (3, .int v3)] []) : ∀ (n : Nat) (v1 : Int32) (v2 : Int32) (v3 : Int32) (v4 : Int32) (σ : St), RR vI Γ (itr (g_X12_heldBy_14 K6) n (v1, v2, v3, v4, σ)) → WW Γ cX12_heldBy 6 RX12 (some .int) rX12_heldBy σ 14 [(0, .ref (xd Γ 58)), (1, .int v1), (2, .int v2), (3, .int v3), (4, .int v4)] [] := by
  intro n
  induction n with
  | zero => intro v1 v2 v3 v4 σ h; exact RR.no h
  | succ n hK14 =>
  intro v1 v2 v3 v4 σ h
  have h : RR vI Γ (g_X12_heldBy_14 K6 (itr (g_X12_heldBy_14 K6) n) (v1, v2, v3, v4, σ)) := h
  generalize itr (g_X12_heldBy_14 K6) n = K14 at h hK14
  unfold g_X12_heldBy_14 at h
  dsimp only at h
  refine w_iload_n 3 dX12_heldBy_14 rfl rfl rfl ?_
  refine w_iload 4 dX12_heldBy_15 rfl rfl ?_
  refine w_iadd dX12_heldBy_17 rfl ?_
  refine w_iload_n 1 dX12_heldBy_18 rfl rfl rfl ?_
  refine w_icmp_gt (tgt := 110) dX12_heldBy_19 (by decide) rfl (fun q => ?_) (fun q => ?_)
  · have h := h.tt q
    obtain ⟨x1, ex1⟩ : ∃ y : Int32, y = (v3 + (1 : Int32)) := ⟨_, rfl⟩
    replace h := h.bnd ex1
    refine w_iinc 3 x1 [(3, .int x1), (0, .ref (xd Γ 58)), (1, .int v1), (2, .int v2), (4, .int v4)] dX12_heldBy_110 rfl (by rw [ex1, ic_iconst_1]) (by decide) rfl rfl ?_
    clear ex1
    refine w_goto (tgt := 6) dX12_heldBy_113 (by decide) ?_
    exact w_sub [1, 2, 3, 0] rfl (hK6 v1 v2 x1 σ h)
  · have h := h.ff q
    refine w_aload_n 0 dX12_heldBy_22 rfl rfl rfl ?_
    refine gf_RX12_43 dX12_heldBy_23 rfl ?_
    refine w_iconst (0 : Int32) dX12_heldBy_26 ic_iconst_0 rfl ?_
    obtain ⟨hi2, h⟩ := h.gd
    refine w_iald (i := 68) (lt_lit (by decide)) rfl hi2 dX12_heldBy_27 rfl ?_
    refine w_iload_n 3 dX12_heldBy_28 rfl rfl rfl ?_
    refine w_isub dX12_heldBy_29 rfl ?_
    obtain ⟨r3, s4, h5, h⟩ := h.bd
    refine k_X12_valueOf ml_RX12_379 (Nat.le_of_ble_eq_true rfl) ⟨Nat.le_of_ble_eq_true rfl, Nat.le_of_ble_eq_true rfl⟩ dX12_heldBy_30 rfl h5 ?_
    refine w_aload_n 0 dX12_heldBy_33 rfl rfl rfl ?_
    refine gf_RX12_43 dX12_heldBy_34 rfl ?_
    refine w_iconst (1 : Int32) dX12_heldBy_37 ic_iconst_1 rfl ?_
    obtain ⟨hi6, h⟩ := h.gd
    refine w_iald (i := 68) (lt_lit (by decide)) rfl hi6 dX12_heldBy_38 rfl ?_
    refine w_iload 4 dX12_heldBy_39 rfl rfl ?_
    refine w_isub dX12_heldBy_41 rfl ?_
    obtain ⟨r7, s8, h9, h⟩ := h.bd
    refine k_X12_valueOf ml_RX12_379 (Nat.le_of_ble_eq_true rfl) ⟨Nat.le_of_ble_eq_true rfl, Nat.le_of_ble_eq_true rfl⟩ dX12_heldBy_42 rfl h9 ?_
    refine w_iadd dX12_heldBy_45 rfl ?_
    refine w_aload_n 0 dX12_heldBy_46 rfl rfl rfl ?_
    refine gf_RX12_43 dX12_heldBy_47 rfl ?_
    refine w_iconst (2 : Int32) dX12_heldBy_50 ic_iconst_2 rfl ?_
    obtain ⟨hi10, h⟩ := h.gd
    refine w_iald (i := 68) (lt_lit (by decide)) rfl hi10 dX12_heldBy_51 rfl ?_
    refine w_iload_n 1 dX12_heldBy_52 rfl rfl rfl ?_
    refine w_iload_n 3 dX12_heldBy_53 rfl rfl rfl ?_
    refine w_isub dX12_heldBy_54 rfl ?_
    refine w_iload 4 dX12_heldBy_55 rfl rfl ?_
    refine w_isub dX12_heldBy_57 rfl ?_
    refine w_isub dX12_heldBy_58 rfl ?_
    obtain ⟨r11, s12, h13, h⟩ := h.bd
    refine k_X12_valueOf ml_RX12_379 (Nat.le_of_ble_eq_true rfl) ⟨Nat.le_of_ble_eq_true rfl, Nat.le_of_ble_eq_true rfl⟩ dX12_heldBy_59 rfl h13 ?_
    refine w_iadd dX12_heldBy_62 rfl ?_
    refine w_nmI (fun x14 ex14 => ?_)
    replace h := h.bnd ex14
    clear ex14
    refine w_istore [(5, .int x14), (0, .ref (xd Γ 58)), (1, .int v1), (2, .int v2), (3, .int v3), (4, .int v4)] dX12_heldBy_63 (by decide) rfl rfl ?_
    refine w_iload 0 dX12_heldBy_65 rfl rfl ?_
    refine w_iload_n 3 dX12_heldBy_67 rfl rfl rfl ?_
    refine w_icmp_lt (tgt := 74) dX12_heldBy_68 (by decide) rfl (fun q => ?_) (fun q => ?_)
    · have h := h.tt q
      refine w_iload 0 dX12_heldBy_74 rfl rfl ?_
      refine w_istore_n [(2, .int x14), (5, .int x14), (0, .ref (xd Γ 58)), (1, .int v1), (3, .int v3), (4, .int v4)] dX12_heldBy_76 rfl (by decide) rfl rfl ?_
      refine w_aload_n 2 dX12_heldBy_77 rfl rfl rfl ?_
      refine gf_RX12_49 dX12_heldBy_78 rfl ?_
      refine w_iconst (0 : Int32) dX12_heldBy_81 ic_iconst_0 rfl ?_
      refine w_iload_n 4 dX12_heldBy_82 rfl rfl rfl ?_
      obtain ⟨hi15, h⟩ := h.gd
      refine w_iast (i := 70) (lt_lit (by decide)) rfl hi15 dX12_heldBy_83 rfl ?_
      obtain ⟨s16, es16⟩ : ∃ y : St, y = (sr s12 70 (0 : Int32).toNatClampNeg v3) := ⟨_, rfl⟩
      rw [← es16]
      replace h := h.bnd es16
      clear es16
      refine w_aload_n 2 dX12_heldBy_84 rfl rfl rfl ?_
      refine gf_RX12_49 dX12_heldBy_85 rfl ?_
      refine w_iconst (1 : Int32) dX12_heldBy_88 ic_iconst_1 rfl ?_
      refine w_iload 5 dX12_heldBy_89 rfl rfl ?_
      obtain ⟨hi17, h⟩ := h.gd
      refine w_iast (i := 70) (lt_lit (by decide)) rfl hi17 dX12_heldBy_91 rfl ?_
      obtain ⟨s18, es18⟩ : ∃ y : St, y = (sr s16 70 (1 : Int32).toNatClampNeg v4) := ⟨_, rfl⟩
      rw [← es18]
      replace h := h.bnd es18
      clear es18
      refine w_aload_n 2 dX12_heldBy_92 rfl rfl rfl ?_
      refine gf_RX12_49 dX12_heldBy_93 rfl ?_
      refine w_iconst (2 : Int32) dX12_heldBy_96 ic_iconst_2 rfl ?_
      refine w_iload_n 3 dX12_heldBy_97 rfl rfl rfl ?_
      refine w_iload_n 4 dX12_heldBy_98 rfl rfl rfl ?_
      refine w_isub dX12_heldBy_99 rfl ?_
      refine w_iload 5 dX12_heldBy_100 rfl rfl ?_
      refine w_isub dX12_heldBy_102 rfl ?_
      obtain ⟨hi19, h⟩ := h.gd
      refine w_iast (i := 70) (lt_lit (by decide)) rfl hi19 dX12_heldBy_103 rfl ?_
      obtain ⟨s20, es20⟩ : ∃ y : St, y = (sr s18 70 (2 : Int32).toNatClampNeg ((v1 - v3) - v4)) := ⟨_, rfl⟩
      rw [← es20]
      replace h := h.bnd es20
      clear es20
      exact w_sub [2, 3, 0, 4, 5] rfl (b_X12_heldBy_104 K6 K14 hK6 hK14 v1 x14 v3 v4 s20 h)
    · have h := h.ff q
      refine w_goto (tgt := 104) dX12_heldBy_71 (by decide) ?_
      exact w_sub [1, 2, 3, 4, 5] rfl (b_X12_heldBy_104 K6 K14 hK6 hK14 v1 v2 v3 v4 s12 h)
def g_X12_heldBy_6 (K6 : Int32 × Int32 × Int32 × St → Option (Int32 × St)) (x : Int32 × Int32 × Int32 × St) : Option (Int32 × St) := match x with
  | (v1, v2, v3, σ) =>
  if v1 < v3 then
    some (v2, σ)
  else
    itr (g_X12_heldBy_14 K6) FU (v1, v2, v3, (0 : Int32), σ)
theorem l_X12_heldBy_6 {Γ : CX} : ∀ (n : Nat) (v1 : Int32) (v2 : Int32) (v3 : Int32) (σ : St), RR vI Γ (itr (g_X12_heldBy_6) n (v1, v2, v3, σ)) → WW Γ cX12_heldBy 6 RX12 (some .int) rX12_heldBy σ 6 [(0, .ref (xd Γ 58)), (1, .int v1), (2, .int v2), (3, .int v3)] [] := by
  intro n
  induction n with
  | zero => intro v1 v2 v3 σ h; exact RR.no h
  | succ n hK6 =>
  intro v1 v2 v3 σ h
  have h : RR vI Γ (g_X12_heldBy_6 (itr (g_X12_heldBy_6) n) (v1, v2, v3, σ)) := h
  generalize itr (g_X12_heldBy_6) n = K6 at h hK6
  unfold g_X12_heldBy_6 at h
  dsimp only at h
  refine w_iload_n 3 dX12_heldBy_6 rfl rfl rfl ?_
  refine w_iload_n 1 dX12_heldBy_7 rfl rfl rfl ?_
  refine w_icmp_gt (tgt := 116) dX12_heldBy_8 (by decide) rfl (fun q => ?_) (fun q => ?_)
  · have h := h.tt q
    refine w_iload_n 2 dX12_heldBy_116 rfl rfl rfl ?_
    exact w_ireturn dX12_heldBy_117 h
  · have h := h.ff q
    refine w_iconst (0 : Int32) dX12_heldBy_11 ic_iconst_0 rfl ?_
    refine w_istore [(4, .int (0 : Int32)), (0, .ref (xd Γ 58)), (1, .int v1), (2, .int v2), (3, .int v3)] dX12_heldBy_12 (by decide) rfl rfl ?_
    exact w_sub [1, 2, 3, 4, 0] rfl (l_X12_heldBy_14 K6 hK6 FU v1 v2 v3 (0 : Int32) σ h)
def f_X12_heldBy (p0 : Int32) (σ : St) : Option (Int32 × St) :=
  itr (g_X12_heldBy_6) FU (p0, (1000000 : Int32), (0 : Int32), σ)
theorem e_X12_heldBy {Γ : CX} (p0 : Int32) (σ : St) (h : RR vI Γ (f_X12_heldBy p0 σ)) : WW Γ cX12_heldBy 6 RX12 (some .int) rX12_heldBy σ 0 [(0, .ref (xd Γ 58)), (1, .int p0)] [] := by
  unfold f_X12_heldBy at h
  refine w_ldc_w (1000000 : Int32) dX12_heldBy_0 cn_RX12_280 rfl ?_
  refine w_istore_n [(2, .int (1000000 : Int32)), (0, .ref (xd Γ 58)), (1, .int p0)] dX12_heldBy_3 rfl (by decide) rfl rfl ?_
  refine w_iconst (0 : Int32) dX12_heldBy_4 ic_iconst_0 rfl ?_
  refine w_istore_n [(3, .int (0 : Int32)), (2, .int (1000000 : Int32)), (0, .ref (xd Γ 58)), (1, .int p0)] dX12_heldBy_5 rfl (by decide) rfl rfl ?_
  exact w_sub [2, 3, 1, 0] rfl (l_X12_heldBy_6 FU p0 (1000000 : Int32) (0 : Int32) σ h)
theorem c_X12_heldBy {l : Launch} {D : va_G} {cy : Nat → ClassId} {ad : Nat → Nat} {p0 : Int32} {σ σ' : St} {r : Int32} (hf : f_X12_heldBy p0 σ = some (r, σ')) : CT l D cy ad yX12_heldBy cX12_heldBy 6 (some .int) rX12_heldBy [.ref (ad 58), .int p0] σ (some (.int r)) σ' :=
  ct_of (by decide) (Nat.le_of_ble_eq_true rfl) (fun p e s m args below meth c A => e_X12_heldBy (Γ := (p, l, e, rX12_heldBy, s, m, args, below, meth, c, D, cy, ad, A, 0, 0, MQ below (QC D cy ad (some (.int r)) σ' A) args s 0 0 A)) p0 σ ⟨_, hf, rfl⟩)
theorem k_X12_heldBy {Γ : CX} {cc : ByteArray} {nL : Nat} {own : String} {ret : Option FieldType} {rm : Room} {σ σ' : St} {pc pc' idx : Nat} {lv : List (Nat × Value)} {rest : List Value} {p0 : Int32} {r : Int32} (hl : Cond.methodLink own idx yX12_heldBy ∈ TB) (hw : (rest.map fun v => v.category).sum ≤ 8) (hR : rX12_heldBy.frames + 1 ≤ rm.frames ∧ 8 + (6 + 11) + rX12_heldBy.locals ≤ rm.locals) (hd : decode cc pc = .ok (.invokevirtual idx, 3)) (hp : pc + 3 = pc') (hf : f_X12_heldBy p0 σ = some (r, σ')) (h : WW Γ cc nL own ret rm σ' pc' lv (.int r :: rest)) : WW Γ cc nL own ret rm σ pc lv (.int p0 :: .ref (xd Γ 58) :: rest) :=
  w_callV (nn := 1) (i := 58) (As := [.int p0]) (v := (some (.int r))) (T := TX12) (N := 32) (c_X12_heldBy hf) hl mw_X12_heldBy (by decide +kernel) ⟨rfl, rfl⟩ hR (lt_lit (by decide)) cel_58 rfl rfl hw hd rfl hp h
/-! WarByHoursModel.holdOf (II)I -/
def rX12_holdOf : Room := { frames := 2, cells := 0, slots := 0, locals := 45 }
def f_X12_holdOf_102 (K7 : Int32 × Int32 × Int32 × Int32 × St → Option (Int32 × St)) (K16 : Int32 × Int32 × Int32 × Int32 × Int32 × St → Option (Int32 × St)) (v1 : Int32) (v2 : Int32) (v3 : Int32) (v4 : Int32) (v5 : Int32) (σ : St) : Option (Int32 × St) :=
  bnd (v5 + (1 : Int32)) fun x1 =>
  K16 (v1, v2, v3, v4, x1, σ)
theorem b_X12_holdOf_102 {Γ : CX} (K7 : Int32 × Int32 × Int32 × Int32 × St → Option (Int32 × St)) (K16 : Int32 × Int32 × Int32 × Int32 × Int32 × St → Option (Int32 × St)) (hK7 : ∀ (v1 : Int32) (v2 : Int32) (v3 : Int32) (v4 : Int32) (σ : St), RR vI Γ (K7 (v1, v2, v3, v4, σ)) → WW Γ cX12_holdOf 8 RX12 (some .int) rX12_holdOf σ 7 [(0, .ref (xd Γ 58)), (1, .int v1), (2, .int v2), (3, .int v3), (4, .int v4)] []) (hK16 : ∀ (v1 : Int32) (v2 : Int32) (v3 : Int32) (v4 : Int32) (v5 : Int32) (σ : St), RR vI Γ (K16 (v1, v2, v3, v4, v5, σ)) → WW Γ cX12_holdOf 8 RX12 (some .int) rX12_holdOf σ 16 [(0, .ref (xd Γ 58)), (1, .int v1), (2, .int v2), (3, .int v3), (4, .int v4), (5, .int v5)] []) (v1 : Int32) (v2 : Int32) (v3 : Int32) (v4 : Int32) (v5 : Int32) (σ : St) (h : RR vI Γ (f_X12_holdOf_102 K7 K16 v1 v2 v3 v4 v5 σ)) : WW Γ cX12_holdOf 8 RX12 (some .int) rX12_holdOf σ 102 [(0, .ref (xd Γ 58)), (1, .int v1), (2, .int v2), (3, .int v3), (4, .int v4), (5, .int v5)] [] := by
  unfold f_X12_holdOf_102 at h
  obtain ⟨x1, ex1⟩ : ∃ y : Int32, y = (v5 + (1 : Int32)) := ⟨_, rfl⟩
  replace h := h.bnd ex1
  refine w_iinc 5 x1 [(5, .int x1), (0, .ref (xd Γ 58)), (1, .int v1), (2, .int v2), (3, .int v3), (4, .int v4)] dX12_holdOf_102 rfl (by rw [ex1, ic_iconst_1]) (by decide) rfl rfl ?_
  clear ex1
  refine w_goto (tgt := 16) dX12_holdOf_105 (by decide) ?_
  exact w_sub [1, 2, 3, 4, 5, 0] rfl (hK16 v1 v2 v3 v4 x1 σ h)
def g_X12_holdOf_76 (K7 : Int32 × Int32 × Int32 × Int32 × St → Option (Int32 × St)) (K16 : Int32 × Int32 × Int32 × Int32 × Int32 × St → Option (Int32 × St)) (K76 : Int32 × Int32 × Int32 × Int32 × Int32 × Int32 × St → Option (Int32 × St)) (x : Int32 × Int32 × Int32 × Int32 × Int32 × Int32 × St) : Option (Int32 × St) := match x with
  | (v1, v2, v3, v4, v5, v7, σ) =>
  if (3 : Int32) ≤ v7 then
    f_X12_holdOf_102 K7 K16 v1 v2 v3 v4 v5 σ
  else
    gd (inb v7 (ln 68)) <|
    gd (inb v7 (ln 69)) <|
    bnd (sr σ 69 v7.toNatClampNeg (gr σ 68 v7.toNatClampNeg)) fun s3 =>
    bnd (v7 + (1 : Int32)) fun x4 =>
    K76 (v1, v2, v3, v4, v5, x4, s3)
theorem l_X12_holdOf_76 {Γ : CX} (K7 : Int32 × Int32 × Int32 × Int32 × St → Option (Int32 × St)) (K16 : Int32 × Int32 × Int32 × Int32 × Int32 × St → Option (Int32 × St)) (hK7 : ∀ (v1 : Int32) (v2 : Int32) (v3 : Int32) (v4 : Int32) (σ : St), RR vI Γ (K7 (v1, v2, v3, v4, σ)) → WW Γ cX12_holdOf 8 RX12 (some .int) rX12_holdOf σ 7 [(0, .ref (xd Γ 58)), (1, .int v1), (2, .int v2), (3, .int v3), (4, .int v4)] []) (hK16 : ∀ (v1 : Int32) (v2 : Int32) (v3 : Int32) (v4 : Int32) (v5 : Int32) (σ : St), RR vI Γ (K16 (v1, v2, v3, v4, v5, σ)) → WW Γ cX12_holdOf 8 RX12 (some .int) rX12_holdOf σ 16 [(0, .ref (xd Γ 58)), (1, .int v1), (2, .int v2), (3, .int v3), (4, .int v4), (5, .int v5)] []) : ∀ (n : Nat) (v1 : Int32) (v2 : Int32) (v3 : Int32) (v4 : Int32) (v5 : Int32) (v7 : Int32) (σ : St), RR vI Γ (itr (g_X12_holdOf_76 K7 K16) n (v1, v2, v3, v4, v5, v7, σ)) → WW Γ cX12_holdOf 8 RX12 (some .int) rX12_holdOf σ 76 [(0, .ref (xd Γ 58)), (1, .int v1), (2, .int v2), (3, .int v3), (4, .int v4), (5, .int v5), (7, .int v7)] [] := by
  intro n
  induction n with
  | zero => intro v1 v2 v3 v4 v5 v7 σ h; exact RR.no h
  | succ n hK76 =>
  intro v1 v2 v3 v4 v5 v7 σ h
  have h : RR vI Γ (g_X12_holdOf_76 K7 K16 (itr (g_X12_holdOf_76 K7 K16) n) (v1, v2, v3, v4, v5, v7, σ)) := h
  generalize itr (g_X12_holdOf_76 K7 K16) n = K76 at h hK76
  unfold g_X12_holdOf_76 at h
  dsimp only at h
  refine w_iload 6 dX12_holdOf_76 rfl rfl ?_
  refine w_iconst (3 : Int32) dX12_holdOf_78 ic_iconst_3 rfl ?_
  refine w_icmp_ge (tgt := 102) dX12_holdOf_79 (by decide) rfl (fun q => ?_) (fun q => ?_)
  · have h := h.tt q
    exact w_sub [0, 1, 2, 3, 4, 5] rfl (b_X12_holdOf_102 K7 K16 hK7 hK16 v1 v2 v3 v4 v5 σ h)
  · have h := h.ff q
    refine w_aload_n 0 dX12_holdOf_82 rfl rfl rfl ?_
    refine gf_RX12_46 dX12_holdOf_83 rfl ?_
    refine w_iload 6 dX12_holdOf_86 rfl rfl ?_
    refine w_aload_n 0 dX12_holdOf_88 rfl rfl rfl ?_
    refine gf_RX12_43 dX12_holdOf_89 rfl ?_
    refine w_iload 6 dX12_holdOf_92 rfl rfl ?_
    obtain ⟨hi1, h⟩ := h.gd
    refine w_iald (i := 68) (lt_lit (by decide)) rfl hi1 dX12_holdOf_94 rfl ?_
    obtain ⟨hi2, h⟩ := h.gd
    refine w_iast (i := 69) (lt_lit (by decide)) rfl hi2 dX12_holdOf_95 rfl ?_
    obtain ⟨s3, es3⟩ : ∃ y : St, y = (sr σ 69 v7.toNatClampNeg (gr σ 68 v7.toNatClampNeg)) := ⟨_, rfl⟩
    rw [← es3]
    replace h := h.bnd es3
    clear es3
    obtain ⟨x4, ex4⟩ : ∃ y : Int32, y = (v7 + (1 : Int32)) := ⟨_, rfl⟩
    replace h := h.bnd ex4
    refine w_iinc 6 x4 [(7, .int x4), (0, .ref (xd Γ 58)), (1, .int v1), (2, .int v2), (3, .int v3), (4, .int v4), (5, .int v5)] dX12_holdOf_96 rfl (by rw [ex4, ic_iconst_1]) (by decide) rfl rfl ?_
    clear ex4
    refine w_goto (tgt := 76) dX12_holdOf_99 (by decide) ?_
    exact w_sub [1, 2, 3, 4, 5, 6, 0] rfl (hK76 v1 v2 v3 v4 v5 x4 s3 h)
def g_X12_holdOf_16 (K7 : Int32 × Int32 × Int32 × Int32 × St → Option (Int32 × St)) (K16 : Int32 × Int32 × Int32 × Int32 × Int32 × St → Option (Int32 × St)) (x : Int32 × Int32 × Int32 × Int32 × Int32 × St) : Option (Int32 × St) := match x with
  | (v1, v2, v3, v4, v5, σ) =>
  if v1 < (v4 + v5) then
    bnd (v4 + (1 : Int32)) fun x1 =>
    K7 (v1, v2, v3, x1, σ)
  else
    gd (inb (0 : Int32) (ln 68)) <|
    bnd (sr σ 68 (0 : Int32).toNatClampNeg v4) fun s3 =>
    gd (inb (1 : Int32) (ln 68)) <|
    bnd (sr s3 68 (1 : Int32).toNatClampNeg v5) fun s5 =>
    gd (inb (2 : Int32) (ln 68)) <|
    bnd (sr s5 68 (2 : Int32).toNatClampNeg ((v1 - v4) - v5)) fun s7 =>
    bd (f_X12_heldBy v2 s7) fun r8 s9 =>
    if v3 < r8 then
      itr (g_X12_holdOf_76 K7 K16) FU (v1, v2, r8, v4, v5, (0 : Int32), s9)
    else
      f_X12_holdOf_102 K7 K16 v1 v2 v3 v4 v5 s9
theorem l_X12_holdOf_16 {Γ : CX} (K7 : Int32 × Int32 × Int32 × Int32 × St → Option (Int32 × St)) (hK7 : ∀ (v1 : Int32) (v2 : Int32) (v3 : Int32) (v4 : Int32) (σ : St), RR vI Γ (K7 (v1, v2, v3, v4, σ)) → WW Γ cX12_holdOf 8 RX12 (some .int) rX12_holdOf σ 7 [(0, .ref (xd Γ 58)), (1, .int v1), (2, .int v2), (3, .int v3), (4, .int v4)] []) : ∀ (n : Nat) (v1 : Int32) (v2 : Int32) (v3 : Int32) (v4 : Int32) (v5 : Int32) (σ : St), RR vI Γ (itr (g_X12_holdOf_16 K7) n (v1, v2, v3, v4, v5, σ)) → WW Γ cX12_holdOf 8 RX12 (some .int) rX12_holdOf σ 16 [(0, .ref (xd Γ 58)), (1, .int v1), (2, .int v2), (3, .int v3), (4, .int v4), (5, .int v5)] [] := by
  intro n
  induction n with
  | zero => intro v1 v2 v3 v4 v5 σ h; exact RR.no h
  | succ n hK16 =>
  intro v1 v2 v3 v4 v5 σ h
  have h : RR vI Γ (g_X12_holdOf_16 K7 (itr (g_X12_holdOf_16 K7) n) (v1, v2, v3, v4, v5, σ)) := h
  generalize itr (g_X12_holdOf_16 K7) n = K16 at h hK16
  unfold g_X12_holdOf_16 at h
  dsimp only at h
  refine w_iload 4 dX12_holdOf_16 rfl rfl ?_
  refine w_iload 5 dX12_holdOf_18 rfl rfl ?_
  refine w_iadd dX12_holdOf_20 rfl ?_
  refine w_iload_n 1 dX12_holdOf_21 rfl rfl rfl ?_
  refine w_icmp_gt (tgt := 108) dX12_holdOf_22 (by decide) rfl (fun q => ?_) (fun q => ?_)
  · have h := h.tt q
    obtain ⟨x1, ex1⟩ : ∃ y : Int32, y = (v4 + (1 : Int32)) := ⟨_, rfl⟩
    replace h := h.bnd ex1
    refine w_iinc 4 x1 [(4, .int x1), (0, .ref (xd Γ 58)), (1, .int v1), (2, .int v2), (3, .int v3), (5, .int v5)] dX12_holdOf_108 rfl (by rw [ex1, ic_iconst_1]) (by decide) rfl rfl ?_
    clear ex1
    refine w_goto (tgt := 7) dX12_holdOf_111 (by decide) ?_
    exact w_sub [1, 2, 3, 4, 0] rfl (hK7 v1 v2 v3 x1 σ h)
  · have h := h.ff q
    refine w_aload_n 0 dX12_holdOf_25 rfl rfl rfl ?_
    refine gf_RX12_43 dX12_holdOf_26 rfl ?_
    refine w_iconst (0 : Int32) dX12_holdOf_29 ic_iconst_0 rfl ?_
    refine w_iload 4 dX12_holdOf_30 rfl rfl ?_
    obtain ⟨hi2, h⟩ := h.gd
    refine w_iast (i := 68) (lt_lit (by decide)) rfl hi2 dX12_holdOf_32 rfl ?_
    obtain ⟨s3, es3⟩ : ∃ y : St, y = (sr σ 68 (0 : Int32).toNatClampNeg v4) := ⟨_, rfl⟩
    rw [← es3]
    replace h := h.bnd es3
    clear es3
    refine w_aload_n 0 dX12_holdOf_33 rfl rfl rfl ?_
    refine gf_RX12_43 dX12_holdOf_34 rfl ?_
    refine w_iconst (1 : Int32) dX12_holdOf_37 ic_iconst_1 rfl ?_
    refine w_iload 5 dX12_holdOf_38 rfl rfl ?_
    obtain ⟨hi4, h⟩ := h.gd
    refine w_iast (i := 68) (lt_lit (by decide)) rfl hi4 dX12_holdOf_40 rfl ?_
    obtain ⟨s5, es5⟩ : ∃ y : St, y = (sr s3 68 (1 : Int32).toNatClampNeg v5) := ⟨_, rfl⟩
    rw [← es5]
    replace h := h.bnd es5
    clear es5
    refine w_aload_n 0 dX12_holdOf_41 rfl rfl rfl ?_
    refine gf_RX12_43 dX12_holdOf_42 rfl ?_
    refine w_iconst (2 : Int32) dX12_holdOf_45 ic_iconst_2 rfl ?_
    refine w_iload_n 1 dX12_holdOf_46 rfl rfl rfl ?_
    refine w_iload 4 dX12_holdOf_47 rfl rfl ?_
    refine w_isub dX12_holdOf_49 rfl ?_
    refine w_iload 5 dX12_holdOf_50 rfl rfl ?_
    refine w_isub dX12_holdOf_52 rfl ?_
    obtain ⟨hi6, h⟩ := h.gd
    refine w_iast (i := 68) (lt_lit (by decide)) rfl hi6 dX12_holdOf_53 rfl ?_
    obtain ⟨s7, es7⟩ : ∃ y : St, y = (sr s5 68 (2 : Int32).toNatClampNeg ((v1 - v4) - v5)) := ⟨_, rfl⟩
    rw [← es7]
    replace h := h.bnd es7
    clear es7
    refine w_aload_n 0 dX12_holdOf_54 rfl rfl rfl ?_
    refine w_iload_n 2 dX12_holdOf_55 rfl rfl rfl ?_
    obtain ⟨r8, s9, h10, h⟩ := h.bd
    refine k_X12_heldBy ml_RX12_382 (Nat.le_of_ble_eq_true rfl) ⟨Nat.le_of_ble_eq_true rfl, Nat.le_of_ble_eq_true rfl⟩ dX12_holdOf_56 rfl h10 ?_
    refine w_istore [(6, .int r8), (0, .ref (xd Γ 58)), (1, .int v1), (2, .int v2), (3, .int v3), (4, .int v4), (5, .int v5)] dX12_holdOf_59 (by decide) rfl rfl ?_
    refine w_iload 0 dX12_holdOf_61 rfl rfl ?_
    refine w_iload_n 4 dX12_holdOf_63 rfl rfl rfl ?_
    refine w_icmp_gt (tgt := 70) dX12_holdOf_64 (by decide) rfl (fun q => ?_) (fun q => ?_)
    · have h := h.tt q
      refine w_iload 0 dX12_holdOf_70 rfl rfl ?_
      refine w_istore_n [(3, .int r8), (6, .int r8), (0, .ref (xd Γ 58)), (1, .int v1), (2, .int v2), (4, .int v4), (5, .int v5)] dX12_holdOf_72 rfl (by decide) rfl rfl ?_
      refine w_iconst (0 : Int32) dX12_holdOf_73 ic_iconst_0 rfl ?_
      refine w_istore [(7, .int (0 : Int32)), (3, .int r8), (6, .int r8), (0, .ref (xd Γ 58)), (1, .int v1), (2, .int v2), (4, .int v4), (5, .int v5)] dX12_holdOf_74 (by decide) rfl rfl ?_
      exact w_sub [3, 4, 5, 1, 6, 7, 0] rfl (l_X12_holdOf_76 K7 K16 hK7 hK16 FU v1 v2 r8 v4 v5 (0 : Int32) s9 h)
    · have h := h.ff q
      refine w_goto (tgt := 102) dX12_holdOf_67 (by decide) ?_
      exact w_sub [1, 2, 3, 4, 5, 6] rfl (b_X12_holdOf_102 K7 K16 hK7 hK16 v1 v2 v3 v4 v5 s9 h)
def g_X12_holdOf_117 (K117 : Int32 × Int32 × Int32 × St → Option (Int32 × St)) (x : Int32 × Int32 × Int32 × St) : Option (Int32 × St) := match x with
  | (v2, v3, v4, σ) =>
  if (3 : Int32) ≤ v4 then
    bd (f_X12_heldBy v2 σ) fun r1 s2 =>
    some (v3, s2)
  else
    gd (inb v4 (ln 69)) <|
    gd (inb v4 (ln 68)) <|
    bnd (sr σ 68 v4.toNatClampNeg (gr σ 69 v4.toNatClampNeg)) fun s6 =>
    bnd (v4 + (1 : Int32)) fun x7 =>
    K117 (v2, v3, x7, s6)
theorem l_X12_holdOf_117 {Γ : CX} : ∀ (n : Nat) (v2 : Int32) (v3 : Int32) (v4 : Int32) (σ : St), RR vI Γ (itr (g_X12_holdOf_117) n (v2, v3, v4, σ)) → WW Γ cX12_holdOf 8 RX12 (some .int) rX12_holdOf σ 117 [(0, .ref (xd Γ 58)), (2, .int v2), (3, .int v3), (4, .int v4)] [] := by
  intro n
  induction n with
  | zero => intro v2 v3 v4 σ h; exact RR.no h
  | succ n hK117 =>
  intro v2 v3 v4 σ h
  have h : RR vI Γ (g_X12_holdOf_117 (itr (g_X12_holdOf_117) n) (v2, v3, v4, σ)) := h
  generalize itr (g_X12_holdOf_117) n = K117 at h hK117
  unfold g_X12_holdOf_117 at h
  dsimp only at h
  refine w_iload 3 dX12_holdOf_117 rfl rfl ?_
  refine w_iconst (3 : Int32) dX12_holdOf_119 ic_iconst_3 rfl ?_
  refine w_icmp_ge (tgt := 143) dX12_holdOf_120 (by decide) rfl (fun q => ?_) (fun q => ?_)
  · have h := h.tt q
    refine w_aload_n 0 dX12_holdOf_143 rfl rfl rfl ?_
    refine w_iload_n 1 dX12_holdOf_144 rfl rfl rfl ?_
    obtain ⟨r1, s2, h3, h⟩ := h.bd
    refine k_X12_heldBy ml_RX12_382 (Nat.le_of_ble_eq_true rfl) ⟨Nat.le_of_ble_eq_true rfl, Nat.le_of_ble_eq_true rfl⟩ dX12_holdOf_145 rfl h3 ?_
    refine w_pop dX12_holdOf_148 rfl rfl ?_
    refine w_iload_n 2 dX12_holdOf_149 rfl rfl rfl ?_
    exact w_ireturn dX12_holdOf_150 h
  · have h := h.ff q
    refine w_aload_n 0 dX12_holdOf_123 rfl rfl rfl ?_
    refine gf_RX12_43 dX12_holdOf_124 rfl ?_
    refine w_iload 3 dX12_holdOf_127 rfl rfl ?_
    refine w_aload_n 0 dX12_holdOf_129 rfl rfl rfl ?_
    refine gf_RX12_46 dX12_holdOf_130 rfl ?_
    refine w_iload 3 dX12_holdOf_133 rfl rfl ?_
    obtain ⟨hi4, h⟩ := h.gd
    refine w_iald (i := 69) (lt_lit (by decide)) rfl hi4 dX12_holdOf_135 rfl ?_
    obtain ⟨hi5, h⟩ := h.gd
    refine w_iast (i := 68) (lt_lit (by decide)) rfl hi5 dX12_holdOf_136 rfl ?_
    obtain ⟨s6, es6⟩ : ∃ y : St, y = (sr σ 68 v4.toNatClampNeg (gr σ 69 v4.toNatClampNeg)) := ⟨_, rfl⟩
    rw [← es6]
    replace h := h.bnd es6
    clear es6
    obtain ⟨x7, ex7⟩ : ∃ y : Int32, y = (v4 + (1 : Int32)) := ⟨_, rfl⟩
    replace h := h.bnd ex7
    refine w_iinc 3 x7 [(4, .int x7), (0, .ref (xd Γ 58)), (2, .int v2), (3, .int v3)] dX12_holdOf_137 rfl (by rw [ex7, ic_iconst_1]) (by decide) rfl rfl ?_
    clear ex7
    refine w_goto (tgt := 117) dX12_holdOf_140 (by decide) ?_
    exact w_sub [1, 2, 3, 0] rfl (hK117 v2 v3 x7 s6 h)
def g_X12_holdOf_7 (K7 : Int32 × Int32 × Int32 × Int32 × St → Option (Int32 × St)) (x : Int32 × Int32 × Int32 × Int32 × St) : Option (Int32 × St) := match x with
  | (v1, v2, v3, v4, σ) =>
  if v1 < v4 then
    itr (g_X12_holdOf_117) FU (v2, v3, (0 : Int32), σ)
  else
    itr (g_X12_holdOf_16 K7) FU (v1, v2, v3, v4, (0 : Int32), σ)
theorem l_X12_holdOf_7 {Γ : CX} : ∀ (n : Nat) (v1 : Int32) (v2 : Int32) (v3 : Int32) (v4 : Int32) (σ : St), RR vI Γ (itr (g_X12_holdOf_7) n (v1, v2, v3, v4, σ)) → WW Γ cX12_holdOf 8 RX12 (some .int) rX12_holdOf σ 7 [(0, .ref (xd Γ 58)), (1, .int v1), (2, .int v2), (3, .int v3), (4, .int v4)] [] := by
  intro n
  induction n with
  | zero => intro v1 v2 v3 v4 σ h; exact RR.no h
  | succ n hK7 =>
  intro v1 v2 v3 v4 σ h
  have h : RR vI Γ (g_X12_holdOf_7 (itr (g_X12_holdOf_7) n) (v1, v2, v3, v4, σ)) := h
  generalize itr (g_X12_holdOf_7) n = K7 at h hK7
  unfold g_X12_holdOf_7 at h
  dsimp only at h
  refine w_iload 4 dX12_holdOf_7 rfl rfl ?_
  refine w_iload_n 1 dX12_holdOf_9 rfl rfl rfl ?_
  refine w_icmp_gt (tgt := 114) dX12_holdOf_10 (by decide) rfl (fun q => ?_) (fun q => ?_)
  · have h := h.tt q
    refine w_iconst (0 : Int32) dX12_holdOf_114 ic_iconst_0 rfl ?_
    refine w_istore [(4, .int (0 : Int32)), (0, .ref (xd Γ 58)), (1, .int v1), (2, .int v2), (3, .int v3)] dX12_holdOf_115 (by decide) rfl rfl ?_
    exact w_sub [1, 3, 4, 0] rfl (l_X12_holdOf_117 FU v2 v3 (0 : Int32) σ h)
  · have h := h.ff q
    refine w_iconst (0 : Int32) dX12_holdOf_13 ic_iconst_0 rfl ?_
    refine w_istore [(5, .int (0 : Int32)), (0, .ref (xd Γ 58)), (1, .int v1), (2, .int v2), (3, .int v3), (4, .int v4)] dX12_holdOf_14 (by decide) rfl rfl ?_
    exact w_sub [1, 2, 3, 4, 5, 0] rfl (l_X12_holdOf_16 K7 hK7 FU v1 v2 v3 v4 (0 : Int32) σ h)
def f_X12_holdOf (p0 : Int32) (p1 : Int32) (σ : St) : Option (Int32 × St) :=
  itr (g_X12_holdOf_7) FU (p0, p1, (-1000000 : Int32), (0 : Int32), σ)
theorem e_X12_holdOf {Γ : CX} (p0 : Int32) (p1 : Int32) (σ : St) (h : RR vI Γ (f_X12_holdOf p0 p1 σ)) : WW Γ cX12_holdOf 8 RX12 (some .int) rX12_holdOf σ 0 [(0, .ref (xd Γ 58)), (1, .int p0), (2, .int p1)] [] := by
  unfold f_X12_holdOf at h
  refine w_ldc_w (-1000000 : Int32) dX12_holdOf_0 cn_RX12_372 rfl ?_
  refine w_istore_n [(3, .int (-1000000 : Int32)), (0, .ref (xd Γ 58)), (1, .int p0), (2, .int p1)] dX12_holdOf_3 rfl (by decide) rfl rfl ?_
  refine w_iconst (0 : Int32) dX12_holdOf_4 ic_iconst_0 rfl ?_
  refine w_istore [(4, .int (0 : Int32)), (3, .int (-1000000 : Int32)), (0, .ref (xd Γ 58)), (1, .int p0), (2, .int p1)] dX12_holdOf_5 (by decide) rfl rfl ?_
  exact w_sub [2, 3, 4, 1, 0] rfl (l_X12_holdOf_7 FU p0 p1 (-1000000 : Int32) (0 : Int32) σ h)
theorem c_X12_holdOf {l : Launch} {D : va_G} {cy : Nat → ClassId} {ad : Nat → Nat} {p0 : Int32} {p1 : Int32} {σ σ' : St} {r : Int32} (hf : f_X12_holdOf p0 p1 σ = some (r, σ')) : CT l D cy ad yX12_holdOf cX12_holdOf 8 (some .int) rX12_holdOf [.ref (ad 58), .int p0, .int p1] σ (some (.int r)) σ' :=
  ct_of (by decide) (Nat.le_of_ble_eq_true rfl) (fun p e s m args below meth c A => e_X12_holdOf (Γ := (p, l, e, rX12_holdOf, s, m, args, below, meth, c, D, cy, ad, A, 0, 0, MQ below (QC D cy ad (some (.int r)) σ' A) args s 0 0 A)) p0 p1 σ ⟨_, hf, rfl⟩)
theorem k_X12_holdOf {Γ : CX} {cc : ByteArray} {nL : Nat} {own : String} {ret : Option FieldType} {rm : Room} {σ σ' : St} {pc pc' idx : Nat} {lv : List (Nat × Value)} {rest : List Value} {p0 : Int32} {p1 : Int32} {r : Int32} (hl : Cond.methodLink own idx yX12_holdOf ∈ TB) (hw : (rest.map fun v => v.category).sum ≤ 8) (hR : rX12_holdOf.frames + 1 ≤ rm.frames ∧ 8 + (8 + 11) + rX12_holdOf.locals ≤ rm.locals) (hd : decode cc pc = .ok (.invokevirtual idx, 3)) (hp : pc + 3 = pc') (hf : f_X12_holdOf p0 p1 σ = some (r, σ')) (h : WW Γ cc nL own ret rm σ' pc' lv (.int r :: rest)) : WW Γ cc nL own ret rm σ pc lv (.int p1 :: .int p0 :: .ref (xd Γ 58) :: rest) :=
  w_callV (nn := 2) (i := 58) (As := [.int p0, .int p1]) (v := (some (.int r))) (T := TX12) (N := 32) (c_X12_holdOf hf) hl mw_X12_holdOf (by decide +kernel) ⟨rfl, rfl⟩ hR (lt_lit (by decide)) cel_58 rfl rfl hw hd rfl hp h
/-! WarByHoursModel.areMen (II)Z -/
def rX12_areMen : Room := { frames := 1, cells := 0, slots := 0, locals := 25 }
def f_X12_areMen_29 (k0 : Int32) (σ : St) : Option (Int32 × St) :=
  gd (bz k0) <| some (k0, σ)
theorem b_X12_areMen_29 {Γ : CX} (k0 : Int32) (σ : St) (h : RR vI Γ (f_X12_areMen_29 k0 σ)) : WW Γ cX12_areMen 2 RX12 (some .boolean) rX12_areMen σ 29 [] [.int k0] := by
  unfold f_X12_areMen_29 at h
  obtain ⟨hb, h⟩ := h.gd
  exact w_zreturn dX12_areMen_29 hb h
def f_X12_areMen_28 (σ : St) : Option (Int32 × St) :=
  f_X12_areMen_29 (0 : Int32) σ
theorem b_X12_areMen_28 {Γ : CX} (σ : St) (h : RR vI Γ (f_X12_areMen_28 σ)) : WW Γ cX12_areMen 2 RX12 (some .boolean) rX12_areMen σ 28 [] [] := by
  unfold f_X12_areMen_28 at h
  refine w_iconst (0 : Int32) dX12_areMen_28 ic_iconst_0 rfl ?_
  exact w_sub [] rfl (b_X12_areMen_29 (0 : Int32) σ h)
def f_X12_areMen (p0 : Int32) (p1 : Int32) (σ : St) : Option (Int32 × St) :=
  bd (f_X12_in p0.toInt64 (0 : Int64) (9 : Int64) σ) fun r1 s2 =>
  if r1 = 0 then
    f_X12_areMen_28 s2
  else
    bd (f_X12_in p1.toInt64 (0 : Int64) (9 : Int64) s2) fun r4 s5 =>
    if r4 = 0 then
      f_X12_areMen_28 s5
    else
      f_X12_areMen_29 (1 : Int32) s5
theorem e_X12_areMen {Γ : CX} (p0 : Int32) (p1 : Int32) (σ : St) (h : RR vI Γ (f_X12_areMen p0 p1 σ)) : WW Γ cX12_areMen 2 RX12 (some .boolean) rX12_areMen σ 0 [(0, .int p0), (1, .int p1)] [] := by
  unfold f_X12_areMen at h
  refine w_iload_n 0 dX12_areMen_0 rfl rfl rfl ?_
  refine w_i2l dX12_areMen_1 rfl ?_
  refine w_lconst (0 : Int64) dX12_areMen_2 rfl rfl ?_
  refine w_ldc2_w (9 : Int64) dX12_areMen_3 cl_RX12_385 rfl ?_
  obtain ⟨r1, s2, h3, h⟩ := h.bd
  refine k_X12_in ml_RX12_70 (Nat.le_of_ble_eq_true rfl) ⟨Nat.le_of_ble_eq_true rfl, Nat.le_of_ble_eq_true rfl⟩ dX12_areMen_6 rfl h3 ?_
  refine w_if_eq (tgt := 28) dX12_areMen_9 (by decide) rfl (fun q => ?_) (fun q => ?_)
  · have h := h.tt q
    exact w_sub [] rfl (b_X12_areMen_28 s2 h)
  · have h := h.ff q
    refine w_iload_n 1 dX12_areMen_12 rfl rfl rfl ?_
    refine w_i2l dX12_areMen_13 rfl ?_
    refine w_lconst (0 : Int64) dX12_areMen_14 rfl rfl ?_
    refine w_ldc2_w (9 : Int64) dX12_areMen_15 cl_RX12_385 rfl ?_
    obtain ⟨r4, s5, h6, h⟩ := h.bd
    refine k_X12_in ml_RX12_70 (Nat.le_of_ble_eq_true rfl) ⟨Nat.le_of_ble_eq_true rfl, Nat.le_of_ble_eq_true rfl⟩ dX12_areMen_18 rfl h6 ?_
    refine w_if_eq (tgt := 28) dX12_areMen_21 (by decide) rfl (fun q => ?_) (fun q => ?_)
    · have h := h.tt q
      exact w_sub [] rfl (b_X12_areMen_28 s5 h)
    · have h := h.ff q
      refine w_iconst (1 : Int32) dX12_areMen_24 ic_iconst_1 rfl ?_
      refine w_goto (tgt := 29) dX12_areMen_25 (by decide) ?_
      exact w_sub [] rfl (b_X12_areMen_29 (1 : Int32) s5 h)
theorem c_X12_areMen {l : Launch} {D : va_G} {cy : Nat → ClassId} {ad : Nat → Nat} {p0 : Int32} {p1 : Int32} {σ σ' : St} {r : Int32} (hf : f_X12_areMen p0 p1 σ = some (r, σ')) : CT l D cy ad yX12_areMen cX12_areMen 2 (some .boolean) rX12_areMen [.int p0, .int p1] σ (some (.int r)) σ' :=
  ct_of (by decide) (Nat.le_of_ble_eq_true rfl) (fun p e s m args below meth c A => e_X12_areMen (Γ := (p, l, e, rX12_areMen, s, m, args, below, meth, c, D, cy, ad, A, 0, 0, MQ below (QC D cy ad (some (.int r)) σ' A) args s 0 0 A)) p0 p1 σ ⟨_, hf, rfl⟩)
theorem k_X12_areMen {Γ : CX} {cc : ByteArray} {nL : Nat} {own : String} {ret : Option FieldType} {rm : Room} {σ σ' : St} {pc pc' idx : Nat} {lv : List (Nat × Value)} {rest : List Value} {p0 : Int32} {p1 : Int32} {r : Int32} (hl : Cond.methodLink own idx yX12_areMen ∈ TB) (hw : (rest.map fun v => v.category).sum ≤ 8) (hR : rX12_areMen.frames + 1 ≤ rm.frames ∧ 8 + (2 + 11) + rX12_areMen.locals ≤ rm.locals) (hd : decode cc pc = .ok (.invokestatic idx, 3)) (hp : pc + 3 = pc') (hf : f_X12_areMen p0 p1 σ = some (r, σ')) (h : WW Γ cc nL own ret rm σ' pc' lv (.int r :: rest)) : WW Γ cc nL own ret rm σ pc lv (.int p1 :: .int p0 :: rest) :=
  w_callS (nn := 2) (As := [.int p0, .int p1]) (v := (some (.int r))) (c_X12_areMen hf) hl mw_X12_areMen (by decide +kernel) ⟨rfl, rfl⟩ hR rfl hw hd rfl hp h
/-! WarByHoursModel.hold (II)I -/
def rX12_hold : Room := { frames := 3, cells := 0, slots := 0, locals := 72 }
def f_X12_hold_20 (k0 : Int32) (σ : St) : Option (Int32 × St) :=
  some (k0, σ)
theorem b_X12_hold_20 {Γ : CX} (k0 : Int32) (σ : St) (h : RR vI Γ (f_X12_hold_20 k0 σ)) : WW Γ cX12_hold 3 RX12 (some .int) rX12_hold σ 20 [] [.int k0] := by
  unfold f_X12_hold_20 at h
  exact w_ireturn dX12_hold_20 h
def f_X12_hold (p0 : Int32) (p1 : Int32) (σ : St) : Option (Int32 × St) :=
  bd (f_X12_areMen p0 p1 σ) fun r1 s2 =>
  if r1 = 0 then
    f_X12_hold_20 (-1000 : Int32) s2
  else
    bd (f_X12_holdOf p0 p1 s2) fun r4 s5 =>
    f_X12_hold_20 r4 s5
theorem e_X12_hold {Γ : CX} (p0 : Int32) (p1 : Int32) (σ : St) (h : RR vI Γ (f_X12_hold p0 p1 σ)) : WW Γ cX12_hold 3 RX12 (some .int) rX12_hold σ 0 [(0, .ref (xd Γ 58)), (1, .int p0), (2, .int p1)] [] := by
  unfold f_X12_hold at h
  refine w_iload_n 1 dX12_hold_0 rfl rfl rfl ?_
  refine w_iload_n 2 dX12_hold_1 rfl rfl rfl ?_
  obtain ⟨r1, s2, h3, h⟩ := h.bd
  refine k_X12_areMen ml_RX12_387 (Nat.le_of_ble_eq_true rfl) ⟨Nat.le_of_ble_eq_true rfl, Nat.le_of_ble_eq_true rfl⟩ dX12_hold_2 rfl h3 ?_
  refine w_if_eq (tgt := 17) dX12_hold_5 (by decide) rfl (fun q => ?_) (fun q => ?_)
  · have h := h.tt q
    refine w_sipush (-1000 : Int32) dX12_hold_17 ic_sipush_m1000 rfl ?_
    exact w_sub [] rfl (b_X12_hold_20 (-1000 : Int32) s2 h)
  · have h := h.ff q
    refine w_aload_n 0 dX12_hold_8 rfl rfl rfl ?_
    refine w_iload_n 1 dX12_hold_9 rfl rfl rfl ?_
    refine w_iload_n 2 dX12_hold_10 rfl rfl rfl ?_
    obtain ⟨r4, s5, h6, h⟩ := h.bd
    refine k_X12_holdOf ml_RX12_390 (Nat.le_of_ble_eq_true rfl) ⟨Nat.le_of_ble_eq_true rfl, Nat.le_of_ble_eq_true rfl⟩ dX12_hold_11 rfl h6 ?_
    refine w_goto (tgt := 20) dX12_hold_14 (by decide) ?_
    exact w_sub [] rfl (b_X12_hold_20 r4 s5 h)
theorem c_X12_hold {l : Launch} {D : va_G} {cy : Nat → ClassId} {ad : Nat → Nat} {p0 : Int32} {p1 : Int32} {σ σ' : St} {r : Int32} (hf : f_X12_hold p0 p1 σ = some (r, σ')) : CT l D cy ad yX12_hold cX12_hold 3 (some .int) rX12_hold [.ref (ad 58), .int p0, .int p1] σ (some (.int r)) σ' :=
  ct_of (by decide) (Nat.le_of_ble_eq_true rfl) (fun p e s m args below meth c A => e_X12_hold (Γ := (p, l, e, rX12_hold, s, m, args, below, meth, c, D, cy, ad, A, 0, 0, MQ below (QC D cy ad (some (.int r)) σ' A) args s 0 0 A)) p0 p1 σ ⟨_, hf, rfl⟩)
theorem k_X12_hold {Γ : CX} {cc : ByteArray} {nL : Nat} {own : String} {ret : Option FieldType} {rm : Room} {σ σ' : St} {pc pc' idx : Nat} {lv : List (Nat × Value)} {rest : List Value} {p0 : Int32} {p1 : Int32} {r : Int32} (hl : Cond.methodLink own idx yX12_hold ∈ TB) (hw : (rest.map fun v => v.category).sum ≤ 8) (hR : rX12_hold.frames + 1 ≤ rm.frames ∧ 8 + (3 + 11) + rX12_hold.locals ≤ rm.locals) (hd : decode cc pc = .ok (.invokevirtual idx, 3)) (hp : pc + 3 = pc') (hf : f_X12_hold p0 p1 σ = some (r, σ')) (h : WW Γ cc nL own ret rm σ' pc' lv (.int r :: rest)) : WW Γ cc nL own ret rm σ pc lv (.int p1 :: .int p0 :: .ref (xd Γ 58) :: rest) :=
  w_callV (nn := 2) (i := 58) (As := [.int p0, .int p1]) (v := (some (.int r))) (T := TX12) (N := 32) (c_X12_hold hf) hl mw_X12_hold (by decide +kernel) ⟨rfl, rfl⟩ hR (lt_lit (by decide)) cel_58 rfl rfl hw hd rfl hp h
/-! WarByHoursModel.holds (III)I -/
def rX12_holds : Room := { frames := 3, cells := 0, slots := 0, locals := 72 }
def f_X12_holds_20 (σ : St) : Option (Int32 × St) :=
  some ((-2 : Int32), σ)
theorem b_X12_holds_20 {Γ : CX} (σ : St) (h : RR vI Γ (f_X12_holds_20 σ)) : WW Γ cX12_holds 4 RX12 (some .int) rX12_holds σ 20 [] [] := by
  unfold f_X12_holds_20 at h
  refine w_bipush (-2 : Int32) dX12_holds_20 ic_bipush_m2 rfl ?_
  exact w_ireturn dX12_holds_22 h
def f_X12_holds (p0 : Int32) (p1 : Int32) (p2 : Int32) (σ : St) : Option (Int32 × St) :=
  bd (f_X12_areMen p0 p1 σ) fun r1 s2 =>
  if r1 = 0 then
    f_X12_holds_20 s2
  else
    bd (f_X12_in p2.toInt64 (0 : Int64) (2 : Int64) s2) fun r4 s5 =>
    if r4 = 0 then
      f_X12_holds_20 s5
    else
      bd (f_X12_holdOf p0 p1 s5) fun r7 s8 =>
      gd (inb p2 (ln 69)) <|
      some ((gr s8 69 p2.toNatClampNeg), s8)
theorem e_X12_holds {Γ : CX} (p0 : Int32) (p1 : Int32) (p2 : Int32) (σ : St) (h : RR vI Γ (f_X12_holds p0 p1 p2 σ)) : WW Γ cX12_holds 4 RX12 (some .int) rX12_holds σ 0 [(0, .ref (xd Γ 58)), (1, .int p0), (2, .int p1), (3, .int p2)] [] := by
  unfold f_X12_holds at h
  refine w_iload_n 1 dX12_holds_0 rfl rfl rfl ?_
  refine w_iload_n 2 dX12_holds_1 rfl rfl rfl ?_
  obtain ⟨r1, s2, h3, h⟩ := h.bd
  refine k_X12_areMen ml_RX12_387 (Nat.le_of_ble_eq_true rfl) ⟨Nat.le_of_ble_eq_true rfl, Nat.le_of_ble_eq_true rfl⟩ dX12_holds_2 rfl h3 ?_
  refine w_if_eq (tgt := 20) dX12_holds_5 (by decide) rfl (fun q => ?_) (fun q => ?_)
  · have h := h.tt q
    exact w_sub [] rfl (b_X12_holds_20 s2 h)
  · have h := h.ff q
    refine w_iload_n 3 dX12_holds_8 rfl rfl rfl ?_
    refine w_i2l dX12_holds_9 rfl ?_
    refine w_lconst (0 : Int64) dX12_holds_10 rfl rfl ?_
    refine w_ldc2_w (2 : Int64) dX12_holds_11 cl_RX12_68 rfl ?_
    obtain ⟨r4, s5, h6, h⟩ := h.bd
    refine k_X12_in ml_RX12_70 (Nat.le_of_ble_eq_true rfl) ⟨Nat.le_of_ble_eq_true rfl, Nat.le_of_ble_eq_true rfl⟩ dX12_holds_14 rfl h6 ?_
    refine w_if_ne (tgt := 23) dX12_holds_17 (by decide) rfl (fun q => ?_) (fun q => ?_)
    · have h := h.ff q
      refine w_aload_n 0 dX12_holds_23 rfl rfl rfl ?_
      refine w_iload_n 1 dX12_holds_24 rfl rfl rfl ?_
      refine w_iload_n 2 dX12_holds_25 rfl rfl rfl ?_
      obtain ⟨r7, s8, h9, h⟩ := h.bd
      refine k_X12_holdOf ml_RX12_390 (Nat.le_of_ble_eq_true rfl) ⟨Nat.le_of_ble_eq_true rfl, Nat.le_of_ble_eq_true rfl⟩ dX12_holds_26 rfl h9 ?_
      refine w_pop dX12_holds_29 rfl rfl ?_
      refine w_aload_n 0 dX12_holds_30 rfl rfl rfl ?_
      refine gf_RX12_46 dX12_holds_31 rfl ?_
      refine w_iload_n 3 dX12_holds_34 rfl rfl rfl ?_
      obtain ⟨hi10, h⟩ := h.gd
      refine w_iald (i := 69) (lt_lit (by decide)) rfl hi10 dX12_holds_35 rfl ?_
      exact w_ireturn dX12_holds_36 h
    · have h := h.tt q
      exact w_sub [] rfl (b_X12_holds_20 s5 h)
theorem c_X12_holds {l : Launch} {D : va_G} {cy : Nat → ClassId} {ad : Nat → Nat} {p0 : Int32} {p1 : Int32} {p2 : Int32} {σ σ' : St} {r : Int32} (hf : f_X12_holds p0 p1 p2 σ = some (r, σ')) : CT l D cy ad yX12_holds cX12_holds 4 (some .int) rX12_holds [.ref (ad 58), .int p0, .int p1, .int p2] σ (some (.int r)) σ' :=
  ct_of (by decide) (Nat.le_of_ble_eq_true rfl) (fun p e s m args below meth c A => e_X12_holds (Γ := (p, l, e, rX12_holds, s, m, args, below, meth, c, D, cy, ad, A, 0, 0, MQ below (QC D cy ad (some (.int r)) σ' A) args s 0 0 A)) p0 p1 p2 σ ⟨_, hf, rfl⟩)
theorem k_X12_holds {Γ : CX} {cc : ByteArray} {nL : Nat} {own : String} {ret : Option FieldType} {rm : Room} {σ σ' : St} {pc pc' idx : Nat} {lv : List (Nat × Value)} {rest : List Value} {p0 : Int32} {p1 : Int32} {p2 : Int32} {r : Int32} (hl : Cond.methodLink own idx yX12_holds ∈ TB) (hw : (rest.map fun v => v.category).sum ≤ 8) (hR : rX12_holds.frames + 1 ≤ rm.frames ∧ 8 + (4 + 11) + rX12_holds.locals ≤ rm.locals) (hd : decode cc pc = .ok (.invokevirtual idx, 3)) (hp : pc + 3 = pc') (hf : f_X12_holds p0 p1 p2 σ = some (r, σ')) (h : WW Γ cc nL own ret rm σ' pc' lv (.int r :: rest)) : WW Γ cc nL own ret rm σ pc lv (.int p2 :: .int p1 :: .int p0 :: .ref (xd Γ 58) :: rest) :=
  w_callV (nn := 3) (i := 58) (As := [.int p0, .int p1, .int p2]) (v := (some (.int r))) (T := TX12) (N := 32) (c_X12_holds hf) hl mw_X12_holds (by decide +kernel) ⟨rfl, rfl⟩ hR (lt_lit (by decide)) cel_58 rfl rfl hw hd rfl hp h
/-! WarByHoursModel.reply (III)I -/
def rX12_reply : Room := { frames := 3, cells := 0, slots := 0, locals := 72 }
def f_X12_reply_20 (σ : St) : Option (Int32 × St) :=
  some ((-2 : Int32), σ)
theorem b_X12_reply_20 {Γ : CX} (σ : St) (h : RR vI Γ (f_X12_reply_20 σ)) : WW Γ cX12_reply 4 RX12 (some .int) rX12_reply σ 20 [] [] := by
  unfold f_X12_reply_20 at h
  refine w_bipush (-2 : Int32) dX12_reply_20 ic_bipush_m2 rfl ?_
  exact w_ireturn dX12_reply_22 h
def f_X12_reply (p0 : Int32) (p1 : Int32) (p2 : Int32) (σ : St) : Option (Int32 × St) :=
  bd (f_X12_areMen p0 p1 σ) fun r1 s2 =>
  if r1 = 0 then
    f_X12_reply_20 s2
  else
    bd (f_X12_in p2.toInt64 (0 : Int64) (2 : Int64) s2) fun r4 s5 =>
    if r4 = 0 then
      f_X12_reply_20 s5
    else
      bd (f_X12_holdOf p0 p1 s5) fun r7 s8 =>
      gd (inb p2 (ln 70)) <|
      some ((gr s8 70 p2.toNatClampNeg), s8)
theorem e_X12_reply {Γ : CX} (p0 : Int32) (p1 : Int32) (p2 : Int32) (σ : St) (h : RR vI Γ (f_X12_reply p0 p1 p2 σ)) : WW Γ cX12_reply 4 RX12 (some .int) rX12_reply σ 0 [(0, .ref (xd Γ 58)), (1, .int p0), (2, .int p1), (3, .int p2)] [] := by
  unfold f_X12_reply at h
  refine w_iload_n 1 dX12_reply_0 rfl rfl rfl ?_
  refine w_iload_n 2 dX12_reply_1 rfl rfl rfl ?_
  obtain ⟨r1, s2, h3, h⟩ := h.bd
  refine k_X12_areMen ml_RX12_387 (Nat.le_of_ble_eq_true rfl) ⟨Nat.le_of_ble_eq_true rfl, Nat.le_of_ble_eq_true rfl⟩ dX12_reply_2 rfl h3 ?_
  refine w_if_eq (tgt := 20) dX12_reply_5 (by decide) rfl (fun q => ?_) (fun q => ?_)
  · have h := h.tt q
    exact w_sub [] rfl (b_X12_reply_20 s2 h)
  · have h := h.ff q
    refine w_iload_n 3 dX12_reply_8 rfl rfl rfl ?_
    refine w_i2l dX12_reply_9 rfl ?_
    refine w_lconst (0 : Int64) dX12_reply_10 rfl rfl ?_
    refine w_ldc2_w (2 : Int64) dX12_reply_11 cl_RX12_68 rfl ?_
    obtain ⟨r4, s5, h6, h⟩ := h.bd
    refine k_X12_in ml_RX12_70 (Nat.le_of_ble_eq_true rfl) ⟨Nat.le_of_ble_eq_true rfl, Nat.le_of_ble_eq_true rfl⟩ dX12_reply_14 rfl h6 ?_
    refine w_if_ne (tgt := 23) dX12_reply_17 (by decide) rfl (fun q => ?_) (fun q => ?_)
    · have h := h.ff q
      refine w_aload_n 0 dX12_reply_23 rfl rfl rfl ?_
      refine w_iload_n 1 dX12_reply_24 rfl rfl rfl ?_
      refine w_iload_n 2 dX12_reply_25 rfl rfl rfl ?_
      obtain ⟨r7, s8, h9, h⟩ := h.bd
      refine k_X12_holdOf ml_RX12_390 (Nat.le_of_ble_eq_true rfl) ⟨Nat.le_of_ble_eq_true rfl, Nat.le_of_ble_eq_true rfl⟩ dX12_reply_26 rfl h9 ?_
      refine w_pop dX12_reply_29 rfl rfl ?_
      refine w_aload_n 0 dX12_reply_30 rfl rfl rfl ?_
      refine gf_RX12_49 dX12_reply_31 rfl ?_
      refine w_iload_n 3 dX12_reply_34 rfl rfl rfl ?_
      obtain ⟨hi10, h⟩ := h.gd
      refine w_iald (i := 70) (lt_lit (by decide)) rfl hi10 dX12_reply_35 rfl ?_
      exact w_ireturn dX12_reply_36 h
    · have h := h.tt q
      exact w_sub [] rfl (b_X12_reply_20 s5 h)
theorem c_X12_reply {l : Launch} {D : va_G} {cy : Nat → ClassId} {ad : Nat → Nat} {p0 : Int32} {p1 : Int32} {p2 : Int32} {σ σ' : St} {r : Int32} (hf : f_X12_reply p0 p1 p2 σ = some (r, σ')) : CT l D cy ad yX12_reply cX12_reply 4 (some .int) rX12_reply [.ref (ad 58), .int p0, .int p1, .int p2] σ (some (.int r)) σ' :=
  ct_of (by decide) (Nat.le_of_ble_eq_true rfl) (fun p e s m args below meth c A => e_X12_reply (Γ := (p, l, e, rX12_reply, s, m, args, below, meth, c, D, cy, ad, A, 0, 0, MQ below (QC D cy ad (some (.int r)) σ' A) args s 0 0 A)) p0 p1 p2 σ ⟨_, hf, rfl⟩)
theorem k_X12_reply {Γ : CX} {cc : ByteArray} {nL : Nat} {own : String} {ret : Option FieldType} {rm : Room} {σ σ' : St} {pc pc' idx : Nat} {lv : List (Nat × Value)} {rest : List Value} {p0 : Int32} {p1 : Int32} {p2 : Int32} {r : Int32} (hl : Cond.methodLink own idx yX12_reply ∈ TB) (hw : (rest.map fun v => v.category).sum ≤ 8) (hR : rX12_reply.frames + 1 ≤ rm.frames ∧ 8 + (4 + 11) + rX12_reply.locals ≤ rm.locals) (hd : decode cc pc = .ok (.invokevirtual idx, 3)) (hp : pc + 3 = pc') (hf : f_X12_reply p0 p1 p2 σ = some (r, σ')) (h : WW Γ cc nL own ret rm σ' pc' lv (.int r :: rest)) : WW Γ cc nL own ret rm σ pc lv (.int p2 :: .int p1 :: .int p0 :: .ref (xd Γ 58) :: rest) :=
  w_callV (nn := 3) (i := 58) (As := [.int p0, .int p1, .int p2]) (v := (some (.int r))) (T := TX12) (N := 32) (c_X12_reply hf) hl mw_X12_reply (by decide +kernel) ⟨rfl, rfl⟩ hR (lt_lit (by decide)) cel_58 rfl rfl hw hd rfl hp h
/-! WarByHoursModel.holdsBy (II)Z -/
def rX12_holdsBy : Room := { frames := 1, cells := 0, slots := 0, locals := 25 }
def g_X12_holdsBy_2 (K2 : Int32 × Int32 × Int32 × St → Option (Int32 × St)) (x : Int32 × Int32 × Int32 × St) : Option (Int32 × St) := match x with
  | (v1, v2, v3, σ) =>
  gd (inb (7 : Int32) (ln 59)) <|
  if (gr σ 59 (7 : Int32).toNatClampNeg) ≤ v3 then
    gd (bz (1 : Int32)) <| some ((1 : Int32), σ)
  else
    gd (inb ((107 : Int32) + ((2 : Int32) * v3)) (ln 59)) <|
    bd (f_X12_bit v2 ((2 : Int32) * v3) σ) fun r3 s4 =>
    bnd ((((gr σ 59 ((107 : Int32) + ((2 : Int32) * v3)).toNatClampNeg) + (1 : Int32)) - r3)) fun x6 =>
    gd (inb (((107 : Int32) + ((2 : Int32) * v3)) + (1 : Int32)) (ln 59)) <|
    bd (f_X12_bit v2 (((2 : Int32) * v3) + (1 : Int32)) s4) fun r8 s9 =>
    bnd ((((gr s4 59 (((107 : Int32) + ((2 : Int32) * v3)) + (1 : Int32)).toNatClampNeg) - (1 : Int32)) + r8)) fun x11 =>
    bd (f_X12_in v1.toInt64 x6.toInt64 x11.toInt64 s9) fun r12 s13 =>
    if r12 = 0 then
      bnd (v3 + (1 : Int32)) fun x15 =>
      K2 (v1, v2, x15, s13)
    else
      gd (bz (0 : Int32)) <| some ((0 : Int32), s13)
theorem l_X12_holdsBy_2 {Γ : CX} : ∀ (n : Nat) (v1 : Int32) (v2 : Int32) (v3 : Int32) (σ : St), RR vI Γ (itr (g_X12_holdsBy_2) n (v1, v2, v3, σ)) → WW Γ cX12_holdsBy 6 RX12 (some .boolean) rX12_holdsBy σ 2 [(0, .ref (xd Γ 58)), (1, .int v1), (2, .int v2), (3, .int v3)] [] := by
  intro n
  induction n with
  | zero => intro v1 v2 v3 σ h; exact RR.no h
  | succ n hK2 =>
  intro v1 v2 v3 σ h
  have h : RR vI Γ (g_X12_holdsBy_2 (itr (g_X12_holdsBy_2) n) (v1, v2, v3, σ)) := h
  generalize itr (g_X12_holdsBy_2) n = K2 at h hK2
  unfold g_X12_holdsBy_2 at h
  dsimp only at h
  refine w_iload_n 3 dX12_holdsBy_2 rfl rfl rfl ?_
  refine w_aload_n 0 dX12_holdsBy_3 rfl rfl rfl ?_
  refine gf_RX12_9 dX12_holdsBy_4 rfl ?_
  refine w_bipush (7 : Int32) dX12_holdsBy_7 ic_bipush_7 rfl ?_
  obtain ⟨hi1, h⟩ := h.gd
  refine w_iald (i := 59) (lt_lit (by decide)) rfl hi1 dX12_holdsBy_9 rfl ?_
  refine w_icmp_ge (tgt := 85) dX12_holdsBy_10 (by decide) rfl (fun q => ?_) (fun q => ?_)
  · have h := h.tt q
    refine w_iconst (1 : Int32) dX12_holdsBy_85 ic_iconst_1 rfl ?_
    obtain ⟨hb, h⟩ := h.gd
    exact w_zreturn dX12_holdsBy_86 hb h
  · have h := h.ff q
    refine w_aload_n 0 dX12_holdsBy_13 rfl rfl rfl ?_
    refine gf_RX12_9 dX12_holdsBy_14 rfl ?_
    refine w_bipush (107 : Int32) dX12_holdsBy_17 ic_bipush_107 rfl ?_
    refine w_iconst (2 : Int32) dX12_holdsBy_19 ic_iconst_2 rfl ?_
    refine w_iload_n 3 dX12_holdsBy_20 rfl rfl rfl ?_
    refine w_imul dX12_holdsBy_21 rfl ?_
    refine w_iadd dX12_holdsBy_22 rfl ?_
    obtain ⟨hi2, h⟩ := h.gd
    refine w_iald (i := 59) (lt_lit (by decide)) rfl hi2 dX12_holdsBy_23 rfl ?_
    refine w_iconst (1 : Int32) dX12_holdsBy_24 ic_iconst_1 rfl ?_
    refine w_iadd dX12_holdsBy_25 rfl ?_
    refine w_iload_n 2 dX12_holdsBy_26 rfl rfl rfl ?_
    refine w_iconst (2 : Int32) dX12_holdsBy_27 ic_iconst_2 rfl ?_
    refine w_iload_n 3 dX12_holdsBy_28 rfl rfl rfl ?_
    refine w_imul dX12_holdsBy_29 rfl ?_
    obtain ⟨r3, s4, h5, h⟩ := h.bd
    refine k_X12_bit ml_RX12_86 (Nat.le_of_ble_eq_true rfl) ⟨Nat.le_of_ble_eq_true rfl, Nat.le_of_ble_eq_true rfl⟩ dX12_holdsBy_30 rfl h5 ?_
    refine w_isub dX12_holdsBy_33 rfl ?_
    refine w_nmI (fun x6 ex6 => ?_)
    replace h := h.bnd ex6
    clear ex6
    refine w_istore [(4, .int x6), (0, .ref (xd Γ 58)), (1, .int v1), (2, .int v2), (3, .int v3)] dX12_holdsBy_34 (by decide) rfl rfl ?_
    refine w_aload_n 1 dX12_holdsBy_36 rfl rfl rfl ?_
    refine gf_RX12_9 dX12_holdsBy_37 rfl ?_
    refine w_bipush (107 : Int32) dX12_holdsBy_40 ic_bipush_107 rfl ?_
    refine w_iconst (2 : Int32) dX12_holdsBy_42 ic_iconst_2 rfl ?_
    refine w_iload_n 4 dX12_holdsBy_43 rfl rfl rfl ?_
    refine w_imul dX12_holdsBy_44 rfl ?_
    refine w_iadd dX12_holdsBy_45 rfl ?_
    refine w_iconst (1 : Int32) dX12_holdsBy_46 ic_iconst_1 rfl ?_
    refine w_iadd dX12_holdsBy_47 rfl ?_
    obtain ⟨hi7, h⟩ := h.gd
    refine w_iald (i := 59) (lt_lit (by decide)) rfl hi7 dX12_holdsBy_48 rfl ?_
    refine w_iconst (1 : Int32) dX12_holdsBy_49 ic_iconst_1 rfl ?_
    refine w_isub dX12_holdsBy_50 rfl ?_
    refine w_iload_n 3 dX12_holdsBy_51 rfl rfl rfl ?_
    refine w_iconst (2 : Int32) dX12_holdsBy_52 ic_iconst_2 rfl ?_
    refine w_iload_n 4 dX12_holdsBy_53 rfl rfl rfl ?_
    refine w_imul dX12_holdsBy_54 rfl ?_
    refine w_iconst (1 : Int32) dX12_holdsBy_55 ic_iconst_1 rfl ?_
    refine w_iadd dX12_holdsBy_56 rfl ?_
    obtain ⟨r8, s9, h10, h⟩ := h.bd
    refine k_X12_bit ml_RX12_86 (Nat.le_of_ble_eq_true rfl) ⟨Nat.le_of_ble_eq_true rfl, Nat.le_of_ble_eq_true rfl⟩ dX12_holdsBy_57 rfl h10 ?_
    refine w_iadd dX12_holdsBy_60 rfl ?_
    refine w_nmI (fun x11 ex11 => ?_)
    replace h := h.bnd ex11
    clear ex11
    refine w_istore [(5, .int x11), (4, .int x6), (0, .ref (xd Γ 58)), (1, .int v1), (2, .int v2), (3, .int v3)] dX12_holdsBy_61 (by decide) rfl rfl ?_
    refine w_iload_n 3 dX12_holdsBy_63 rfl rfl rfl ?_
    refine w_i2l dX12_holdsBy_64 rfl ?_
    refine w_iload 1 dX12_holdsBy_65 rfl rfl ?_
    refine w_i2l dX12_holdsBy_67 rfl ?_
    refine w_iload 0 dX12_holdsBy_68 rfl rfl ?_
    refine w_i2l dX12_holdsBy_70 rfl ?_
    obtain ⟨r12, s13, h14, h⟩ := h.bd
    refine k_X12_in ml_RX12_70 (Nat.le_of_ble_eq_true rfl) ⟨Nat.le_of_ble_eq_true rfl, Nat.le_of_ble_eq_true rfl⟩ dX12_holdsBy_71 rfl h14 ?_
    refine w_if_eq (tgt := 79) dX12_holdsBy_74 (by decide) rfl (fun q => ?_) (fun q => ?_)
    · have h := h.tt q
      obtain ⟨x15, ex15⟩ : ∃ y : Int32, y = (v3 + (1 : Int32)) := ⟨_, rfl⟩
      replace h := h.bnd ex15
      refine w_iinc 5 x15 [(3, .int x15), (5, .int x11), (4, .int x6), (0, .ref (xd Γ 58)), (1, .int v1), (2, .int v2)] dX12_holdsBy_79 rfl (by rw [ex15, ic_iconst_1]) (by decide) rfl rfl ?_
      clear ex15
      refine w_goto (tgt := 2) dX12_holdsBy_82 (by decide) ?_
      exact w_sub [3, 4, 5, 0] rfl (hK2 v1 v2 x15 s13 h)
    · have h := h.ff q
      refine w_iconst (0 : Int32) dX12_holdsBy_77 ic_iconst_0 rfl ?_
      obtain ⟨hb, h⟩ := h.gd
      exact w_zreturn dX12_holdsBy_78 hb h
def f_X12_holdsBy (p0 : Int32) (p1 : Int32) (σ : St) : Option (Int32 × St) :=
  itr (g_X12_holdsBy_2) FU (p0, p1, (0 : Int32), σ)
theorem e_X12_holdsBy {Γ : CX} (p0 : Int32) (p1 : Int32) (σ : St) (h : RR vI Γ (f_X12_holdsBy p0 p1 σ)) : WW Γ cX12_holdsBy 6 RX12 (some .boolean) rX12_holdsBy σ 0 [(0, .ref (xd Γ 58)), (1, .int p0), (2, .int p1)] [] := by
  unfold f_X12_holdsBy at h
  refine w_iconst (0 : Int32) dX12_holdsBy_0 ic_iconst_0 rfl ?_
  refine w_istore_n [(3, .int (0 : Int32)), (0, .ref (xd Γ 58)), (1, .int p0), (2, .int p1)] dX12_holdsBy_1 rfl (by decide) rfl rfl ?_
  exact w_sub [1, 2, 3, 0] rfl (l_X12_holdsBy_2 FU p0 p1 (0 : Int32) σ h)
theorem c_X12_holdsBy {l : Launch} {D : va_G} {cy : Nat → ClassId} {ad : Nat → Nat} {p0 : Int32} {p1 : Int32} {σ σ' : St} {r : Int32} (hf : f_X12_holdsBy p0 p1 σ = some (r, σ')) : CT l D cy ad yX12_holdsBy cX12_holdsBy 6 (some .boolean) rX12_holdsBy [.ref (ad 58), .int p0, .int p1] σ (some (.int r)) σ' :=
  ct_of (by decide) (Nat.le_of_ble_eq_true rfl) (fun p e s m args below meth c A => e_X12_holdsBy (Γ := (p, l, e, rX12_holdsBy, s, m, args, below, meth, c, D, cy, ad, A, 0, 0, MQ below (QC D cy ad (some (.int r)) σ' A) args s 0 0 A)) p0 p1 σ ⟨_, hf, rfl⟩)
theorem k_X12_holdsBy {Γ : CX} {cc : ByteArray} {nL : Nat} {own : String} {ret : Option FieldType} {rm : Room} {σ σ' : St} {pc pc' idx : Nat} {lv : List (Nat × Value)} {rest : List Value} {p0 : Int32} {p1 : Int32} {r : Int32} (hl : Cond.methodLink own idx yX12_holdsBy ∈ TB) (hw : (rest.map fun v => v.category).sum ≤ 8) (hR : rX12_holdsBy.frames + 1 ≤ rm.frames ∧ 8 + (6 + 11) + rX12_holdsBy.locals ≤ rm.locals) (hd : decode cc pc = .ok (.invokevirtual idx, 3)) (hp : pc + 3 = pc') (hf : f_X12_holdsBy p0 p1 σ = some (r, σ')) (h : WW Γ cc nL own ret rm σ' pc' lv (.int r :: rest)) : WW Γ cc nL own ret rm σ pc lv (.int p1 :: .int p0 :: .ref (xd Γ 58) :: rest) :=
  w_callV (nn := 2) (i := 58) (As := [.int p0, .int p1]) (v := (some (.int r))) (T := TX12) (N := 32) (c_X12_holdsBy hf) hl mw_X12_holdsBy (by decide +kernel) ⟨rfl, rfl⟩ hR (lt_lit (by decide)) cel_58 rfl rfl hw hd rfl hp h
/-! WarByHoursModel.allReadings ()I -/
def rX12_allReadings : Room := { frames := 0, cells := 0, slots := 0, locals := 0 }
def f_X12_allReadings (σ : St) : Option (Int32 × St) :=
  gd (inb (7 : Int32) (ln 59)) <|
  some (((1 : Int32) <<< (((2 : Int32) * (gr σ 59 (7 : Int32).toNatClampNeg)) &&& 31)), σ)
theorem e_X12_allReadings {Γ : CX} (σ : St) (h : RR vI Γ (f_X12_allReadings σ)) : WW Γ cX12_allReadings 1 RX12 (some .int) rX12_allReadings σ 0 [(0, .ref (xd Γ 58))] [] := by
  unfold f_X12_allReadings at h
  refine w_iconst (1 : Int32) dX12_allReadings_0 ic_iconst_1 rfl ?_
  refine w_iconst (2 : Int32) dX12_allReadings_1 ic_iconst_2 rfl ?_
  refine w_aload_n 0 dX12_allReadings_2 rfl rfl rfl ?_
  refine gf_RX12_9 dX12_allReadings_3 rfl ?_
  refine w_bipush (7 : Int32) dX12_allReadings_6 ic_bipush_7 rfl ?_
  obtain ⟨hi1, h⟩ := h.gd
  refine w_iald (i := 59) (lt_lit (by decide)) rfl hi1 dX12_allReadings_8 rfl ?_
  refine w_imul dX12_allReadings_9 rfl ?_
  refine w_ishl dX12_allReadings_10 rfl ?_
  exact w_ireturn dX12_allReadings_11 h
theorem c_X12_allReadings {l : Launch} {D : va_G} {cy : Nat → ClassId} {ad : Nat → Nat}  {σ σ' : St} {r : Int32} (hf : f_X12_allReadings σ = some (r, σ')) : CT l D cy ad yX12_allReadings cX12_allReadings 1 (some .int) rX12_allReadings [.ref (ad 58)] σ (some (.int r)) σ' :=
  ct_of (by decide) (Nat.le_of_ble_eq_true rfl) (fun p e s m args below meth c A => e_X12_allReadings (Γ := (p, l, e, rX12_allReadings, s, m, args, below, meth, c, D, cy, ad, A, 0, 0, MQ below (QC D cy ad (some (.int r)) σ' A) args s 0 0 A)) σ ⟨_, hf, rfl⟩)
theorem k_X12_allReadings {Γ : CX} {cc : ByteArray} {nL : Nat} {own : String} {ret : Option FieldType} {rm : Room} {σ σ' : St} {pc pc' idx : Nat} {lv : List (Nat × Value)} {rest : List Value}  {r : Int32} (hl : Cond.methodLink own idx yX12_allReadings ∈ TB) (hw : (rest.map fun v => v.category).sum ≤ 8) (hR : rX12_allReadings.frames + 1 ≤ rm.frames ∧ 8 + (1 + 11) + rX12_allReadings.locals ≤ rm.locals) (hd : decode cc pc = .ok (.invokevirtual idx, 3)) (hp : pc + 3 = pc') (hf : f_X12_allReadings σ = some (r, σ')) (h : WW Γ cc nL own ret rm σ' pc' lv (.int r :: rest)) : WW Γ cc nL own ret rm σ pc lv (.ref (xd Γ 58) :: rest) :=
  w_callV (nn := 0) (i := 58) (As := []) (v := (some (.int r))) (T := TX12) (N := 32) (c_X12_allReadings hf) hl mw_X12_allReadings (by decide +kernel) ⟨rfl, rfl⟩ hR (lt_lit (by decide)) cel_58 rfl rfl hw hd rfl hp h
/-! WarByHoursModel.readingsOf (I)I -/
def rX12_readingsOf : Room := { frames := 2, cells := 0, slots := 0, locals := 50 }
def f_X12_readingsOf_27 (K4 : Int32 × Int32 × Int32 × St → Option (Int32 × St)) (v1 : Int32) (v3 : Int32) (k0 : Int32) (k1 : Int32) (σ : St) : Option (Int32 × St) :=
  bnd ((k1 + k0)) fun x1 =>
  bnd (v3 + (1 : Int32)) fun x2 =>
  K4 (v1, x1, x2, σ)
theorem b_X12_readingsOf_27 {Γ : CX} (K4 : Int32 × Int32 × Int32 × St → Option (Int32 × St)) (hK4 : ∀ (v1 : Int32) (v2 : Int32) (v3 : Int32) (σ : St), RR vI Γ (K4 (v1, v2, v3, σ)) → WW Γ cX12_readingsOf 4 RX12 (some .int) rX12_readingsOf σ 4 [(0, .ref (xd Γ 58)), (1, .int v1), (2, .int v2), (3, .int v3)] []) (v1 : Int32) (v3 : Int32) (k0 : Int32) (k1 : Int32) (σ : St) (h : RR vI Γ (f_X12_readingsOf_27 K4 v1 v3 k0 k1 σ)) : WW Γ cX12_readingsOf 4 RX12 (some .int) rX12_readingsOf σ 27 [(0, .ref (xd Γ 58)), (1, .int v1), (3, .int v3)] [.int k0, .int k1] := by
  unfold f_X12_readingsOf_27 at h
  refine w_iadd dX12_readingsOf_27 rfl ?_
  refine w_nmI (fun x1 ex1 => ?_)
  replace h := h.bnd ex1
  clear ex1
  refine w_istore_n [(2, .int x1), (0, .ref (xd Γ 58)), (1, .int v1), (3, .int v3)] dX12_readingsOf_28 rfl (by decide) rfl rfl ?_
  obtain ⟨x2, ex2⟩ : ∃ y : Int32, y = (v3 + (1 : Int32)) := ⟨_, rfl⟩
  replace h := h.bnd ex2
  refine w_iinc 3 x2 [(3, .int x2), (2, .int x1), (0, .ref (xd Γ 58)), (1, .int v1)] dX12_readingsOf_29 rfl (by rw [ex2, ic_iconst_1]) (by decide) rfl rfl ?_
  clear ex2
  refine w_goto (tgt := 4) dX12_readingsOf_32 (by decide) ?_
  exact w_sub [2, 3, 1, 0] rfl (hK4 v1 x1 x2 σ h)
def g_X12_readingsOf_4 (K4 : Int32 × Int32 × Int32 × St → Option (Int32 × St)) (x : Int32 × Int32 × Int32 × St) : Option (Int32 × St) := match x with
  | (v1, v2, v3, σ) =>
  bd (f_X12_allReadings σ) fun r1 s2 =>
  if r1 ≤ v3 then
    some (v2, s2)
  else
    bd (f_X12_holdsBy v1 v3 s2) fun r4 s5 =>
    if r4 = 0 then
      f_X12_readingsOf_27 K4 v1 v3 (0 : Int32) v2 s5
    else
      f_X12_readingsOf_27 K4 v1 v3 (1 : Int32) v2 s5
theorem l_X12_readingsOf_4 {Γ : CX} : ∀ (n : Nat) (v1 : Int32) (v2 : Int32) (v3 : Int32) (σ : St), RR vI Γ (itr (g_X12_readingsOf_4) n (v1, v2, v3, σ)) → WW Γ cX12_readingsOf 4 RX12 (some .int) rX12_readingsOf σ 4 [(0, .ref (xd Γ 58)), (1, .int v1), (2, .int v2), (3, .int v3)] [] := by
  intro n
  induction n with
  | zero => intro v1 v2 v3 σ h; exact RR.no h
  | succ n hK4 =>
  intro v1 v2 v3 σ h
  have h : RR vI Γ (g_X12_readingsOf_4 (itr (g_X12_readingsOf_4) n) (v1, v2, v3, σ)) := h
  generalize itr (g_X12_readingsOf_4) n = K4 at h hK4
  unfold g_X12_readingsOf_4 at h
  dsimp only at h
  refine w_iload_n 3 dX12_readingsOf_4 rfl rfl rfl ?_
  refine w_aload_n 0 dX12_readingsOf_5 rfl rfl rfl ?_
  obtain ⟨r1, s2, h3, h⟩ := h.bd
  refine k_X12_allReadings ml_RX12_393 (Nat.le_of_ble_eq_true rfl) ⟨Nat.le_of_ble_eq_true rfl, Nat.le_of_ble_eq_true rfl⟩ dX12_readingsOf_6 rfl h3 ?_
  refine w_icmp_ge (tgt := 35) dX12_readingsOf_9 (by decide) rfl (fun q => ?_) (fun q => ?_)
  · have h := h.tt q
    refine w_iload_n 2 dX12_readingsOf_35 rfl rfl rfl ?_
    exact w_ireturn dX12_readingsOf_36 h
  · have h := h.ff q
    refine w_iload_n 2 dX12_readingsOf_12 rfl rfl rfl ?_
    refine w_aload_n 0 dX12_readingsOf_13 rfl rfl rfl ?_
    refine w_iload_n 1 dX12_readingsOf_14 rfl rfl rfl ?_
    refine w_iload_n 3 dX12_readingsOf_15 rfl rfl rfl ?_
    obtain ⟨r4, s5, h6, h⟩ := h.bd
    refine k_X12_holdsBy ml_RX12_396 (Nat.le_of_ble_eq_true rfl) ⟨Nat.le_of_ble_eq_true rfl, Nat.le_of_ble_eq_true rfl⟩ dX12_readingsOf_16 rfl h6 ?_
    refine w_if_eq (tgt := 26) dX12_readingsOf_19 (by decide) rfl (fun q => ?_) (fun q => ?_)
    · have h := h.tt q
      refine w_iconst (0 : Int32) dX12_readingsOf_26 ic_iconst_0 rfl ?_
      exact w_sub [0, 1, 3] rfl (b_X12_readingsOf_27 K4 hK4 v1 v3 (0 : Int32) v2 s5 h)
    · have h := h.ff q
      refine w_iconst (1 : Int32) dX12_readingsOf_22 ic_iconst_1 rfl ?_
      refine w_goto (tgt := 27) dX12_readingsOf_23 (by decide) ?_
      exact w_sub [0, 1, 3] rfl (b_X12_readingsOf_27 K4 hK4 v1 v3 (1 : Int32) v2 s5 h)
def f_X12_readingsOf (p0 : Int32) (σ : St) : Option (Int32 × St) :=
  itr (g_X12_readingsOf_4) FU (p0, (0 : Int32), (0 : Int32), σ)
theorem e_X12_readingsOf {Γ : CX} (p0 : Int32) (σ : St) (h : RR vI Γ (f_X12_readingsOf p0 σ)) : WW Γ cX12_readingsOf 4 RX12 (some .int) rX12_readingsOf σ 0 [(0, .ref (xd Γ 58)), (1, .int p0)] [] := by
  unfold f_X12_readingsOf at h
  refine w_iconst (0 : Int32) dX12_readingsOf_0 ic_iconst_0 rfl ?_
  refine w_istore_n [(2, .int (0 : Int32)), (0, .ref (xd Γ 58)), (1, .int p0)] dX12_readingsOf_1 rfl (by decide) rfl rfl ?_
  refine w_iconst (0 : Int32) dX12_readingsOf_2 ic_iconst_0 rfl ?_
  refine w_istore_n [(3, .int (0 : Int32)), (2, .int (0 : Int32)), (0, .ref (xd Γ 58)), (1, .int p0)] dX12_readingsOf_3 rfl (by decide) rfl rfl ?_
  exact w_sub [2, 3, 1, 0] rfl (l_X12_readingsOf_4 FU p0 (0 : Int32) (0 : Int32) σ h)
theorem c_X12_readingsOf {l : Launch} {D : va_G} {cy : Nat → ClassId} {ad : Nat → Nat} {p0 : Int32} {σ σ' : St} {r : Int32} (hf : f_X12_readingsOf p0 σ = some (r, σ')) : CT l D cy ad yX12_readingsOf cX12_readingsOf 4 (some .int) rX12_readingsOf [.ref (ad 58), .int p0] σ (some (.int r)) σ' :=
  ct_of (by decide) (Nat.le_of_ble_eq_true rfl) (fun p e s m args below meth c A => e_X12_readingsOf (Γ := (p, l, e, rX12_readingsOf, s, m, args, below, meth, c, D, cy, ad, A, 0, 0, MQ below (QC D cy ad (some (.int r)) σ' A) args s 0 0 A)) p0 σ ⟨_, hf, rfl⟩)
theorem k_X12_readingsOf {Γ : CX} {cc : ByteArray} {nL : Nat} {own : String} {ret : Option FieldType} {rm : Room} {σ σ' : St} {pc pc' idx : Nat} {lv : List (Nat × Value)} {rest : List Value} {p0 : Int32} {r : Int32} (hl : Cond.methodLink own idx yX12_readingsOf ∈ TB) (hw : (rest.map fun v => v.category).sum ≤ 8) (hR : rX12_readingsOf.frames + 1 ≤ rm.frames ∧ 8 + (4 + 11) + rX12_readingsOf.locals ≤ rm.locals) (hd : decode cc pc = .ok (.invokevirtual idx, 3)) (hp : pc + 3 = pc') (hf : f_X12_readingsOf p0 σ = some (r, σ')) (h : WW Γ cc nL own ret rm σ' pc' lv (.int r :: rest)) : WW Γ cc nL own ret rm σ pc lv (.int p0 :: .ref (xd Γ 58) :: rest) :=
  w_callV (nn := 1) (i := 58) (As := [.int p0]) (v := (some (.int r))) (T := TX12) (N := 32) (c_X12_readingsOf hf) hl mw_X12_readingsOf (by decide +kernel) ⟨rfl, rfl⟩ hR (lt_lit (by decide)) cel_58 rfl rfl hw hd rfl hp h
/-! WarByHoursModel.isSigned (I)Z -/
def rX12_isSigned : Room := { frames := 1, cells := 0, slots := 0, locals := 25 }
def f_X12_isSigned_24 (k0 : Int32) (σ : St) : Option (Int32 × St) :=
  gd (bz k0) <| some (k0, σ)
theorem b_X12_isSigned_24 {Γ : CX} (k0 : Int32) (σ : St) (h : RR vI Γ (f_X12_isSigned_24 k0 σ)) : WW Γ cX12_isSigned 2 RX12 (some .boolean) rX12_isSigned σ 24 [] [.int k0] := by
  unfold f_X12_isSigned_24 at h
  obtain ⟨hb, h⟩ := h.gd
  exact w_zreturn dX12_isSigned_24 hb h
def f_X12_isSigned_23 (σ : St) : Option (Int32 × St) :=
  f_X12_isSigned_24 (0 : Int32) σ
theorem b_X12_isSigned_23 {Γ : CX} (σ : St) (h : RR vI Γ (f_X12_isSigned_23 σ)) : WW Γ cX12_isSigned 2 RX12 (some .boolean) rX12_isSigned σ 23 [] [] := by
  unfold f_X12_isSigned_23 at h
  refine w_iconst (0 : Int32) dX12_isSigned_23 ic_iconst_0 rfl ?_
  exact w_sub [] rfl (b_X12_isSigned_24 (0 : Int32) σ h)
def f_X12_isSigned (p0 : Int32) (σ : St) : Option (Int32 × St) :=
  bd (f_X12_isWar σ) fun r1 s2 =>
  if r1 = 0 then
    f_X12_isSigned_23 s2
  else
    bd (f_X12_in p0.toInt64 (0 : Int64) (59 : Int64) s2) fun r4 s5 =>
    if r4 = 0 then
      f_X12_isSigned_23 s5
    else
      f_X12_isSigned_24 (1 : Int32) s5
theorem e_X12_isSigned {Γ : CX} (p0 : Int32) (σ : St) (h : RR vI Γ (f_X12_isSigned p0 σ)) : WW Γ cX12_isSigned 2 RX12 (some .boolean) rX12_isSigned σ 0 [(0, .ref (xd Γ 58)), (1, .int p0)] [] := by
  unfold f_X12_isSigned at h
  refine w_aload_n 0 dX12_isSigned_0 rfl rfl rfl ?_
  obtain ⟨r1, s2, h3, h⟩ := h.bd
  refine k_X12_isWar ml_RX12_74 (Nat.le_of_ble_eq_true rfl) ⟨Nat.le_of_ble_eq_true rfl, Nat.le_of_ble_eq_true rfl⟩ dX12_isSigned_1 rfl h3 ?_
  refine w_if_eq (tgt := 23) dX12_isSigned_4 (by decide) rfl (fun q => ?_) (fun q => ?_)
  · have h := h.tt q
    exact w_sub [] rfl (b_X12_isSigned_23 s2 h)
  · have h := h.ff q
    refine w_iload_n 1 dX12_isSigned_7 rfl rfl rfl ?_
    refine w_i2l dX12_isSigned_8 rfl ?_
    refine w_lconst (0 : Int64) dX12_isSigned_9 rfl rfl ?_
    refine w_ldc2_w (59 : Int64) dX12_isSigned_10 cl_RX12_399 rfl ?_
    obtain ⟨r4, s5, h6, h⟩ := h.bd
    refine k_X12_in ml_RX12_70 (Nat.le_of_ble_eq_true rfl) ⟨Nat.le_of_ble_eq_true rfl, Nat.le_of_ble_eq_true rfl⟩ dX12_isSigned_13 rfl h6 ?_
    refine w_if_eq (tgt := 23) dX12_isSigned_16 (by decide) rfl (fun q => ?_) (fun q => ?_)
    · have h := h.tt q
      exact w_sub [] rfl (b_X12_isSigned_23 s5 h)
    · have h := h.ff q
      refine w_iconst (1 : Int32) dX12_isSigned_19 ic_iconst_1 rfl ?_
      refine w_goto (tgt := 24) dX12_isSigned_20 (by decide) ?_
      exact w_sub [] rfl (b_X12_isSigned_24 (1 : Int32) s5 h)
theorem c_X12_isSigned {l : Launch} {D : va_G} {cy : Nat → ClassId} {ad : Nat → Nat} {p0 : Int32} {σ σ' : St} {r : Int32} (hf : f_X12_isSigned p0 σ = some (r, σ')) : CT l D cy ad yX12_isSigned cX12_isSigned 2 (some .boolean) rX12_isSigned [.ref (ad 58), .int p0] σ (some (.int r)) σ' :=
  ct_of (by decide) (Nat.le_of_ble_eq_true rfl) (fun p e s m args below meth c A => e_X12_isSigned (Γ := (p, l, e, rX12_isSigned, s, m, args, below, meth, c, D, cy, ad, A, 0, 0, MQ below (QC D cy ad (some (.int r)) σ' A) args s 0 0 A)) p0 σ ⟨_, hf, rfl⟩)
theorem k_X12_isSigned {Γ : CX} {cc : ByteArray} {nL : Nat} {own : String} {ret : Option FieldType} {rm : Room} {σ σ' : St} {pc pc' idx : Nat} {lv : List (Nat × Value)} {rest : List Value} {p0 : Int32} {r : Int32} (hl : Cond.methodLink own idx yX12_isSigned ∈ TB) (hw : (rest.map fun v => v.category).sum ≤ 8) (hR : rX12_isSigned.frames + 1 ≤ rm.frames ∧ 8 + (2 + 11) + rX12_isSigned.locals ≤ rm.locals) (hd : decode cc pc = .ok (.invokevirtual idx, 3)) (hp : pc + 3 = pc') (hf : f_X12_isSigned p0 σ = some (r, σ')) (h : WW Γ cc nL own ret rm σ' pc' lv (.int r :: rest)) : WW Γ cc nL own ret rm σ pc lv (.int p0 :: .ref (xd Γ 58) :: rest) :=
  w_callV (nn := 1) (i := 58) (As := [.int p0]) (v := (some (.int r))) (T := TX12) (N := 32) (c_X12_isSigned hf) hl mw_X12_isSigned (by decide +kernel) ⟨rfl, rfl⟩ hR (lt_lit (by decide)) cel_58 rfl rfl hw hd rfl hp h
/-! WarByHoursModel.readings (I)I -/
def rX12_readings : Room := { frames := 3, cells := 0, slots := 0, locals := 73 }
def f_X12_readings_18 (k0 : Int32) (σ : St) : Option (Int32 × St) :=
  some (k0, σ)
theorem b_X12_readings_18 {Γ : CX} (k0 : Int32) (σ : St) (h : RR vI Γ (f_X12_readings_18 k0 σ)) : WW Γ cX12_readings 2 RX12 (some .int) rX12_readings σ 18 [] [.int k0] := by
  unfold f_X12_readings_18 at h
  exact w_ireturn dX12_readings_18 h
def f_X12_readings (p0 : Int32) (σ : St) : Option (Int32 × St) :=
  bd (f_X12_isSigned p0 σ) fun r1 s2 =>
  if r1 = 0 then
    f_X12_readings_18 (-2 : Int32) s2
  else
    bd (f_X12_readingsOf p0 s2) fun r4 s5 =>
    f_X12_readings_18 r4 s5
theorem e_X12_readings {Γ : CX} (p0 : Int32) (σ : St) (h : RR vI Γ (f_X12_readings p0 σ)) : WW Γ cX12_readings 2 RX12 (some .int) rX12_readings σ 0 [(0, .ref (xd Γ 58)), (1, .int p0)] [] := by
  unfold f_X12_readings at h
  refine w_aload_n 0 dX12_readings_0 rfl rfl rfl ?_
  refine w_iload_n 1 dX12_readings_1 rfl rfl rfl ?_
  obtain ⟨r1, s2, h3, h⟩ := h.bd
  refine k_X12_isSigned ml_RX12_401 (Nat.le_of_ble_eq_true rfl) ⟨Nat.le_of_ble_eq_true rfl, Nat.le_of_ble_eq_true rfl⟩ dX12_readings_2 rfl h3 ?_
  refine w_if_eq (tgt := 16) dX12_readings_5 (by decide) rfl (fun q => ?_) (fun q => ?_)
  · have h := h.tt q
    refine w_bipush (-2 : Int32) dX12_readings_16 ic_bipush_m2 rfl ?_
    exact w_sub [] rfl (b_X12_readings_18 (-2 : Int32) s2 h)
  · have h := h.ff q
    refine w_aload_n 0 dX12_readings_8 rfl rfl rfl ?_
    refine w_iload_n 1 dX12_readings_9 rfl rfl rfl ?_
    obtain ⟨r4, s5, h6, h⟩ := h.bd
    refine k_X12_readingsOf ml_RX12_404 (Nat.le_of_ble_eq_true rfl) ⟨Nat.le_of_ble_eq_true rfl, Nat.le_of_ble_eq_true rfl⟩ dX12_readings_10 rfl h6 ?_
    refine w_goto (tgt := 18) dX12_readings_13 (by decide) ?_
    exact w_sub [] rfl (b_X12_readings_18 r4 s5 h)
theorem c_X12_readings {l : Launch} {D : va_G} {cy : Nat → ClassId} {ad : Nat → Nat} {p0 : Int32} {σ σ' : St} {r : Int32} (hf : f_X12_readings p0 σ = some (r, σ')) : CT l D cy ad yX12_readings cX12_readings 2 (some .int) rX12_readings [.ref (ad 58), .int p0] σ (some (.int r)) σ' :=
  ct_of (by decide) (Nat.le_of_ble_eq_true rfl) (fun p e s m args below meth c A => e_X12_readings (Γ := (p, l, e, rX12_readings, s, m, args, below, meth, c, D, cy, ad, A, 0, 0, MQ below (QC D cy ad (some (.int r)) σ' A) args s 0 0 A)) p0 σ ⟨_, hf, rfl⟩)
theorem k_X12_readings {Γ : CX} {cc : ByteArray} {nL : Nat} {own : String} {ret : Option FieldType} {rm : Room} {σ σ' : St} {pc pc' idx : Nat} {lv : List (Nat × Value)} {rest : List Value} {p0 : Int32} {r : Int32} (hl : Cond.methodLink own idx yX12_readings ∈ TB) (hw : (rest.map fun v => v.category).sum ≤ 8) (hR : rX12_readings.frames + 1 ≤ rm.frames ∧ 8 + (2 + 11) + rX12_readings.locals ≤ rm.locals) (hd : decode cc pc = .ok (.invokevirtual idx, 3)) (hp : pc + 3 = pc') (hf : f_X12_readings p0 σ = some (r, σ')) (h : WW Γ cc nL own ret rm σ' pc' lv (.int r :: rest)) : WW Γ cc nL own ret rm σ pc lv (.int p0 :: .ref (xd Γ 58) :: rest) :=
  w_callV (nn := 1) (i := 58) (As := [.int p0]) (v := (some (.int r))) (T := TX12) (N := 32) (c_X12_readings hf) hl mw_X12_readings (by decide +kernel) ⟨rfl, rfl⟩ hR (lt_lit (by decide)) cel_58 rfl rfl hw hd rfl hp h
/-! WarByHoursModel.loopholes ()J -/
def rX12_loopholes : Room := { frames := 3, cells := 0, slots := 0, locals := 73 }
def f_X12_loopholes_49 (K15 : Int64 × Int32 × St → Option (Int64 × St)) (v3 : Int32) (k0 : Int64) (k1 : Int64) (σ : St) : Option (Int64 × St) :=
  bnd ((k1 ||| k0)) fun x1 =>
  bnd (v3 + (1 : Int32)) fun x2 =>
  K15 (x1, x2, σ)
theorem b_X12_loopholes_49 {Γ : CX} (K15 : Int64 × Int32 × St → Option (Int64 × St)) (hK15 : ∀ (v1 : Int64) (v3 : Int32) (σ : St), RR vL Γ (K15 (v1, v3, σ)) → WW Γ cX12_loopholes 4 RX12 (some .long) rX12_loopholes σ 15 [(0, .ref (xd Γ 58)), (1, .long v1), (3, .int v3)] []) (v3 : Int32) (k0 : Int64) (k1 : Int64) (σ : St) (h : RR vL Γ (f_X12_loopholes_49 K15 v3 k0 k1 σ)) : WW Γ cX12_loopholes 4 RX12 (some .long) rX12_loopholes σ 49 [(0, .ref (xd Γ 58)), (3, .int v3)] [.long k0, .long k1] := by
  unfold f_X12_loopholes_49 at h
  refine w_lor dX12_loopholes_49 rfl ?_
  refine w_nmL (fun x1 ex1 => ?_)
  replace h := h.bnd ex1
  clear ex1
  refine w_lstore_n [(1, .long x1), (0, .ref (xd Γ 58)), (3, .int v3)] dX12_loopholes_50 rfl (by decide) rfl rfl ?_
  obtain ⟨x2, ex2⟩ : ∃ y : Int32, y = (v3 + (1 : Int32)) := ⟨_, rfl⟩
  replace h := h.bnd ex2
  refine w_iinc 2 x2 [(3, .int x2), (1, .long x1), (0, .ref (xd Γ 58))] dX12_loopholes_51 rfl (by rw [ex2, ic_iconst_1]) (by decide) rfl rfl ?_
  clear ex2
  refine w_goto (tgt := 15) dX12_loopholes_54 (by decide) ?_
  exact w_sub [2, 1, 0] rfl (hK15 x1 x2 σ h)
def g_X12_loopholes_15 (K15 : Int64 × Int32 × St → Option (Int64 × St)) (x : Int64 × Int32 × St) : Option (Int64 × St) := match x with
  | (v1, v3, σ) =>
  if (60 : Int32) ≤ v3 then
    some (v1, σ)
  else
    bd (f_X12_readingsOf v3 σ) fun r1 s2 =>
    bd (f_X12_allReadings s2) fun r4 s5 =>
    bd (f_X12_in r1.toInt64 (1 : Int64) (r4 - (1 : Int32)).toInt64 s5) fun r7 s8 =>
    if r7 = 0 then
      f_X12_loopholes_49 K15 v3 (0 : Int64) v1 s8
    else
      f_X12_loopholes_49 K15 v3 ((1 : Int64) <<< (v3.toInt64 &&& 63)) v1 s8
theorem l_X12_loopholes_15 {Γ : CX} : ∀ (n : Nat) (v1 : Int64) (v3 : Int32) (σ : St), RR vL Γ (itr (g_X12_loopholes_15) n (v1, v3, σ)) → WW Γ cX12_loopholes 4 RX12 (some .long) rX12_loopholes σ 15 [(0, .ref (xd Γ 58)), (1, .long v1), (3, .int v3)] [] := by
  intro n
  induction n with
  | zero => intro v1 v3 σ h; exact RR.no h
  | succ n hK15 =>
  intro v1 v3 σ h
  have h : RR vL Γ (g_X12_loopholes_15 (itr (g_X12_loopholes_15) n) (v1, v3, σ)) := h
  generalize itr (g_X12_loopholes_15) n = K15 at h hK15
  unfold g_X12_loopholes_15 at h
  dsimp only at h
  refine w_iload_n 2 dX12_loopholes_15 rfl rfl rfl ?_
  refine w_bipush (60 : Int32) dX12_loopholes_16 ic_bipush_60 rfl ?_
  refine w_icmp_ge (tgt := 57) dX12_loopholes_18 (by decide) rfl (fun q => ?_) (fun q => ?_)
  · have h := h.tt q
    refine w_lload_n 1 dX12_loopholes_57 rfl rfl rfl ?_
    exact w_lreturn dX12_loopholes_58 h
  · have h := h.ff q
    refine w_lload_n 1 dX12_loopholes_21 rfl rfl rfl ?_
    refine w_aload_n 0 dX12_loopholes_22 rfl rfl rfl ?_
    refine w_iload_n 2 dX12_loopholes_23 rfl rfl rfl ?_
    obtain ⟨r1, s2, h3, h⟩ := h.bd
    refine k_X12_readingsOf ml_RX12_404 (Nat.le_of_ble_eq_true rfl) ⟨Nat.le_of_ble_eq_true rfl, Nat.le_of_ble_eq_true rfl⟩ dX12_loopholes_24 rfl h3 ?_
    refine w_i2l dX12_loopholes_27 rfl ?_
    refine w_lconst (1 : Int64) dX12_loopholes_28 rfl rfl ?_
    refine w_aload_n 0 dX12_loopholes_29 rfl rfl rfl ?_
    obtain ⟨r4, s5, h6, h⟩ := h.bd
    refine k_X12_allReadings ml_RX12_393 (Nat.le_of_ble_eq_true rfl) ⟨Nat.le_of_ble_eq_true rfl, Nat.le_of_ble_eq_true rfl⟩ dX12_loopholes_30 rfl h6 ?_
    refine w_iconst (1 : Int32) dX12_loopholes_33 ic_iconst_1 rfl ?_
    refine w_isub dX12_loopholes_34 rfl ?_
    refine w_i2l dX12_loopholes_35 rfl ?_
    obtain ⟨r7, s8, h9, h⟩ := h.bd
    refine k_X12_in ml_RX12_70 (Nat.le_of_ble_eq_true rfl) ⟨Nat.le_of_ble_eq_true rfl, Nat.le_of_ble_eq_true rfl⟩ dX12_loopholes_36 rfl h9 ?_
    refine w_if_eq (tgt := 48) dX12_loopholes_39 (by decide) rfl (fun q => ?_) (fun q => ?_)
    · have h := h.tt q
      refine w_lconst (0 : Int64) dX12_loopholes_48 rfl rfl ?_
      exact w_sub [0, 2] rfl (b_X12_loopholes_49 K15 hK15 v3 (0 : Int64) v1 s8 h)
    · have h := h.ff q
      refine w_lconst (1 : Int64) dX12_loopholes_42 rfl rfl ?_
      refine w_iload_n 2 dX12_loopholes_43 rfl rfl rfl ?_
      refine w_lshl dX12_loopholes_44 rfl ?_
      refine w_goto (tgt := 49) dX12_loopholes_45 (by decide) ?_
      exact w_sub [0, 2] rfl (b_X12_loopholes_49 K15 hK15 v3 ((1 : Int64) <<< (v3.toInt64 &&& 63)) v1 s8 h)
def f_X12_loopholes (σ : St) : Option (Int64 × St) :=
  bd (f_X12_isWar σ) fun r1 s2 =>
  if r1 = 0 then
    some ((-2 : Int64), s2)
  else
    itr (g_X12_loopholes_15) FU ((0 : Int64), (0 : Int32), s2)
theorem e_X12_loopholes {Γ : CX} (σ : St) (h : RR vL Γ (f_X12_loopholes σ)) : WW Γ cX12_loopholes 4 RX12 (some .long) rX12_loopholes σ 0 [(0, .ref (xd Γ 58))] [] := by
  unfold f_X12_loopholes at h
  refine w_aload_n 0 dX12_loopholes_0 rfl rfl rfl ?_
  obtain ⟨r1, s2, h3, h⟩ := h.bd
  refine k_X12_isWar ml_RX12_74 (Nat.le_of_ble_eq_true rfl) ⟨Nat.le_of_ble_eq_true rfl, Nat.le_of_ble_eq_true rfl⟩ dX12_loopholes_1 rfl h3 ?_
  refine w_if_ne (tgt := 11) dX12_loopholes_4 (by decide) rfl (fun q => ?_) (fun q => ?_)
  · have h := h.ff q
    refine w_lconst (0 : Int64) dX12_loopholes_11 rfl rfl ?_
    refine w_lstore_n [(1, .long (0 : Int64)), (0, .ref (xd Γ 58))] dX12_loopholes_12 rfl (by decide) rfl rfl ?_
    refine w_iconst (0 : Int32) dX12_loopholes_13 ic_iconst_0 rfl ?_
    refine w_istore_n [(3, .int (0 : Int32)), (1, .long (0 : Int64)), (0, .ref (xd Γ 58))] dX12_loopholes_14 rfl (by decide) rfl rfl ?_
    exact w_sub [2, 1, 0] rfl (l_X12_loopholes_15 FU (0 : Int64) (0 : Int32) s2 h)
  · have h := h.tt q
    refine w_ldc2_w (-2 : Int64) dX12_loopholes_7 cl_RX12_275 rfl ?_
    exact w_lreturn dX12_loopholes_10 h
theorem c_X12_loopholes {l : Launch} {D : va_G} {cy : Nat → ClassId} {ad : Nat → Nat}  {σ σ' : St} {r : Int64} (hf : f_X12_loopholes σ = some (r, σ')) : CT l D cy ad yX12_loopholes cX12_loopholes 4 (some .long) rX12_loopholes [.ref (ad 58)] σ (some (.long r)) σ' :=
  ct_of (by decide) (Nat.le_of_ble_eq_true rfl) (fun p e s m args below meth c A => e_X12_loopholes (Γ := (p, l, e, rX12_loopholes, s, m, args, below, meth, c, D, cy, ad, A, 0, 0, MQ below (QC D cy ad (some (.long r)) σ' A) args s 0 0 A)) σ ⟨_, hf, rfl⟩)
theorem k_X12_loopholes {Γ : CX} {cc : ByteArray} {nL : Nat} {own : String} {ret : Option FieldType} {rm : Room} {σ σ' : St} {pc pc' idx : Nat} {lv : List (Nat × Value)} {rest : List Value}  {r : Int64} (hl : Cond.methodLink own idx yX12_loopholes ∈ TB) (hw : (rest.map fun v => v.category).sum ≤ 8) (hR : rX12_loopholes.frames + 1 ≤ rm.frames ∧ 8 + (4 + 11) + rX12_loopholes.locals ≤ rm.locals) (hd : decode cc pc = .ok (.invokevirtual idx, 3)) (hp : pc + 3 = pc') (hf : f_X12_loopholes σ = some (r, σ')) (h : WW Γ cc nL own ret rm σ' pc' lv (.long r :: rest)) : WW Γ cc nL own ret rm σ pc lv (.ref (xd Γ 58) :: rest) :=
  w_callV (nn := 0) (i := 58) (As := []) (v := (some (.long r))) (T := TX12) (N := 32) (c_X12_loopholes hf) hl mw_X12_loopholes (by decide +kernel) ⟨rfl, rfl⟩ hR (lt_lit (by decide)) cel_58 rfl rfl hw hd rfl hp h
/-! WarByHoursModel.closedOf (I)I -/
def rX12_closedOf : Room := { frames := 2, cells := 0, slots := 0, locals := 50 }
def f_X12_closedOf_75 (K4 : Int32 × Int32 × Int32 × St → Option (Int32 × St)) (K37 : Int32 × Int32 × Int32 × Int32 × Int32 × St → Option (Int32 × St)) (v1 : Int32) (v2 : Int32) (v3 : Int32) (v5 : Int32) (k0 : Int32) (σ : St) : Option (Int32 × St) :=
  bnd (v5 + (1 : Int32)) fun x1 =>
  K37 (v1, v2, v3, k0, x1, σ)
theorem b_X12_closedOf_75 {Γ : CX} (K4 : Int32 × Int32 × Int32 × St → Option (Int32 × St)) (K37 : Int32 × Int32 × Int32 × Int32 × Int32 × St → Option (Int32 × St)) (hK4 : ∀ (v1 : Int32) (v2 : Int32) (v3 : Int32) (σ : St), RR vI Γ (K4 (v1, v2, v3, σ)) → WW Γ cX12_closedOf 6 RX12 (some .int) rX12_closedOf σ 4 [(0, .ref (xd Γ 58)), (1, .int v1), (2, .int v2), (3, .int v3)] []) (hK37 : ∀ (v1 : Int32) (v2 : Int32) (v3 : Int32) (v4 : Int32) (v5 : Int32) (σ : St), RR vI Γ (K37 (v1, v2, v3, v4, v5, σ)) → WW Γ cX12_closedOf 6 RX12 (some .int) rX12_closedOf σ 37 [(0, .ref (xd Γ 58)), (1, .int v1), (2, .int v2), (3, .int v3), (4, .int v4), (5, .int v5)] []) (v1 : Int32) (v2 : Int32) (v3 : Int32) (v5 : Int32) (k0 : Int32) (σ : St) (h : RR vI Γ (f_X12_closedOf_75 K4 K37 v1 v2 v3 v5 k0 σ)) : WW Γ cX12_closedOf 6 RX12 (some .int) rX12_closedOf σ 75 [(0, .ref (xd Γ 58)), (1, .int v1), (2, .int v2), (3, .int v3), (5, .int v5)] [.int k0] := by
  unfold f_X12_closedOf_75 at h
  refine w_istore [(4, .int k0), (0, .ref (xd Γ 58)), (1, .int v1), (2, .int v2), (3, .int v3), (5, .int v5)] dX12_closedOf_75 (by decide) rfl rfl ?_
  obtain ⟨x1, ex1⟩ : ∃ y : Int32, y = (v5 + (1 : Int32)) := ⟨_, rfl⟩
  replace h := h.bnd ex1
  refine w_iinc 5 x1 [(5, .int x1), (4, .int k0), (0, .ref (xd Γ 58)), (1, .int v1), (2, .int v2), (3, .int v3)] dX12_closedOf_77 rfl (by rw [ex1, ic_iconst_1]) (by decide) rfl rfl ?_
  clear ex1
  refine w_goto (tgt := 37) dX12_closedOf_80 (by decide) ?_
  exact w_sub [2, 3, 4, 5, 1, 0] rfl (hK37 v1 v2 v3 k0 x1 σ h)
def f_X12_closedOf_70 (K4 : Int32 × Int32 × Int32 × St → Option (Int32 × St)) (K37 : Int32 × Int32 × Int32 × Int32 × Int32 × St → Option (Int32 × St)) (v1 : Int32) (v2 : Int32) (v3 : Int32) (v5 : Int32) (σ : St) : Option (Int32 × St) :=
  f_X12_closedOf_75 K4 K37 v1 v2 v3 v5 (1 : Int32) σ
theorem b_X12_closedOf_70 {Γ : CX} (K4 : Int32 × Int32 × Int32 × St → Option (Int32 × St)) (K37 : Int32 × Int32 × Int32 × Int32 × Int32 × St → Option (Int32 × St)) (hK4 : ∀ (v1 : Int32) (v2 : Int32) (v3 : Int32) (σ : St), RR vI Γ (K4 (v1, v2, v3, σ)) → WW Γ cX12_closedOf 6 RX12 (some .int) rX12_closedOf σ 4 [(0, .ref (xd Γ 58)), (1, .int v1), (2, .int v2), (3, .int v3)] []) (hK37 : ∀ (v1 : Int32) (v2 : Int32) (v3 : Int32) (v4 : Int32) (v5 : Int32) (σ : St), RR vI Γ (K37 (v1, v2, v3, v4, v5, σ)) → WW Γ cX12_closedOf 6 RX12 (some .int) rX12_closedOf σ 37 [(0, .ref (xd Γ 58)), (1, .int v1), (2, .int v2), (3, .int v3), (4, .int v4), (5, .int v5)] []) (v1 : Int32) (v2 : Int32) (v3 : Int32) (v5 : Int32) (σ : St) (h : RR vI Γ (f_X12_closedOf_70 K4 K37 v1 v2 v3 v5 σ)) : WW Γ cX12_closedOf 6 RX12 (some .int) rX12_closedOf σ 70 [(0, .ref (xd Γ 58)), (1, .int v1), (2, .int v2), (3, .int v3), (5, .int v5)] [] := by
  unfold f_X12_closedOf_70 at h
  refine w_iconst (1 : Int32) dX12_closedOf_70 ic_iconst_1 rfl ?_
  refine w_goto (tgt := 75) dX12_closedOf_71 (by decide) ?_
  exact w_sub [0, 1, 2, 3, 4] rfl (b_X12_closedOf_75 K4 K37 hK4 hK37 v1 v2 v3 v5 (1 : Int32) σ h)
def f_X12_closedOf_94 (K4 : Int32 × Int32 × Int32 × St → Option (Int32 × St)) (v1 : Int32) (v2 : Int32) (v3 : Int32) (σ : St) : Option (Int32 × St) :=
  bnd (v3 + (1 : Int32)) fun x1 =>
  K4 (v1, v2, x1, σ)
theorem b_X12_closedOf_94 {Γ : CX} (K4 : Int32 × Int32 × Int32 × St → Option (Int32 × St)) (hK4 : ∀ (v1 : Int32) (v2 : Int32) (v3 : Int32) (σ : St), RR vI Γ (K4 (v1, v2, v3, σ)) → WW Γ cX12_closedOf 6 RX12 (some .int) rX12_closedOf σ 4 [(0, .ref (xd Γ 58)), (1, .int v1), (2, .int v2), (3, .int v3)] []) (v1 : Int32) (v2 : Int32) (v3 : Int32) (σ : St) (h : RR vI Γ (f_X12_closedOf_94 K4 v1 v2 v3 σ)) : WW Γ cX12_closedOf 6 RX12 (some .int) rX12_closedOf σ 94 [(0, .ref (xd Γ 58)), (1, .int v1), (2, .int v2), (3, .int v3)] [] := by
  unfold f_X12_closedOf_94 at h
  obtain ⟨x1, ex1⟩ : ∃ y : Int32, y = (v3 + (1 : Int32)) := ⟨_, rfl⟩
  replace h := h.bnd ex1
  refine w_iinc 3 x1 [(3, .int x1), (0, .ref (xd Γ 58)), (1, .int v1), (2, .int v2)] dX12_closedOf_94 rfl (by rw [ex1, ic_iconst_1]) (by decide) rfl rfl ?_
  clear ex1
  refine w_goto (tgt := 4) dX12_closedOf_97 (by decide) ?_
  exact w_sub [1, 2, 3, 0] rfl (hK4 v1 v2 x1 σ h)
def f_X12_closedOf_93 (K4 : Int32 × Int32 × Int32 × St → Option (Int32 × St)) (v1 : Int32) (v3 : Int32) (k0 : Int32) (σ : St) : Option (Int32 × St) :=
  f_X12_closedOf_94 K4 v1 k0 v3 σ
theorem b_X12_closedOf_93 {Γ : CX} (K4 : Int32 × Int32 × Int32 × St → Option (Int32 × St)) (hK4 : ∀ (v1 : Int32) (v2 : Int32) (v3 : Int32) (σ : St), RR vI Γ (K4 (v1, v2, v3, σ)) → WW Γ cX12_closedOf 6 RX12 (some .int) rX12_closedOf σ 4 [(0, .ref (xd Γ 58)), (1, .int v1), (2, .int v2), (3, .int v3)] []) (v1 : Int32) (v3 : Int32) (k0 : Int32) (σ : St) (h : RR vI Γ (f_X12_closedOf_93 K4 v1 v3 k0 σ)) : WW Γ cX12_closedOf 6 RX12 (some .int) rX12_closedOf σ 93 [(0, .ref (xd Γ 58)), (1, .int v1), (3, .int v3)] [.int k0] := by
  unfold f_X12_closedOf_93 at h
  refine w_istore_n [(2, .int k0), (0, .ref (xd Γ 58)), (1, .int v1), (3, .int v3)] dX12_closedOf_93 rfl (by decide) rfl rfl ?_
  exact w_sub [1, 2, 0, 3] rfl (b_X12_closedOf_94 K4 hK4 v1 k0 v3 σ h)
def f_X12_closedOf_83 (K4 : Int32 × Int32 × Int32 × St → Option (Int32 × St)) (v1 : Int32) (v2 : Int32) (v3 : Int32) (v4 : Int32) (σ : St) : Option (Int32 × St) :=
  if v4 = 0 then
    f_X12_closedOf_93 K4 v1 v3 v2 σ
  else
    f_X12_closedOf_93 K4 v1 v3 v3 σ
theorem b_X12_closedOf_83 {Γ : CX} (K4 : Int32 × Int32 × Int32 × St → Option (Int32 × St)) (hK4 : ∀ (v1 : Int32) (v2 : Int32) (v3 : Int32) (σ : St), RR vI Γ (K4 (v1, v2, v3, σ)) → WW Γ cX12_closedOf 6 RX12 (some .int) rX12_closedOf σ 4 [(0, .ref (xd Γ 58)), (1, .int v1), (2, .int v2), (3, .int v3)] []) (v1 : Int32) (v2 : Int32) (v3 : Int32) (v4 : Int32) (σ : St) (h : RR vI Γ (f_X12_closedOf_83 K4 v1 v2 v3 v4 σ)) : WW Γ cX12_closedOf 6 RX12 (some .int) rX12_closedOf σ 83 [(0, .ref (xd Γ 58)), (1, .int v1), (2, .int v2), (3, .int v3), (4, .int v4)] [] := by
  unfold f_X12_closedOf_83 at h
  refine w_iload 4 dX12_closedOf_83 rfl rfl ?_
  refine w_if_eq (tgt := 92) dX12_closedOf_85 (by decide) rfl (fun q => ?_) (fun q => ?_)
  · have h := h.tt q
    refine w_iload_n 2 dX12_closedOf_92 rfl rfl rfl ?_
    exact w_sub [0, 1, 3] rfl (b_X12_closedOf_93 K4 hK4 v1 v3 v2 σ h)
  · have h := h.ff q
    refine w_iload_n 3 dX12_closedOf_88 rfl rfl rfl ?_
    refine w_goto (tgt := 93) dX12_closedOf_89 (by decide) ?_
    exact w_sub [0, 1, 3] rfl (b_X12_closedOf_93 K4 hK4 v1 v3 v3 σ h)
def g_X12_closedOf_37 (K4 : Int32 × Int32 × Int32 × St → Option (Int32 × St)) (K37 : Int32 × Int32 × Int32 × Int32 × Int32 × St → Option (Int32 × St)) (x : Int32 × Int32 × Int32 × Int32 × Int32 × St) : Option (Int32 × St) := match x with
  | (v1, v2, v3, v4, v5, σ) =>
  bd (f_X12_allReadings σ) fun r1 s2 =>
  if r1 ≤ v5 then
    f_X12_closedOf_83 K4 v1 v2 v3 v4 s2
  else
    if v4 = 0 then
      f_X12_closedOf_83 K4 v1 v2 v3 v4 s2
    else
      if (v3 &&& (v5 ^^^ (-1 : Int32))) = 0 then
        bd (f_X12_holdsBy v1 v5 s2) fun r4 s5 =>
        if r4 = 0 then
          f_X12_closedOf_70 K4 K37 v1 v2 v3 v5 s5
        else
          f_X12_closedOf_75 K4 K37 v1 v2 v3 v5 (0 : Int32) s5
      else
        f_X12_closedOf_70 K4 K37 v1 v2 v3 v5 s2
theorem l_X12_closedOf_37 {Γ : CX} (K4 : Int32 × Int32 × Int32 × St → Option (Int32 × St)) (hK4 : ∀ (v1 : Int32) (v2 : Int32) (v3 : Int32) (σ : St), RR vI Γ (K4 (v1, v2, v3, σ)) → WW Γ cX12_closedOf 6 RX12 (some .int) rX12_closedOf σ 4 [(0, .ref (xd Γ 58)), (1, .int v1), (2, .int v2), (3, .int v3)] []) : ∀ (n : Nat) (v1 : Int32) (v2 : Int32) (v3 : Int32) (v4 : Int32) (v5 : Int32) (σ : St), RR vI Γ (itr (g_X12_closedOf_37 K4) n (v1, v2, v3, v4, v5, σ)) → WW Γ cX12_closedOf 6 RX12 (some .int) rX12_closedOf σ 37 [(0, .ref (xd Γ 58)), (1, .int v1), (2, .int v2), (3, .int v3), (4, .int v4), (5, .int v5)] [] := by
  intro n
  induction n with
  | zero => intro v1 v2 v3 v4 v5 σ h; exact RR.no h
  | succ n hK37 =>
  intro v1 v2 v3 v4 v5 σ h
  have h : RR vI Γ (g_X12_closedOf_37 K4 (itr (g_X12_closedOf_37 K4) n) (v1, v2, v3, v4, v5, σ)) := h
  generalize itr (g_X12_closedOf_37 K4) n = K37 at h hK37
  unfold g_X12_closedOf_37 at h
  dsimp only at h
  refine w_iload 5 dX12_closedOf_37 rfl rfl ?_
  refine w_aload_n 0 dX12_closedOf_39 rfl rfl rfl ?_
  obtain ⟨r1, s2, h3, h⟩ := h.bd
  refine k_X12_allReadings ml_RX12_393 (Nat.le_of_ble_eq_true rfl) ⟨Nat.le_of_ble_eq_true rfl, Nat.le_of_ble_eq_true rfl⟩ dX12_closedOf_40 rfl h3 ?_
  refine w_icmp_ge (tgt := 83) dX12_closedOf_43 (by decide) rfl (fun q => ?_) (fun q => ?_)
  · have h := h.tt q
    exact w_sub [0, 1, 2, 3, 4] rfl (b_X12_closedOf_83 K4 hK4 v1 v2 v3 v4 s2 h)
  · have h := h.ff q
    refine w_iload 4 dX12_closedOf_46 rfl rfl ?_
    refine w_if_eq (tgt := 83) dX12_closedOf_48 (by decide) rfl (fun q => ?_) (fun q => ?_)
    · have h := h.tt q
      exact w_sub [0, 1, 2, 3, 4] rfl (b_X12_closedOf_83 K4 hK4 v1 v2 v3 v4 s2 h)
    · have h := h.ff q
      refine w_iload_n 3 dX12_closedOf_51 rfl rfl rfl ?_
      refine w_iload 5 dX12_closedOf_52 rfl rfl ?_
      refine w_iconst (-1 : Int32) dX12_closedOf_54 ic_iconst_m1 rfl ?_
      refine w_ixor dX12_closedOf_55 rfl ?_
      refine w_iand dX12_closedOf_56 rfl ?_
      refine w_if_ne (tgt := 70) dX12_closedOf_57 (by decide) rfl (fun q => ?_) (fun q => ?_)
      · have h := h.ff q
        exact w_sub [0, 1, 2, 3, 5] rfl (b_X12_closedOf_70 K4 K37 hK4 hK37 v1 v2 v3 v5 s2 h)
      · have h := h.tt q
        refine w_aload_n 0 dX12_closedOf_60 rfl rfl rfl ?_
        refine w_iload_n 1 dX12_closedOf_61 rfl rfl rfl ?_
        refine w_iload 5 dX12_closedOf_62 rfl rfl ?_
        obtain ⟨r4, s5, h6, h⟩ := h.bd
        refine k_X12_holdsBy ml_RX12_396 (Nat.le_of_ble_eq_true rfl) ⟨Nat.le_of_ble_eq_true rfl, Nat.le_of_ble_eq_true rfl⟩ dX12_closedOf_64 rfl h6 ?_
        refine w_if_ne (tgt := 74) dX12_closedOf_67 (by decide) rfl (fun q => ?_) (fun q => ?_)
        · have h := h.ff q
          refine w_iconst (0 : Int32) dX12_closedOf_74 ic_iconst_0 rfl ?_
          exact w_sub [0, 1, 2, 3, 5] rfl (b_X12_closedOf_75 K4 K37 hK4 hK37 v1 v2 v3 v5 (0 : Int32) s5 h)
        · have h := h.tt q
          exact w_sub [0, 1, 2, 3, 5] rfl (b_X12_closedOf_70 K4 K37 hK4 hK37 v1 v2 v3 v5 s5 h)
def f_X12_closedOf_31 (K4 : Int32 × Int32 × Int32 × St → Option (Int32 × St)) (v1 : Int32) (v2 : Int32) (v3 : Int32) (σ : St) : Option (Int32 × St) :=
  itr (g_X12_closedOf_37 K4) FU (v1, v2, v3, (1 : Int32), (0 : Int32), σ)
theorem b_X12_closedOf_31 {Γ : CX} (K4 : Int32 × Int32 × Int32 × St → Option (Int32 × St)) (hK4 : ∀ (v1 : Int32) (v2 : Int32) (v3 : Int32) (σ : St), RR vI Γ (K4 (v1, v2, v3, σ)) → WW Γ cX12_closedOf 6 RX12 (some .int) rX12_closedOf σ 4 [(0, .ref (xd Γ 58)), (1, .int v1), (2, .int v2), (3, .int v3)] []) (v1 : Int32) (v2 : Int32) (v3 : Int32) (σ : St) (h : RR vI Γ (f_X12_closedOf_31 K4 v1 v2 v3 σ)) : WW Γ cX12_closedOf 6 RX12 (some .int) rX12_closedOf σ 31 [(0, .ref (xd Γ 58)), (1, .int v1), (2, .int v2), (3, .int v3)] [] := by
  unfold f_X12_closedOf_31 at h
  refine w_iconst (1 : Int32) dX12_closedOf_31 ic_iconst_1 rfl ?_
  refine w_istore [(4, .int (1 : Int32)), (0, .ref (xd Γ 58)), (1, .int v1), (2, .int v2), (3, .int v3)] dX12_closedOf_32 (by decide) rfl rfl ?_
  refine w_iconst (0 : Int32) dX12_closedOf_34 ic_iconst_0 rfl ?_
  refine w_istore [(5, .int (0 : Int32)), (4, .int (1 : Int32)), (0, .ref (xd Γ 58)), (1, .int v1), (2, .int v2), (3, .int v3)] dX12_closedOf_35 (by decide) rfl rfl ?_
  exact w_sub [2, 3, 4, 5, 1, 0] rfl (l_X12_closedOf_37 K4 hK4 FU v1 v2 v3 (1 : Int32) (0 : Int32) σ h)
def g_X12_closedOf_4 (K4 : Int32 × Int32 × Int32 × St → Option (Int32 × St)) (x : Int32 × Int32 × Int32 × St) : Option (Int32 × St) := match x with
  | (v1, v2, v3, σ) =>
  bd (f_X12_allReadings σ) fun r1 s2 =>
  if r1 ≤ v3 then
    some (v2, s2)
  else
    if v2 = (-1 : Int32) then
      f_X12_closedOf_31 K4 v1 v2 v3 s2
    else
      bd (f_X12_bits v3 s2) fun r4 s5 =>
      bd (f_X12_bits v2 s5) fun r7 s8 =>
      if r4 < r7 then
        f_X12_closedOf_31 K4 v1 v2 v3 s8
      else
        f_X12_closedOf_94 K4 v1 v2 v3 s8
theorem l_X12_closedOf_4 {Γ : CX} : ∀ (n : Nat) (v1 : Int32) (v2 : Int32) (v3 : Int32) (σ : St), RR vI Γ (itr (g_X12_closedOf_4) n (v1, v2, v3, σ)) → WW Γ cX12_closedOf 6 RX12 (some .int) rX12_closedOf σ 4 [(0, .ref (xd Γ 58)), (1, .int v1), (2, .int v2), (3, .int v3)] [] := by
  intro n
  induction n with
  | zero => intro v1 v2 v3 σ h; exact RR.no h
  | succ n hK4 =>
  intro v1 v2 v3 σ h
  have h : RR vI Γ (g_X12_closedOf_4 (itr (g_X12_closedOf_4) n) (v1, v2, v3, σ)) := h
  generalize itr (g_X12_closedOf_4) n = K4 at h hK4
  unfold g_X12_closedOf_4 at h
  dsimp only at h
  refine w_iload_n 3 dX12_closedOf_4 rfl rfl rfl ?_
  refine w_aload_n 0 dX12_closedOf_5 rfl rfl rfl ?_
  obtain ⟨r1, s2, h3, h⟩ := h.bd
  refine k_X12_allReadings ml_RX12_393 (Nat.le_of_ble_eq_true rfl) ⟨Nat.le_of_ble_eq_true rfl, Nat.le_of_ble_eq_true rfl⟩ dX12_closedOf_6 rfl h3 ?_
  refine w_icmp_ge (tgt := 100) dX12_closedOf_9 (by decide) rfl (fun q => ?_) (fun q => ?_)
  · have h := h.tt q
    refine w_iload_n 2 dX12_closedOf_100 rfl rfl rfl ?_
    exact w_ireturn dX12_closedOf_101 h
  · have h := h.ff q
    refine w_iload_n 2 dX12_closedOf_12 rfl rfl rfl ?_
    refine w_iconst (-1 : Int32) dX12_closedOf_13 ic_iconst_m1 rfl ?_
    refine w_icmp_eq (tgt := 31) dX12_closedOf_14 (by decide) rfl (fun q => ?_) (fun q => ?_)
    · have h := h.tt q
      exact w_sub [0, 1, 2, 3] rfl (b_X12_closedOf_31 K4 hK4 v1 v2 v3 s2 h)
    · have h := h.ff q
      refine w_iload_n 3 dX12_closedOf_17 rfl rfl rfl ?_
      obtain ⟨r4, s5, h6, h⟩ := h.bd
      refine k_X12_bits ml_RX12_281 (Nat.le_of_ble_eq_true rfl) ⟨Nat.le_of_ble_eq_true rfl, Nat.le_of_ble_eq_true rfl⟩ dX12_closedOf_18 rfl h6 ?_
      refine w_iload_n 2 dX12_closedOf_21 rfl rfl rfl ?_
      obtain ⟨r7, s8, h9, h⟩ := h.bd
      refine k_X12_bits ml_RX12_281 (Nat.le_of_ble_eq_true rfl) ⟨Nat.le_of_ble_eq_true rfl, Nat.le_of_ble_eq_true rfl⟩ dX12_closedOf_22 rfl h9 ?_
      refine w_icmp_lt (tgt := 31) dX12_closedOf_25 (by decide) rfl (fun q => ?_) (fun q => ?_)
      · have h := h.tt q
        exact w_sub [0, 1, 2, 3] rfl (b_X12_closedOf_31 K4 hK4 v1 v2 v3 s8 h)
      · have h := h.ff q
        refine w_goto (tgt := 94) dX12_closedOf_28 (by decide) ?_
        exact w_sub [0, 1, 2, 3] rfl (b_X12_closedOf_94 K4 hK4 v1 v2 v3 s8 h)
def f_X12_closedOf (p0 : Int32) (σ : St) : Option (Int32 × St) :=
  itr (g_X12_closedOf_4) FU (p0, (-1 : Int32), (0 : Int32), σ)
theorem e_X12_closedOf {Γ : CX} (p0 : Int32) (σ : St) (h : RR vI Γ (f_X12_closedOf p0 σ)) : WW Γ cX12_closedOf 6 RX12 (some .int) rX12_closedOf σ 0 [(0, .ref (xd Γ 58)), (1, .int p0)] [] := by
  unfold f_X12_closedOf at h
  refine w_iconst (-1 : Int32) dX12_closedOf_0 ic_iconst_m1 rfl ?_
  refine w_istore_n [(2, .int (-1 : Int32)), (0, .ref (xd Γ 58)), (1, .int p0)] dX12_closedOf_1 rfl (by decide) rfl rfl ?_
  refine w_iconst (0 : Int32) dX12_closedOf_2 ic_iconst_0 rfl ?_
  refine w_istore_n [(3, .int (0 : Int32)), (2, .int (-1 : Int32)), (0, .ref (xd Γ 58)), (1, .int p0)] dX12_closedOf_3 rfl (by decide) rfl rfl ?_
  exact w_sub [2, 3, 1, 0] rfl (l_X12_closedOf_4 FU p0 (-1 : Int32) (0 : Int32) σ h)
theorem c_X12_closedOf {l : Launch} {D : va_G} {cy : Nat → ClassId} {ad : Nat → Nat} {p0 : Int32} {σ σ' : St} {r : Int32} (hf : f_X12_closedOf p0 σ = some (r, σ')) : CT l D cy ad yX12_closedOf cX12_closedOf 6 (some .int) rX12_closedOf [.ref (ad 58), .int p0] σ (some (.int r)) σ' :=
  ct_of (by decide) (Nat.le_of_ble_eq_true rfl) (fun p e s m args below meth c A => e_X12_closedOf (Γ := (p, l, e, rX12_closedOf, s, m, args, below, meth, c, D, cy, ad, A, 0, 0, MQ below (QC D cy ad (some (.int r)) σ' A) args s 0 0 A)) p0 σ ⟨_, hf, rfl⟩)
theorem k_X12_closedOf {Γ : CX} {cc : ByteArray} {nL : Nat} {own : String} {ret : Option FieldType} {rm : Room} {σ σ' : St} {pc pc' idx : Nat} {lv : List (Nat × Value)} {rest : List Value} {p0 : Int32} {r : Int32} (hl : Cond.methodLink own idx yX12_closedOf ∈ TB) (hw : (rest.map fun v => v.category).sum ≤ 8) (hR : rX12_closedOf.frames + 1 ≤ rm.frames ∧ 8 + (6 + 11) + rX12_closedOf.locals ≤ rm.locals) (hd : decode cc pc = .ok (.invokevirtual idx, 3)) (hp : pc + 3 = pc') (hf : f_X12_closedOf p0 σ = some (r, σ')) (h : WW Γ cc nL own ret rm σ' pc' lv (.int r :: rest)) : WW Γ cc nL own ret rm σ pc lv (.int p0 :: .ref (xd Γ 58) :: rest) :=
  w_callV (nn := 1) (i := 58) (As := [.int p0]) (v := (some (.int r))) (T := TX12) (N := 32) (c_X12_closedOf hf) hl mw_X12_closedOf (by decide +kernel) ⟨rfl, rfl⟩ hR (lt_lit (by decide)) cel_58 rfl rfl hw hd rfl hp h
/-! WarByHoursModel.close (I)I -/
def rX12_close : Room := { frames := 3, cells := 0, slots := 0, locals := 75 }
def f_X12_close_30 (k0 : Int32) (σ : St) : Option (Int32 × St) :=
  some (k0, σ)
theorem b_X12_close_30 {Γ : CX} (k0 : Int32) (σ : St) (h : RR vI Γ (f_X12_close_30 k0 σ)) : WW Γ cX12_close 3 RX12 (some .int) rX12_close σ 30 [] [.int k0] := by
  unfold f_X12_close_30 at h
  exact w_ireturn dX12_close_30 h
def f_X12_close (p0 : Int32) (σ : St) : Option (Int32 × St) :=
  bd (f_X12_isSigned p0 σ) fun r1 s2 =>
  if r1 = 0 then
    some ((-2 : Int32), s2)
  else
    bd (f_X12_closedOf p0 s2) fun r4 s5 =>
    if r4 = (-1 : Int32) then
      f_X12_close_30 (-1 : Int32) s5
    else
      bd (f_X12_bits r4 s5) fun r7 s8 =>
      f_X12_close_30 r7 s8
theorem e_X12_close {Γ : CX} (p0 : Int32) (σ : St) (h : RR vI Γ (f_X12_close p0 σ)) : WW Γ cX12_close 3 RX12 (some .int) rX12_close σ 0 [(0, .ref (xd Γ 58)), (1, .int p0)] [] := by
  unfold f_X12_close at h
  refine w_aload_n 0 dX12_close_0 rfl rfl rfl ?_
  refine w_iload_n 1 dX12_close_1 rfl rfl rfl ?_
  obtain ⟨r1, s2, h3, h⟩ := h.bd
  refine k_X12_isSigned ml_RX12_401 (Nat.le_of_ble_eq_true rfl) ⟨Nat.le_of_ble_eq_true rfl, Nat.le_of_ble_eq_true rfl⟩ dX12_close_2 rfl h3 ?_
  refine w_if_ne (tgt := 11) dX12_close_5 (by decide) rfl (fun q => ?_) (fun q => ?_)
  · have h := h.ff q
    refine w_aload_n 0 dX12_close_11 rfl rfl rfl ?_
    refine w_iload_n 1 dX12_close_12 rfl rfl rfl ?_
    obtain ⟨r4, s5, h6, h⟩ := h.bd
    refine k_X12_closedOf ml_RX12_407 (Nat.le_of_ble_eq_true rfl) ⟨Nat.le_of_ble_eq_true rfl, Nat.le_of_ble_eq_true rfl⟩ dX12_close_13 rfl h6 ?_
    refine w_istore_n [(2, .int r4), (0, .ref (xd Γ 58)), (1, .int p0)] dX12_close_16 rfl (by decide) rfl rfl ?_
    refine w_iload_n 0 dX12_close_17 rfl rfl rfl ?_
    refine w_iconst (-1 : Int32) dX12_close_18 ic_iconst_m1 rfl ?_
    refine w_icmp_ne (tgt := 26) dX12_close_19 (by decide) rfl (fun q => ?_) (fun q => ?_)
    · have h := h.ff q
      refine w_iload_n 0 dX12_close_26 rfl rfl rfl ?_
      obtain ⟨r7, s8, h9, h⟩ := h.bd
      refine k_X12_bits ml_RX12_281 (Nat.le_of_ble_eq_true rfl) ⟨Nat.le_of_ble_eq_true rfl, Nat.le_of_ble_eq_true rfl⟩ dX12_close_27 rfl h9 ?_
      exact w_sub [] rfl (b_X12_close_30 r7 s8 h)
    · have h := h.tt q
      refine w_iconst (-1 : Int32) dX12_close_22 ic_iconst_m1 rfl ?_
      refine w_goto (tgt := 30) dX12_close_23 (by decide) ?_
      exact w_sub [] rfl (b_X12_close_30 (-1 : Int32) s5 h)
  · have h := h.tt q
    refine w_bipush (-2 : Int32) dX12_close_8 ic_bipush_m2 rfl ?_
    exact w_ireturn dX12_close_10 h
theorem c_X12_close {l : Launch} {D : va_G} {cy : Nat → ClassId} {ad : Nat → Nat} {p0 : Int32} {σ σ' : St} {r : Int32} (hf : f_X12_close p0 σ = some (r, σ')) : CT l D cy ad yX12_close cX12_close 3 (some .int) rX12_close [.ref (ad 58), .int p0] σ (some (.int r)) σ' :=
  ct_of (by decide) (Nat.le_of_ble_eq_true rfl) (fun p e s m args below meth c A => e_X12_close (Γ := (p, l, e, rX12_close, s, m, args, below, meth, c, D, cy, ad, A, 0, 0, MQ below (QC D cy ad (some (.int r)) σ' A) args s 0 0 A)) p0 σ ⟨_, hf, rfl⟩)
theorem k_X12_close {Γ : CX} {cc : ByteArray} {nL : Nat} {own : String} {ret : Option FieldType} {rm : Room} {σ σ' : St} {pc pc' idx : Nat} {lv : List (Nat × Value)} {rest : List Value} {p0 : Int32} {r : Int32} (hl : Cond.methodLink own idx yX12_close ∈ TB) (hw : (rest.map fun v => v.category).sum ≤ 8) (hR : rX12_close.frames + 1 ≤ rm.frames ∧ 8 + (3 + 11) + rX12_close.locals ≤ rm.locals) (hd : decode cc pc = .ok (.invokevirtual idx, 3)) (hp : pc + 3 = pc') (hf : f_X12_close p0 σ = some (r, σ')) (h : WW Γ cc nL own ret rm σ' pc' lv (.int r :: rest)) : WW Γ cc nL own ret rm σ pc lv (.int p0 :: .ref (xd Γ 58) :: rest) :=
  w_callV (nn := 1) (i := 58) (As := [.int p0]) (v := (some (.int r))) (T := TX12) (N := 32) (c_X12_close hf) hl mw_X12_close (by decide +kernel) ⟨rfl, rfl⟩ hR (lt_lit (by decide)) cel_58 rfl rfl hw hd rfl hp h
/-! WarByHoursModel.closed (I)I -/
def rX12_closed : Room := { frames := 3, cells := 0, slots := 0, locals := 75 }
def f_X12_closed_18 (k0 : Int32) (σ : St) : Option (Int32 × St) :=
  some (k0, σ)
theorem b_X12_closed_18 {Γ : CX} (k0 : Int32) (σ : St) (h : RR vI Γ (f_X12_closed_18 k0 σ)) : WW Γ cX12_closed 2 RX12 (some .int) rX12_closed σ 18 [] [.int k0] := by
  unfold f_X12_closed_18 at h
  exact w_ireturn dX12_closed_18 h
def f_X12_closed (p0 : Int32) (σ : St) : Option (Int32 × St) :=
  bd (f_X12_isSigned p0 σ) fun r1 s2 =>
  if r1 = 0 then
    f_X12_closed_18 (-2 : Int32) s2
  else
    bd (f_X12_closedOf p0 s2) fun r4 s5 =>
    f_X12_closed_18 r4 s5
theorem e_X12_closed {Γ : CX} (p0 : Int32) (σ : St) (h : RR vI Γ (f_X12_closed p0 σ)) : WW Γ cX12_closed 2 RX12 (some .int) rX12_closed σ 0 [(0, .ref (xd Γ 58)), (1, .int p0)] [] := by
  unfold f_X12_closed at h
  refine w_aload_n 0 dX12_closed_0 rfl rfl rfl ?_
  refine w_iload_n 1 dX12_closed_1 rfl rfl rfl ?_
  obtain ⟨r1, s2, h3, h⟩ := h.bd
  refine k_X12_isSigned ml_RX12_401 (Nat.le_of_ble_eq_true rfl) ⟨Nat.le_of_ble_eq_true rfl, Nat.le_of_ble_eq_true rfl⟩ dX12_closed_2 rfl h3 ?_
  refine w_if_eq (tgt := 16) dX12_closed_5 (by decide) rfl (fun q => ?_) (fun q => ?_)
  · have h := h.tt q
    refine w_bipush (-2 : Int32) dX12_closed_16 ic_bipush_m2 rfl ?_
    exact w_sub [] rfl (b_X12_closed_18 (-2 : Int32) s2 h)
  · have h := h.ff q
    refine w_aload_n 0 dX12_closed_8 rfl rfl rfl ?_
    refine w_iload_n 1 dX12_closed_9 rfl rfl rfl ?_
    obtain ⟨r4, s5, h6, h⟩ := h.bd
    refine k_X12_closedOf ml_RX12_407 (Nat.le_of_ble_eq_true rfl) ⟨Nat.le_of_ble_eq_true rfl, Nat.le_of_ble_eq_true rfl⟩ dX12_closed_10 rfl h6 ?_
    refine w_goto (tgt := 18) dX12_closed_13 (by decide) ?_
    exact w_sub [] rfl (b_X12_closed_18 r4 s5 h)
theorem c_X12_closed {l : Launch} {D : va_G} {cy : Nat → ClassId} {ad : Nat → Nat} {p0 : Int32} {σ σ' : St} {r : Int32} (hf : f_X12_closed p0 σ = some (r, σ')) : CT l D cy ad yX12_closed cX12_closed 2 (some .int) rX12_closed [.ref (ad 58), .int p0] σ (some (.int r)) σ' :=
  ct_of (by decide) (Nat.le_of_ble_eq_true rfl) (fun p e s m args below meth c A => e_X12_closed (Γ := (p, l, e, rX12_closed, s, m, args, below, meth, c, D, cy, ad, A, 0, 0, MQ below (QC D cy ad (some (.int r)) σ' A) args s 0 0 A)) p0 σ ⟨_, hf, rfl⟩)
theorem k_X12_closed {Γ : CX} {cc : ByteArray} {nL : Nat} {own : String} {ret : Option FieldType} {rm : Room} {σ σ' : St} {pc pc' idx : Nat} {lv : List (Nat × Value)} {rest : List Value} {p0 : Int32} {r : Int32} (hl : Cond.methodLink own idx yX12_closed ∈ TB) (hw : (rest.map fun v => v.category).sum ≤ 8) (hR : rX12_closed.frames + 1 ≤ rm.frames ∧ 8 + (2 + 11) + rX12_closed.locals ≤ rm.locals) (hd : decode cc pc = .ok (.invokevirtual idx, 3)) (hp : pc + 3 = pc') (hf : f_X12_closed p0 σ = some (r, σ')) (h : WW Γ cc nL own ret rm σ' pc' lv (.int r :: rest)) : WW Γ cc nL own ret rm σ pc lv (.int p0 :: .ref (xd Γ 58) :: rest) :=
  w_callV (nn := 1) (i := 58) (As := [.int p0]) (v := (some (.int r))) (T := TX12) (N := 32) (c_X12_closed hf) hl mw_X12_closed (by decide +kernel) ⟨rfl, rfl⟩ hR (lt_lit (by decide)) cel_58 rfl rfl hw hd rfl hp h
/-! WarByHoursModel.signs ()I -/
def rX12_signs : Room := { frames := 3, cells := 0, slots := 0, locals := 73 }
def g_X12_signs_12 (K12 : Int32 × St → Option (Int32 × St)) (x : Int32 × St) : Option (Int32 × St) := match x with
  | (v1, σ) =>
  if (60 : Int32) ≤ v1 then
    some ((-1 : Int32), σ)
  else
    bd (f_X12_readingsOf v1 σ) fun r1 s2 =>
    bd (f_X12_allReadings s2) fun r4 s5 =>
    if r1 = r4 then
      some (v1, s5)
    else
      bnd (v1 + (1 : Int32)) fun x7 =>
      K12 (x7, s5)
theorem l_X12_signs_12 {Γ : CX} : ∀ (n : Nat) (v1 : Int32) (σ : St), RR vI Γ (itr (g_X12_signs_12) n (v1, σ)) → WW Γ cX12_signs 2 RX12 (some .int) rX12_signs σ 12 [(0, .ref (xd Γ 58)), (1, .int v1)] [] := by
  intro n
  induction n with
  | zero => intro v1 σ h; exact RR.no h
  | succ n hK12 =>
  intro v1 σ h
  have h : RR vI Γ (g_X12_signs_12 (itr (g_X12_signs_12) n) (v1, σ)) := h
  generalize itr (g_X12_signs_12) n = K12 at h hK12
  unfold g_X12_signs_12 at h
  dsimp only at h
  refine w_iload_n 1 dX12_signs_12 rfl rfl rfl ?_
  refine w_bipush (60 : Int32) dX12_signs_13 ic_bipush_60 rfl ?_
  refine w_icmp_ge (tgt := 38) dX12_signs_15 (by decide) rfl (fun q => ?_) (fun q => ?_)
  · have h := h.tt q
    refine w_iconst (-1 : Int32) dX12_signs_38 ic_iconst_m1 rfl ?_
    exact w_ireturn dX12_signs_39 h
  · have h := h.ff q
    refine w_aload_n 0 dX12_signs_18 rfl rfl rfl ?_
    refine w_iload_n 1 dX12_signs_19 rfl rfl rfl ?_
    obtain ⟨r1, s2, h3, h⟩ := h.bd
    refine k_X12_readingsOf ml_RX12_404 (Nat.le_of_ble_eq_true rfl) ⟨Nat.le_of_ble_eq_true rfl, Nat.le_of_ble_eq_true rfl⟩ dX12_signs_20 rfl h3 ?_
    refine w_aload_n 0 dX12_signs_23 rfl rfl rfl ?_
    obtain ⟨r4, s5, h6, h⟩ := h.bd
    refine k_X12_allReadings ml_RX12_393 (Nat.le_of_ble_eq_true rfl) ⟨Nat.le_of_ble_eq_true rfl, Nat.le_of_ble_eq_true rfl⟩ dX12_signs_24 rfl h6 ?_
    refine w_icmp_ne (tgt := 32) dX12_signs_27 (by decide) rfl (fun q => ?_) (fun q => ?_)
    · have h := h.ff q
      obtain ⟨x7, ex7⟩ : ∃ y : Int32, y = (v1 + (1 : Int32)) := ⟨_, rfl⟩
      replace h := h.bnd ex7
      refine w_iinc 1 x7 [(1, .int x7), (0, .ref (xd Γ 58))] dX12_signs_32 rfl (by rw [ex7, ic_iconst_1]) (by decide) rfl rfl ?_
      clear ex7
      refine w_goto (tgt := 12) dX12_signs_35 (by decide) ?_
      exact w_sub [1, 0] rfl (hK12 x7 s5 h)
    · have h := h.tt q
      refine w_iload_n 1 dX12_signs_30 rfl rfl rfl ?_
      exact w_ireturn dX12_signs_31 h
def f_X12_signs (σ : St) : Option (Int32 × St) :=
  bd (f_X12_isWar σ) fun r1 s2 =>
  if r1 = 0 then
    some ((-2 : Int32), s2)
  else
    itr (g_X12_signs_12) FU ((0 : Int32), s2)
theorem e_X12_signs {Γ : CX} (σ : St) (h : RR vI Γ (f_X12_signs σ)) : WW Γ cX12_signs 2 RX12 (some .int) rX12_signs σ 0 [(0, .ref (xd Γ 58))] [] := by
  unfold f_X12_signs at h
  refine w_aload_n 0 dX12_signs_0 rfl rfl rfl ?_
  obtain ⟨r1, s2, h3, h⟩ := h.bd
  refine k_X12_isWar ml_RX12_74 (Nat.le_of_ble_eq_true rfl) ⟨Nat.le_of_ble_eq_true rfl, Nat.le_of_ble_eq_true rfl⟩ dX12_signs_1 rfl h3 ?_
  refine w_if_ne (tgt := 10) dX12_signs_4 (by decide) rfl (fun q => ?_) (fun q => ?_)
  · have h := h.ff q
    refine w_iconst (0 : Int32) dX12_signs_10 ic_iconst_0 rfl ?_
    refine w_istore_n [(1, .int (0 : Int32)), (0, .ref (xd Γ 58))] dX12_signs_11 rfl (by decide) rfl rfl ?_
    exact w_sub [1, 0] rfl (l_X12_signs_12 FU (0 : Int32) s2 h)
  · have h := h.tt q
    refine w_bipush (-2 : Int32) dX12_signs_7 ic_bipush_m2 rfl ?_
    exact w_ireturn dX12_signs_9 h
theorem c_X12_signs {l : Launch} {D : va_G} {cy : Nat → ClassId} {ad : Nat → Nat}  {σ σ' : St} {r : Int32} (hf : f_X12_signs σ = some (r, σ')) : CT l D cy ad yX12_signs cX12_signs 2 (some .int) rX12_signs [.ref (ad 58)] σ (some (.int r)) σ' :=
  ct_of (by decide) (Nat.le_of_ble_eq_true rfl) (fun p e s m args below meth c A => e_X12_signs (Γ := (p, l, e, rX12_signs, s, m, args, below, meth, c, D, cy, ad, A, 0, 0, MQ below (QC D cy ad (some (.int r)) σ' A) args s 0 0 A)) σ ⟨_, hf, rfl⟩)
theorem k_X12_signs {Γ : CX} {cc : ByteArray} {nL : Nat} {own : String} {ret : Option FieldType} {rm : Room} {σ σ' : St} {pc pc' idx : Nat} {lv : List (Nat × Value)} {rest : List Value}  {r : Int32} (hl : Cond.methodLink own idx yX12_signs ∈ TB) (hw : (rest.map fun v => v.category).sum ≤ 8) (hR : rX12_signs.frames + 1 ≤ rm.frames ∧ 8 + (2 + 11) + rX12_signs.locals ≤ rm.locals) (hd : decode cc pc = .ok (.invokevirtual idx, 3)) (hp : pc + 3 = pc') (hf : f_X12_signs σ = some (r, σ')) (h : WW Γ cc nL own ret rm σ' pc' lv (.int r :: rest)) : WW Γ cc nL own ret rm σ pc lv (.ref (xd Γ 58) :: rest) :=
  w_callV (nn := 0) (i := 58) (As := []) (v := (some (.int r))) (T := TX12) (N := 32) (c_X12_signs hf) hl mw_X12_signs (by decide +kernel) ⟨rfl, rfl⟩ hR (lt_lit (by decide)) cel_58 rfl rfl hw hd rfl hp h
/-! WarByHoursModel.isTreaty (II)Z -/
def rX12_isTreaty : Room := { frames := 1, cells := 0, slots := 0, locals := 23 }
def g_X12_isTreaty_4 (K4 : Int32 × Int32 × Int32 × St → Option (Int32 × St)) (x : Int32 × Int32 × Int32 × St) : Option (Int32 × St) := match x with
  | (v1, v2, v3, σ) =>
  gd (inb (0 : Int32) (ln 59)) <|
  if (gr σ 59 (0 : Int32).toNatClampNeg) < v3 then
    gd (bz (1 : Int32)) <| some ((1 : Int32), σ)
  else
    gd (inb v3 (ln 65)) <|
    gd (inb v1 (ln 65)) <|
    if (if 0 ≤ ((gr σ 65 v3.toNatClampNeg) - (gr σ 65 v1.toNatClampNeg)) then ((gr σ 65 v3.toNatClampNeg) - (gr σ 65 v1.toNatClampNeg)) else 0 - ((gr σ 65 v3.toNatClampNeg) - (gr σ 65 v1.toNatClampNeg))) ≤ v2 then
      bnd (v3 + (1 : Int32)) fun x4 =>
      K4 (v1, v2, x4, σ)
    else
      gd (bz (0 : Int32)) <| some ((0 : Int32), σ)
theorem l_X12_isTreaty_4 {Γ : CX} : ∀ (n : Nat) (v1 : Int32) (v2 : Int32) (v3 : Int32) (σ : St), RR vI Γ (itr (g_X12_isTreaty_4) n (v1, v2, v3, σ)) → WW Γ cX12_isTreaty 4 RX12 (some .boolean) rX12_isTreaty σ 4 [(0, .ref (xd Γ 58)), (1, .int v1), (2, .int v2), (3, .int v3)] [] := by
  intro n
  induction n with
  | zero => intro v1 v2 v3 σ h; exact RR.no h
  | succ n hK4 =>
  intro v1 v2 v3 σ h
  have h : RR vI Γ (g_X12_isTreaty_4 (itr (g_X12_isTreaty_4) n) (v1, v2, v3, σ)) := h
  generalize itr (g_X12_isTreaty_4) n = K4 at h hK4
  unfold g_X12_isTreaty_4 at h
  dsimp only at h
  refine w_iload_n 3 dX12_isTreaty_4 rfl rfl rfl ?_
  refine w_aload_n 0 dX12_isTreaty_5 rfl rfl rfl ?_
  refine gf_RX12_9 dX12_isTreaty_6 rfl ?_
  refine w_iconst (0 : Int32) dX12_isTreaty_9 ic_iconst_0 rfl ?_
  obtain ⟨hi1, h⟩ := h.gd
  refine w_iald (i := 59) (lt_lit (by decide)) rfl hi1 dX12_isTreaty_10 rfl ?_
  refine w_icmp_gt (tgt := 42) dX12_isTreaty_11 (by decide) rfl (fun q => ?_) (fun q => ?_)
  · have h := h.tt q
    refine w_iconst (1 : Int32) dX12_isTreaty_42 ic_iconst_1 rfl ?_
    obtain ⟨hb, h⟩ := h.gd
    exact w_zreturn dX12_isTreaty_43 hb h
  · have h := h.ff q
    refine w_aload_n 0 dX12_isTreaty_14 rfl rfl rfl ?_
    refine gf_RX12_34 dX12_isTreaty_15 rfl ?_
    refine w_iload_n 3 dX12_isTreaty_18 rfl rfl rfl ?_
    obtain ⟨hi2, h⟩ := h.gd
    refine w_iald (i := 65) (lt_lit (by decide)) rfl hi2 dX12_isTreaty_19 rfl ?_
    refine w_aload_n 0 dX12_isTreaty_20 rfl rfl rfl ?_
    refine gf_RX12_34 dX12_isTreaty_21 rfl ?_
    refine w_iload_n 1 dX12_isTreaty_24 rfl rfl rfl ?_
    obtain ⟨hi3, h⟩ := h.gd
    refine w_iald (i := 65) (lt_lit (by decide)) rfl hi3 dX12_isTreaty_25 rfl ?_
    refine w_isub dX12_isTreaty_26 rfl ?_
    refine w_mabs ml_RX12_410 (Nat.le_of_ble_eq_true rfl) ⟨Nat.le_of_ble_eq_true rfl, Nat.le_of_ble_eq_true rfl⟩ dX12_isTreaty_27 rfl ?_
    refine w_iload_n 2 dX12_isTreaty_30 rfl rfl rfl ?_
    refine w_icmp_le (tgt := 36) dX12_isTreaty_31 (by decide) rfl (fun q => ?_) (fun q => ?_)
    · have h := h.tt q
      obtain ⟨x4, ex4⟩ : ∃ y : Int32, y = (v3 + (1 : Int32)) := ⟨_, rfl⟩
      replace h := h.bnd ex4
      refine w_iinc 3 x4 [(3, .int x4), (0, .ref (xd Γ 58)), (1, .int v1), (2, .int v2)] dX12_isTreaty_36 rfl (by rw [ex4, ic_iconst_1]) (by decide) rfl rfl ?_
      clear ex4
      refine w_goto (tgt := 4) dX12_isTreaty_39 (by decide) ?_
      exact w_sub [1, 2, 3, 0] rfl (hK4 v1 v2 x4 σ h)
    · have h := h.ff q
      refine w_iconst (0 : Int32) dX12_isTreaty_34 ic_iconst_0 rfl ?_
      obtain ⟨hb, h⟩ := h.gd
      exact w_zreturn dX12_isTreaty_35 hb h
def f_X12_isTreaty (p0 : Int32) (p1 : Int32) (σ : St) : Option (Int32 × St) :=
  bnd ((p0 + (1 : Int32))) fun x1 =>
  itr (g_X12_isTreaty_4) FU (p0, p1, x1, σ)
theorem e_X12_isTreaty {Γ : CX} (p0 : Int32) (p1 : Int32) (σ : St) (h : RR vI Γ (f_X12_isTreaty p0 p1 σ)) : WW Γ cX12_isTreaty 4 RX12 (some .boolean) rX12_isTreaty σ 0 [(0, .ref (xd Γ 58)), (1, .int p0), (2, .int p1)] [] := by
  unfold f_X12_isTreaty at h
  refine w_iload_n 1 dX12_isTreaty_0 rfl rfl rfl ?_
  refine w_iconst (1 : Int32) dX12_isTreaty_1 ic_iconst_1 rfl ?_
  refine w_iadd dX12_isTreaty_2 rfl ?_
  refine w_nmI (fun x1 ex1 => ?_)
  replace h := h.bnd ex1
  clear ex1
  refine w_istore_n [(3, .int x1), (0, .ref (xd Γ 58)), (1, .int p0), (2, .int p1)] dX12_isTreaty_3 rfl (by decide) rfl rfl ?_
  exact w_sub [1, 2, 3, 0] rfl (l_X12_isTreaty_4 FU p0 p1 x1 σ h)
theorem c_X12_isTreaty {l : Launch} {D : va_G} {cy : Nat → ClassId} {ad : Nat → Nat} {p0 : Int32} {p1 : Int32} {σ σ' : St} {r : Int32} (hf : f_X12_isTreaty p0 p1 σ = some (r, σ')) : CT l D cy ad yX12_isTreaty cX12_isTreaty 4 (some .boolean) rX12_isTreaty [.ref (ad 58), .int p0, .int p1] σ (some (.int r)) σ' :=
  ct_of (by decide) (Nat.le_of_ble_eq_true rfl) (fun p e s m args below meth c A => e_X12_isTreaty (Γ := (p, l, e, rX12_isTreaty, s, m, args, below, meth, c, D, cy, ad, A, 0, 0, MQ below (QC D cy ad (some (.int r)) σ' A) args s 0 0 A)) p0 p1 σ ⟨_, hf, rfl⟩)
theorem k_X12_isTreaty {Γ : CX} {cc : ByteArray} {nL : Nat} {own : String} {ret : Option FieldType} {rm : Room} {σ σ' : St} {pc pc' idx : Nat} {lv : List (Nat × Value)} {rest : List Value} {p0 : Int32} {p1 : Int32} {r : Int32} (hl : Cond.methodLink own idx yX12_isTreaty ∈ TB) (hw : (rest.map fun v => v.category).sum ≤ 8) (hR : rX12_isTreaty.frames + 1 ≤ rm.frames ∧ 8 + (4 + 11) + rX12_isTreaty.locals ≤ rm.locals) (hd : decode cc pc = .ok (.invokevirtual idx, 3)) (hp : pc + 3 = pc') (hf : f_X12_isTreaty p0 p1 σ = some (r, σ')) (h : WW Γ cc nL own ret rm σ' pc' lv (.int r :: rest)) : WW Γ cc nL own ret rm σ pc lv (.int p1 :: .int p0 :: .ref (xd Γ 58) :: rest) :=
  w_callV (nn := 2) (i := 58) (As := [.int p0, .int p1]) (v := (some (.int r))) (T := TX12) (N := 32) (c_X12_isTreaty hf) hl mw_X12_isTreaty (by decide +kernel) ⟨rfl, rfl⟩ hR (lt_lit (by decide)) cel_58 rfl rfl hw hd rfl hp h
