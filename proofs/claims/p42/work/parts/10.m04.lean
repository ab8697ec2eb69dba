/-! WarByHours.Fares.mayBeLate (I)V -/
def rX3_mayBeLate : Room := { frames := 2, cells := 0, slots := 0, locals := 45 }
def f_X3_mayBeLate_94 (K42 : Int32 × Int32 × Int32 × St → Option (Unit × St)) (v2 : Int32) (v3 : Int32) (v4 : Int32) (σ : St) : Option (Unit × St) :=
  bnd (v4 + (1 : Int32)) fun x1 =>
  K42 (v2, v3, x1, σ)
theorem b_X3_mayBeLate_94 {Γ : CX} (K42 : Int32 × Int32 × Int32 × St → Option (Unit × St)) (hK42 : ∀ (v2 : Int32) (v3 : Int32) (v4 : Int32) (σ : St), RR vU Γ (K42 (v2, v3, v4, σ)) → WW Γ cX3_mayBeLate 5 RX3 none rX3_mayBeLate σ 42 [(0, .ref (xd Γ 36)), (2, .int v2), (3, .int v3), (4, .int v4)] []) (v2 : Int32) (v3 : Int32) (v4 : Int32) (σ : St) (h : RR vU Γ (f_X3_mayBeLate_94 K42 v2 v3 v4 σ)) : WW Γ cX3_mayBeLate 5 RX3 none rX3_mayBeLate σ 94 [(0, .ref (xd Γ 36)), (2, .int v2), (3, .int v3), (4, .int v4)] [] := by
  unfold f_X3_mayBeLate_94 at h
  obtain ⟨x1, ex1⟩ : ∃ y : Int32, y = (v4 + (1 : Int32)) := ⟨_, rfl⟩
  replace h := h.bnd ex1
  refine w_iinc 3 x1 [(4, .int x1), (0, .ref (xd Γ 36)), (2, .int v2), (3, .int v3)] dX3_mayBeLate_94 rfl (by rw [ex1, ic_iconst_1]) (by decide) rfl rfl ?_
  clear ex1
  refine w_goto (tgt := 42) dX3_mayBeLate_97 (by decide) ?_
  exact w_sub [1, 2, 3, 0] rfl (hK42 v2 v3 x1 σ h)
def g_X3_mayBeLate_42 (K42 : Int32 × Int32 × Int32 × St → Option (Unit × St)) (x : Int32 × Int32 × Int32 × St) : Option (Unit × St) := match x with
  | (v2, v3, v4, σ) =>
  bd (f_X10_sets 1 σ) fun r1 s2 =>
  if r1 ≤ v4 then
    some ((), s2)
  else
    if (v4 &&& v2) = 0 then
      f_X3_mayBeLate_94 K42 v2 v3 v4 s2
    else
      gd (inb v4 (ln 39)) <|
      gd (inb (v4 ^^^ v2) (ln 39)) <|
      gd (inb v4 (ln 39)) <|
      bnd (sj s2 39 v4.toNatClampNeg ((((100 : Int32) - v3).toInt64 * (gj s2 39 v4.toNatClampNeg)) + (v3.toInt64 * (gj s2 39 (v4 ^^^ v2).toNatClampNeg)))) fun s7 =>
      f_X3_mayBeLate_94 K42 v2 v3 v4 s7
theorem l_X3_mayBeLate_42 {Γ : CX} : ∀ (n : Nat) (v2 : Int32) (v3 : Int32) (v4 : Int32) (σ : St), RR vU Γ (itr (g_X3_mayBeLate_42) n (v2, v3, v4, σ)) → WW Γ cX3_mayBeLate 5 RX3 none rX3_mayBeLate σ 42 [(0, .ref (xd Γ 36)), (2, .int v2), (3, .int v3), (4, .int v4)] [] := by
  intro n
  induction n with
  | zero => intro v2 v3 v4 σ h; exact RR.no h
  | succ n hK42 =>
  intro v2 v3 v4 σ h
  have h : RR vU Γ (g_X3_mayBeLate_42 (itr (g_X3_mayBeLate_42) n) (v2, v3, v4, σ)) := h
  generalize itr (g_X3_mayBeLate_42) n = K42 at h hK42
  unfold g_X3_mayBeLate_42 at h
  dsimp only at h
  refine w_iload 3 dX3_mayBeLate_42 rfl rfl ?_
  refine w_aload_n 0 dX3_mayBeLate_44 rfl rfl rfl ?_
  refine gf_RX3_32 dX3_mayBeLate_45 rfl ?_
  obtain ⟨r1, s2, h3, h⟩ := h.bd
  refine k_X10_sets ml_RX3_58 (Nat.le_of_ble_eq_true rfl) ⟨Nat.le_of_ble_eq_true rfl, Nat.le_of_ble_eq_true rfl⟩ dX3_mayBeLate_48 rfl h3 ?_
  refine w_icmp_ge (tgt := 100) dX3_mayBeLate_51 (by decide) rfl (fun q => ?_) (fun q => ?_)
  · have h := h.tt q
    exact w_return dX3_mayBeLate_100 h
  · have h := h.ff q
    refine w_iload 3 dX3_mayBeLate_54 rfl rfl ?_
    refine w_iload_n 1 dX3_mayBeLate_56 rfl rfl rfl ?_
    refine w_iand dX3_mayBeLate_57 rfl ?_
    refine w_if_eq (tgt := 94) dX3_mayBeLate_58 (by decide) rfl (fun q => ?_) (fun q => ?_)
    · have h := h.tt q
      exact w_sub [0, 1, 2, 3] rfl (b_X3_mayBeLate_94 K42 hK42 v2 v3 v4 s2 h)
    · have h := h.ff q
      refine w_aload_n 0 dX3_mayBeLate_61 rfl rfl rfl ?_
      refine gf_RX3_18 dX3_mayBeLate_62 rfl ?_
      refine w_iload 3 dX3_mayBeLate_65 rfl rfl ?_
      refine w_bipush (100 : Int32) dX3_mayBeLate_67 ic_bipush_100 rfl ?_
      refine w_iload_n 2 dX3_mayBeLate_69 rfl rfl rfl ?_
      refine w_isub dX3_mayBeLate_70 rfl ?_
      refine w_i2l dX3_mayBeLate_71 rfl ?_
      refine w_aload_n 0 dX3_mayBeLate_72 rfl rfl rfl ?_
      refine gf_RX3_18 dX3_mayBeLate_73 rfl ?_
      refine w_iload 3 dX3_mayBeLate_76 rfl rfl ?_
      obtain ⟨hi4, h⟩ := h.gd
      refine w_lald (i := 39) (lt_lit (by decide)) rfl hi4 dX3_mayBeLate_78 rfl ?_
      refine w_lmul dX3_mayBeLate_79 rfl ?_
      refine w_iload_n 2 dX3_mayBeLate_80 rfl rfl rfl ?_
      refine w_i2l dX3_mayBeLate_81 rfl ?_
      refine w_aload_n 0 dX3_mayBeLate_82 rfl rfl rfl ?_
      refine gf_RX3_18 dX3_mayBeLate_83 rfl ?_
      refine w_iload 3 dX3_mayBeLate_86 rfl rfl ?_
      refine w_iload_n 1 dX3_mayBeLate_88 rfl rfl rfl ?_
      refine w_ixor dX3_mayBeLate_89 rfl ?_
      obtain ⟨hi5, h⟩ := h.gd
      refine w_lald (i := 39) (lt_lit (by decide)) rfl hi5 dX3_mayBeLate_90 rfl ?_
      refine w_lmul dX3_mayBeLate_91 rfl ?_
      refine w_ladd dX3_mayBeLate_92 rfl ?_
      obtain ⟨hi6, h⟩ := h.gd
      refine w_last (i := 39) (lt_lit (by decide)) rfl hi6 dX3_mayBeLate_93 rfl ?_
      obtain ⟨s7, es7⟩ : ∃ y : St, y = (sj s2 39 v4.toNatClampNeg ((((100 : Int32) - v3).toInt64 * (gj s2 39 v4.toNatClampNeg)) + (v3.toInt64 * (gj s2 39 (v4 ^^^ v2).toNatClampNeg)))) := ⟨_, rfl⟩
      rw [← es7]
      replace h := h.bnd es7
      clear es7
      exact w_sub [0, 1, 2, 3] rfl (b_X3_mayBeLate_94 K42 hK42 v2 v3 v4 s7 h)
def f_X3_mayBeLate_38 (v2 : Int32) (k0 : Int32) (σ : St) : Option (Unit × St) :=
  itr (g_X3_mayBeLate_42) FU (v2, k0, (0 : Int32), σ)
theorem b_X3_mayBeLate_38 {Γ : CX} (v2 : Int32) (k0 : Int32) (σ : St) (h : RR vU Γ (f_X3_mayBeLate_38 v2 k0 σ)) : WW Γ cX3_mayBeLate 5 RX3 none rX3_mayBeLate σ 38 [(0, .ref (xd Γ 36)), (2, .int v2)] [.int k0] := by
  unfold f_X3_mayBeLate_38 at h
  refine w_istore_n [(3, .int k0), (0, .ref (xd Γ 36)), (2, .int v2)] dX3_mayBeLate_38 rfl (by decide) rfl rfl ?_
  refine w_iconst (0 : Int32) dX3_mayBeLate_39 ic_iconst_0 rfl ?_
  refine w_istore [(4, .int (0 : Int32)), (3, .int k0), (0, .ref (xd Γ 36)), (2, .int v2)] dX3_mayBeLate_40 (by decide) rfl rfl ?_
  exact w_sub [2, 3, 1, 0] rfl (l_X3_mayBeLate_42 FU v2 k0 (0 : Int32) σ h)
def f_X3_mayBeLate (p0 : Int32) (σ : St) : Option (Unit × St) :=
  bnd (((1 : Int32) <<< (p0 &&& 31))) fun x1 =>
  bd (f_X10_menLost 1 p0 (gf σ 1 2) σ) fun r2 s3 =>
  if r2 ≤ 0 then
    f_X3_mayBeLate_38 x1 (0 : Int32) s3
  else
    bd (f_X9_cell 3 p0 (3 : Int32) s3) fun r5 s6 =>
    f_X3_mayBeLate_38 x1 r5 s6
theorem e_X3_mayBeLate {Γ : CX} (p0 : Int32) (σ : St) (h : RR vU Γ (f_X3_mayBeLate p0 σ)) : WW Γ cX3_mayBeLate 5 RX3 none rX3_mayBeLate σ 0 [(0, .ref (xd Γ 36)), (1, .int p0)] [] := by
  unfold f_X3_mayBeLate at h
  refine w_iconst (1 : Int32) dX3_mayBeLate_0 ic_iconst_1 rfl ?_
  refine w_iload_n 1 dX3_mayBeLate_1 rfl rfl rfl ?_
  refine w_ishl dX3_mayBeLate_2 rfl ?_
  refine w_nmI (fun x1 ex1 => ?_)
  replace h := h.bnd ex1
  clear ex1
  refine w_istore_n [(2, .int x1), (0, .ref (xd Γ 36)), (1, .int p0)] dX3_mayBeLate_3 rfl (by decide) rfl rfl ?_
  refine w_aload_n 1 dX3_mayBeLate_4 rfl rfl rfl ?_
  refine gf_RX3_32 dX3_mayBeLate_5 rfl ?_
  refine w_iload_n 2 dX3_mayBeLate_8 rfl rfl rfl ?_
  refine w_aload_n 1 dX3_mayBeLate_9 rfl rfl rfl ?_
  refine gf_RX3_32 dX3_mayBeLate_10 rfl ?_
  refine gf_RX3_131 (i := 1) (isW_lit (by decide)) dX3_mayBeLate_13 rfl ?_
  obtain ⟨r2, s3, h4, h⟩ := h.bd
  refine k_X10_menLost ml_RX3_138 (Nat.le_of_ble_eq_true rfl) ⟨Nat.le_of_ble_eq_true rfl, Nat.le_of_ble_eq_true rfl⟩ dX3_mayBeLate_16 rfl h4 ?_
  refine w_if_le (tgt := 37) dX3_mayBeLate_19 (by decide) rfl (fun q => ?_) (fun q => ?_)
  · have h := h.tt q
    refine w_iconst (0 : Int32) dX3_mayBeLate_37 ic_iconst_0 rfl ?_
    exact w_sub [1, 0] rfl (b_X3_mayBeLate_38 x1 (0 : Int32) s3 h)
  · have h := h.ff q
    refine w_aload_n 1 dX3_mayBeLate_22 rfl rfl rfl ?_
    refine gf_RX3_32 dX3_mayBeLate_23 rfl ?_
    refine gf_RX3_79 (i := 1) (isW_lit (by decide)) dX3_mayBeLate_26 rfl ?_
    refine w_iload_n 2 dX3_mayBeLate_29 rfl rfl rfl ?_
    refine w_iconst (3 : Int32) dX3_mayBeLate_30 ic_iconst_3 rfl ?_
    obtain ⟨r5, s6, h7, h⟩ := h.bd
    refine k_X9_cell ml_RX3_124 (Nat.le_of_ble_eq_true rfl) ⟨Nat.le_of_ble_eq_true rfl, Nat.le_of_ble_eq_true rfl⟩ dX3_mayBeLate_31 rfl h7 ?_
    refine w_goto (tgt := 38) dX3_mayBeLate_34 (by decide) ?_
    exact w_sub [1, 0] rfl (b_X3_mayBeLate_38 x1 r5 s6 h)
theorem c_X3_mayBeLate {l : Launch} {D : va_G} {cy : Nat → ClassId} {ad : Nat → Nat} {p0 : Int32} {σ σ' : St} {r : Unit} (hf : f_X3_mayBeLate p0 σ = some (r, σ')) : CT l D cy ad yX3_mayBeLate cX3_mayBeLate 5 none rX3_mayBeLate [.ref (ad 36), .int p0] σ none σ' :=
  ct_of (by decide) (Nat.le_of_ble_eq_true rfl) (fun p e s m args below meth c A => e_X3_mayBeLate (Γ := (p, l, e, rX3_mayBeLate, s, m, args, below, meth, c, D, cy, ad, A, 0, 0, MQ below (QC D cy ad none σ' A) args s 0 0 A)) p0 σ ⟨_, hf, rfl⟩)
theorem k_X3_mayBeLate {Γ : CX} {cc : ByteArray} {nL : Nat} {own : String} {ret : Option FieldType} {rm : Room} {σ σ' : St} {pc pc' idx : Nat} {lv : List (Nat × Value)} {rest : List Value} {p0 : Int32} {r : Unit} (hl : Cond.methodLink own idx yX3_mayBeLate ∈ TB) (hw : (rest.map fun v => v.category).sum ≤ 8) (hR : rX3_mayBeLate.frames + 1 ≤ rm.frames ∧ 8 + (5 + 11) + rX3_mayBeLate.locals ≤ rm.locals) (hd : decode cc pc = .ok (.invokevirtual idx, 3)) (hp : pc + 3 = pc') (hf : f_X3_mayBeLate p0 σ = some (r, σ')) (h : WW Γ cc nL own ret rm σ' pc' lv (rest)) : WW Γ cc nL own ret rm σ pc lv (.int p0 :: .ref (xd Γ 36) :: rest) :=
  w_callV (nn := 1) (i := 36) (As := [.int p0]) (v := none) (T := TX3) (N := 8) (c_X3_mayBeLate hf) hl mw_X3_mayBeLate (by decide +kernel) ⟨rfl, rfl⟩ hR (lt_lit (by decide)) cel_36 rfl rfl hw hd rfl hp h
/-! WarByHours.Fares.cheapest (I)I -/
def rX3_cheapest : Room := { frames := 2, cells := 0, slots := 0, locals := 43 }
def f_X3_cheapest_61 (K8 : Int32 × Int32 × Int32 × Int32 × St → Option (Int32 × St)) (v1 : Int32) (v2 : Int32) (v3 : Int32) (v4 : Int32) (σ : St) : Option (Int32 × St) :=
  bnd (v4 + (1 : Int32)) fun x1 =>
  K8 (v1, v2, v3, x1, σ)
theorem b_X3_cheapest_61 {Γ : CX} (K8 : Int32 × Int32 × Int32 × Int32 × St → Option (Int32 × St)) (hK8 : ∀ (v1 : Int32) (v2 : Int32) (v3 : Int32) (v4 : Int32) (σ : St), RR vI Γ (K8 (v1, v2, v3, v4, σ)) → WW Γ cX3_cheapest 5 RX3 (some .int) rX3_cheapest σ 8 [(0, .ref (xd Γ 36)), (1, .int v1), (2, .int v2), (3, .int v3), (4, .int v4)] []) (v1 : Int32) (v2 : Int32) (v3 : Int32) (v4 : Int32) (σ : St) (h : RR vI Γ (f_X3_cheapest_61 K8 v1 v2 v3 v4 σ)) : WW Γ cX3_cheapest 5 RX3 (some .int) rX3_cheapest σ 61 [(0, .ref (xd Γ 36)), (1, .int v1), (2, .int v2), (3, .int v3), (4, .int v4)] [] := by
  unfold f_X3_cheapest_61 at h
  obtain ⟨x1, ex1⟩ : ∃ y : Int32, y = (v4 + (1 : Int32)) := ⟨_, rfl⟩
  replace h := h.bnd ex1
  refine w_iinc 4 x1 [(4, .int x1), (0, .ref (xd Γ 36)), (1, .int v1), (2, .int v2), (3, .int v3)] dX3_cheapest_61 rfl (by rw [ex1, ic_iconst_1]) (by decide) rfl rfl ?_
  clear ex1
  refine w_goto (tgt := 8) dX3_cheapest_64 (by decide) ?_
  exact w_sub [1, 2, 3, 4, 0] rfl (hK8 v1 v2 v3 x1 σ h)
def g_X3_cheapest_8 (K8 : Int32 × Int32 × Int32 × Int32 × St → Option (Int32 × St)) (x : Int32 × Int32 × Int32 × Int32 × St) : Option (Int32 × St) := match x with
  | (v1, v2, v3, v4, σ) =>
  bd (f_X10_sets 1 σ) fun r1 s2 =>
  if r1 ≤ v4 then
    some (v2, s2)
  else
    if (v4 &&& (v1 ^^^ (-1 : Int32))) = 0 then
      gd (inb v4 (ln 40)) <|
      if (gr s2 40 v4.toNatClampNeg) = 0 then
        f_X3_cheapest_61 K8 v1 v2 v3 v4 s2
      else
        gd (inb v4 (ln 37)) <|
        if v3 ≤ (gr s2 37 v4.toNatClampNeg) then
          f_X3_cheapest_61 K8 v1 v2 v3 v4 s2
        else
          gd (inb v4 (ln 37)) <|
          bnd ((gr s2 37 v4.toNatClampNeg)) fun x7 =>
          f_X3_cheapest_61 K8 v1 v4 x7 v4 s2
    else
      f_X3_cheapest_61 K8 v1 v2 v3 v4 s2
theorem l_X3_cheapest_8 {Γ : CX} : ∀ (n : Nat) (v1 : Int32) (v2 : Int32) (v3 : Int32) (v4 : Int32) (σ : St), RR vI Γ (itr (g_X3_cheapest_8) n (v1, v2, v3, v4, σ)) → WW Γ cX3_cheapest 5 RX3 (some .int) rX3_cheapest σ 8 [(0, .ref (xd Γ 36)), (1, .int v1), (2, .int v2), (3, .int v3), (4, .int v4)] [] := by
  intro n
  induction n with
  | zero => intro v1 v2 v3 v4 σ h; exact RR.no h
  | succ n hK8 =>
  intro v1 v2 v3 v4 σ h
  have h : RR vI Γ (g_X3_cheapest_8 (itr (g_X3_cheapest_8) n) (v1, v2, v3, v4, σ)) := h
  generalize itr (g_X3_cheapest_8) n = K8 at h hK8
  unfold g_X3_cheapest_8 at h
  dsimp only at h
  refine w_iload 4 dX3_cheapest_8 rfl rfl ?_
  refine w_aload_n 0 dX3_cheapest_10 rfl rfl rfl ?_
  refine gf_RX3_32 dX3_cheapest_11 rfl ?_
  obtain ⟨r1, s2, h3, h⟩ := h.bd
  refine k_X10_sets ml_RX3_58 (Nat.le_of_ble_eq_true rfl) ⟨Nat.le_of_ble_eq_true rfl, Nat.le_of_ble_eq_true rfl⟩ dX3_cheapest_14 rfl h3 ?_
  refine w_icmp_ge (tgt := 67) dX3_cheapest_17 (by decide) rfl (fun q => ?_) (fun q => ?_)
  · have h := h.tt q
    refine w_iload_n 2 dX3_cheapest_67 rfl rfl rfl ?_
    exact w_ireturn dX3_cheapest_68 h
  · have h := h.ff q
    refine w_iload 4 dX3_cheapest_20 rfl rfl ?_
    refine w_iload_n 1 dX3_cheapest_22 rfl rfl rfl ?_
    refine w_iconst (-1 : Int32) dX3_cheapest_23 ic_iconst_m1 rfl ?_
    refine w_ixor dX3_cheapest_24 rfl ?_
    refine w_iand dX3_cheapest_25 rfl ?_
    refine w_if_ne (tgt := 61) dX3_cheapest_26 (by decide) rfl (fun q => ?_) (fun q => ?_)
    · have h := h.ff q
      exact w_sub [0, 1, 2, 3, 4] rfl (b_X3_cheapest_61 K8 hK8 v1 v2 v3 v4 s2 h)
    · have h := h.tt q
      refine w_aload_n 0 dX3_cheapest_29 rfl rfl rfl ?_
      refine gf_RX3_22 dX3_cheapest_30 rfl ?_
      refine w_iload 4 dX3_cheapest_33 rfl rfl ?_
      obtain ⟨hi4, h⟩ := h.gd
      refine w_zald (i := 40) (lt_lit (by decide)) rfl hi4 dX3_cheapest_35 rfl ?_
      refine w_if_eq (tgt := 61) dX3_cheapest_36 (by decide) rfl (fun q => ?_) (fun q => ?_)
      · have h := h.tt q
        exact w_sub [0, 1, 2, 3, 4] rfl (b_X3_cheapest_61 K8 hK8 v1 v2 v3 v4 s2 h)
      · have h := h.ff q
        refine w_aload_n 0 dX3_cheapest_39 rfl rfl rfl ?_
        refine gf_RX3_9 dX3_cheapest_40 rfl ?_
        refine w_iload 4 dX3_cheapest_43 rfl rfl ?_
        obtain ⟨hi5, h⟩ := h.gd
        refine w_iald (i := 37) (lt_lit (by decide)) rfl hi5 dX3_cheapest_45 rfl ?_
        refine w_iload_n 3 dX3_cheapest_46 rfl rfl rfl ?_
        refine w_icmp_ge (tgt := 61) dX3_cheapest_47 (by decide) rfl (fun q => ?_) (fun q => ?_)
        · have h := h.tt q
          exact w_sub [0, 1, 2, 3, 4] rfl (b_X3_cheapest_61 K8 hK8 v1 v2 v3 v4 s2 h)
        · have h := h.ff q
          refine w_aload_n 0 dX3_cheapest_50 rfl rfl rfl ?_
          refine gf_RX3_9 dX3_cheapest_51 rfl ?_
          refine w_iload 4 dX3_cheapest_54 rfl rfl ?_
          obtain ⟨hi6, h⟩ := h.gd
          refine w_iald (i := 37) (lt_lit (by decide)) rfl hi6 dX3_cheapest_56 rfl ?_
          refine w_nmI (fun x7 ex7 => ?_)
          replace h := h.bnd ex7
          clear ex7
          refine w_istore_n [(3, .int x7), (0, .ref (xd Γ 36)), (1, .int v1), (2, .int v2), (4, .int v4)] dX3_cheapest_57 rfl (by decide) rfl rfl ?_
          refine w_iload 4 dX3_cheapest_58 rfl rfl ?_
          refine w_istore_n [(2, .int v4), (3, .int x7), (0, .ref (xd Γ 36)), (1, .int v1), (4, .int v4)] dX3_cheapest_60 rfl (by decide) rfl rfl ?_
          exact w_sub [2, 3, 0, 1, 4] rfl (b_X3_cheapest_61 K8 hK8 v1 v4 x7 v4 s2 h)
def f_X3_cheapest (p0 : Int32) (σ : St) : Option (Int32 × St) :=
  itr (g_X3_cheapest_8) FU (p0, (-1 : Int32), (1000000 : Int32), (0 : Int32), σ)
theorem e_X3_cheapest {Γ : CX} (p0 : Int32) (σ : St) (h : RR vI Γ (f_X3_cheapest p0 σ)) : WW Γ cX3_cheapest 5 RX3 (some .int) rX3_cheapest σ 0 [(0, .ref (xd Γ 36)), (1, .int p0)] [] := by
  unfold f_X3_cheapest at h
  refine w_iconst (-1 : Int32) dX3_cheapest_0 ic_iconst_m1 rfl ?_
  refine w_istore_n [(2, .int (-1 : Int32)), (0, .ref (xd Γ 36)), (1, .int p0)] dX3_cheapest_1 rfl (by decide) rfl rfl ?_
  refine w_ldc (1000000 : Int32) dX3_cheapest_2 cn_RX3_104 rfl ?_
  refine w_istore_n [(3, .int (1000000 : Int32)), (2, .int (-1 : Int32)), (0, .ref (xd Γ 36)), (1, .int p0)] dX3_cheapest_4 rfl (by decide) rfl rfl ?_
  refine w_iconst (0 : Int32) dX3_cheapest_5 ic_iconst_0 rfl ?_
  refine w_istore [(4, .int (0 : Int32)), (3, .int (1000000 : Int32)), (2, .int (-1 : Int32)), (0, .ref (xd Γ 36)), (1, .int p0)] dX3_cheapest_6 (by decide) rfl rfl ?_
  exact w_sub [3, 4, 2, 1, 0] rfl (l_X3_cheapest_8 FU p0 (-1 : Int32) (1000000 : Int32) (0 : Int32) σ h)
theorem c_X3_cheapest {l : Launch} {D : va_G} {cy : Nat → ClassId} {ad : Nat → Nat} {p0 : Int32} {σ σ' : St} {r : Int32} (hf : f_X3_cheapest p0 σ = some (r, σ')) : CT l D cy ad yX3_cheapest cX3_cheapest 5 (some .int) rX3_cheapest [.ref (ad 36), .int p0] σ (some (.int r)) σ' :=
  ct_of (by decide) (Nat.le_of_ble_eq_true rfl) (fun p e s m args below meth c A => e_X3_cheapest (Γ := (p, l, e, rX3_cheapest, s, m, args, below, meth, c, D, cy, ad, A, 0, 0, MQ below (QC D cy ad (some (.int r)) σ' A) args s 0 0 A)) p0 σ ⟨_, hf, rfl⟩)
theorem k_X3_cheapest {Γ : CX} {cc : ByteArray} {nL : Nat} {own : String} {ret : Option FieldType} {rm : Room} {σ σ' : St} {pc pc' idx : Nat} {lv : List (Nat × Value)} {rest : List Value} {p0 : Int32} {r : Int32} (hl : Cond.methodLink own idx yX3_cheapest ∈ TB) (hw : (rest.map fun v => v.category).sum ≤ 8) (hR : rX3_cheapest.frames + 1 ≤ rm.frames ∧ 8 + (5 + 11) + rX3_cheapest.locals ≤ rm.locals) (hd : decode cc pc = .ok (.invokevirtual idx, 3)) (hp : pc + 3 = pc') (hf : f_X3_cheapest p0 σ = some (r, σ')) (h : WW Γ cc nL own ret rm σ' pc' lv (.int r :: rest)) : WW Γ cc nL own ret rm σ pc lv (.int p0 :: .ref (xd Γ 36) :: rest) :=
  w_callV (nn := 1) (i := 36) (As := [.int p0]) (v := (some (.int r))) (T := TX3) (N := 8) (c_X3_cheapest hf) hl mw_X3_cheapest (by decide +kernel) ⟨rfl, rfl⟩ hR (lt_lit (by decide)) cel_36 rfl rfl hw hd rfl hp h
/-! WarByHours.Peace.isHeld (II)Z -/
def rX4_isHeld : Room := { frames := 1, cells := 0, slots := 0, locals := 22 }
def f_X4_isHeld_116 (K2 : Int32 × Int32 × Int32 × St → Option (Int32 × St)) (v1 : Int32) (v2 : Int32) (v3 : Int32) (σ : St) : Option (Int32 × St) :=
  bnd (v3 + (1 : Int32)) fun x1 =>
  K2 (v1, v2, x1, σ)
theorem b_X4_isHeld_116 {Γ : CX} (K2 : Int32 × Int32 × Int32 × St → Option (Int32 × St)) (hK2 : ∀ (v1 : Int32) (v2 : Int32) (v3 : Int32) (σ : St), RR vI Γ (K2 (v1, v2, v3, σ)) → WW Γ cX4_isHeld 8 RX4 (some .boolean) rX4_isHeld σ 2 [(0, .ref (xd Γ 48)), (1, .int v1), (2, .int v2), (3, .int v3)] []) (v1 : Int32) (v2 : Int32) (v3 : Int32) (σ : St) (h : RR vI Γ (f_X4_isHeld_116 K2 v1 v2 v3 σ)) : WW Γ cX4_isHeld 8 RX4 (some .boolean) rX4_isHeld σ 116 [(0, .ref (xd Γ 48)), (1, .int v1), (2, .int v2), (3, .int v3)] [] := by
  unfold f_X4_isHeld_116 at h
  obtain ⟨x1, ex1⟩ : ∃ y : Int32, y = (v3 + (1 : Int32)) := ⟨_, rfl⟩
  replace h := h.bnd ex1
  refine w_iinc 3 x1 [(3, .int x1), (0, .ref (xd Γ 48)), (1, .int v1), (2, .int v2)] dX4_isHeld_116 rfl (by rw [ex1, ic_iconst_1]) (by decide) rfl rfl ?_
  clear ex1
  refine w_goto (tgt := 2) dX4_isHeld_119 (by decide) ?_
  exact w_sub [1, 2, 3, 0] rfl (hK2 v1 v2 x1 σ h)
def f_X4_isHeld_102 (K2 : Int32 × Int32 × Int32 × St → Option (Int32 × St)) (v1 : Int32) (v2 : Int32) (v3 : Int32) (v6 : Int32) (k0 : Int32) (σ : St) : Option (Int32 × St) :=
  if v6 = 0 then
    f_X4_isHeld_116 K2 v1 v2 v3 σ
  else
    if k0 = 0 then
      f_X4_isHeld_116 K2 v1 v2 v3 σ
    else
      gd (bz (0 : Int32)) <| some ((0 : Int32), σ)
theorem b_X4_isHeld_102 {Γ : CX} (K2 : Int32 × Int32 × Int32 × St → Option (Int32 × St)) (hK2 : ∀ (v1 : Int32) (v2 : Int32) (v3 : Int32) (σ : St), RR vI Γ (K2 (v1, v2, v3, σ)) → WW Γ cX4_isHeld 8 RX4 (some .boolean) rX4_isHeld σ 2 [(0, .ref (xd Γ 48)), (1, .int v1), (2, .int v2), (3, .int v3)] []) (v1 : Int32) (v2 : Int32) (v3 : Int32) (v6 : Int32) (k0 : Int32) (σ : St) (h : RR vI Γ (f_X4_isHeld_102 K2 v1 v2 v3 v6 k0 σ)) : WW Γ cX4_isHeld 8 RX4 (some .boolean) rX4_isHeld σ 102 [(0, .ref (xd Γ 48)), (1, .int v1), (2, .int v2), (3, .int v3), (6, .int v6)] [.int k0] := by
  unfold f_X4_isHeld_102 at h
  refine w_istore [(7, .int k0), (0, .ref (xd Γ 48)), (1, .int v1), (2, .int v2), (3, .int v3), (6, .int v6)] dX4_isHeld_102 (by decide) rfl rfl ?_
  refine w_iload 5 dX4_isHeld_104 rfl rfl ?_
  refine w_if_eq (tgt := 116) dX4_isHeld_106 (by decide) rfl (fun q => ?_) (fun q => ?_)
  · have h := h.tt q
    exact w_sub [1, 2, 3, 4] rfl (b_X4_isHeld_116 K2 hK2 v1 v2 v3 σ h)
  · have h := h.ff q
    refine w_iload 0 dX4_isHeld_109 rfl rfl ?_
    refine w_if_eq (tgt := 116) dX4_isHeld_111 (by decide) rfl (fun q => ?_) (fun q => ?_)
    · have h := h.tt q
      exact w_sub [1, 2, 3, 4] rfl (b_X4_isHeld_116 K2 hK2 v1 v2 v3 σ h)
    · have h := h.ff q
      refine w_iconst (0 : Int32) dX4_isHeld_114 ic_iconst_0 rfl ?_
      obtain ⟨hb, h⟩ := h.gd
      exact w_zreturn dX4_isHeld_115 hb h
def f_X4_isHeld_97 (K2 : Int32 × Int32 × Int32 × St → Option (Int32 × St)) (v1 : Int32) (v2 : Int32) (v3 : Int32) (v6 : Int32) (σ : St) : Option (Int32 × St) :=
  f_X4_isHeld_102 K2 v1 v2 v3 v6 (1 : Int32) σ
theorem b_X4_isHeld_97 {Γ : CX} (K2 : Int32 × Int32 × Int32 × St → Option (Int32 × St)) (hK2 : ∀ (v1 : Int32) (v2 : Int32) (v3 : Int32) (σ : St), RR vI Γ (K2 (v1, v2, v3, σ)) → WW Γ cX4_isHeld 8 RX4 (some .boolean) rX4_isHeld σ 2 [(0, .ref (xd Γ 48)), (1, .int v1), (2, .int v2), (3, .int v3)] []) (v1 : Int32) (v2 : Int32) (v3 : Int32) (v6 : Int32) (σ : St) (h : RR vI Γ (f_X4_isHeld_97 K2 v1 v2 v3 v6 σ)) : WW Γ cX4_isHeld 8 RX4 (some .boolean) rX4_isHeld σ 97 [(0, .ref (xd Γ 48)), (1, .int v1), (2, .int v2), (3, .int v3), (6, .int v6)] [] := by
  unfold f_X4_isHeld_97 at h
  refine w_iconst (1 : Int32) dX4_isHeld_97 ic_iconst_1 rfl ?_
  refine w_goto (tgt := 102) dX4_isHeld_98 (by decide) ?_
  exact w_sub [0, 1, 2, 3, 4] rfl (b_X4_isHeld_102 K2 hK2 v1 v2 v3 v6 (1 : Int32) σ h)
def f_X4_isHeld_101 (K2 : Int32 × Int32 × Int32 × St → Option (Int32 × St)) (v1 : Int32) (v2 : Int32) (v3 : Int32) (v6 : Int32) (σ : St) : Option (Int32 × St) :=
  f_X4_isHeld_102 K2 v1 v2 v3 v6 (0 : Int32) σ
theorem b_X4_isHeld_101 {Γ : CX} (K2 : Int32 × Int32 × Int32 × St → Option (Int32 × St)) (hK2 : ∀ (v1 : Int32) (v2 : Int32) (v3 : Int32) (σ : St), RR vI Γ (K2 (v1, v2, v3, σ)) → WW Γ cX4_isHeld 8 RX4 (some .boolean) rX4_isHeld σ 2 [(0, .ref (xd Γ 48)), (1, .int v1), (2, .int v2), (3, .int v3)] []) (v1 : Int32) (v2 : Int32) (v3 : Int32) (v6 : Int32) (σ : St) (h : RR vI Γ (f_X4_isHeld_101 K2 v1 v2 v3 v6 σ)) : WW Γ cX4_isHeld 8 RX4 (some .boolean) rX4_isHeld σ 101 [(0, .ref (xd Γ 48)), (1, .int v1), (2, .int v2), (3, .int v3), (6, .int v6)] [] := by
  unfold f_X4_isHeld_101 at h
  refine w_iconst (0 : Int32) dX4_isHeld_101 ic_iconst_0 rfl ?_
  exact w_sub [0, 1, 2, 3, 4] rfl (b_X4_isHeld_102 K2 hK2 v1 v2 v3 v6 (0 : Int32) σ h)
def f_X4_isHeld_71 (K2 : Int32 × Int32 × Int32 × St → Option (Int32 × St)) (v1 : Int32) (v2 : Int32) (v3 : Int32) (v5 : Int32) (k0 : Int32) (σ : St) : Option (Int32 × St) :=
  if v1 < v5 then
    f_X4_isHeld_97 K2 v1 v2 v3 k0 σ
  else
    if v1 = v5 then
      bd (f_X10_isIn v2 (((2 : Int32) * v3) + (1 : Int32)) σ) fun r1 s2 =>
      if r1 = 0 then
        f_X4_isHeld_101 K2 v1 v2 v3 k0 s2
      else
        f_X4_isHeld_97 K2 v1 v2 v3 k0 s2
    else
      f_X4_isHeld_101 K2 v1 v2 v3 k0 σ
theorem b_X4_isHeld_71 {Γ : CX} (K2 : Int32 × Int32 × Int32 × St → Option (Int32 × St)) (hK2 : ∀ (v1 : Int32) (v2 : Int32) (v3 : Int32) (σ : St), RR vI Γ (K2 (v1, v2, v3, σ)) → WW Γ cX4_isHeld 8 RX4 (some .boolean) rX4_isHeld σ 2 [(0, .ref (xd Γ 48)), (1, .int v1), (2, .int v2), (3, .int v3)] []) (v1 : Int32) (v2 : Int32) (v3 : Int32) (v5 : Int32) (k0 : Int32) (σ : St) (h : RR vI Γ (f_X4_isHeld_71 K2 v1 v2 v3 v5 k0 σ)) : WW Γ cX4_isHeld 8 RX4 (some .boolean) rX4_isHeld σ 71 [(0, .ref (xd Γ 48)), (1, .int v1), (2, .int v2), (3, .int v3), (5, .int v5)] [.int k0] := by
  unfold f_X4_isHeld_71 at h
  refine w_istore [(6, .int k0), (0, .ref (xd Γ 48)), (1, .int v1), (2, .int v2), (3, .int v3), (5, .int v5)] dX4_isHeld_71 (by decide) rfl rfl ?_
  refine w_iload_n 2 dX4_isHeld_73 rfl rfl rfl ?_
  refine w_iload 5 dX4_isHeld_74 rfl rfl ?_
  refine w_icmp_lt (tgt := 97) dX4_isHeld_76 (by decide) rfl (fun q => ?_) (fun q => ?_)
  · have h := h.tt q
    exact w_sub [1, 2, 3, 4, 0] rfl (b_X4_isHeld_97 K2 hK2 v1 v2 v3 k0 σ h)
  · have h := h.ff q
    refine w_iload_n 2 dX4_isHeld_79 rfl rfl rfl ?_
    refine w_iload 5 dX4_isHeld_80 rfl rfl ?_
    refine w_icmp_ne (tgt := 101) dX4_isHeld_82 (by decide) rfl (fun q => ?_) (fun q => ?_)
    · have h := h.ff q
      exact w_sub [1, 2, 3, 4, 0] rfl (b_X4_isHeld_101 K2 hK2 v1 v2 v3 k0 σ h)
    · have h := h.tt q
      refine w_iload_n 3 dX4_isHeld_85 rfl rfl rfl ?_
      refine w_iconst (2 : Int32) dX4_isHeld_86 ic_iconst_2 rfl ?_
      refine w_iload_n 4 dX4_isHeld_87 rfl rfl rfl ?_
      refine w_imul dX4_isHeld_88 rfl ?_
      refine w_iconst (1 : Int32) dX4_isHeld_89 ic_iconst_1 rfl ?_
      refine w_iadd dX4_isHeld_90 rfl ?_
      obtain ⟨r1, s2, h3, h⟩ := h.bd
      refine k_X10_isIn ml_RX4_45 (Nat.le_of_ble_eq_true rfl) ⟨Nat.le_of_ble_eq_true rfl, Nat.le_of_ble_eq_true rfl⟩ dX4_isHeld_91 rfl h3 ?_
      refine w_if_eq (tgt := 101) dX4_isHeld_94 (by decide) rfl (fun q => ?_) (fun q => ?_)
      · have h := h.tt q
        exact w_sub [1, 2, 3, 4, 0] rfl (b_X4_isHeld_101 K2 hK2 v1 v2 v3 k0 s2 h)
      · have h := h.ff q
        exact w_sub [1, 2, 3, 4, 0] rfl (b_X4_isHeld_97 K2 hK2 v1 v2 v3 k0 s2 h)
def f_X4_isHeld_66 (K2 : Int32 × Int32 × Int32 × St → Option (Int32 × St)) (v1 : Int32) (v2 : Int32) (v3 : Int32) (v5 : Int32) (σ : St) : Option (Int32 × St) :=
  f_X4_isHeld_71 K2 v1 v2 v3 v5 (1 : Int32) σ
theorem b_X4_isHeld_66 {Γ : CX} (K2 : Int32 × Int32 × Int32 × St → Option (Int32 × St)) (hK2 : ∀ (v1 : Int32) (v2 : Int32) (v3 : Int32) (σ : St), RR vI Γ (K2 (v1, v2, v3, σ)) → WW Γ cX4_isHeld 8 RX4 (some .boolean) rX4_isHeld σ 2 [(0, .ref (xd Γ 48)), (1, .int v1), (2, .int v2), (3, .int v3)] []) (v1 : Int32) (v2 : Int32) (v3 : Int32) (v5 : Int32) (σ : St) (h : RR vI Γ (f_X4_isHeld_66 K2 v1 v2 v3 v5 σ)) : WW Γ cX4_isHeld 8 RX4 (some .boolean) rX4_isHeld σ 66 [(0, .ref (xd Γ 48)), (1, .int v1), (2, .int v2), (3, .int v3), (5, .int v5)] [] := by
  unfold f_X4_isHeld_66 at h
  refine w_iconst (1 : Int32) dX4_isHeld_66 ic_iconst_1 rfl ?_
  refine w_goto (tgt := 71) dX4_isHeld_67 (by decide) ?_
  exact w_sub [0, 1, 2, 3, 4] rfl (b_X4_isHeld_71 K2 hK2 v1 v2 v3 v5 (1 : Int32) σ h)
def f_X4_isHeld_70 (K2 : Int32 × Int32 × Int32 × St → Option (Int32 × St)) (v1 : Int32) (v2 : Int32) (v3 : Int32) (v5 : Int32) (σ : St) : Option (Int32 × St) :=
  f_X4_isHeld_71 K2 v1 v2 v3 v5 (0 : Int32) σ
theorem b_X4_isHeld_70 {Γ : CX} (K2 : Int32 × Int32 × Int32 × St → Option (Int32 × St)) (hK2 : ∀ (v1 : Int32) (v2 : Int32) (v3 : Int32) (σ : St), RR vI Γ (K2 (v1, v2, v3, σ)) → WW Γ cX4_isHeld 8 RX4 (some .boolean) rX4_isHeld σ 2 [(0, .ref (xd Γ 48)), (1, .int v1), (2, .int v2), (3, .int v3)] []) (v1 : Int32) (v2 : Int32) (v3 : Int32) (v5 : Int32) (σ : St) (h : RR vI Γ (f_X4_isHeld_70 K2 v1 v2 v3 v5 σ)) : WW Γ cX4_isHeld 8 RX4 (some .boolean) rX4_isHeld σ 70 [(0, .ref (xd Γ 48)), (1, .int v1), (2, .int v2), (3, .int v3), (5, .int v5)] [] := by
  unfold f_X4_isHeld_70 at h
  refine w_iconst (0 : Int32) dX4_isHeld_70 ic_iconst_0 rfl ?_
  exact w_sub [0, 1, 2, 3, 4] rfl (b_X4_isHeld_71 K2 hK2 v1 v2 v3 v5 (0 : Int32) σ h)
def g_X4_isHeld_2 (K2 : Int32 × Int32 × Int32 × St → Option (Int32 × St)) (x : Int32 × Int32 × Int32 × St) : Option (Int32 × St) := match x with
  | (v1, v2, v3, σ) =>
  if (gf σ 9 3) ≤ v3 then
    gd (bz (1 : Int32)) <| some ((1 : Int32), σ)
  else
    bd (f_X9_cell 9 v3 (0 : Int32) σ) fun r1 s2 =>
    bd (f_X9_cell 9 v3 (1 : Int32) s2) fun r4 s5 =>
    if r1 < v1 then
      f_X4_isHeld_66 K2 v1 v2 v3 r4 s5
    else
      if v1 = r1 then
        bd (f_X10_isIn v2 ((2 : Int32) * v3) s5) fun r7 s8 =>
        if r7 = 0 then
          f_X4_isHeld_70 K2 v1 v2 v3 r4 s8
        else
          f_X4_isHeld_66 K2 v1 v2 v3 r4 s8
      else
        f_X4_isHeld_70 K2 v1 v2 v3 r4 s5
theorem l_X4_isHeld_2 {Γ : CX} : ∀ (n : Nat) (v1 : Int32) (v2 : Int32) (v3 : Int32) (σ : St), RR vI Γ (itr (g_X4_isHeld_2) n (v1, v2, v3, σ)) → WW Γ cX4_isHeld 8 RX4 (some .boolean) rX4_isHeld σ 2 [(0, .ref (xd Γ 48)), (1, .int v1), (2, .int v2), (3, .int v3)] [] := by
  intro n
  induction n with
  | zero => intro v1 v2 v3 σ h; exact RR.no h
  | succ n hK2 =>
  intro v1 v2 v3 σ h
  have h : RR vI Γ (g_X4_isHeld_2 (itr (g_X4_isHeld_2) n) (v1, v2, v3, σ)) := h
  generalize itr (g_X4_isHeld_2) n = K2 at h hK2
  unfold g_X4_isHeld_2 at h
  dsimp only at h
  refine w_iload_n 3 dX4_isHeld_2 rfl rfl rfl ?_
  refine w_aload_n 0 dX4_isHeld_3 rfl rfl rfl ?_
  refine gf_RX4_9 dX4_isHeld_4 rfl ?_
  refine gf_RX4_23 (i := 1) (isW_lit (by decide)) dX4_isHeld_7 rfl ?_
  refine gf_RX4_29 (i := 9) (isT_lit (by decide)) dX4_isHeld_10 rfl ?_
  refine w_icmp_ge (tgt := 122) dX4_isHeld_13 (by decide) rfl (fun q => ?_) (fun q => ?_)
  · have h := h.tt q
    refine w_iconst (1 : Int32) dX4_isHeld_122 ic_iconst_1 rfl ?_
    obtain ⟨hb, h⟩ := h.gd
    exact w_zreturn dX4_isHeld_123 hb h
  · have h := h.ff q
    refine w_aload_n 0 dX4_isHeld_16 rfl rfl rfl ?_
    refine gf_RX4_9 dX4_isHeld_17 rfl ?_
    refine gf_RX4_23 (i := 1) (isW_lit (by decide)) dX4_isHeld_20 rfl ?_
    refine w_iload_n 3 dX4_isHeld_23 rfl rfl rfl ?_
    refine w_iconst (0 : Int32) dX4_isHeld_24 ic_iconst_0 rfl ?_
    obtain ⟨r1, s2, h3, h⟩ := h.bd
    refine k_X9_cell ml_RX4_41 (Nat.le_of_ble_eq_true rfl) ⟨Nat.le_of_ble_eq_true rfl, Nat.le_of_ble_eq_true rfl⟩ dX4_isHeld_25 rfl h3 ?_
    refine w_istore [(4, .int r1), (0, .ref (xd Γ 48)), (1, .int v1), (2, .int v2), (3, .int v3)] dX4_isHeld_28 (by decide) rfl rfl ?_
    refine w_aload_n 1 dX4_isHeld_30 rfl rfl rfl ?_
    refine gf_RX4_9 dX4_isHeld_31 rfl ?_
    refine gf_RX4_23 (i := 1) (isW_lit (by decide)) dX4_isHeld_34 rfl ?_
    refine w_iload_n 4 dX4_isHeld_37 rfl rfl rfl ?_
    refine w_iconst (1 : Int32) dX4_isHeld_38 ic_iconst_1 rfl ?_
    obtain ⟨r4, s5, h6, h⟩ := h.bd
    refine k_X9_cell ml_RX4_41 (Nat.le_of_ble_eq_true rfl) ⟨Nat.le_of_ble_eq_true rfl, Nat.le_of_ble_eq_true rfl⟩ dX4_isHeld_39 rfl h6 ?_
    refine w_istore [(5, .int r4), (4, .int r1), (0, .ref (xd Γ 48)), (1, .int v1), (2, .int v2), (3, .int v3)] dX4_isHeld_42 (by decide) rfl rfl ?_
    refine w_iload_n 3 dX4_isHeld_44 rfl rfl rfl ?_
    refine w_iload 1 dX4_isHeld_45 rfl rfl ?_
    refine w_icmp_gt (tgt := 66) dX4_isHeld_47 (by decide) rfl (fun q => ?_) (fun q => ?_)
    · have h := h.tt q
      exact w_sub [2, 3, 4, 5, 0] rfl (b_X4_isHeld_66 K2 hK2 v1 v2 v3 r4 s5 h)
    · have h := h.ff q
      refine w_iload_n 3 dX4_isHeld_50 rfl rfl rfl ?_
      refine w_iload 1 dX4_isHeld_51 rfl rfl ?_
      refine w_icmp_ne (tgt := 70) dX4_isHeld_53 (by decide) rfl (fun q => ?_) (fun q => ?_)
      · have h := h.ff q
        exact w_sub [2, 3, 4, 5, 0] rfl (b_X4_isHeld_70 K2 hK2 v1 v2 v3 r4 s5 h)
      · have h := h.tt q
        refine w_iload_n 4 dX4_isHeld_56 rfl rfl rfl ?_
        refine w_iconst (2 : Int32) dX4_isHeld_57 ic_iconst_2 rfl ?_
        refine w_iload_n 5 dX4_isHeld_58 rfl rfl rfl ?_
        refine w_imul dX4_isHeld_59 rfl ?_
        obtain ⟨r7, s8, h9, h⟩ := h.bd
        refine k_X10_isIn ml_RX4_45 (Nat.le_of_ble_eq_true rfl) ⟨Nat.le_of_ble_eq_true rfl, Nat.le_of_ble_eq_true rfl⟩ dX4_isHeld_60 rfl h9 ?_
        refine w_if_eq (tgt := 70) dX4_isHeld_63 (by decide) rfl (fun q => ?_) (fun q => ?_)
        · have h := h.tt q
          exact w_sub [2, 3, 4, 5, 0] rfl (b_X4_isHeld_70 K2 hK2 v1 v2 v3 r4 s8 h)
        · have h := h.ff q
          exact w_sub [2, 3, 4, 5, 0] rfl (b_X4_isHeld_66 K2 hK2 v1 v2 v3 r4 s8 h)
def f_X4_isHeld (p0 : Int32) (p1 : Int32) (σ : St) : Option (Int32 × St) :=
  itr (g_X4_isHeld_2) FU (p0, p1, (0 : Int32), σ)
theorem e_X4_isHeld {Γ : CX} (p0 : Int32) (p1 : Int32) (σ : St) (h : RR vI Γ (f_X4_isHeld p0 p1 σ)) : WW Γ cX4_isHeld 8 RX4 (some .boolean) rX4_isHeld σ 0 [(0, .ref (xd Γ 48)), (1, .int p0), (2, .int p1)] [] := by
  unfold f_X4_isHeld at h
  refine w_iconst (0 : Int32) dX4_isHeld_0 ic_iconst_0 rfl ?_
  refine w_istore_n [(3, .int (0 : Int32)), (0, .ref (xd Γ 48)), (1, .int p0), (2, .int p1)] dX4_isHeld_1 rfl (by decide) rfl rfl ?_
  exact w_sub [1, 2, 3, 0] rfl (l_X4_isHeld_2 FU p0 p1 (0 : Int32) σ h)
theorem c_X4_isHeld {l : Launch} {D : va_G} {cy : Nat → ClassId} {ad : Nat → Nat} {p0 : Int32} {p1 : Int32} {σ σ' : St} {r : Int32} (hf : f_X4_isHeld p0 p1 σ = some (r, σ')) : CT l D cy ad yX4_isHeld cX4_isHeld 8 (some .boolean) rX4_isHeld [.ref (ad 48), .int p0, .int p1] σ (some (.int r)) σ' :=
  ct_of (by decide) (Nat.le_of_ble_eq_true rfl) (fun p e s m args below meth c A => e_X4_isHeld (Γ := (p, l, e, rX4_isHeld, s, m, args, below, meth, c, D, cy, ad, A, 0, 0, MQ below (QC D cy ad (some (.int r)) σ' A) args s 0 0 A)) p0 p1 σ ⟨_, hf, rfl⟩)
theorem k_X4_isHeld {Γ : CX} {cc : ByteArray} {nL : Nat} {own : String} {ret : Option FieldType} {rm : Room} {σ σ' : St} {pc pc' idx : Nat} {lv : List (Nat × Value)} {rest : List Value} {p0 : Int32} {p1 : Int32} {r : Int32} (hl : Cond.methodLink own idx yX4_isHeld ∈ TB) (hw : (rest.map fun v => v.category).sum ≤ 8) (hR : rX4_isHeld.frames + 1 ≤ rm.frames ∧ 8 + (8 + 11) + rX4_isHeld.locals ≤ rm.locals) (hd : decode cc pc = .ok (.invokevirtual idx, 3)) (hp : pc + 3 = pc') (hf : f_X4_isHeld p0 p1 σ = some (r, σ')) (h : WW Γ cc nL own ret rm σ' pc' lv (.int r :: rest)) : WW Γ cc nL own ret rm σ pc lv (.int p1 :: .int p0 :: .ref (xd Γ 48) :: rest) :=
  w_callV (nn := 2) (i := 48) (As := [.int p0, .int p1]) (v := (some (.int r))) (T := TX4) (N := 1) (c_X4_isHeld hf) hl mw_X4_isHeld (by decide +kernel) ⟨rfl, rfl⟩ hR (lt_lit (by decide)) cel_48 rfl rfl hw hd rfl hp h
/-! WarByHours.Places.meet (I)I -/
def rX5_meet : Room := { frames := 1, cells := 0, slots := 0, locals := 23 }
def f_X5_meet_89 (K10 : Int32 × Int32 × Int32 × Int32 × Int32 × St → Option (Int32 × St)) (K19 : Int32 × Int32 × Int32 × Int32 × Int32 × Int32 × St → Option (Int32 × St)) (v1 : Int32) (v2 : Int32) (v3 : Int32) (v4 : Int32) (v5 : Int32) (v6 : Int32) (σ : St) : Option (Int32 × St) :=
  bnd (v6 + (1 : Int32)) fun x1 =>
  K19 (v1, v2, v3, v4, v5, x1, σ)
theorem b_X5_meet_89 {Γ : CX} (K10 : Int32 × Int32 × Int32 × Int32 × Int32 × St → Option (Int32 × St)) (K19 : Int32 × Int32 × Int32 × Int32 × Int32 × Int32 × St → Option (Int32 × St)) (hK10 : ∀ (v1 : Int32) (v2 : Int32) (v3 : Int32) (v4 : Int32) (v5 : Int32) (σ : St), RR vI Γ (K10 (v1, v2, v3, v4, v5, σ)) → WW Γ cX5_meet 8 RX5 (some .int) rX5_meet σ 10 [(0, .ref (xd Γ 43)), (1, .int v1), (2, .int v2), (3, .int v3), (4, .int v4), (5, .int v5)] []) (hK19 : ∀ (v1 : Int32) (v2 : Int32) (v3 : Int32) (v4 : Int32) (v5 : Int32) (v6 : Int32) (σ : St), RR vI Γ (K19 (v1, v2, v3, v4, v5, v6, σ)) → WW Γ cX5_meet 8 RX5 (some .int) rX5_meet σ 19 [(0, .ref (xd Γ 43)), (1, .int v1), (2, .int v2), (3, .int v3), (4, .int v4), (5, .int v5), (6, .int v6)] []) (v1 : Int32) (v2 : Int32) (v3 : Int32) (v4 : Int32) (v5 : Int32) (v6 : Int32) (σ : St) (h : RR vI Γ (f_X5_meet_89 K10 K19 v1 v2 v3 v4 v5 v6 σ)) : WW Γ cX5_meet 8 RX5 (some .int) rX5_meet σ 89 [(0, .ref (xd Γ 43)), (1, .int v1), (2, .int v2), (3, .int v3), (4, .int v4), (5, .int v5), (6, .int v6)] [] := by
  unfold f_X5_meet_89 at h
  obtain ⟨x1, ex1⟩ : ∃ y : Int32, y = (v6 + (1 : Int32)) := ⟨_, rfl⟩
  replace h := h.bnd ex1
  refine w_iinc 6 x1 [(6, .int x1), (0, .ref (xd Γ 43)), (1, .int v1), (2, .int v2), (3, .int v3), (4, .int v4), (5, .int v5)] dX5_meet_89 rfl (by rw [ex1, ic_iconst_1]) (by decide) rfl rfl ?_
  clear ex1
  refine w_goto (tgt := 19) dX5_meet_92 (by decide) ?_
  exact w_sub [1, 2, 3, 4, 5, 6, 0] rfl (hK19 v1 v2 v3 v4 v5 x1 σ h)
def g_X5_meet_19 (K10 : Int32 × Int32 × Int32 × Int32 × Int32 × St → Option (Int32 × St)) (K19 : Int32 × Int32 × Int32 × Int32 × Int32 × Int32 × St → Option (Int32 × St)) (x : Int32 × Int32 × Int32 × Int32 × Int32 × Int32 × St) : Option (Int32 × St) := match x with
  | (v1, v2, v3, v4, v5, v6, σ) =>
  if v1 < (v5 + v6) then
    bnd (v5 + (1 : Int32)) fun x1 =>
    K10 (v1, v2, v3, v4, x1, σ)
  else
    gd (inb (0 : Int32) (ln 46)) <|
    bd (f_X2_signOf ((gr σ 46 (0 : Int32).toNatClampNeg) - v5) σ) fun r3 s4 =>
    gd (inb (1 : Int32) (ln 46)) <|
    bd (f_X2_signOf ((gr s4 46 (1 : Int32).toNatClampNeg) - v6) s4) fun r7 s8 =>
    gd (inb (2 : Int32) (ln 46)) <|
    bd (f_X2_signOf ((gr s8 46 (2 : Int32).toNatClampNeg) - ((v1 - v5) - v6)) s8) fun r11 s12 =>
    bnd (((r3 + r7) + r11)) fun x14 =>
    if v2 ≤ x14 then
      f_X5_meet_89 K10 K19 v1 v2 v3 v4 v5 v6 s12
    else
      f_X5_meet_89 K10 K19 v1 x14 v5 v6 v5 v6 s12
theorem l_X5_meet_19 {Γ : CX} (K10 : Int32 × Int32 × Int32 × Int32 × Int32 × St → Option (Int32 × St)) (hK10 : ∀ (v1 : Int32) (v2 : Int32) (v3 : Int32) (v4 : Int32) (v5 : Int32) (σ : St), RR vI Γ (K10 (v1, v2, v3, v4, v5, σ)) → WW Γ cX5_meet 8 RX5 (some .int) rX5_meet σ 10 [(0, .ref (xd Γ 43)), (1, .int v1), (2, .int v2), (3, .int v3), (4, .int v4), (5, .int v5)] []) : ∀ (n : Nat) (v1 : Int32) (v2 : Int32) (v3 : Int32) (v4 : Int32) (v5 : Int32) (v6 : Int32) (σ : St), RR vI Γ (itr (g_X5_meet_19 K10) n (v1, v2, v3, v4, v5, v6, σ)) → WW Γ cX5_meet 8 RX5 (some .int) rX5_meet σ 19 [(0, .ref (xd Γ 43)), (1, .int v1), (2, .int v2), (3, .int v3), (4, .int v4), (5, .int v5), (6, .int v6)] [] := by
  intro n
  induction n with
  | zero => intro v1 v2 v3 v4 v5 v6 σ h; exact RR.no h
  | succ n hK19 =>
  intro v1 v2 v3 v4 v5 v6 σ h
  have h : RR vI Γ (g_X5_meet_19 K10 (itr (g_X5_meet_19 K10) n) (v1, v2, v3, v4, v5, v6, σ)) := h
  generalize itr (g_X5_meet_19 K10) n = K19 at h hK19
  unfold g_X5_meet_19 at h
  dsimp only at h
  refine w_iload 5 dX5_meet_19 rfl rfl ?_
  refine w_iload 6 dX5_meet_21 rfl rfl ?_
  refine w_iadd dX5_meet_23 rfl ?_
  refine w_iload_n 1 dX5_meet_24 rfl rfl rfl ?_
  refine w_icmp_gt (tgt := 95) dX5_meet_25 (by decide) rfl (fun q => ?_) (fun q => ?_)
  · have h := h.tt q
    obtain ⟨x1, ex1⟩ : ∃ y : Int32, y = (v5 + (1 : Int32)) := ⟨_, rfl⟩
    replace h := h.bnd ex1
    refine w_iinc 5 x1 [(5, .int x1), (0, .ref (xd Γ 43)), (1, .int v1), (2, .int v2), (3, .int v3), (4, .int v4), (6, .int v6)] dX5_meet_95 rfl (by rw [ex1, ic_iconst_1]) (by decide) rfl rfl ?_
    clear ex1
    refine w_goto (tgt := 10) dX5_meet_98 (by decide) ?_
    exact w_sub [1, 2, 3, 4, 5, 0] rfl (hK10 v1 v2 v3 v4 x1 σ h)
  · have h := h.ff q
    refine w_aload_n 0 dX5_meet_28 rfl rfl rfl ?_
    refine gf_RX5_16 dX5_meet_29 rfl ?_
    refine w_iconst (0 : Int32) dX5_meet_32 ic_iconst_0 rfl ?_
    obtain ⟨hi2, h⟩ := h.gd
    refine w_iald (i := 46) (lt_lit (by decide)) rfl hi2 dX5_meet_33 rfl ?_
    refine w_iload 5 dX5_meet_34 rfl rfl ?_
    refine w_isub dX5_meet_36 rfl ?_
    obtain ⟨r3, s4, h5, h⟩ := h.bd
    refine k_X2_signOf ml_RX5_34 (Nat.le_of_ble_eq_true rfl) ⟨Nat.le_of_ble_eq_true rfl, Nat.le_of_ble_eq_true rfl⟩ dX5_meet_37 rfl h5 ?_
    refine w_aload_n 0 dX5_meet_40 rfl rfl rfl ?_
    refine gf_RX5_16 dX5_meet_41 rfl ?_
    refine w_iconst (1 : Int32) dX5_meet_44 ic_iconst_1 rfl ?_
    obtain ⟨hi6, h⟩ := h.gd
    refine w_iald (i := 46) (lt_lit (by decide)) rfl hi6 dX5_meet_45 rfl ?_
    refine w_iload 6 dX5_meet_46 rfl rfl ?_
    refine w_isub dX5_meet_48 rfl ?_
    obtain ⟨r7, s8, h9, h⟩ := h.bd
    refine k_X2_signOf ml_RX5_34 (Nat.le_of_ble_eq_true rfl) ⟨Nat.le_of_ble_eq_true rfl, Nat.le_of_ble_eq_true rfl⟩ dX5_meet_49 rfl h9 ?_
    refine w_iadd dX5_meet_52 rfl ?_
    refine w_aload_n 0 dX5_meet_53 rfl rfl rfl ?_
    refine gf_RX5_16 dX5_meet_54 rfl ?_
    refine w_iconst (2 : Int32) dX5_meet_57 ic_iconst_2 rfl ?_
    obtain ⟨hi10, h⟩ := h.gd
    refine w_iald (i := 46) (lt_lit (by decide)) rfl hi10 dX5_meet_58 rfl ?_
    refine w_iload_n 1 dX5_meet_59 rfl rfl rfl ?_
    refine w_iload 5 dX5_meet_60 rfl rfl ?_
    refine w_isub dX5_meet_62 rfl ?_
    refine w_iload 6 dX5_meet_63 rfl rfl ?_
    refine w_isub dX5_meet_65 rfl ?_
    refine w_isub dX5_meet_66 rfl ?_
    obtain ⟨r11, s12, h13, h⟩ := h.bd
    refine k_X2_signOf ml_RX5_34 (Nat.le_of_ble_eq_true rfl) ⟨Nat.le_of_ble_eq_true rfl, Nat.le_of_ble_eq_true rfl⟩ dX5_meet_67 rfl h13 ?_
    refine w_iadd dX5_meet_70 rfl ?_
    refine w_nmI (fun x14 ex14 => ?_)
    replace h := h.bnd ex14
    clear ex14
    refine w_istore [(7, .int x14), (0, .ref (xd Γ 43)), (1, .int v1), (2, .int v2), (3, .int v3), (4, .int v4), (5, .int v5), (6, .int v6)] dX5_meet_71 (by decide) rfl rfl ?_
    refine w_iload 0 dX5_meet_73 rfl rfl ?_
    refine w_iload_n 3 dX5_meet_75 rfl rfl rfl ?_
    refine w_icmp_ge (tgt := 89) dX5_meet_76 (by decide) rfl (fun q => ?_) (fun q => ?_)
    · have h := h.tt q
      exact w_sub [1, 2, 3, 4, 5, 6, 7] rfl (b_X5_meet_89 K10 K19 hK10 hK19 v1 v2 v3 v4 v5 v6 s12 h)
    · have h := h.ff q
      refine w_iload 0 dX5_meet_79 rfl rfl ?_
      refine w_istore_n [(2, .int x14), (7, .int x14), (0, .ref (xd Γ 43)), (1, .int v1), (3, .int v3), (4, .int v4), (5, .int v5), (6, .int v6)] dX5_meet_81 rfl (by decide) rfl rfl ?_
      refine w_iload 6 dX5_meet_82 rfl rfl ?_
      refine w_istore_n [(3, .int v5), (2, .int x14), (7, .int x14), (0, .ref (xd Γ 43)), (1, .int v1), (4, .int v4), (5, .int v5), (6, .int v6)] dX5_meet_84 rfl (by decide) rfl rfl ?_
      refine w_iload 7 dX5_meet_85 rfl rfl ?_
      refine w_istore [(4, .int v6), (3, .int v5), (2, .int x14), (7, .int x14), (0, .ref (xd Γ 43)), (1, .int v1), (5, .int v5), (6, .int v6)] dX5_meet_87 (by decide) rfl rfl ?_
      exact w_sub [4, 5, 2, 1, 0, 6, 7] rfl (b_X5_meet_89 K10 K19 hK10 hK19 v1 x14 v5 v6 v5 v6 s12 h)
def g_X5_meet_10 (K10 : Int32 × Int32 × Int32 × Int32 × Int32 × St → Option (Int32 × St)) (x : Int32 × Int32 × Int32 × Int32 × Int32 × St) : Option (Int32 × St) := match x with
  | (v1, v2, v3, v4, v5, σ) =>
  if v1 < v5 then
    bd (f_X5_put 47 v3 v4 v1 σ) fun _ s2 =>
    some (v2, s2)
  else
    itr (g_X5_meet_19 K10) FU (v1, v2, v3, v4, v5, (0 : Int32), σ)
theorem l_X5_meet_10 {Γ : CX} : ∀ (n : Nat) (v1 : Int32) (v2 : Int32) (v3 : Int32) (v4 : Int32) (v5 : Int32) (σ : St), RR vI Γ (itr (g_X5_meet_10) n (v1, v2, v3, v4, v5, σ)) → WW Γ cX5_meet 8 RX5 (some .int) rX5_meet σ 10 [(0, .ref (xd Γ 43)), (1, .int v1), (2, .int v2), (3, .int v3), (4, .int v4), (5, .int v5)] [] := by
  intro n
  induction n with
  | zero => intro v1 v2 v3 v4 v5 σ h; exact RR.no h
  | succ n hK10 =>
  intro v1 v2 v3 v4 v5 σ h
  have h : RR vI Γ (g_X5_meet_10 (itr (g_X5_meet_10) n) (v1, v2, v3, v4, v5, σ)) := h
  generalize itr (g_X5_meet_10) n = K10 at h hK10
  unfold g_X5_meet_10 at h
  dsimp only at h
  refine w_iload 5 dX5_meet_10 rfl rfl ?_
  refine w_iload_n 1 dX5_meet_12 rfl rfl rfl ?_
  refine w_icmp_gt (tgt := 101) dX5_meet_13 (by decide) rfl (fun q => ?_) (fun q => ?_)
  · have h := h.tt q
    refine w_aload_n 0 dX5_meet_101 rfl rfl rfl ?_
    refine gf_RX5_19 dX5_meet_102 rfl ?_
    refine w_iload_n 3 dX5_meet_105 rfl rfl rfl ?_
    refine w_iload 4 dX5_meet_106 rfl rfl ?_
    refine w_iload_n 1 dX5_meet_108 rfl rfl rfl ?_
    obtain ⟨r1, s2, h3, h⟩ := h.bd
    refine k_X5_put ml_RX5_26 (Nat.le_of_ble_eq_true rfl) ⟨Nat.le_of_ble_eq_true rfl, Nat.le_of_ble_eq_true rfl⟩ dX5_meet_109 rfl h3 ?_
    refine w_iload_n 2 dX5_meet_112 rfl rfl rfl ?_
    exact w_ireturn dX5_meet_113 h
  · have h := h.ff q
    refine w_iconst (0 : Int32) dX5_meet_16 ic_iconst_0 rfl ?_
    refine w_istore [(6, .int (0 : Int32)), (0, .ref (xd Γ 43)), (1, .int v1), (2, .int v2), (3, .int v3), (4, .int v4), (5, .int v5)] dX5_meet_17 (by decide) rfl rfl ?_
    exact w_sub [1, 2, 3, 4, 5, 6, 0] rfl (l_X5_meet_19 K10 hK10 FU v1 v2 v3 v4 v5 (0 : Int32) σ h)
def f_X5_meet (p0 : Int32) (σ : St) : Option (Int32 × St) :=
  itr (g_X5_meet_10) FU (p0, (4 : Int32), (0 : Int32), (0 : Int32), (0 : Int32), σ)
theorem e_X5_meet {Γ : CX} (p0 : Int32) (σ : St) (h : RR vI Γ (f_X5_meet p0 σ)) : WW Γ cX5_meet 8 RX5 (some .int) rX5_meet σ 0 [(0, .ref (xd Γ 43)), (1, .int p0)] [] := by
  unfold f_X5_meet at h
  refine w_iconst (4 : Int32) dX5_meet_0 ic_iconst_4 rfl ?_
  refine w_istore_n [(2, .int (4 : Int32)), (0, .ref (xd Γ 43)), (1, .int p0)] dX5_meet_1 rfl (by decide) rfl rfl ?_
  refine w_iconst (0 : Int32) dX5_meet_2 ic_iconst_0 rfl ?_
  refine w_istore_n [(3, .int (0 : Int32)), (2, .int (4 : Int32)), (0, .ref (xd Γ 43)), (1, .int p0)] dX5_meet_3 rfl (by decide) rfl rfl ?_
  refine w_iconst (0 : Int32) dX5_meet_4 ic_iconst_0 rfl ?_
  refine w_istore [(4, .int (0 : Int32)), (3, .int (0 : Int32)), (2, .int (4 : Int32)), (0, .ref (xd Γ 43)), (1, .int p0)] dX5_meet_5 (by decide) rfl rfl ?_
  refine w_iconst (0 : Int32) dX5_meet_7 ic_iconst_0 rfl ?_
  refine w_istore [(5, .int (0 : Int32)), (4, .int (0 : Int32)), (3, .int (0 : Int32)), (2, .int (4 : Int32)), (0, .ref (xd Γ 43)), (1, .int p0)] dX5_meet_8 (by decide) rfl rfl ?_
  exact w_sub [4, 5, 3, 2, 1, 0] rfl (l_X5_meet_10 FU p0 (4 : Int32) (0 : Int32) (0 : Int32) (0 : Int32) σ h)
theorem c_X5_meet {l : Launch} {D : va_G} {cy : Nat → ClassId} {ad : Nat → Nat} {p0 : Int32} {σ σ' : St} {r : Int32} (hf : f_X5_meet p0 σ = some (r, σ')) : CT l D cy ad yX5_meet cX5_meet 8 (some .int) rX5_meet [.ref (ad 43), .int p0] σ (some (.int r)) σ' :=
  ct_of (by decide) (Nat.le_of_ble_eq_true rfl) (fun p e s m args below meth c A => e_X5_meet (Γ := (p, l, e, rX5_meet, s, m, args, below, meth, c, D, cy, ad, A, 0, 0, MQ below (QC D cy ad (some (.int r)) σ' A) args s 0 0 A)) p0 σ ⟨_, hf, rfl⟩)
theorem k_X5_meet {Γ : CX} {cc : ByteArray} {nL : Nat} {own : String} {ret : Option FieldType} {rm : Room} {σ σ' : St} {pc pc' idx : Nat} {lv : List (Nat × Value)} {rest : List Value} {p0 : Int32} {r : Int32} (hl : Cond.methodLink own idx yX5_meet ∈ TB) (hw : (rest.map fun v => v.category).sum ≤ 8) (hR : rX5_meet.frames + 1 ≤ rm.frames ∧ 8 + (8 + 11) + rX5_meet.locals ≤ rm.locals) (hd : decode cc pc = .ok (.invokevirtual idx, 3)) (hp : pc + 3 = pc') (hf : f_X5_meet p0 σ = some (r, σ')) (h : WW Γ cc nL own ret rm σ' pc' lv (.int r :: rest)) : WW Γ cc nL own ret rm σ pc lv (.int p0 :: .ref (xd Γ 43) :: rest) :=
  w_callV (nn := 1) (i := 43) (As := [.int p0]) (v := (some (.int r))) (T := TX5) (N := 5) (c_X5_meet hf) hl mw_X5_meet (by decide +kernel) ⟨rfl, rfl⟩ hR (lt_lit (by decide)) cel_43 rfl rfl hw hd rfl hp h
/-! WarByHours.Reader.advance ()V -/
def rX6_advance : Room := { frames := 1, cells := 0, slots := 0, locals := 23 }
def f_X6_advance_180 (K118 : St → Option (Unit × St)) (σ : St) : Option (Unit × St) :=
  bnd (sf σ 29 6 ((gf σ 29 6) + (1 : Int32))) fun s1 =>
  K118 (s1)
theorem b_X6_advance_180 {Γ : CX} (K118 : St → Option (Unit × St)) (hK118 : ∀ (σ : St), RR vU Γ (K118 (σ)) → WW Γ cX6_advance 1 RX6 none rX6_advance σ 118 [(0, .ref (xd Γ 29))] []) (σ : St) (h : RR vU Γ (f_X6_advance_180 K118 σ)) : WW Γ cX6_advance 1 RX6 none rX6_advance σ 180 [(0, .ref (xd Γ 29))] [] := by
  unfold f_X6_advance_180 at h
  refine w_aload_n 0 dX6_advance_180 rfl rfl rfl ?_
  refine w_dup dX6_advance_181 rfl rfl ?_
  refine gf_RX6_34 dX6_advance_182 rfl ?_
  refine w_iconst (1 : Int32) dX6_advance_185 ic_iconst_1 rfl ?_
  refine w_iadd dX6_advance_186 rfl ?_
  refine pf_RX6_34 dX6_advance_187 rfl ?_
  obtain ⟨s1, es1⟩ : ∃ y : St, y = (sf σ 29 6 ((gf σ 29 6) + (1 : Int32))) := ⟨_, rfl⟩
  rw [← es1]
  replace h := h.bnd es1
  clear es1
  refine w_goto (tgt := 118) dX6_advance_190 (by decide) ?_
  exact w_sub [0] rfl (hK118 s1 h)
def f_X6_advance_193 (σ : St) : Option (Unit × St) :=
  some ((), σ)
theorem b_X6_advance_193 {Γ : CX} (σ : St) (h : RR vU Γ (f_X6_advance_193 σ)) : WW Γ cX6_advance 1 RX6 none rX6_advance σ 193 [] [] := by
  unfold f_X6_advance_193 at h
  exact w_return dX6_advance_193 h
def g_X6_advance_118 (K118 : St → Option (Unit × St)) (x : St) : Option (Unit × St) := match x with
  | (σ) =>
  if (gf σ 29 1) ≤ (gf σ 29 6) then
    f_X6_advance_193 σ
  else
    bd (f_X6_kindAt (gf σ 29 6) σ) fun r1 s2 =>
    if r1 = (gf s2 29 7) then
      if (gf s2 29 7) = (3 : Int32) then
        bd (f_X6_byteAt (gf s2 29 6) s2) fun r4 s5 =>
        bnd (sf s5 29 8 (if ((((gf s2 29 8) * (10 : Int32)) + r4) - (48 : Int32)) < (100000 : Int32) then ((((gf s2 29 8) * (10 : Int32)) + r4) - (48 : Int32)) else (100000 : Int32))) fun s7 =>
        f_X6_advance_180 K118 s7
      else
        f_X6_advance_180 K118 s2
    else
      f_X6_advance_193 s2
theorem l_X6_advance_118 {Γ : CX} : ∀ (n : Nat) (σ : St), RR vU Γ (itr (g_X6_advance_118) n (σ)) → WW Γ cX6_advance 1 RX6 none rX6_advance σ 118 [(0, .ref (xd Γ 29))] [] := by
  intro n
  induction n with
  | zero => intro  σ h; exact RR.no h
  | succ n hK118 =>
  intro  σ h
  have h : RR vU Γ (g_X6_advance_118 (itr (g_X6_advance_118) n) (σ)) := h
  generalize itr (g_X6_advance_118) n = K118 at h hK118
  unfold g_X6_advance_118 at h
  dsimp only at h
  refine w_aload_n 0 dX6_advance_118 rfl rfl rfl ?_
  refine gf_RX6_34 dX6_advance_119 rfl ?_
  refine w_aload_n 0 dX6_advance_122 rfl rfl rfl ?_
  refine gf_RX6_23 dX6_advance_123 rfl ?_
  refine w_icmp_ge (tgt := 193) dX6_advance_126 (by decide) rfl (fun q => ?_) (fun q => ?_)
  · have h := h.tt q
    exact w_sub [] rfl (b_X6_advance_193 σ h)
  · have h := h.ff q
    refine w_aload_n 0 dX6_advance_129 rfl rfl rfl ?_
    refine w_aload_n 0 dX6_advance_130 rfl rfl rfl ?_
    refine gf_RX6_34 dX6_advance_131 rfl ?_
    obtain ⟨r1, s2, h3, h⟩ := h.bd
    refine k_X6_kindAt ml_RX6_202 (Nat.le_of_ble_eq_true rfl) ⟨Nat.le_of_ble_eq_true rfl, Nat.le_of_ble_eq_true rfl⟩ dX6_advance_134 rfl h3 ?_
    refine w_aload_n 0 dX6_advance_137 rfl rfl rfl ?_
    refine gf_RX6_40 dX6_advance_138 rfl ?_
    refine w_icmp_ne (tgt := 193) dX6_advance_141 (by decide) rfl (fun q => ?_) (fun q => ?_)
    · have h := h.ff q
      exact w_sub [] rfl (b_X6_advance_193 s2 h)
    · have h := h.tt q
      refine w_aload_n 0 dX6_advance_144 rfl rfl rfl ?_
      refine gf_RX6_40 dX6_advance_145 rfl ?_
      refine w_iconst (3 : Int32) dX6_advance_148 ic_iconst_3 rfl ?_
      refine w_icmp_ne (tgt := 180) dX6_advance_149 (by decide) rfl (fun q => ?_) (fun q => ?_)
      · have h := h.ff q
        exact w_sub [0] rfl (b_X6_advance_180 K118 hK118 s2 h)
      · have h := h.tt q
        refine w_aload_n 0 dX6_advance_152 rfl rfl rfl ?_
        refine w_ldc (100000 : Int32) dX6_advance_153 cn_RX6_210 rfl ?_
        refine w_aload_n 0 dX6_advance_155 rfl rfl rfl ?_
        refine gf_RX6_183 dX6_advance_156 rfl ?_
        refine w_bipush (10 : Int32) dX6_advance_159 ic_bipush_10 rfl ?_
        refine w_imul dX6_advance_161 rfl ?_
        refine w_aload_n 0 dX6_advance_162 rfl rfl rfl ?_
        refine w_aload_n 0 dX6_advance_163 rfl rfl rfl ?_
        refine gf_RX6_34 dX6_advance_164 rfl ?_
        obtain ⟨r4, s5, h6, h⟩ := h.bd
        refine k_X6_byteAt ml_RX6_194 (Nat.le_of_ble_eq_true rfl) ⟨Nat.le_of_ble_eq_true rfl, Nat.le_of_ble_eq_true rfl⟩ dX6_advance_167 rfl h6 ?_
        refine w_iadd dX6_advance_170 rfl ?_
        refine w_bipush (48 : Int32) dX6_advance_171 ic_bipush_48 rfl ?_
        refine w_isub dX6_advance_173 rfl ?_
        refine w_mmin ml_RX6_205 (Nat.le_of_ble_eq_true rfl) ⟨Nat.le_of_ble_eq_true rfl, Nat.le_of_ble_eq_true rfl⟩ dX6_advance_174 rfl ?_
        refine pf_RX6_183 dX6_advance_177 rfl ?_
        obtain ⟨s7, es7⟩ : ∃ y : St, y = (sf s5 29 8 (if ((((gf s2 29 8) * (10 : Int32)) + r4) - (48 : Int32)) < (100000 : Int32) then ((((gf s2 29 8) * (10 : Int32)) + r4) - (48 : Int32)) else (100000 : Int32))) := ⟨_, rfl⟩
        rw [← es7]
        replace h := h.bnd es7
        clear es7
        exact w_sub [0] rfl (b_X6_advance_180 K118 hK118 s7 h)
def f_X6_advance_101 (σ : St) : Option (Unit × St) :=
  if (gf σ 29 7) = (2 : Int32) then
    itr (g_X6_advance_118) FU (σ)
  else
    if (gf σ 29 7) = (3 : Int32) then
      itr (g_X6_advance_118) FU (σ)
    else
      some ((), σ)
theorem b_X6_advance_101 {Γ : CX} (σ : St) (h : RR vU Γ (f_X6_advance_101 σ)) : WW Γ cX6_advance 1 RX6 none rX6_advance σ 101 [(0, .ref (xd Γ 29))] [] := by
  unfold f_X6_advance_101 at h
  refine w_aload_n 0 dX6_advance_101 rfl rfl rfl ?_
  refine gf_RX6_40 dX6_advance_102 rfl ?_
  refine w_iconst (2 : Int32) dX6_advance_105 ic_iconst_2 rfl ?_
  refine w_icmp_eq (tgt := 118) dX6_advance_106 (by decide) rfl (fun q => ?_) (fun q => ?_)
  · have h := h.tt q
    exact w_sub [0] rfl (l_X6_advance_118 FU σ h)
  · have h := h.ff q
    refine w_aload_n 0 dX6_advance_109 rfl rfl rfl ?_
    refine gf_RX6_40 dX6_advance_110 rfl ?_
    refine w_iconst (3 : Int32) dX6_advance_113 ic_iconst_3 rfl ?_
    refine w_icmp_eq (tgt := 118) dX6_advance_114 (by decide) rfl (fun q => ?_) (fun q => ?_)
    · have h := h.tt q
      exact w_sub [0] rfl (l_X6_advance_118 FU σ h)
    · have h := h.ff q
      exact w_return dX6_advance_117 h
def f_X6_advance_44 (σ : St) : Option (Unit × St) :=
  bd (f_X6_kindAt (gf σ 29 5) σ) fun r1 s2 =>
  bnd (sf s2 29 7 r1) fun s4 =>
  bnd (sf s4 29 8 (0 : Int32)) fun s5 =>
  bnd (sf s5 29 6 (if (gf s5 29 1) < ((gf s5 29 5) + (1 : Int32)) then (gf s5 29 1) else ((gf s5 29 5) + (1 : Int32)))) fun s6 =>
  if (gf s6 29 7) = (3 : Int32) then
    bd (f_X6_byteAt (gf s6 29 5) s6) fun r7 s8 =>
    bnd (sf s8 29 8 (r7 - (48 : Int32))) fun s10 =>
    f_X6_advance_101 s10
  else
    f_X6_advance_101 s6
theorem b_X6_advance_44 {Γ : CX} (σ : St) (h : RR vU Γ (f_X6_advance_44 σ)) : WW Γ cX6_advance 1 RX6 none rX6_advance σ 44 [(0, .ref (xd Γ 29))] [] := by
  unfold f_X6_advance_44 at h
  refine w_aload_n 0 dX6_advance_44 rfl rfl rfl ?_
  refine w_aload_n 0 dX6_advance_45 rfl rfl rfl ?_
  refine w_aload_n 0 dX6_advance_46 rfl rfl rfl ?_
  refine gf_RX6_186 dX6_advance_47 rfl ?_
  obtain ⟨r1, s2, h3, h⟩ := h.bd
  refine k_X6_kindAt ml_RX6_202 (Nat.le_of_ble_eq_true rfl) ⟨Nat.le_of_ble_eq_true rfl, Nat.le_of_ble_eq_true rfl⟩ dX6_advance_50 rfl h3 ?_
  refine pf_RX6_40 dX6_advance_53 rfl ?_
  obtain ⟨s4, es4⟩ : ∃ y : St, y = (sf s2 29 7 r1) := ⟨_, rfl⟩
  rw [← es4]
  replace h := h.bnd es4
  clear es4
  refine w_aload_n 0 dX6_advance_56 rfl rfl rfl ?_
  refine w_iconst (0 : Int32) dX6_advance_57 ic_iconst_0 rfl ?_
  refine pf_RX6_183 dX6_advance_58 rfl ?_
  obtain ⟨s5, es5⟩ : ∃ y : St, y = (sf s4 29 8 (0 : Int32)) := ⟨_, rfl⟩
  rw [← es5]
  replace h := h.bnd es5
  clear es5
  refine w_aload_n 0 dX6_advance_61 rfl rfl rfl ?_
  refine w_aload_n 0 dX6_advance_62 rfl rfl rfl ?_
  refine gf_RX6_186 dX6_advance_63 rfl ?_
  refine w_iconst (1 : Int32) dX6_advance_66 ic_iconst_1 rfl ?_
  refine w_iadd dX6_advance_67 rfl ?_
  refine w_aload_n 0 dX6_advance_68 rfl rfl rfl ?_
  refine gf_RX6_23 dX6_advance_69 rfl ?_
  refine w_mmin ml_RX6_205 (Nat.le_of_ble_eq_true rfl) ⟨Nat.le_of_ble_eq_true rfl, Nat.le_of_ble_eq_true rfl⟩ dX6_advance_72 rfl ?_
  refine pf_RX6_34 dX6_advance_75 rfl ?_
  obtain ⟨s6, es6⟩ : ∃ y : St, y = (sf s5 29 6 (if (gf s5 29 1) < ((gf s5 29 5) + (1 : Int32)) then (gf s5 29 1) else ((gf s5 29 5) + (1 : Int32)))) := ⟨_, rfl⟩
  rw [← es6]
  replace h := h.bnd es6
  clear es6
  refine w_aload_n 0 dX6_advance_78 rfl rfl rfl ?_
  refine gf_RX6_40 dX6_advance_79 rfl ?_
  refine w_iconst (3 : Int32) dX6_advance_82 ic_iconst_3 rfl ?_
  refine w_icmp_ne (tgt := 101) dX6_advance_83 (by decide) rfl (fun q => ?_) (fun q => ?_)
  · have h := h.ff q
    exact w_sub [0] rfl (b_X6_advance_101 s6 h)
  · have h := h.tt q
    refine w_aload_n 0 dX6_advance_86 rfl rfl rfl ?_
    refine w_aload_n 0 dX6_advance_87 rfl rfl rfl ?_
    refine w_aload_n 0 dX6_advance_88 rfl rfl rfl ?_
    refine gf_RX6_186 dX6_advance_89 rfl ?_
    obtain ⟨r7, s8, h9, h⟩ := h.bd
    refine k_X6_byteAt ml_RX6_194 (Nat.le_of_ble_eq_true rfl) ⟨Nat.le_of_ble_eq_true rfl, Nat.le_of_ble_eq_true rfl⟩ dX6_advance_92 rfl h9 ?_
    refine w_bipush (48 : Int32) dX6_advance_95 ic_bipush_48 rfl ?_
    refine w_isub dX6_advance_97 rfl ?_
    refine pf_RX6_183 dX6_advance_98 rfl ?_
    obtain ⟨s10, es10⟩ : ∃ y : St, y = (sf s8 29 8 (r7 - (48 : Int32))) := ⟨_, rfl⟩
    rw [← es10]
    replace h := h.bnd es10
    clear es10
    exact w_sub [0] rfl (b_X6_advance_101 s10 h)
def g_X6_advance_8 (K8 : St → Option (Unit × St)) (x : St) : Option (Unit × St) := match x with
  | (σ) =>
  if (gf σ 29 1) ≤ (gf σ 29 5) then
    f_X6_advance_44 σ
  else
    bd (f_X6_kindAt (gf σ 29 5) σ) fun r1 s2 =>
    if r1 = (1 : Int32) then
      bnd (sf s2 29 5 ((gf s2 29 5) + (1 : Int32))) fun s4 =>
      K8 (s4)
    else
      f_X6_advance_44 s2
theorem l_X6_advance_8 {Γ : CX} : ∀ (n : Nat) (σ : St), RR vU Γ (itr (g_X6_advance_8) n (σ)) → WW Γ cX6_advance 1 RX6 none rX6_advance σ 8 [(0, .ref (xd Γ 29))] [] := by
  intro n
  induction n with
  | zero => intro  σ h; exact RR.no h
  | succ n hK8 =>
  intro  σ h
  have h : RR vU Γ (g_X6_advance_8 (itr (g_X6_advance_8) n) (σ)) := h
  generalize itr (g_X6_advance_8) n = K8 at h hK8
  unfold g_X6_advance_8 at h
  dsimp only at h
  refine w_aload_n 0 dX6_advance_8 rfl rfl rfl ?_
  refine gf_RX6_186 dX6_advance_9 rfl ?_
  refine w_aload_n 0 dX6_advance_12 rfl rfl rfl ?_
  refine gf_RX6_23 dX6_advance_13 rfl ?_
  refine w_icmp_ge (tgt := 44) dX6_advance_16 (by decide) rfl (fun q => ?_) (fun q => ?_)
  · have h := h.tt q
    exact w_sub [0] rfl (b_X6_advance_44 σ h)
  · have h := h.ff q
    refine w_aload_n 0 dX6_advance_19 rfl rfl rfl ?_
    refine w_aload_n 0 dX6_advance_20 rfl rfl rfl ?_
    refine gf_RX6_186 dX6_advance_21 rfl ?_
    obtain ⟨r1, s2, h3, h⟩ := h.bd
    refine k_X6_kindAt ml_RX6_202 (Nat.le_of_ble_eq_true rfl) ⟨Nat.le_of_ble_eq_true rfl, Nat.le_of_ble_eq_true rfl⟩ dX6_advance_24 rfl h3 ?_
    refine w_iconst (1 : Int32) dX6_advance_27 ic_iconst_1 rfl ?_
    refine w_icmp_ne (tgt := 44) dX6_advance_28 (by decide) rfl (fun q => ?_) (fun q => ?_)
    · have h := h.ff q
      exact w_sub [0] rfl (b_X6_advance_44 s2 h)
    · have h := h.tt q
      refine w_aload_n 0 dX6_advance_31 rfl rfl rfl ?_
      refine w_dup dX6_advance_32 rfl rfl ?_
      refine gf_RX6_186 dX6_advance_33 rfl ?_
      refine w_iconst (1 : Int32) dX6_advance_36 ic_iconst_1 rfl ?_
      refine w_iadd dX6_advance_37 rfl ?_
      refine pf_RX6_186 dX6_advance_38 rfl ?_
      obtain ⟨s4, es4⟩ : ∃ y : St, y = (sf s2 29 5 ((gf s2 29 5) + (1 : Int32))) := ⟨_, rfl⟩
      rw [← es4]
      replace h := h.bnd es4
      clear es4
      refine w_goto (tgt := 8) dX6_advance_41 (by decide) ?_
      exact w_sub [0] rfl (hK8 s4 h)
def f_X6_advance (σ : St) : Option (Unit × St) :=
  bnd (sf σ 29 5 (gf σ 29 6)) fun s1 =>
  itr (g_X6_advance_8) FU (s1)
theorem e_X6_advance {Γ : CX} (σ : St) (h : RR vU Γ (f_X6_advance σ)) : WW Γ cX6_advance 1 RX6 none rX6_advance σ 0 [(0, .ref (xd Γ 29))] [] := by
  unfold f_X6_advance at h
  refine w_aload_n 0 dX6_advance_0 rfl rfl rfl ?_
  refine w_aload_n 0 dX6_advance_1 rfl rfl rfl ?_
  refine gf_RX6_34 dX6_advance_2 rfl ?_
  refine pf_RX6_186 dX6_advance_5 rfl ?_
  obtain ⟨s1, es1⟩ : ∃ y : St, y = (sf σ 29 5 (gf σ 29 6)) := ⟨_, rfl⟩
  rw [← es1]
  replace h := h.bnd es1
  clear es1
  exact w_sub [0] rfl (l_X6_advance_8 FU s1 h)
theorem c_X6_advance {l : Launch} {D : va_G} {cy : Nat → ClassId} {ad : Nat → Nat}  {σ σ' : St} {r : Unit} (hf : f_X6_advance σ = some (r, σ')) : CT l D cy ad yX6_advance cX6_advance 1 none rX6_advance [.ref (ad 29)] σ none σ' :=
  ct_of (by decide) (Nat.le_of_ble_eq_true rfl) (fun p e s m args below meth c A => e_X6_advance (Γ := (p, l, e, rX6_advance, s, m, args, below, meth, c, D, cy, ad, A, 0, 0, MQ below (QC D cy ad none σ' A) args s 0 0 A)) σ ⟨_, hf, rfl⟩)
theorem k_X6_advance {Γ : CX} {cc : ByteArray} {nL : Nat} {own : String} {ret : Option FieldType} {rm : Room} {σ σ' : St} {pc pc' idx : Nat} {lv : List (Nat × Value)} {rest : List Value}  {r : Unit} (hl : Cond.methodLink own idx yX6_advance ∈ TB) (hw : (rest.map fun v => v.category).sum ≤ 8) (hR : rX6_advance.frames + 1 ≤ rm.frames ∧ 8 + (1 + 11) + rX6_advance.locals ≤ rm.locals) (hd : decode cc pc = .ok (.invokevirtual idx, 3)) (hp : pc + 3 = pc') (hf : f_X6_advance σ = some (r, σ')) (h : WW Γ cc nL own ret rm σ' pc' lv (rest)) : WW Γ cc nL own ret rm σ pc lv (.ref (xd Γ 29) :: rest) :=
  w_callV (nn := 0) (i := 29) (As := []) (v := none) (T := TX6) (N := 9) (c_X6_advance hf) hl mw_X6_advance (by decide +kernel) ⟨rfl, rfl⟩ hR (lt_lit (by decide)) cel_29 rfl rfl hw hd rfl hp h
/-! WarByHours.Slots.lay (III)I -/
def rX7_lay : Room := { frames := 1, cells := 0, slots := 0, locals := 20 }
def f_X7_lay_22 (σ : St) : Option (Int32 × St) :=
  some ((-2 : Int32), σ)
theorem b_X7_lay_22 {Γ : CX} (σ : St) (h : RR vI Γ (f_X7_lay_22 σ)) : WW Γ cX7_lay 5 RX7 (some .int) rX7_lay σ 22 [] [] := by
  unfold f_X7_lay_22 at h
  refine w_bipush (-2 : Int32) dX7_lay_22 ic_bipush_m2 rfl ?_
  exact w_ireturn dX7_lay_24 h
def g_X7_lay_56 (K56 : Int32 × Int32 × Int32 × St → Option (Int32 × St)) (x : Int32 × Int32 × Int32 × St) : Option (Int32 × St) := match x with
  | (v1, v3, v4, σ) =>
  if v3 ≤ v4 then
    some ((0 : Int32), σ)
  else
    gd (inb ((v1 * (60 : Int32)) + v4) (ln 56)) <|
    bnd (sj σ 56 ((v1 * (60 : Int32)) + v4).toNatClampNeg (0 : Int64)) fun s2 =>
    bnd (v4 + (1 : Int32)) fun x3 =>
    K56 (v1, v3, x3, s2)
theorem l_X7_lay_56 {Γ : CX} : ∀ (n : Nat) (v1 : Int32) (v3 : Int32) (v4 : Int32) (σ : St), RR vI Γ (itr (g_X7_lay_56) n (v1, v3, v4, σ)) → WW Γ cX7_lay 5 RX7 (some .int) rX7_lay σ 56 [(0, .ref (xd Γ 52)), (1, .int v1), (3, .int v3), (4, .int v4)] [] := by
  intro n
  induction n with
  | zero => intro v1 v3 v4 σ h; exact RR.no h
  | succ n hK56 =>
  intro v1 v3 v4 σ h
  have h : RR vI Γ (g_X7_lay_56 (itr (g_X7_lay_56) n) (v1, v3, v4, σ)) := h
  generalize itr (g_X7_lay_56) n = K56 at h hK56
  unfold g_X7_lay_56 at h
  dsimp only at h
  refine w_iload 3 dX7_lay_56 rfl rfl ?_
  refine w_iload_n 2 dX7_lay_58 rfl rfl rfl ?_
  refine w_icmp_ge (tgt := 81) dX7_lay_59 (by decide) rfl (fun q => ?_) (fun q => ?_)
  · have h := h.tt q
    refine w_iconst (0 : Int32) dX7_lay_81 ic_iconst_0 rfl ?_
    exact w_ireturn dX7_lay_82 h
  · have h := h.ff q
    refine w_aload_n 0 dX7_lay_62 rfl rfl rfl ?_
    refine gf_RX7_22 dX7_lay_63 rfl ?_
    refine w_iload_n 1 dX7_lay_66 rfl rfl rfl ?_
    refine w_bipush (60 : Int32) dX7_lay_67 ic_bipush_60 rfl ?_
    refine w_imul dX7_lay_69 rfl ?_
    refine w_iload 3 dX7_lay_70 rfl rfl ?_
    refine w_iadd dX7_lay_72 rfl ?_
    refine w_lconst (0 : Int64) dX7_lay_73 rfl rfl ?_
    obtain ⟨hi1, h⟩ := h.gd
    refine w_last (i := 56) (lt_lit (by decide)) rfl hi1 dX7_lay_74 rfl ?_
    obtain ⟨s2, es2⟩ : ∃ y : St, y = (sj σ 56 ((v1 * (60 : Int32)) + v4).toNatClampNeg (0 : Int64)) := ⟨_, rfl⟩
    rw [← es2]
    replace h := h.bnd es2
    clear es2
    obtain ⟨x3, ex3⟩ : ∃ y : Int32, y = (v4 + (1 : Int32)) := ⟨_, rfl⟩
    replace h := h.bnd ex3
    refine w_iinc 3 x3 [(4, .int x3), (0, .ref (xd Γ 52)), (1, .int v1), (3, .int v3)] dX7_lay_75 rfl (by rw [ex3, ic_iconst_1]) (by decide) rfl rfl ?_
    clear ex3
    refine w_goto (tgt := 56) dX7_lay_78 (by decide) ?_
    exact w_sub [1, 2, 3, 0] rfl (hK56 v1 v3 x3 s2 h)
def f_X7_lay (p0 : Int32) (p1 : Int32) (p2 : Int32) (σ : St) : Option (Int32 × St) :=
  bd (f_X7_isSlot p0 σ) fun r1 s2 =>
  if r1 = 0 then
    f_X7_lay_22 s2
  else
    if p1 < 0 then
      f_X7_lay_22 s2
    else
      if (4 : Int32) ≤ p1 then
        f_X7_lay_22 s2
      else
        if p2 ≤ (60 : Int32) then
          if 0 ≤ p2 then
            gd (inb p0 (ln 53)) <|
            bnd (sr s2 53 p0.toNatClampNeg (vp_nar .boolean (1 : Int32))) fun s5 =>
            gd (inb p0 (ln 54)) <|
            bnd (sr s5 54 p0.toNatClampNeg p1) fun s7 =>
            gd (inb p0 (ln 55)) <|
            bnd (sr s7 55 p0.toNatClampNeg p2) fun s9 =>
            itr (g_X7_lay_56) FU (p0, p2, (0 : Int32), s9)
          else
            some ((-3 : Int32), s2)
        else
          f_X7_lay_22 s2
theorem e_X7_lay {Γ : CX} (p0 : Int32) (p1 : Int32) (p2 : Int32) (σ : St) (h : RR vI Γ (f_X7_lay p0 p1 p2 σ)) : WW Γ cX7_lay 5 RX7 (some .int) rX7_lay σ 0 [(0, .ref (xd Γ 52)), (1, .int p0), (2, .int p1), (3, .int p2)] [] := by
  unfold f_X7_lay at h
  refine w_iload_n 1 dX7_lay_0 rfl rfl rfl ?_
  obtain ⟨r1, s2, h3, h⟩ := h.bd
  refine k_X7_isSlot ml_RX7_26 (Nat.le_of_ble_eq_true rfl) ⟨Nat.le_of_ble_eq_true rfl, Nat.le_of_ble_eq_true rfl⟩ dX7_lay_1 rfl h3 ?_
  refine w_if_eq (tgt := 22) dX7_lay_4 (by decide) rfl (fun q => ?_) (fun q => ?_)
  · have h := h.tt q
    exact w_sub [] rfl (b_X7_lay_22 s2 h)
  · have h := h.ff q
    refine w_iload_n 2 dX7_lay_7 rfl rfl rfl ?_
    refine w_if_lt (tgt := 22) dX7_lay_8 (by decide) rfl (fun q => ?_) (fun q => ?_)
    · have h := h.tt q
      exact w_sub [] rfl (b_X7_lay_22 s2 h)
    · have h := h.ff q
      refine w_iload_n 2 dX7_lay_11 rfl rfl rfl ?_
      refine w_iconst (4 : Int32) dX7_lay_12 ic_iconst_4 rfl ?_
      refine w_icmp_ge (tgt := 22) dX7_lay_13 (by decide) rfl (fun q => ?_) (fun q => ?_)
      · have h := h.tt q
        exact w_sub [] rfl (b_X7_lay_22 s2 h)
      · have h := h.ff q
        refine w_iload_n 3 dX7_lay_16 rfl rfl rfl ?_
        refine w_bipush (60 : Int32) dX7_lay_17 ic_bipush_60 rfl ?_
        refine w_icmp_le (tgt := 25) dX7_lay_19 (by decide) rfl (fun q => ?_) (fun q => ?_)
        · have h := h.tt q
          refine w_iload_n 3 dX7_lay_25 rfl rfl rfl ?_
          refine w_if_ge (tgt := 32) dX7_lay_26 (by decide) rfl (fun q => ?_) (fun q => ?_)
          · have h := h.tt q
            refine w_aload_n 0 dX7_lay_32 rfl rfl rfl ?_
            refine gf_RX7_11 dX7_lay_33 rfl ?_
            refine w_iload_n 1 dX7_lay_36 rfl rfl rfl ?_
            refine w_iconst (1 : Int32) dX7_lay_37 ic_iconst_1 rfl ?_
            obtain ⟨hi4, h⟩ := h.gd
            refine w_zast (i := 53) (lt_lit (by decide)) rfl hi4 dX7_lay_38 rfl ?_
            obtain ⟨s5, es5⟩ : ∃ y : St, y = (sr s2 53 p0.toNatClampNeg (vp_nar .boolean (1 : Int32))) := ⟨_, rfl⟩
            rw [← es5]
            replace h := h.bnd es5
            clear es5
            refine w_aload_n 0 dX7_lay_39 rfl rfl rfl ?_
            refine gf_RX7_15 dX7_lay_40 rfl ?_
            refine w_iload_n 1 dX7_lay_43 rfl rfl rfl ?_
            refine w_iload_n 2 dX7_lay_44 rfl rfl rfl ?_
            obtain ⟨hi6, h⟩ := h.gd
            refine w_iast (i := 54) (lt_lit (by decide)) rfl hi6 dX7_lay_45 rfl ?_
            obtain ⟨s7, es7⟩ : ∃ y : St, y = (sr s5 54 p0.toNatClampNeg p1) := ⟨_, rfl⟩
            rw [← es7]
            replace h := h.bnd es7
            clear es7
            refine w_aload_n 0 dX7_lay_46 rfl rfl rfl ?_
            refine gf_RX7_19 dX7_lay_47 rfl ?_
            refine w_iload_n 1 dX7_lay_50 rfl rfl rfl ?_
            refine w_iload_n 3 dX7_lay_51 rfl rfl rfl ?_
            obtain ⟨hi8, h⟩ := h.gd
            refine w_iast (i := 55) (lt_lit (by decide)) rfl hi8 dX7_lay_52 rfl ?_
            obtain ⟨s9, es9⟩ : ∃ y : St, y = (sr s7 55 p0.toNatClampNeg p2) := ⟨_, rfl⟩
            rw [← es9]
            replace h := h.bnd es9
            clear es9
            refine w_iconst (0 : Int32) dX7_lay_53 ic_iconst_0 rfl ?_
            refine w_istore [(4, .int (0 : Int32)), (0, .ref (xd Γ 52)), (1, .int p0), (2, .int p1), (3, .int p2)] dX7_lay_54 (by decide) rfl rfl ?_
            exact w_sub [1, 2, 4, 0] rfl (l_X7_lay_56 FU p0 p2 (0 : Int32) s9 h)
          · have h := h.ff q
            refine w_bipush (-3 : Int32) dX7_lay_29 ic_bipush_m3 rfl ?_
            exact w_ireturn dX7_lay_31 h
        · have h := h.ff q
          exact w_sub [] rfl (b_X7_lay_22 s2 h)
theorem c_X7_lay {l : Launch} {D : va_G} {cy : Nat → ClassId} {ad : Nat → Nat} {p0 : Int32} {p1 : Int32} {p2 : Int32} {σ σ' : St} {r : Int32} (hf : f_X7_lay p0 p1 p2 σ = some (r, σ')) : CT l D cy ad yX7_lay cX7_lay 5 (some .int) rX7_lay [.ref (ad 52), .int p0, .int p1, .int p2] σ (some (.int r)) σ' :=
  ct_of (by decide) (Nat.le_of_ble_eq_true rfl) (fun p e s m args below meth c A => e_X7_lay (Γ := (p, l, e, rX7_lay, s, m, args, below, meth, c, D, cy, ad, A, 0, 0, MQ below (QC D cy ad (some (.int r)) σ' A) args s 0 0 A)) p0 p1 p2 σ ⟨_, hf, rfl⟩)
theorem k_X7_lay {Γ : CX} {cc : ByteArray} {nL : Nat} {own : String} {ret : Option FieldType} {rm : Room} {σ σ' : St} {pc pc' idx : Nat} {lv : List (Nat × Value)} {rest : List Value} {p0 : Int32} {p1 : Int32} {p2 : Int32} {r : Int32} (hl : Cond.methodLink own idx yX7_lay ∈ TB) (hw : (rest.map fun v => v.category).sum ≤ 8) (hR : rX7_lay.frames + 1 ≤ rm.frames ∧ 8 + (5 + 11) + rX7_lay.locals ≤ rm.locals) (hd : decode cc pc = .ok (.invokevirtual idx, 3)) (hp : pc + 3 = pc') (hf : f_X7_lay p0 p1 p2 σ = some (r, σ')) (h : WW Γ cc nL own ret rm σ' pc' lv (.int r :: rest)) : WW Γ cc nL own ret rm σ pc lv (.int p2 :: .int p1 :: .int p0 :: .ref (xd Γ 52) :: rest) :=
  w_callV (nn := 3) (i := 52) (As := [.int p0, .int p1, .int p2]) (v := (some (.int r))) (T := TX7) (N := 4) (c_X7_lay hf) hl mw_X7_lay (by decide +kernel) ⟨rfl, rfl⟩ hR (lt_lit (by decide)) cel_52 rfl rfl hw hd rfl hp h
/-! WarByHours.Slots.put (IIJ)I -/
def rX7_put : Room := { frames := 1, cells := 0, slots := 0, locals := 22 }
def f_X7_put_36 (σ : St) : Option (Int32 × St) :=
  some ((-7 : Int32), σ)
theorem b_X7_put_36 {Γ : CX} (σ : St) (h : RR vI Γ (f_X7_put_36 σ)) : WW Γ cX7_put 5 RX7 (some .int) rX7_put σ 36 [] [] := by
  unfold f_X7_put_36 at h
  refine w_bipush (-7 : Int32) dX7_put_36 ic_bipush_m7 rfl ?_
  exact w_ireturn dX7_put_38 h
def f_X7_put (p0 : Int32) (p1 : Int32) (p2 : Int64) (σ : St) : Option (Int32 × St) :=
  bd (f_X7_isSlot p0 σ) fun r1 s2 =>
  if r1 = 0 then
    some ((-2 : Int32), s2)
  else
    gd (inb p0 (ln 53)) <|
    if (gr s2 53 p0.toNatClampNeg) = 0 then
      some ((-6 : Int32), s2)
    else
      if p1 < 0 then
        f_X7_put_36 s2
      else
        gd (inb p0 (ln 55)) <|
        if p1 < (gr s2 55 p0.toNatClampNeg) then
          gd (inb p0 (ln 54)) <|
          bd (f_X7_cutTo (gr s2 54 p0.toNatClampNeg) p2 s2) fun r7 s8 =>
          gd (inb ((p0 * (60 : Int32)) + p1) (ln 56)) <|
          bnd (sj s8 56 ((p0 * (60 : Int32)) + p1).toNatClampNeg r7) fun s11 =>
          some ((0 : Int32), s11)
        else
          f_X7_put_36 s2
theorem e_X7_put {Γ : CX} (p0 : Int32) (p1 : Int32) (p2 : Int64) (σ : St) (h : RR vI Γ (f_X7_put p0 p1 p2 σ)) : WW Γ cX7_put 5 RX7 (some .int) rX7_put σ 0 [(0, .ref (xd Γ 52)), (1, .int p0), (2, .int p1), (3, .long p2)] [] := by
  unfold f_X7_put at h
  refine w_iload_n 1 dX7_put_0 rfl rfl rfl ?_
  obtain ⟨r1, s2, h3, h⟩ := h.bd
  refine k_X7_isSlot ml_RX7_26 (Nat.le_of_ble_eq_true rfl) ⟨Nat.le_of_ble_eq_true rfl, Nat.le_of_ble_eq_true rfl⟩ dX7_put_1 rfl h3 ?_
  refine w_if_ne (tgt := 10) dX7_put_4 (by decide) rfl (fun q => ?_) (fun q => ?_)
  · have h := h.ff q
    refine w_aload_n 0 dX7_put_10 rfl rfl rfl ?_
    refine gf_RX7_11 dX7_put_11 rfl ?_
    refine w_iload_n 1 dX7_put_14 rfl rfl rfl ?_
    obtain ⟨hi4, h⟩ := h.gd
    refine w_zald (i := 53) (lt_lit (by decide)) rfl hi4 dX7_put_15 rfl ?_
    refine w_if_ne (tgt := 22) dX7_put_16 (by decide) rfl (fun q => ?_) (fun q => ?_)
    · have h := h.ff q
      refine w_iload_n 2 dX7_put_22 rfl rfl rfl ?_
      refine w_if_lt (tgt := 36) dX7_put_23 (by decide) rfl (fun q => ?_) (fun q => ?_)
      · have h := h.tt q
        exact w_sub [] rfl (b_X7_put_36 s2 h)
      · have h := h.ff q
        refine w_iload_n 2 dX7_put_26 rfl rfl rfl ?_
        refine w_aload_n 0 dX7_put_27 rfl rfl rfl ?_
        refine gf_RX7_19 dX7_put_28 rfl ?_
        refine w_iload_n 1 dX7_put_31 rfl rfl rfl ?_
        obtain ⟨hi5, h⟩ := h.gd
        refine w_iald (i := 55) (lt_lit (by decide)) rfl hi5 dX7_put_32 rfl ?_
        refine w_icmp_lt (tgt := 39) dX7_put_33 (by decide) rfl (fun q => ?_) (fun q => ?_)
        · have h := h.tt q
          refine w_aload_n 0 dX7_put_39 rfl rfl rfl ?_
          refine gf_RX7_22 dX7_put_40 rfl ?_
          refine w_iload_n 1 dX7_put_43 rfl rfl rfl ?_
          refine w_bipush (60 : Int32) dX7_put_44 ic_bipush_60 rfl ?_
          refine w_imul dX7_put_46 rfl ?_
          refine w_iload_n 2 dX7_put_47 rfl rfl rfl ?_
          refine w_iadd dX7_put_48 rfl ?_
          refine w_aload_n 0 dX7_put_49 rfl rfl rfl ?_
          refine gf_RX7_15 dX7_put_50 rfl ?_
          refine w_iload_n 1 dX7_put_53 rfl rfl rfl ?_
          obtain ⟨hi6, h⟩ := h.gd
          refine w_iald (i := 54) (lt_lit (by decide)) rfl hi6 dX7_put_54 rfl ?_
          refine w_lload_n 3 dX7_put_55 rfl rfl rfl ?_
          obtain ⟨r7, s8, h9, h⟩ := h.bd
          refine k_X7_cutTo ml_RX7_30 (Nat.le_of_ble_eq_true rfl) ⟨Nat.le_of_ble_eq_true rfl, Nat.le_of_ble_eq_true rfl⟩ dX7_put_56 rfl h9 ?_
          obtain ⟨hi10, h⟩ := h.gd
          refine w_last (i := 56) (lt_lit (by decide)) rfl hi10 dX7_put_59 rfl ?_
          obtain ⟨s11, es11⟩ : ∃ y : St, y = (sj s8 56 ((p0 * (60 : Int32)) + p1).toNatClampNeg r7) := ⟨_, rfl⟩
          rw [← es11]
          replace h := h.bnd es11
          clear es11
          refine w_iconst (0 : Int32) dX7_put_60 ic_iconst_0 rfl ?_
          exact w_ireturn dX7_put_61 h
        · have h := h.ff q
          exact w_sub [] rfl (b_X7_put_36 s2 h)
    · have h := h.tt q
      refine w_bipush (-6 : Int32) dX7_put_19 ic_bipush_m6 rfl ?_
      exact w_ireturn dX7_put_21 h
  · have h := h.tt q
    refine w_bipush (-2 : Int32) dX7_put_7 ic_bipush_m2 rfl ?_
    exact w_ireturn dX7_put_9 h
theorem c_X7_put {l : Launch} {D : va_G} {cy : Nat → ClassId} {ad : Nat → Nat} {p0 : Int32} {p1 : Int32} {p2 : Int64} {σ σ' : St} {r : Int32} (hf : f_X7_put p0 p1 p2 σ = some (r, σ')) : CT l D cy ad yX7_put cX7_put 5 (some .int) rX7_put [.ref (ad 52), .int p0, .int p1, .long p2] σ (some (.int r)) σ' :=
  ct_of (by decide) (Nat.le_of_ble_eq_true rfl) (fun p e s m args below meth c A => e_X7_put (Γ := (p, l, e, rX7_put, s, m, args, below, meth, c, D, cy, ad, A, 0, 0, MQ below (QC D cy ad (some (.int r)) σ' A) args s 0 0 A)) p0 p1 p2 σ ⟨_, hf, rfl⟩)
theorem k_X7_put {Γ : CX} {cc : ByteArray} {nL : Nat} {own : String} {ret : Option FieldType} {rm : Room} {σ σ' : St} {pc pc' idx : Nat} {lv : List (Nat × Value)} {rest : List Value} {p0 : Int32} {p1 : Int32} {p2 : Int64} {r : Int32} (hl : Cond.methodLink own idx yX7_put ∈ TB) (hw : (rest.map fun v => v.category).sum ≤ 8) (hR : rX7_put.frames + 1 ≤ rm.frames ∧ 8 + (5 + 11) + rX7_put.locals ≤ rm.locals) (hd : decode cc pc = .ok (.invokevirtual idx, 3)) (hp : pc + 3 = pc') (hf : f_X7_put p0 p1 p2 σ = some (r, σ')) (h : WW Γ cc nL own ret rm σ' pc' lv (.int r :: rest)) : WW Γ cc nL own ret rm σ pc lv (.long p2 :: .int p1 :: .int p0 :: .ref (xd Γ 52) :: rest) :=
  w_callV (nn := 3) (i := 52) (As := [.int p0, .int p1, .long p2]) (v := (some (.int r))) (T := TX7) (N := 4) (c_X7_put hf) hl mw_X7_put (by decide +kernel) ⟨rfl, rfl⟩ hR (lt_lit (by decide)) cel_52 rfl rfl hw hd rfl hp h
/-! WarByHours.Slots.copy (IIIII)I -/
def rX7_copy : Room := { frames := 1, cells := 0, slots := 0, locals := 60 }
def f_X7_copy_14 (σ : St) : Option (Int32 × St) :=
  some ((-2 : Int32), σ)
theorem b_X7_copy_14 {Γ : CX} (σ : St) (h : RR vI Γ (f_X7_copy_14 σ)) : WW Γ cX7_copy 6 RX7 (some .int) rX7_copy σ 14 [] [] := by
  unfold f_X7_copy_14 at h
  refine w_bipush (-2 : Int32) dX7_copy_14 ic_bipush_m2 rfl ?_
  exact w_ireturn dX7_copy_16 h
def f_X7_copy_35 (σ : St) : Option (Int32 × St) :=
  some ((-6 : Int32), σ)
theorem b_X7_copy_35 {Γ : CX} (σ : St) (h : RR vI Γ (f_X7_copy_35 σ)) : WW Γ cX7_copy 6 RX7 (some .int) rX7_copy σ 35 [] [] := by
  unfold f_X7_copy_35 at h
  refine w_bipush (-6 : Int32) dX7_copy_35 ic_bipush_m6 rfl ?_
  exact w_ireturn dX7_copy_37 h
def f_X7_copy_79 (σ : St) : Option (Int32 × St) :=
  some ((-7 : Int32), σ)
theorem b_X7_copy_79 {Γ : CX} (σ : St) (h : RR vI Γ (f_X7_copy_79 σ)) : WW Γ cX7_copy 6 RX7 (some .int) rX7_copy σ 79 [] [] := by
  unfold f_X7_copy_79 at h
  refine w_bipush (-7 : Int32) dX7_copy_79 ic_bipush_m7 rfl ?_
  exact w_ireturn dX7_copy_81 h
def f_X7_copy (p0 : Int32) (p1 : Int32) (p2 : Int32) (p3 : Int32) (p4 : Int32) (σ : St) : Option (Int32 × St) :=
  bd (f_X7_isSlot p0 σ) fun r1 s2 =>
  if r1 = 0 then
    f_X7_copy_14 s2
  else
    bd (f_X7_isSlot p2 s2) fun r4 s5 =>
    if r4 = 0 then
      f_X7_copy_14 s5
    else
      gd (inb p0 (ln 53)) <|
      if (gr s5 53 p0.toNatClampNeg) = 0 then
        f_X7_copy_35 s5
      else
        gd (inb p2 (ln 53)) <|
        if (gr s5 53 p2.toNatClampNeg) = 0 then
          f_X7_copy_35 s5
        else
          gd (inb p0 (ln 54)) <|
          gd (inb p2 (ln 54)) <|
          if (gr s5 54 p0.toNatClampNeg) = (gr s5 54 p2.toNatClampNeg) then
            bd (f_X7_isWithin p0 p1 p4 s5) fun r11 s12 =>
            if r11 = 0 then
              f_X7_copy_79 s12
            else
              bd (f_X7_isWithin p2 p3 p4 s12) fun r14 s15 =>
              if r14 = 0 then
                f_X7_copy_79 s15
              else
                gd (cpok ((p0 * (60 : Int32)) + p1) ((p2 * (60 : Int32)) + p3) p4 (ln 56) (ln 56)) <|
                bnd (sJ s15 56 (va_cpy (gj s15 56) (gj s15 56) ((p0 * (60 : Int32)) + p1).toNatClampNeg ((p2 * (60 : Int32)) + p3).toNatClampNeg p4.toNatClampNeg)) fun s18 =>
                some ((0 : Int32), s18)
          else
            some ((-8 : Int32), s5)
theorem e_X7_copy {Γ : CX} (p0 : Int32) (p1 : Int32) (p2 : Int32) (p3 : Int32) (p4 : Int32) (σ : St) (h : RR vI Γ (f_X7_copy p0 p1 p2 p3 p4 σ)) : WW Γ cX7_copy 6 RX7 (some .int) rX7_copy σ 0 [(0, .ref (xd Γ 52)), (1, .int p0), (2, .int p1), (3, .int p2), (4, .int p3), (5, .int p4)] [] := by
  unfold f_X7_copy at h
  refine w_iload_n 1 dX7_copy_0 rfl rfl rfl ?_
  obtain ⟨r1, s2, h3, h⟩ := h.bd
  refine k_X7_isSlot ml_RX7_26 (Nat.le_of_ble_eq_true rfl) ⟨Nat.le_of_ble_eq_true rfl, Nat.le_of_ble_eq_true rfl⟩ dX7_copy_1 rfl h3 ?_
  refine w_if_eq (tgt := 14) dX7_copy_4 (by decide) rfl (fun q => ?_) (fun q => ?_)
  · have h := h.tt q
    exact w_sub [] rfl (b_X7_copy_14 s2 h)
  · have h := h.ff q
    refine w_iload_n 3 dX7_copy_7 rfl rfl rfl ?_
    obtain ⟨r4, s5, h6, h⟩ := h.bd
    refine k_X7_isSlot ml_RX7_26 (Nat.le_of_ble_eq_true rfl) ⟨Nat.le_of_ble_eq_true rfl, Nat.le_of_ble_eq_true rfl⟩ dX7_copy_8 rfl h6 ?_
    refine w_if_ne (tgt := 17) dX7_copy_11 (by decide) rfl (fun q => ?_) (fun q => ?_)
    · have h := h.ff q
      refine w_aload_n 0 dX7_copy_17 rfl rfl rfl ?_
      refine gf_RX7_11 dX7_copy_18 rfl ?_
      refine w_iload_n 1 dX7_copy_21 rfl rfl rfl ?_
      obtain ⟨hi7, h⟩ := h.gd
      refine w_zald (i := 53) (lt_lit (by decide)) rfl hi7 dX7_copy_22 rfl ?_
      refine w_if_eq (tgt := 35) dX7_copy_23 (by decide) rfl (fun q => ?_) (fun q => ?_)
      · have h := h.tt q
        exact w_sub [] rfl (b_X7_copy_35 s5 h)
      · have h := h.ff q
        refine w_aload_n 0 dX7_copy_26 rfl rfl rfl ?_
        refine gf_RX7_11 dX7_copy_27 rfl ?_
        refine w_iload_n 3 dX7_copy_30 rfl rfl rfl ?_
        obtain ⟨hi8, h⟩ := h.gd
        refine w_zald (i := 53) (lt_lit (by decide)) rfl hi8 dX7_copy_31 rfl ?_
        refine w_if_ne (tgt := 38) dX7_copy_32 (by decide) rfl (fun q => ?_) (fun q => ?_)
        · have h := h.ff q
          refine w_aload_n 0 dX7_copy_38 rfl rfl rfl ?_
          refine gf_RX7_15 dX7_copy_39 rfl ?_
          refine w_iload_n 1 dX7_copy_42 rfl rfl rfl ?_
          obtain ⟨hi9, h⟩ := h.gd
          refine w_iald (i := 54) (lt_lit (by decide)) rfl hi9 dX7_copy_43 rfl ?_
          refine w_aload_n 0 dX7_copy_44 rfl rfl rfl ?_
          refine gf_RX7_15 dX7_copy_45 rfl ?_
          refine w_iload_n 3 dX7_copy_48 rfl rfl rfl ?_
          obtain ⟨hi10, h⟩ := h.gd
          refine w_iald (i := 54) (lt_lit (by decide)) rfl hi10 dX7_copy_49 rfl ?_
          refine w_icmp_eq (tgt := 56) dX7_copy_50 (by decide) rfl (fun q => ?_) (fun q => ?_)
          · have h := h.tt q
            refine w_aload_n 0 dX7_copy_56 rfl rfl rfl ?_
            refine w_iload_n 1 dX7_copy_57 rfl rfl rfl ?_
            refine w_iload_n 2 dX7_copy_58 rfl rfl rfl ?_
            refine w_iload 5 dX7_copy_59 rfl rfl ?_
            obtain ⟨r11, s12, h13, h⟩ := h.bd
            refine k_X7_isWithin ml_RX7_34 (Nat.le_of_ble_eq_true rfl) ⟨Nat.le_of_ble_eq_true rfl, Nat.le_of_ble_eq_true rfl⟩ dX7_copy_61 rfl h13 ?_
            refine w_if_eq (tgt := 79) dX7_copy_64 (by decide) rfl (fun q => ?_) (fun q => ?_)
            · have h := h.tt q
              exact w_sub [] rfl (b_X7_copy_79 s12 h)
            · have h := h.ff q
              refine w_aload_n 0 dX7_copy_67 rfl rfl rfl ?_
              refine w_iload_n 3 dX7_copy_68 rfl rfl rfl ?_
              refine w_iload 4 dX7_copy_69 rfl rfl ?_
              refine w_iload 5 dX7_copy_71 rfl rfl ?_
              obtain ⟨r14, s15, h16, h⟩ := h.bd
              refine k_X7_isWithin ml_RX7_34 (Nat.le_of_ble_eq_true rfl) ⟨Nat.le_of_ble_eq_true rfl, Nat.le_of_ble_eq_true rfl⟩ dX7_copy_73 rfl h16 ?_
              refine w_if_ne (tgt := 82) dX7_copy_76 (by decide) rfl (fun q => ?_) (fun q => ?_)
              · have h := h.ff q
                refine w_aload_n 0 dX7_copy_82 rfl rfl rfl ?_
                refine gf_RX7_22 dX7_copy_83 rfl ?_
                refine w_iload_n 1 dX7_copy_86 rfl rfl rfl ?_
                refine w_bipush (60 : Int32) dX7_copy_87 ic_bipush_60 rfl ?_
                refine w_imul dX7_copy_89 rfl ?_
                refine w_iload_n 2 dX7_copy_90 rfl rfl rfl ?_
                refine w_iadd dX7_copy_91 rfl ?_
                refine w_aload_n 0 dX7_copy_92 rfl rfl rfl ?_
                refine gf_RX7_22 dX7_copy_93 rfl ?_
                refine w_iload_n 3 dX7_copy_96 rfl rfl rfl ?_
                refine w_bipush (60 : Int32) dX7_copy_97 ic_bipush_60 rfl ?_
                refine w_imul dX7_copy_99 rfl ?_
                refine w_iload 4 dX7_copy_100 rfl rfl ?_
                refine w_iadd dX7_copy_102 rfl ?_
                refine w_iload 5 dX7_copy_103 rfl rfl ?_
                obtain ⟨hi17, h⟩ := h.gd
                refine w_copyJ (i := 56) (j := 56) (lt_lit (by decide)) (lt_lit (by decide)) rfl rfl ml_RX7_38 hi17 (Nat.le_of_ble_eq_true rfl) ⟨Nat.le_of_ble_eq_true rfl, Nat.le_of_ble_eq_true rfl⟩ dX7_copy_105 rfl ?_
                obtain ⟨s18, es18⟩ : ∃ y : St, y = (sJ s15 56 (va_cpy (gj s15 56) (gj s15 56) ((p0 * (60 : Int32)) + p1).toNatClampNeg ((p2 * (60 : Int32)) + p3).toNatClampNeg p4.toNatClampNeg)) := ⟨_, rfl⟩
                rw [← es18]
                replace h := h.bnd es18
                clear es18
                refine w_iconst (0 : Int32) dX7_copy_108 ic_iconst_0 rfl ?_
                exact w_ireturn dX7_copy_109 h
              · have h := h.tt q
                exact w_sub [] rfl (b_X7_copy_79 s15 h)
          · have h := h.ff q
            refine w_bipush (-8 : Int32) dX7_copy_53 ic_bipush_m8 rfl ?_
            exact w_ireturn dX7_copy_55 h
        · have h := h.tt q
          exact w_sub [] rfl (b_X7_copy_35 s5 h)
    · have h := h.tt q
      exact w_sub [] rfl (b_X7_copy_14 s5 h)
theorem c_X7_copy {l : Launch} {D : va_G} {cy : Nat → ClassId} {ad : Nat → Nat} {p0 : Int32} {p1 : Int32} {p2 : Int32} {p3 : Int32} {p4 : Int32} {σ σ' : St} {r : Int32} (hf : f_X7_copy p0 p1 p2 p3 p4 σ = some (r, σ')) : CT l D cy ad yX7_copy cX7_copy 6 (some .int) rX7_copy [.ref (ad 52), .int p0, .int p1, .int p2, .int p3, .int p4] σ (some (.int r)) σ' :=
  ct_of (by decide) (Nat.le_of_ble_eq_true rfl) (fun p e s m args below meth c A => e_X7_copy (Γ := (p, l, e, rX7_copy, s, m, args, below, meth, c, D, cy, ad, A, 0, 0, MQ below (QC D cy ad (some (.int r)) σ' A) args s 0 0 A)) p0 p1 p2 p3 p4 σ ⟨_, hf, rfl⟩)
theorem k_X7_copy {Γ : CX} {cc : ByteArray} {nL : Nat} {own : String} {ret : Option FieldType} {rm : Room} {σ σ' : St} {pc pc' idx : Nat} {lv : List (Nat × Value)} {rest : List Value} {p0 : Int32} {p1 : Int32} {p2 : Int32} {p3 : Int32} {p4 : Int32} {r : Int32} (hl : Cond.methodLink own idx yX7_copy ∈ TB) (hw : (rest.map fun v => v.category).sum ≤ 8) (hR : rX7_copy.frames + 1 ≤ rm.frames ∧ 8 + (6 + 11) + rX7_copy.locals ≤ rm.locals) (hd : decode cc pc = .ok (.invokevirtual idx, 3)) (hp : pc + 3 = pc') (hf : f_X7_copy p0 p1 p2 p3 p4 σ = some (r, σ')) (h : WW Γ cc nL own ret rm σ' pc' lv (.int r :: rest)) : WW Γ cc nL own ret rm σ pc lv (.int p4 :: .int p3 :: .int p2 :: .int p1 :: .int p0 :: .ref (xd Γ 52) :: rest) :=
  w_callV (nn := 5) (i := 52) (As := [.int p0, .int p1, .int p2, .int p3, .int p4]) (v := (some (.int r))) (T := TX7) (N := 4) (c_X7_copy hf) hl mw_X7_copy (by decide +kernel) ⟨rfl, rfl⟩ hR (lt_lit (by decide)) cel_52 rfl rfl hw hd rfl hp h
/-! WarByHours.Suspects.knownTo (I)I -/
def rX8_knownTo : Room := { frames := 1, cells := 0, slots := 0, locals := 22 }
def f_X8_knownTo (p0 : Int32) (σ : St) : Option (Int32 × St) :=
  bd (f_X9_cell 11 p0 (0 : Int32) σ) fun r1 s2 =>
  some (r1, s2)
theorem e_X8_knownTo {Γ : CX} (p0 : Int32) (σ : St) (h : RR vI Γ (f_X8_knownTo p0 σ)) : WW Γ cX8_knownTo 2 RX8 (some .int) rX8_knownTo σ 0 [(0, .ref (xd Γ 49)), (1, .int p0)] [] := by
  unfold f_X8_knownTo at h
  refine w_aload_n 0 dX8_knownTo_0 rfl rfl rfl ?_
  refine gf_RX8_9 dX8_knownTo_1 rfl ?_
  refine gf_RX8_15 (i := 1) (isW_lit (by decide)) dX8_knownTo_4 rfl ?_
  refine w_iload_n 1 dX8_knownTo_7 rfl rfl rfl ?_
  refine w_iconst (0 : Int32) dX8_knownTo_8 ic_iconst_0 rfl ?_
  obtain ⟨r1, s2, h3, h⟩ := h.bd
  refine k_X9_cell ml_RX8_59 (Nat.le_of_ble_eq_true rfl) ⟨Nat.le_of_ble_eq_true rfl, Nat.le_of_ble_eq_true rfl⟩ dX8_knownTo_9 rfl h3 ?_
  exact w_ireturn dX8_knownTo_12 h
theorem c_X8_knownTo {l : Launch} {D : va_G} {cy : Nat → ClassId} {ad : Nat → Nat} {p0 : Int32} {σ σ' : St} {r : Int32} (hf : f_X8_knownTo p0 σ = some (r, σ')) : CT l D cy ad yX8_knownTo cX8_knownTo 2 (some .int) rX8_knownTo [.ref (ad 49), .int p0] σ (some (.int r)) σ' :=
  ct_of (by decide) (Nat.le_of_ble_eq_true rfl) (fun p e s m args below meth c A => e_X8_knownTo (Γ := (p, l, e, rX8_knownTo, s, m, args, below, meth, c, D, cy, ad, A, 0, 0, MQ below (QC D cy ad (some (.int r)) σ' A) args s 0 0 A)) p0 σ ⟨_, hf, rfl⟩)
theorem k_X8_knownTo {Γ : CX} {cc : ByteArray} {nL : Nat} {own : String} {ret : Option FieldType} {rm : Room} {σ σ' : St} {pc pc' idx : Nat} {lv : List (Nat × Value)} {rest : List Value} {p0 : Int32} {r : Int32} (hl : Cond.methodLink own idx yX8_knownTo ∈ TB) (hw : (rest.map fun v => v.category).sum ≤ 8) (hR : rX8_knownTo.frames + 1 ≤ rm.frames ∧ 8 + (2 + 11) + rX8_knownTo.locals ≤ rm.locals) (hd : decode cc pc = .ok (.invokevirtual idx, 3)) (hp : pc + 3 = pc') (hf : f_X8_knownTo p0 σ = some (r, σ')) (h : WW Γ cc nL own ret rm σ' pc' lv (.int r :: rest)) : WW Γ cc nL own ret rm σ pc lv (.int p0 :: .ref (xd Γ 49) :: rest) :=
  w_callV (nn := 1) (i := 49) (As := [.int p0]) (v := (some (.int r))) (T := TX8) (N := 1) (c_X8_knownTo hf) hl mw_X8_knownTo (by decide +kernel) ⟨rfl, rfl⟩ hR (lt_lit (by decide)) cel_49 rfl rfl hw hd rfl hp h
/-! WarByHours.War.hasSet (I)Z -/
def rX10_hasSet : Room := { frames := 2, cells := 0, slots := 0, locals := 43 }
def f_X10_hasSet_24 (w : Nat) (k0 : Int32) (σ : St) : Option (Int32 × St) :=
  gd (bz k0) <| some (k0, σ)
theorem b_X10_hasSet_24 {Γ : CX} (w : Nat) (k0 : Int32) (σ : St) (h : RR vI Γ (f_X10_hasSet_24 w k0 σ)) : WW Γ cX10_hasSet 2 RX10 (some .boolean) rX10_hasSet σ 24 [] [.int k0] := by
  unfold f_X10_hasSet_24 at h
  obtain ⟨hb, h⟩ := h.gd
  exact w_zreturn dX10_hasSet_24 hb h
def f_X10_hasSet_23 (w : Nat) (σ : St) : Option (Int32 × St) :=
  f_X10_hasSet_24 w (0 : Int32) σ
theorem b_X10_hasSet_23 {Γ : CX} (w : Nat) (σ : St) (h : RR vI Γ (f_X10_hasSet_23 w σ)) : WW Γ cX10_hasSet 2 RX10 (some .boolean) rX10_hasSet σ 23 [] [] := by
  unfold f_X10_hasSet_23 at h
  refine w_iconst (0 : Int32) dX10_hasSet_23 ic_iconst_0 rfl ?_
  exact w_sub [] rfl (b_X10_hasSet_24 w (0 : Int32) σ h)
def f_X10_hasSet (w : Nat) (p0 : Int32) (σ : St) : Option (Int32 × St) :=
  gd (isW σ w) <|
  bd (f_X10_isTold w σ) fun r1 s2 =>
  if r1 = 0 then
    f_X10_hasSet_23 w s2
  else
    if p0 < 0 then
      f_X10_hasSet_23 w s2
    else
      bd (f_X10_sets w s2) fun r4 s5 =>
      if r4 ≤ p0 then
        f_X10_hasSet_23 w s5
      else
        f_X10_hasSet_24 w (1 : Int32) s5
theorem e_X10_hasSet {Γ : CX} (w : Nat) (p0 : Int32) (σ : St) (h : RR vI Γ (f_X10_hasSet w p0 σ)) : WW Γ cX10_hasSet 2 RX10 (some .boolean) rX10_hasSet σ 0 [(0, .ref (xd Γ w)), (1, .int p0)] [] := by
  unfold f_X10_hasSet at h
  obtain ⟨hg_w_σ, h⟩ := h.gd
  refine w_aload_n 0 dX10_hasSet_0 rfl rfl rfl ?_
  obtain ⟨r1, s2, h3, h⟩ := h.bd
  refine k_X10_isTold ml_RX10_65 (Nat.le_of_ble_eq_true rfl) ⟨Nat.le_of_ble_eq_true rfl, Nat.le_of_ble_eq_true rfl⟩ dX10_hasSet_1 rfl h3 ?_
  refine w_if_eq (tgt := 23) dX10_hasSet_4 (by decide) rfl (fun q => ?_) (fun q => ?_)
  · have h := h.tt q
    exact w_sub [] rfl (b_X10_hasSet_23 w s2 h)
  · have h := h.ff q
    refine w_iload_n 1 dX10_hasSet_7 rfl rfl rfl ?_
    refine w_if_lt (tgt := 23) dX10_hasSet_8 (by decide) rfl (fun q => ?_) (fun q => ?_)
    · have h := h.tt q
      exact w_sub [] rfl (b_X10_hasSet_23 w s2 h)
    · have h := h.ff q
      refine w_iload_n 1 dX10_hasSet_11 rfl rfl rfl ?_
      refine w_aload_n 0 dX10_hasSet_12 rfl rfl rfl ?_
      obtain ⟨r4, s5, h6, h⟩ := h.bd
      refine k_X10_sets ml_RX10_69 (Nat.le_of_ble_eq_true rfl) ⟨Nat.le_of_ble_eq_true rfl, Nat.le_of_ble_eq_true rfl⟩ dX10_hasSet_13 rfl h6 ?_
      refine w_icmp_ge (tgt := 23) dX10_hasSet_16 (by decide) rfl (fun q => ?_) (fun q => ?_)
      · have h := h.tt q
        exact w_sub [] rfl (b_X10_hasSet_23 w s5 h)
      · have h := h.ff q
        refine w_iconst (1 : Int32) dX10_hasSet_19 ic_iconst_1 rfl ?_
        refine w_goto (tgt := 24) dX10_hasSet_20 (by decide) ?_
        exact w_sub [] rfl (b_X10_hasSet_24 w (1 : Int32) s5 h)
theorem c_X10_hasSet {l : Launch} {D : va_G} {cy : Nat → ClassId} {ad : Nat → Nat} {w : Nat} {p0 : Int32} {σ σ' : St} {r : Int32} (hf : f_X10_hasSet w p0 σ = some (r, σ')) : CT l D cy ad yX10_hasSet cX10_hasSet 2 (some .boolean) rX10_hasSet [.ref (ad w), .int p0] σ (some (.int r)) σ' :=
  ct_of (by decide) (Nat.le_of_ble_eq_true rfl) (fun p e s m args below meth c A => e_X10_hasSet (Γ := (p, l, e, rX10_hasSet, s, m, args, below, meth, c, D, cy, ad, A, 0, 0, MQ below (QC D cy ad (some (.int r)) σ' A) args s 0 0 A)) w p0 σ ⟨_, hf, rfl⟩)
theorem k_X10_hasSet {Γ : CX} {cc : ByteArray} {nL : Nat} {own : String} {ret : Option FieldType} {rm : Room} {σ σ' : St} {pc pc' idx : Nat} {lv : List (Nat × Value)} {rest : List Value} {w : Nat} {p0 : Int32} {r : Int32} (hl : Cond.methodLink own idx yX10_hasSet ∈ TB) (hw : (rest.map fun v => v.category).sum ≤ 8) (hR : rX10_hasSet.frames + 1 ≤ rm.frames ∧ 8 + (2 + 11) + rX10_hasSet.locals ≤ rm.locals) (hd : decode cc pc = .ok (.invokevirtual idx, 3)) (hp : pc + 3 = pc') (hf : f_X10_hasSet w p0 σ = some (r, σ')) (h : WW Γ cc nL own ret rm σ' pc' lv (.int r :: rest)) : WW Γ cc nL own ret rm σ pc lv (.int p0 :: .ref (xd Γ w) :: rest) := by
  have hT : isW σ w = true := by
    unfold f_X10_hasSet at hf
    exact gd_of hf
  exact w_callV (nn := 1) (i := w) (As := [.int p0]) (v := (some (.int r))) (T := TX10) (N := 12) (c_X10_hasSet hf) hl mw_X10_hasSet (by decide +kernel) ⟨rfl, rfl⟩ hR (isW_lt hT 0 (by decide)) (cel_W hT) rfl rfl hw hd rfl hp h
/-! WarByHours.War.change (III)I -/
def rX10_change : Room := { frames := 2, cells := 0, slots := 0, locals := 46 }
def f_X10_change (w : Nat) (p0 : Int32) (p1 : Int32) (p2 : Int32) (σ : St) : Option (Int32 × St) :=
  gd (isW σ w) <|
  bd (f_X9_isFull (w + 12) σ) fun r1 s2 =>
  if r1 = 0 then
    bd (f_X10_toldNumber w p0 p1 s2) fun r4 s5 =>
    gd (isW s5 w) <|
    bd (f_X9_add (w + 12) s5) fun _ s8 =>
    gd (isW s8 w) <|
    bnd (((gf s8 (w + 12) 3) - (1 : Int32))) fun x10 =>
    bd (f_X9_set (w + 12) x10 (0 : Int32) p0 s8) fun _ s12 =>
    gd (isW s12 w) <|
    bd (f_X9_set (w + 12) x10 (1 : Int32) p1 s12) fun _ s15 =>
    gd (isW s15 w) <|
    bd (f_X9_set (w + 12) x10 (2 : Int32) r4 s15) fun _ s18 =>
    bd (f_X10_setToldNumber w p0 p1 p2 s18) fun _ s21 =>
    some (r4, s21)
  else
    some ((-5 : Int32), s2)
theorem e_X10_change {Γ : CX} (w : Nat) (p0 : Int32) (p1 : Int32) (p2 : Int32) (σ : St) (h : RR vI Γ (f_X10_change w p0 p1 p2 σ)) : WW Γ cX10_change 6 RX10 (some .int) rX10_change σ 0 [(0, .ref (xd Γ w)), (1, .int p0), (2, .int p1), (3, .int p2)] [] := by
  unfold f_X10_change at h
  obtain ⟨hg_w_σ, h⟩ := h.gd
  refine w_aload_n 0 dX10_change_0 rfl rfl rfl ?_
  refine gf_RX10_36 (i := w) hg_w_σ dX10_change_1 rfl ?_
  obtain ⟨r1, s2, h3, h⟩ := h.bd
  refine k_X9_isFull ml_RX10_97 (Nat.le_of_ble_eq_true rfl) ⟨Nat.le_of_ble_eq_true rfl, Nat.le_of_ble_eq_true rfl⟩ dX10_change_4 rfl h3 ?_
  refine w_if_eq (tgt := 13) dX10_change_7 (by decide) rfl (fun q => ?_) (fun q => ?_)
  · have h := h.tt q
    refine w_aload_n 0 dX10_change_13 rfl rfl rfl ?_
    refine w_iload_n 1 dX10_change_14 rfl rfl rfl ?_
    refine w_iload_n 2 dX10_change_15 rfl rfl rfl ?_
    obtain ⟨r4, s5, h6, h⟩ := h.bd
    refine k_X10_toldNumber ml_RX10_100 (Nat.le_of_ble_eq_true rfl) ⟨Nat.le_of_ble_eq_true rfl, Nat.le_of_ble_eq_true rfl⟩ dX10_change_16 rfl h6 ?_
    refine w_istore [(4, .int r4), (0, .ref (xd Γ w)), (1, .int p0), (2, .int p1), (3, .int p2)] dX10_change_19 (by decide) rfl rfl ?_
    refine w_aload_n 1 dX10_change_21 rfl rfl rfl ?_
    obtain ⟨hg_w_s5, h⟩ := h.gd
    refine gf_RX10_36 (i := w) hg_w_s5 dX10_change_22 rfl ?_
    obtain ⟨r7, s8, h9, h⟩ := h.bd
    refine k_X9_add ml_RX10_103 (Nat.le_of_ble_eq_true rfl) ⟨Nat.le_of_ble_eq_true rfl, Nat.le_of_ble_eq_true rfl⟩ dX10_change_25 rfl h9 ?_
    refine w_aload_n 1 dX10_change_28 rfl rfl rfl ?_
    obtain ⟨hg_w_s8, h⟩ := h.gd
    refine gf_RX10_36 (i := w) hg_w_s8 dX10_change_29 rfl ?_
    refine gf_RX10_58 (i := (w + 12)) (isW_T hg_w_s8 12 (by decide)) dX10_change_32 rfl ?_
    refine w_iconst (1 : Int32) dX10_change_35 ic_iconst_1 rfl ?_
    refine w_isub dX10_change_36 rfl ?_
    refine w_nmI (fun x10 ex10 => ?_)
    replace h := h.bnd ex10
    clear ex10
    refine w_istore [(5, .int x10), (4, .int r4), (0, .ref (xd Γ w)), (1, .int p0), (2, .int p1), (3, .int p2)] dX10_change_37 (by decide) rfl rfl ?_
    refine w_aload_n 2 dX10_change_39 rfl rfl rfl ?_
    refine gf_RX10_36 (i := w) hg_w_s8 dX10_change_40 rfl ?_
    refine w_iload 0 dX10_change_43 rfl rfl ?_
    refine w_iconst (0 : Int32) dX10_change_45 ic_iconst_0 rfl ?_
    refine w_iload_n 3 dX10_change_46 rfl rfl rfl ?_
    obtain ⟨r11, s12, h13, h⟩ := h.bd
    refine k_X9_set ml_RX10_106 (Nat.le_of_ble_eq_true rfl) ⟨Nat.le_of_ble_eq_true rfl, Nat.le_of_ble_eq_true rfl⟩ dX10_change_47 rfl h13 ?_
    refine w_aload_n 2 dX10_change_50 rfl rfl rfl ?_
    obtain ⟨hg_w_s12, h⟩ := h.gd
    refine gf_RX10_36 (i := w) hg_w_s12 dX10_change_51 rfl ?_
    refine w_iload 0 dX10_change_54 rfl rfl ?_
    refine w_iconst (1 : Int32) dX10_change_56 ic_iconst_1 rfl ?_
    refine w_iload_n 4 dX10_change_57 rfl rfl rfl ?_
    obtain ⟨r14, s15, h16, h⟩ := h.bd
    refine k_X9_set ml_RX10_106 (Nat.le_of_ble_eq_true rfl) ⟨Nat.le_of_ble_eq_true rfl, Nat.le_of_ble_eq_true rfl⟩ dX10_change_58 rfl h16 ?_
    refine w_aload_n 2 dX10_change_61 rfl rfl rfl ?_
    obtain ⟨hg_w_s15, h⟩ := h.gd
    refine gf_RX10_36 (i := w) hg_w_s15 dX10_change_62 rfl ?_
    refine w_iload 0 dX10_change_65 rfl rfl ?_
    refine w_iconst (2 : Int32) dX10_change_67 ic_iconst_2 rfl ?_
    refine w_iload 1 dX10_change_68 rfl rfl ?_
    obtain ⟨r17, s18, h19, h⟩ := h.bd
    refine k_X9_set ml_RX10_106 (Nat.le_of_ble_eq_true rfl) ⟨Nat.le_of_ble_eq_true rfl, Nat.le_of_ble_eq_true rfl⟩ dX10_change_70 rfl h19 ?_
    refine w_aload_n 2 dX10_change_73 rfl rfl rfl ?_
    refine w_iload_n 3 dX10_change_74 rfl rfl rfl ?_
    refine w_iload_n 4 dX10_change_75 rfl rfl rfl ?_
    refine w_iload_n 5 dX10_change_76 rfl rfl rfl ?_
    obtain ⟨r20, s21, h22, h⟩ := h.bd
    refine k_X10_setToldNumber ml_RX10_110 (Nat.le_of_ble_eq_true rfl) ⟨Nat.le_of_ble_eq_true rfl, Nat.le_of_ble_eq_true rfl⟩ dX10_change_77 rfl h22 ?_
    refine w_iload 1 dX10_change_80 rfl rfl ?_
    exact w_ireturn dX10_change_82 h
  · have h := h.ff q
    refine w_bipush (-5 : Int32) dX10_change_10 ic_bipush_m5 rfl ?_
    exact w_ireturn dX10_change_12 h
theorem c_X10_change {l : Launch} {D : va_G} {cy : Nat → ClassId} {ad : Nat → Nat} {w : Nat} {p0 : Int32} {p1 : Int32} {p2 : Int32} {σ σ' : St} {r : Int32} (hf : f_X10_change w p0 p1 p2 σ = some (r, σ')) : CT l D cy ad yX10_change cX10_change 6 (some .int) rX10_change [.ref (ad w), .int p0, .int p1, .int p2] σ (some (.int r)) σ' :=
  ct_of (by decide) (Nat.le_of_ble_eq_true rfl) (fun p e s m args below meth c A => e_X10_change (Γ := (p, l, e, rX10_change, s, m, args, below, meth, c, D, cy, ad, A, 0, 0, MQ below (QC D cy ad (some (.int r)) σ' A) args s 0 0 A)) w p0 p1 p2 σ ⟨_, hf, rfl⟩)
theorem k_X10_change {Γ : CX} {cc : ByteArray} {nL : Nat} {own : String} {ret : Option FieldType} {rm : Room} {σ σ' : St} {pc pc' idx : Nat} {lv : List (Nat × Value)} {rest : List Value} {w : Nat} {p0 : Int32} {p1 : Int32} {p2 : Int32} {r : Int32} (hl : Cond.methodLink own idx yX10_change ∈ TB) (hw : (rest.map fun v => v.category).sum ≤ 8) (hR : rX10_change.frames + 1 ≤ rm.frames ∧ 8 + (6 + 11) + rX10_change.locals ≤ rm.locals) (hd : decode cc pc = .ok (.invokevirtual idx, 3)) (hp : pc + 3 = pc') (hf : f_X10_change w p0 p1 p2 σ = some (r, σ')) (h : WW Γ cc nL own ret rm σ' pc' lv (.int r :: rest)) : WW Γ cc nL own ret rm σ pc lv (.int p2 :: .int p1 :: .int p0 :: .ref (xd Γ w) :: rest) := by
  have hT : isW σ w = true := by
    unfold f_X10_change at hf
    exact gd_of hf
  exact w_callV (nn := 3) (i := w) (As := [.int p0, .int p1, .int p2]) (v := (some (.int r))) (T := TX10) (N := 12) (c_X10_change hf) hl mw_X10_change (by decide +kernel) ⟨rfl, rfl⟩ hR (isW_lt hT 0 (by decide)) (cel_W hT) rfl rfl hw hd rfl hp h
/-! WarByHours.War.takeBack ()I -/
def rX10_takeBack : Room := { frames := 2, cells := 0, slots := 0, locals := 46 }
def f_X10_takeBack (w : Nat) (σ : St) : Option (Int32 × St) :=
  gd (isW σ w) <|
  if (gf σ (w + 12) 3) = 0 then
    some ((-5 : Int32), σ)
  else
    bnd (((gf σ (w + 12) 3) - (1 : Int32))) fun x1 =>
    bd (f_X9_cell (w + 12) x1 (0 : Int32) σ) fun r2 s3 =>
    gd (isW s3 w) <|
    bd (f_X9_cell (w + 12) x1 (1 : Int32) s3) fun r5 s6 =>
    gd (isW s6 w) <|
    bd (f_X9_cell (w + 12) x1 (2 : Int32) s6) fun r8 s9 =>
    bd (f_X10_setToldNumber w r2 r5 r8 s9) fun _ s12 =>
    gd (isW s12 w) <|
    bd (f_X9_drop (w + 12) s12) fun _ s15 =>
    gd (isW s15 w) <|
    some ((gf s15 (w + 12) 3), s15)
theorem e_X10_takeBack {Γ : CX} (w : Nat) (σ : St) (h : RR vI Γ (f_X10_takeBack w σ)) : WW Γ cX10_takeBack 2 RX10 (some .int) rX10_takeBack σ 0 [(0, .ref (xd Γ w))] [] := by
  unfold f_X10_takeBack at h
  obtain ⟨hg_w_σ, h⟩ := h.gd
  refine w_aload_n 0 dX10_takeBack_0 rfl rfl rfl ?_
  refine gf_RX10_36 (i := w) hg_w_σ dX10_takeBack_1 rfl ?_
  refine gf_RX10_58 (i := (w + 12)) (isW_T hg_w_σ 12 (by decide)) dX10_takeBack_4 rfl ?_
  refine w_if_ne (tgt := 13) dX10_takeBack_7 (by decide) rfl (fun q => ?_) (fun q => ?_)
  · have h := h.ff q
    refine w_aload_n 0 dX10_takeBack_13 rfl rfl rfl ?_
    refine gf_RX10_36 (i := w) hg_w_σ dX10_takeBack_14 rfl ?_
    refine gf_RX10_58 (i := (w + 12)) (isW_T hg_w_σ 12 (by decide)) dX10_takeBack_17 rfl ?_
    refine w_iconst (1 : Int32) dX10_takeBack_20 ic_iconst_1 rfl ?_
    refine w_isub dX10_takeBack_21 rfl ?_
    refine w_nmI (fun x1 ex1 => ?_)
    replace h := h.bnd ex1
    clear ex1
    refine w_istore_n [(1, .int x1), (0, .ref (xd Γ w))] dX10_takeBack_22 rfl (by decide) rfl rfl ?_
    refine w_aload_n 1 dX10_takeBack_23 rfl rfl rfl ?_
    refine w_aload_n 1 dX10_takeBack_24 rfl rfl rfl ?_
    refine gf_RX10_36 (i := w) hg_w_σ dX10_takeBack_25 rfl ?_
    refine w_iload_n 0 dX10_takeBack_28 rfl rfl rfl ?_
    refine w_iconst (0 : Int32) dX10_takeBack_29 ic_iconst_0 rfl ?_
    obtain ⟨r2, s3, h4, h⟩ := h.bd
    refine k_X9_cell ml_RX10_79 (Nat.le_of_ble_eq_true rfl) ⟨Nat.le_of_ble_eq_true rfl, Nat.le_of_ble_eq_true rfl⟩ dX10_takeBack_30 rfl h4 ?_
    refine w_aload_n 1 dX10_takeBack_33 rfl rfl rfl ?_
    obtain ⟨hg_w_s3, h⟩ := h.gd
    refine gf_RX10_36 (i := w) hg_w_s3 dX10_takeBack_34 rfl ?_
    refine w_iload_n 0 dX10_takeBack_37 rfl rfl rfl ?_
    refine w_iconst (1 : Int32) dX10_takeBack_38 ic_iconst_1 rfl ?_
    obtain ⟨r5, s6, h7, h⟩ := h.bd
    refine k_X9_cell ml_RX10_79 (Nat.le_of_ble_eq_true rfl) ⟨Nat.le_of_ble_eq_true rfl, Nat.le_of_ble_eq_true rfl⟩ dX10_takeBack_39 rfl h7 ?_
    refine w_aload_n 1 dX10_takeBack_42 rfl rfl rfl ?_
    obtain ⟨hg_w_s6, h⟩ := h.gd
    refine gf_RX10_36 (i := w) hg_w_s6 dX10_takeBack_43 rfl ?_
    refine w_iload_n 0 dX10_takeBack_46 rfl rfl rfl ?_
    refine w_iconst (2 : Int32) dX10_takeBack_47 ic_iconst_2 rfl ?_
    obtain ⟨r8, s9, h10, h⟩ := h.bd
    refine k_X9_cell ml_RX10_79 (Nat.le_of_ble_eq_true rfl) ⟨Nat.le_of_ble_eq_true rfl, Nat.le_of_ble_eq_true rfl⟩ dX10_takeBack_48 rfl h10 ?_
    obtain ⟨r11, s12, h13, h⟩ := h.bd
    refine k_X10_setToldNumber ml_RX10_110 (Nat.le_of_ble_eq_true rfl) ⟨Nat.le_of_ble_eq_true rfl, Nat.le_of_ble_eq_true rfl⟩ dX10_takeBack_51 rfl h13 ?_
    refine w_aload_n 1 dX10_takeBack_54 rfl rfl rfl ?_
    obtain ⟨hg_w_s12, h⟩ := h.gd
    refine gf_RX10_36 (i := w) hg_w_s12 dX10_takeBack_55 rfl ?_
    obtain ⟨r14, s15, h16, h⟩ := h.bd
    refine k_X9_drop ml_RX10_113 (Nat.le_of_ble_eq_true rfl) ⟨Nat.le_of_ble_eq_true rfl, Nat.le_of_ble_eq_true rfl⟩ dX10_takeBack_58 rfl h16 ?_
    refine w_aload_n 1 dX10_takeBack_61 rfl rfl rfl ?_
    obtain ⟨hg_w_s15, h⟩ := h.gd
    refine gf_RX10_36 (i := w) hg_w_s15 dX10_takeBack_62 rfl ?_
    refine gf_RX10_58 (i := (w + 12)) (isW_T hg_w_s15 12 (by decide)) dX10_takeBack_65 rfl ?_
    exact w_ireturn dX10_takeBack_68 h
  · have h := h.tt q
    refine w_bipush (-5 : Int32) dX10_takeBack_10 ic_bipush_m5 rfl ?_
    exact w_ireturn dX10_takeBack_12 h
theorem c_X10_takeBack {l : Launch} {D : va_G} {cy : Nat → ClassId} {ad : Nat → Nat} {w : Nat} {σ σ' : St} {r : Int32} (hf : f_X10_takeBack w σ = some (r, σ')) : CT l D cy ad yX10_takeBack cX10_takeBack 2 (some .int) rX10_takeBack [.ref (ad w)] σ (some (.int r)) σ' :=
  ct_of (by decide) (Nat.le_of_ble_eq_true rfl) (fun p e s m args below meth c A => e_X10_takeBack (Γ := (p, l, e, rX10_takeBack, s, m, args, below, meth, c, D, cy, ad, A, 0, 0, MQ below (QC D cy ad (some (.int r)) σ' A) args s 0 0 A)) w σ ⟨_, hf, rfl⟩)
theorem k_X10_takeBack {Γ : CX} {cc : ByteArray} {nL : Nat} {own : String} {ret : Option FieldType} {rm : Room} {σ σ' : St} {pc pc' idx : Nat} {lv : List (Nat × Value)} {rest : List Value} {w : Nat} {r : Int32} (hl : Cond.methodLink own idx yX10_takeBack ∈ TB) (hw : (rest.map fun v => v.category).sum ≤ 8) (hR : rX10_takeBack.frames + 1 ≤ rm.frames ∧ 8 + (2 + 11) + rX10_takeBack.locals ≤ rm.locals) (hd : decode cc pc = .ok (.invokevirtual idx, 3)) (hp : pc + 3 = pc') (hf : f_X10_takeBack w σ = some (r, σ')) (h : WW Γ cc nL own ret rm σ' pc' lv (.int r :: rest)) : WW Γ cc nL own ret rm σ pc lv (.ref (xd Γ w) :: rest) := by
  have hT : isW σ w = true := by
    unfold f_X10_takeBack at hf
    exact gd_of hf
  exact w_callV (nn := 0) (i := w) (As := []) (v := (some (.int r))) (T := TX10) (N := 12) (c_X10_takeBack hf) hl mw_X10_takeBack (by decide +kernel) ⟨rfl, rfl⟩ hR (isW_lt hT 0 (by decide)) (cel_W hT) rfl rfl hw hd rfl hp h
/-! WarByHours.men (III)I -/
def rX11_men : Room := { frames := 3, cells := 0, slots := 0, locals := 69 }
def f_X11_men_29 (σ : St) : Option (Int32 × St) :=
  some ((-2 : Int32), σ)
theorem b_X11_men_29 {Γ : CX} (σ : St) (h : RR vI Γ (f_X11_men_29 σ)) : WW Γ cX11_men 4 RX11 (some .int) rX11_men σ 29 [] [] := by
  unfold f_X11_men_29 at h
  refine w_bipush (-2 : Int32) dX11_men_29 ic_bipush_m2 rfl ?_
  exact w_ireturn dX11_men_31 h
def f_X11_men (p0 : Int32) (p1 : Int32) (p2 : Int32) (σ : St) : Option (Int32 × St) :=
  bd (f_X10_hasSide 1 p0 σ) fun r1 s2 =>
  if r1 = 0 then
    f_X11_men_29 s2
  else
    bd (f_X11_isMinute p1 s2) fun r4 s5 =>
    if r4 = 0 then
      f_X11_men_29 s5
    else
      bd (f_X10_hasSet 1 p2 s5) fun r7 s8 =>
      if r7 = 0 then
        f_X11_men_29 s8
      else
        bd (f_X10_menThere 1 p0 p1 p2 s8) fun r10 s11 =>
        some (r10, s11)
theorem e_X11_men {Γ : CX} (p0 : Int32) (p1 : Int32) (p2 : Int32) (σ : St) (h : RR vI Γ (f_X11_men p0 p1 p2 σ)) : WW Γ cX11_men 4 RX11 (some .int) rX11_men σ 0 [(0, .ref (xd Γ 0)), (1, .int p0), (2, .int p1), (3, .int p2)] [] := by
  unfold f_X11_men at h
  refine w_aload_n 0 dX11_men_0 rfl rfl rfl ?_
  refine gf_RX11_10 dX11_men_1 rfl ?_
  refine w_iload_n 1 dX11_men_4 rfl rfl rfl ?_
  obtain ⟨r1, s2, h3, h⟩ := h.bd
  refine k_X10_hasSide ml_RX11_126 (Nat.le_of_ble_eq_true rfl) ⟨Nat.le_of_ble_eq_true rfl, Nat.le_of_ble_eq_true rfl⟩ dX11_men_5 rfl h3 ?_
  refine w_if_eq (tgt := 29) dX11_men_8 (by decide) rfl (fun q => ?_) (fun q => ?_)
  · have h := h.tt q
    exact w_sub [] rfl (b_X11_men_29 s2 h)
  · have h := h.ff q
    refine w_iload_n 2 dX11_men_11 rfl rfl rfl ?_
    obtain ⟨r4, s5, h6, h⟩ := h.bd
    refine k_X11_isMinute ml_RX11_152 (Nat.le_of_ble_eq_true rfl) ⟨Nat.le_of_ble_eq_true rfl, Nat.le_of_ble_eq_true rfl⟩ dX11_men_12 rfl h6 ?_
    refine w_if_eq (tgt := 29) dX11_men_15 (by decide) rfl (fun q => ?_) (fun q => ?_)
    · have h := h.tt q
      exact w_sub [] rfl (b_X11_men_29 s5 h)
    · have h := h.ff q
      refine w_aload_n 0 dX11_men_18 rfl rfl rfl ?_
      refine gf_RX11_10 dX11_men_19 rfl ?_
      refine w_iload_n 3 dX11_men_22 rfl rfl rfl ?_
      obtain ⟨r7, s8, h9, h⟩ := h.bd
      refine k_X10_hasSet ml_RX11_155 (Nat.le_of_ble_eq_true rfl) ⟨Nat.le_of_ble_eq_true rfl, Nat.le_of_ble_eq_true rfl⟩ dX11_men_23 rfl h9 ?_
      refine w_if_ne (tgt := 32) dX11_men_26 (by decide) rfl (fun q => ?_) (fun q => ?_)
      · have h := h.ff q
        refine w_aload_n 0 dX11_men_32 rfl rfl rfl ?_
        refine gf_RX11_10 dX11_men_33 rfl ?_
        refine w_iload_n 1 dX11_men_36 rfl rfl rfl ?_
        refine w_iload_n 2 dX11_men_37 rfl rfl rfl ?_
        refine w_iload_n 3 dX11_men_38 rfl rfl rfl ?_
        obtain ⟨r10, s11, h12, h⟩ := h.bd
        refine k_X10_menThere ml_RX11_158 (Nat.le_of_ble_eq_true rfl) ⟨Nat.le_of_ble_eq_true rfl, Nat.le_of_ble_eq_true rfl⟩ dX11_men_39 rfl h12 ?_
        exact w_ireturn dX11_men_42 h
      · have h := h.tt q
        exact w_sub [] rfl (b_X11_men_29 s8 h)
theorem c_X11_men {l : Launch} {D : va_G} {cy : Nat → ClassId} {ad : Nat → Nat} {p0 : Int32} {p1 : Int32} {p2 : Int32} {σ σ' : St} {r : Int32} (hf : f_X11_men p0 p1 p2 σ = some (r, σ')) : CT l D cy ad yX11_men cX11_men 4 (some .int) rX11_men [.ref (ad 0), .int p0, .int p1, .int p2] σ (some (.int r)) σ' :=
  ct_of (by decide) (Nat.le_of_ble_eq_true rfl) (fun p e s m args below meth c A => e_X11_men (Γ := (p, l, e, rX11_men, s, m, args, below, meth, c, D, cy, ad, A, 0, 0, MQ below (QC D cy ad (some (.int r)) σ' A) args s 0 0 A)) p0 p1 p2 σ ⟨_, hf, rfl⟩)
theorem k_X11_men {Γ : CX} {cc : ByteArray} {nL : Nat} {own : String} {ret : Option FieldType} {rm : Room} {σ σ' : St} {pc pc' idx : Nat} {lv : List (Nat × Value)} {rest : List Value} {p0 : Int32} {p1 : Int32} {p2 : Int32} {r : Int32} (hl : Cond.methodLink own idx yX11_men ∈ TB) (hw : (rest.map fun v => v.category).sum ≤ 8) (hR : rX11_men.frames + 1 ≤ rm.frames ∧ 8 + (4 + 11) + rX11_men.locals ≤ rm.locals) (hd : decode cc pc = .ok (.invokevirtual idx, 3)) (hp : pc + 3 = pc') (hf : f_X11_men p0 p1 p2 σ = some (r, σ')) (h : WW Γ cc nL own ret rm σ' pc' lv (.int r :: rest)) : WW Γ cc nL own ret rm σ pc lv (.int p2 :: .int p1 :: .int p0 :: .ref (xd Γ 0) :: rest) :=
  w_callV (nn := 3) (i := 0) (As := [.int p0, .int p1, .int p2]) (v := (some (.int r))) (T := TX11) (N := 11) (c_X11_men hf) hl mw_X11_men (by decide +kernel) ⟨rfl, rfl⟩ hR (lt_lit (by decide)) cel_0 rfl rfl hw hd rfl hp h
/-! WarByHours.front (II)I -/
def rX11_front : Room := { frames := 5, cells := 0, slots := 0, locals := 114 }
def f_X11_front_26 (σ : St) : Option (Int32 × St) :=
  some ((-1000 : Int32), σ)
theorem b_X11_front_26 {Γ : CX} (σ : St) (h : RR vI Γ (f_X11_front_26 σ)) : WW Γ cX11_front 3 RX11 (some .int) rX11_front σ 26 [] [] := by
  unfold f_X11_front_26 at h
  refine w_sipush (-1000 : Int32) dX11_front_26 ic_sipush_m1000 rfl ?_
  exact w_ireturn dX11_front_29 h
def f_X11_front (p0 : Int32) (p1 : Int32) (σ : St) : Option (Int32 × St) :=
  bd (f_X10_hasSet 1 p1 σ) fun r1 s2 =>
  if r1 = 0 then
    f_X11_front_26 s2
  else
    if p0 < 0 then
      f_X11_front_26 s2
    else
      if p0 ≤ (gf s2 1 1) then
        bd (f_X2_follow p1 s2) fun _ s5 =>
        bd (f_X2_frontBehind p0 s5) fun r7 s8 =>
        some (r7, s8)
      else
        f_X11_front_26 s2
theorem e_X11_front {Γ : CX} (p0 : Int32) (p1 : Int32) (σ : St) (h : RR vI Γ (f_X11_front p0 p1 σ)) : WW Γ cX11_front 3 RX11 (some .int) rX11_front σ 0 [(0, .ref (xd Γ 0)), (1, .int p0), (2, .int p1)] [] := by
  unfold f_X11_front at h
  refine w_aload_n 0 dX11_front_0 rfl rfl rfl ?_
  refine gf_RX11_10 dX11_front_1 rfl ?_
  refine w_iload_n 2 dX11_front_4 rfl rfl rfl ?_
  obtain ⟨r1, s2, h3, h⟩ := h.bd
  refine k_X10_hasSet ml_RX11_155 (Nat.le_of_ble_eq_true rfl) ⟨Nat.le_of_ble_eq_true rfl, Nat.le_of_ble_eq_true rfl⟩ dX11_front_5 rfl h3 ?_
  refine w_if_eq (tgt := 26) dX11_front_8 (by decide) rfl (fun q => ?_) (fun q => ?_)
  · have h := h.tt q
    exact w_sub [] rfl (b_X11_front_26 s2 h)
  · have h := h.ff q
    refine w_iload_n 1 dX11_front_11 rfl rfl rfl ?_
    refine w_if_lt (tgt := 26) dX11_front_12 (by decide) rfl (fun q => ?_) (fun q => ?_)
    · have h := h.tt q
      exact w_sub [] rfl (b_X11_front_26 s2 h)
    · have h := h.ff q
      refine w_iload_n 1 dX11_front_15 rfl rfl rfl ?_
      refine w_aload_n 0 dX11_front_16 rfl rfl rfl ?_
      refine gf_RX11_10 dX11_front_17 rfl ?_
      refine gf_RX11_137 (i := 1) (isW_lit (by decide)) dX11_front_20 rfl ?_
      refine w_icmp_le (tgt := 30) dX11_front_23 (by decide) rfl (fun q => ?_) (fun q => ?_)
      · have h := h.tt q
        refine w_aload_n 0 dX11_front_30 rfl rfl rfl ?_
        refine gf_RX11_31 dX11_front_31 rfl ?_
        refine w_iload_n 2 dX11_front_34 rfl rfl rfl ?_
        obtain ⟨r4, s5, h6, h⟩ := h.bd
        refine k_X2_follow ml_RX11_162 (Nat.le_of_ble_eq_true rfl) ⟨Nat.le_of_ble_eq_true rfl, Nat.le_of_ble_eq_true rfl⟩ dX11_front_35 rfl h6 ?_
        refine w_aload_n 0 dX11_front_38 rfl rfl rfl ?_
        refine gf_RX11_31 dX11_front_39 rfl ?_
        refine w_iload_n 1 dX11_front_42 rfl rfl rfl ?_
        obtain ⟨r7, s8, h9, h⟩ := h.bd
        refine k_X2_frontBehind ml_RX11_165 (Nat.le_of_ble_eq_true rfl) ⟨Nat.le_of_ble_eq_true rfl, Nat.le_of_ble_eq_true rfl⟩ dX11_front_43 rfl h9 ?_
        exact w_ireturn dX11_front_46 h
      · have h := h.ff q
        exact w_sub [] rfl (b_X11_front_26 s2 h)
theorem c_X11_front {l : Launch} {D : va_G} {cy : Nat → ClassId} {ad : Nat → Nat} {p0 : Int32} {p1 : Int32} {σ σ' : St} {r : Int32} (hf : f_X11_front p0 p1 σ = some (r, σ')) : CT l D cy ad yX11_front cX11_front 3 (some .int) rX11_front [.ref (ad 0), .int p0, .int p1] σ (some (.int r)) σ' :=
  ct_of (by decide) (Nat.le_of_ble_eq_true rfl) (fun p e s m args below meth c A => e_X11_front (Γ := (p, l, e, rX11_front, s, m, args, below, meth, c, D, cy, ad, A, 0, 0, MQ below (QC D cy ad (some (.int r)) σ' A) args s 0 0 A)) p0 p1 σ ⟨_, hf, rfl⟩)
theorem k_X11_front {Γ : CX} {cc : ByteArray} {nL : Nat} {own : String} {ret : Option FieldType} {rm : Room} {σ σ' : St} {pc pc' idx : Nat} {lv : List (Nat × Value)} {rest : List Value} {p0 : Int32} {p1 : Int32} {r : Int32} (hl : Cond.methodLink own idx yX11_front ∈ TB) (hw : (rest.map fun v => v.category).sum ≤ 8) (hR : rX11_front.frames + 1 ≤ rm.frames ∧ 8 + (3 + 11) + rX11_front.locals ≤ rm.locals) (hd : decode cc pc = .ok (.invokevirtual idx, 3)) (hp : pc + 3 = pc') (hf : f_X11_front p0 p1 σ = some (r, σ')) (h : WW Γ cc nL own ret rm σ' pc' lv (.int r :: rest)) : WW Γ cc nL own ret rm σ pc lv (.int p1 :: .int p0 :: .ref (xd Γ 0) :: rest) :=
  w_callV (nn := 2) (i := 0) (As := [.int p0, .int p1]) (v := (some (.int r))) (T := TX11) (N := 11) (c_X11_front hf) hl mw_X11_front (by decide +kernel) ⟨rfl, rfl⟩ hR (lt_lit (by decide)) cel_0 rfl rfl hw hd rfl hp h
/-! WarByHours.late (I)I -/
def rX11_late : Room := { frames := 4, cells := 0, slots := 0, locals := 92 }
def f_X11_late_24 (k0 : Int32) (σ : St) : Option (Int32 × St) :=
  some (k0, σ)
theorem b_X11_late_24 {Γ : CX} (k0 : Int32) (σ : St) (h : RR vI Γ (f_X11_late_24 k0 σ)) : WW Γ cX11_late 2 RX11 (some .int) rX11_late σ 24 [] [.int k0] := by
  unfold f_X11_late_24 at h
  exact w_ireturn dX11_late_24 h
def f_X11_late (p0 : Int32) (σ : St) : Option (Int32 × St) :=
  bd (f_X10_hasSet 1 p0 σ) fun r1 s2 =>
  if r1 = 0 then
    f_X11_late_24 (-2 : Int32) s2
  else
    bd (f_X10_lateSides 1 p0 s2) fun r4 s5 =>
    f_X11_late_24 r4 s5
theorem e_X11_late {Γ : CX} (p0 : Int32) (σ : St) (h : RR vI Γ (f_X11_late p0 σ)) : WW Γ cX11_late 2 RX11 (some .int) rX11_late σ 0 [(0, .ref (xd Γ 0)), (1, .int p0)] [] := by
  unfold f_X11_late at h
  refine w_aload_n 0 dX11_late_0 rfl rfl rfl ?_
  refine gf_RX11_10 dX11_late_1 rfl ?_
  refine w_iload_n 1 dX11_late_4 rfl rfl rfl ?_
  obtain ⟨r1, s2, h3, h⟩ := h.bd
  refine k_X10_hasSet ml_RX11_155 (Nat.le_of_ble_eq_true rfl) ⟨Nat.le_of_ble_eq_true rfl, Nat.le_of_ble_eq_true rfl⟩ dX11_late_5 rfl h3 ?_
  refine w_if_eq (tgt := 22) dX11_late_8 (by decide) rfl (fun q => ?_) (fun q => ?_)
  · have h := h.tt q
    refine w_bipush (-2 : Int32) dX11_late_22 ic_bipush_m2 rfl ?_
    exact w_sub [] rfl (b_X11_late_24 (-2 : Int32) s2 h)
  · have h := h.ff q
    refine w_aload_n 0 dX11_late_11 rfl rfl rfl ?_
    refine gf_RX11_10 dX11_late_12 rfl ?_
    refine w_iload_n 1 dX11_late_15 rfl rfl rfl ?_
    obtain ⟨r4, s5, h6, h⟩ := h.bd
    refine k_X10_lateSides ml_RX11_168 (Nat.le_of_ble_eq_true rfl) ⟨Nat.le_of_ble_eq_true rfl, Nat.le_of_ble_eq_true rfl⟩ dX11_late_16 rfl h6 ?_
    refine w_goto (tgt := 24) dX11_late_19 (by decide) ?_
    exact w_sub [] rfl (b_X11_late_24 r4 s5 h)
theorem c_X11_late {l : Launch} {D : va_G} {cy : Nat → ClassId} {ad : Nat → Nat} {p0 : Int32} {σ σ' : St} {r : Int32} (hf : f_X11_late p0 σ = some (r, σ')) : CT l D cy ad yX11_late cX11_late 2 (some .int) rX11_late [.ref (ad 0), .int p0] σ (some (.int r)) σ' :=
  ct_of (by decide) (Nat.le_of_ble_eq_true rfl) (fun p e s m args below meth c A => e_X11_late (Γ := (p, l, e, rX11_late, s, m, args, below, meth, c, D, cy, ad, A, 0, 0, MQ below (QC D cy ad (some (.int r)) σ' A) args s 0 0 A)) p0 σ ⟨_, hf, rfl⟩)
theorem k_X11_late {Γ : CX} {cc : ByteArray} {nL : Nat} {own : String} {ret : Option FieldType} {rm : Room} {σ σ' : St} {pc pc' idx : Nat} {lv : List (Nat × Value)} {rest : List Value} {p0 : Int32} {r : Int32} (hl : Cond.methodLink own idx yX11_late ∈ TB) (hw : (rest.map fun v => v.category).sum ≤ 8) (hR : rX11_late.frames + 1 ≤ rm.frames ∧ 8 + (2 + 11) + rX11_late.locals ≤ rm.locals) (hd : decode cc pc = .ok (.invokevirtual idx, 3)) (hp : pc + 3 = pc') (hf : f_X11_late p0 σ = some (r, σ')) (h : WW Γ cc nL own ret rm σ' pc' lv (.int r :: rest)) : WW Γ cc nL own ret rm σ pc lv (.int p0 :: .ref (xd Γ 0) :: rest) :=
  w_callV (nn := 1) (i := 0) (As := [.int p0]) (v := (some (.int r))) (T := TX11) (N := 11) (c_X11_late hf) hl mw_X11_late (by decide +kernel) ⟨rfl, rfl⟩ hR (lt_lit (by decide)) cel_0 rfl rfl hw hd rfl hp h
/-! WarByHours.wins (I)I -/
def rX11_wins : Room := { frames := 6, cells := 0, slots := 0, locals := 135 }
def f_X11_wins_24 (k0 : Int32) (σ : St) : Option (Int32 × St) :=
  some (k0, σ)
theorem b_X11_wins_24 {Γ : CX} (k0 : Int32) (σ : St) (h : RR vI Γ (f_X11_wins_24 k0 σ)) : WW Γ cX11_wins 2 RX11 (some .int) rX11_wins σ 24 [] [.int k0] := by
  unfold f_X11_wins_24 at h
  exact w_ireturn dX11_wins_24 h
def f_X11_wins (p0 : Int32) (σ : St) : Option (Int32 × St) :=
  bd (f_X10_hasSet 1 p0 σ) fun r1 s2 =>
  if r1 = 0 then
    f_X11_wins_24 (-2 : Int32) s2
  else
    bd (f_X2_winnerBy p0 s2) fun r4 s5 =>
    f_X11_wins_24 r4 s5
theorem e_X11_wins {Γ : CX} (p0 : Int32) (σ : St) (h : RR vI Γ (f_X11_wins p0 σ)) : WW Γ cX11_wins 2 RX11 (some .int) rX11_wins σ 0 [(0, .ref (xd Γ 0)), (1, .int p0)] [] := by
  unfold f_X11_wins at h
  refine w_aload_n 0 dX11_wins_0 rfl rfl rfl ?_
  refine gf_RX11_10 dX11_wins_1 rfl ?_
  refine w_iload_n 1 dX11_wins_4 rfl rfl rfl ?_
  obtain ⟨r1, s2, h3, h⟩ := h.bd
  refine k_X10_hasSet ml_RX11_155 (Nat.le_of_ble_eq_true rfl) ⟨Nat.le_of_ble_eq_true rfl, Nat.le_of_ble_eq_true rfl⟩ dX11_wins_5 rfl h3 ?_
  refine w_if_eq (tgt := 22) dX11_wins_8 (by decide) rfl (fun q => ?_) (fun q => ?_)
  · have h := h.tt q
    refine w_bipush (-2 : Int32) dX11_wins_22 ic_bipush_m2 rfl ?_
    exact w_sub [] rfl (b_X11_wins_24 (-2 : Int32) s2 h)
  · have h := h.ff q
    refine w_aload_n 0 dX11_wins_11 rfl rfl rfl ?_
    refine gf_RX11_31 dX11_wins_12 rfl ?_
    refine w_iload_n 1 dX11_wins_15 rfl rfl rfl ?_
    obtain ⟨r4, s5, h6, h⟩ := h.bd
    refine k_X2_winnerBy ml_RX11_171 (Nat.le_of_ble_eq_true rfl) ⟨Nat.le_of_ble_eq_true rfl, Nat.le_of_ble_eq_true rfl⟩ dX11_wins_16 rfl h6 ?_
    refine w_goto (tgt := 24) dX11_wins_19 (by decide) ?_
    exact w_sub [] rfl (b_X11_wins_24 r4 s5 h)
theorem c_X11_wins {l : Launch} {D : va_G} {cy : Nat → ClassId} {ad : Nat → Nat} {p0 : Int32} {σ σ' : St} {r : Int32} (hf : f_X11_wins p0 σ = some (r, σ')) : CT l D cy ad yX11_wins cX11_wins 2 (some .int) rX11_wins [.ref (ad 0), .int p0] σ (some (.int r)) σ' :=
  ct_of (by decide) (Nat.le_of_ble_eq_true rfl) (fun p e s m args below meth c A => e_X11_wins (Γ := (p, l, e, rX11_wins, s, m, args, below, meth, c, D, cy, ad, A, 0, 0, MQ below (QC D cy ad (some (.int r)) σ' A) args s 0 0 A)) p0 σ ⟨_, hf, rfl⟩)
theorem k_X11_wins {Γ : CX} {cc : ByteArray} {nL : Nat} {own : String} {ret : Option FieldType} {rm : Room} {σ σ' : St} {pc pc' idx : Nat} {lv : List (Nat × Value)} {rest : List Value} {p0 : Int32} {r : Int32} (hl : Cond.methodLink own idx yX11_wins ∈ TB) (hw : (rest.map fun v => v.category).sum ≤ 8) (hR : rX11_wins.frames + 1 ≤ rm.frames ∧ 8 + (2 + 11) + rX11_wins.locals ≤ rm.locals) (hd : decode cc pc = .ok (.invokevirtual idx, 3)) (hp : pc + 3 = pc') (hf : f_X11_wins p0 σ = some (r, σ')) (h : WW Γ cc nL own ret rm σ' pc' lv (.int r :: rest)) : WW Γ cc nL own ret rm σ pc lv (.int p0 :: .ref (xd Γ 0) :: rest) :=
  w_callV (nn := 1) (i := 0) (As := [.int p0]) (v := (some (.int r))) (T := TX11) (N := 11) (c_X11_wins hf) hl mw_X11_wins (by decide +kernel) ⟨rfl, rfl⟩ hR (lt_lit (by decide)) cel_0 rfl rfl hw hd rfl hp h
/-! WarByHours.peak (II)I -/
def rX11_peak : Room := { frames := 5, cells := 0, slots := 0, locals := 114 }
def f_X11_peak_22 (σ : St) : Option (Int32 × St) :=
  some ((-2 : Int32), σ)
theorem b_X11_peak_22 {Γ : CX} (σ : St) (h : RR vI Γ (f_X11_peak_22 σ)) : WW Γ cX11_peak 3 RX11 (some .int) rX11_peak σ 22 [] [] := by
  unfold f_X11_peak_22 at h
  refine w_bipush (-2 : Int32) dX11_peak_22 ic_bipush_m2 rfl ?_
  exact w_ireturn dX11_peak_24 h
def f_X11_peak (p0 : Int32) (p1 : Int32) (σ : St) : Option (Int32 × St) :=
  bd (f_X10_hasSide 1 p0 σ) fun r1 s2 =>
  if r1 = 0 then
    f_X11_peak_22 s2
  else
    bd (f_X10_hasSet 1 p1 s2) fun r4 s5 =>
    if r4 = 0 then
      f_X11_peak_22 s5
    else
      bd (f_X2_follow p1 s5) fun _ s8 =>
      bd (f_X2_peakOf p0 s8) fun r10 s11 =>
      some (r10, s11)
theorem e_X11_peak {Γ : CX} (p0 : Int32) (p1 : Int32) (σ : St) (h : RR vI Γ (f_X11_peak p0 p1 σ)) : WW Γ cX11_peak 3 RX11 (some .int) rX11_peak σ 0 [(0, .ref (xd Γ 0)), (1, .int p0), (2, .int p1)] [] := by
  unfold f_X11_peak at h
  refine w_aload_n 0 dX11_peak_0 rfl rfl rfl ?_
  refine gf_RX11_10 dX11_peak_1 rfl ?_
  refine w_iload_n 1 dX11_peak_4 rfl rfl rfl ?_
  obtain ⟨r1, s2, h3, h⟩ := h.bd
  refine k_X10_hasSide ml_RX11_126 (Nat.le_of_ble_eq_true rfl) ⟨Nat.le_of_ble_eq_true rfl, Nat.le_of_ble_eq_true rfl⟩ dX11_peak_5 rfl h3 ?_
  refine w_if_eq (tgt := 22) dX11_peak_8 (by decide) rfl (fun q => ?_) (fun q => ?_)
  · have h := h.tt q
    exact w_sub [] rfl (b_X11_peak_22 s2 h)
  · have h := h.ff q
    refine w_aload_n 0 dX11_peak_11 rfl rfl rfl ?_
    refine gf_RX11_10 dX11_peak_12 rfl ?_
    refine w_iload_n 2 dX11_peak_15 rfl rfl rfl ?_
    obtain ⟨r4, s5, h6, h⟩ := h.bd
    refine k_X10_hasSet ml_RX11_155 (Nat.le_of_ble_eq_true rfl) ⟨Nat.le_of_ble_eq_true rfl, Nat.le_of_ble_eq_true rfl⟩ dX11_peak_16 rfl h6 ?_
    refine w_if_ne (tgt := 25) dX11_peak_19 (by decide) rfl (fun q => ?_) (fun q => ?_)
    · have h := h.ff q
      refine w_aload_n 0 dX11_peak_25 rfl rfl rfl ?_
      refine gf_RX11_31 dX11_peak_26 rfl ?_
      refine w_iload_n 2 dX11_peak_29 rfl rfl rfl ?_
      obtain ⟨r7, s8, h9, h⟩ := h.bd
      refine k_X2_follow ml_RX11_162 (Nat.le_of_ble_eq_true rfl) ⟨Nat.le_of_ble_eq_true rfl, Nat.le_of_ble_eq_true rfl⟩ dX11_peak_30 rfl h9 ?_
      refine w_aload_n 0 dX11_peak_33 rfl rfl rfl ?_
      refine gf_RX11_31 dX11_peak_34 rfl ?_
      refine w_iload_n 1 dX11_peak_37 rfl rfl rfl ?_
      obtain ⟨r10, s11, h12, h⟩ := h.bd
      refine k_X2_peakOf ml_RX11_174 (Nat.le_of_ble_eq_true rfl) ⟨Nat.le_of_ble_eq_true rfl, Nat.le_of_ble_eq_true rfl⟩ dX11_peak_38 rfl h12 ?_
      exact w_ireturn dX11_peak_41 h
    · have h := h.tt q
      exact w_sub [] rfl (b_X11_peak_22 s5 h)
theorem c_X11_peak {l : Launch} {D : va_G} {cy : Nat → ClassId} {ad : Nat → Nat} {p0 : Int32} {p1 : Int32} {σ σ' : St} {r : Int32} (hf : f_X11_peak p0 p1 σ = some (r, σ')) : CT l D cy ad yX11_peak cX11_peak 3 (some .int) rX11_peak [.ref (ad 0), .int p0, .int p1] σ (some (.int r)) σ' :=
  ct_of (by decide) (Nat.le_of_ble_eq_true rfl) (fun p e s m args below meth c A => e_X11_peak (Γ := (p, l, e, rX11_peak, s, m, args, below, meth, c, D, cy, ad, A, 0, 0, MQ below (QC D cy ad (some (.int r)) σ' A) args s 0 0 A)) p0 p1 σ ⟨_, hf, rfl⟩)
theorem k_X11_peak {Γ : CX} {cc : ByteArray} {nL : Nat} {own : String} {ret : Option FieldType} {rm : Room} {σ σ' : St} {pc pc' idx : Nat} {lv : List (Nat × Value)} {rest : List Value} {p0 : Int32} {p1 : Int32} {r : Int32} (hl : Cond.methodLink own idx yX11_peak ∈ TB) (hw : (rest.map fun v => v.category).sum ≤ 8) (hR : rX11_peak.frames + 1 ≤ rm.frames ∧ 8 + (3 + 11) + rX11_peak.locals ≤ rm.locals) (hd : decode cc pc = .ok (.invokevirtual idx, 3)) (hp : pc + 3 = pc') (hf : f_X11_peak p0 p1 σ = some (r, σ')) (h : WW Γ cc nL own ret rm σ' pc' lv (.int r :: rest)) : WW Γ cc nL own ret rm σ pc lv (.int p1 :: .int p0 :: .ref (xd Γ 0) :: rest) :=
  w_callV (nn := 2) (i := 0) (As := [.int p0, .int p1]) (v := (some (.int r))) (T := TX11) (N := 11) (c_X11_peak hf) hl mw_X11_peak (by decide +kernel) ⟨rfl, rfl⟩ hR (lt_lit (by decide)) cel_0 rfl rfl hw hd rfl hp h
/-! WarByHours.swings (I)I -/
def rX11_swings : Room := { frames := 5, cells := 0, slots := 0, locals := 114 }
def f_X11_swings (p0 : Int32) (σ : St) : Option (Int32 × St) :=
  bd (f_X10_hasSet 1 p0 σ) fun r1 s2 =>
  if r1 = 0 then
    some ((-2 : Int32), s2)
  else
    bd (f_X2_follow p0 s2) fun _ s5 =>
    bd (f_X2_countSwings s5) fun r7 s8 =>
    some (r7, s8)
theorem e_X11_swings {Γ : CX} (p0 : Int32) (σ : St) (h : RR vI Γ (f_X11_swings p0 σ)) : WW Γ cX11_swings 2 RX11 (some .int) rX11_swings σ 0 [(0, .ref (xd Γ 0)), (1, .int p0)] [] := by
  unfold f_X11_swings at h
  refine w_aload_n 0 dX11_swings_0 rfl rfl rfl ?_
  refine gf_RX11_10 dX11_swings_1 rfl ?_
  refine w_iload_n 1 dX11_swings_4 rfl rfl rfl ?_
  obtain ⟨r1, s2, h3, h⟩ := h.bd
  refine k_X10_hasSet ml_RX11_155 (Nat.le_of_ble_eq_true rfl) ⟨Nat.le_of_ble_eq_true rfl, Nat.le_of_ble_eq_true rfl⟩ dX11_swings_5 rfl h3 ?_
  refine w_if_ne (tgt := 14) dX11_swings_8 (by decide) rfl (fun q => ?_) (fun q => ?_)
  · have h := h.ff q
    refine w_aload_n 0 dX11_swings_14 rfl rfl rfl ?_
    refine gf_RX11_31 dX11_swings_15 rfl ?_
    refine w_iload_n 1 dX11_swings_18 rfl rfl rfl ?_
    obtain ⟨r4, s5, h6, h⟩ := h.bd
    refine k_X2_follow ml_RX11_162 (Nat.le_of_ble_eq_true rfl) ⟨Nat.le_of_ble_eq_true rfl, Nat.le_of_ble_eq_true rfl⟩ dX11_swings_19 rfl h6 ?_
    refine w_aload_n 0 dX11_swings_22 rfl rfl rfl ?_
    refine gf_RX11_31 dX11_swings_23 rfl ?_
    obtain ⟨r7, s8, h9, h⟩ := h.bd
    refine k_X2_countSwings ml_RX11_177 (Nat.le_of_ble_eq_true rfl) ⟨Nat.le_of_ble_eq_true rfl, Nat.le_of_ble_eq_true rfl⟩ dX11_swings_26 rfl h9 ?_
    exact w_ireturn dX11_swings_29 h
  · have h := h.tt q
    refine w_bipush (-2 : Int32) dX11_swings_11 ic_bipush_m2 rfl ?_
    exact w_ireturn dX11_swings_13 h
theorem c_X11_swings {l : Launch} {D : va_G} {cy : Nat → ClassId} {ad : Nat → Nat} {p0 : Int32} {σ σ' : St} {r : Int32} (hf : f_X11_swings p0 σ = some (r, σ')) : CT l D cy ad yX11_swings cX11_swings 2 (some .int) rX11_swings [.ref (ad 0), .int p0] σ (some (.int r)) σ' :=
  ct_of (by decide) (Nat.le_of_ble_eq_true rfl) (fun p e s m args below meth c A => e_X11_swings (Γ := (p, l, e, rX11_swings, s, m, args, below, meth, c, D, cy, ad, A, 0, 0, MQ below (QC D cy ad (some (.int r)) σ' A) args s 0 0 A)) p0 σ ⟨_, hf, rfl⟩)
theorem k_X11_swings {Γ : CX} {cc : ByteArray} {nL : Nat} {own : String} {ret : Option FieldType} {rm : Room} {σ σ' : St} {pc pc' idx : Nat} {lv : List (Nat × Value)} {rest : List Value} {p0 : Int32} {r : Int32} (hl : Cond.methodLink own idx yX11_swings ∈ TB) (hw : (rest.map fun v => v.category).sum ≤ 8) (hR : rX11_swings.frames + 1 ≤ rm.frames ∧ 8 + (2 + 11) + rX11_swings.locals ≤ rm.locals) (hd : decode cc pc = .ok (.invokevirtual idx, 3)) (hp : pc + 3 = pc') (hf : f_X11_swings p0 σ = some (r, σ')) (h : WW Γ cc nL own ret rm σ' pc' lv (.int r :: rest)) : WW Γ cc nL own ret rm σ pc lv (.int p0 :: .ref (xd Γ 0) :: rest) :=
  w_callV (nn := 1) (i := 0) (As := [.int p0]) (v := (some (.int r))) (T := TX11) (N := 11) (c_X11_swings hf) hl mw_X11_swings (by decide +kernel) ⟨rfl, rfl⟩ hR (lt_lit (by decide)) cel_0 rfl rfl hw hd rfl hp h
/-! WarByHours.since (II)I -/
def rX11_since : Room := { frames := 3, cells := 0, slots := 0, locals := 69 }
def f_X11_since_22 (σ : St) : Option (Int32 × St) :=
  some ((-2 : Int32), σ)
theorem b_X11_since_22 {Γ : CX} (σ : St) (h : RR vI Γ (f_X11_since_22 σ)) : WW Γ cX11_since 4 RX11 (some .int) rX11_since σ 22 [] [] := by
  unfold f_X11_since_22 at h
  refine w_bipush (-2 : Int32) dX11_since_22 ic_bipush_m2 rfl ?_
  exact w_ireturn dX11_since_24 h
def g_X11_since_27 (K27 : Int32 × Int32 × Int32 × St → Option (Int32 × St)) (x : Int32 × Int32 × Int32 × St) : Option (Int32 × St) := match x with
  | (v1, v2, v3, σ) =>
  if (99 : Int32) < v3 then
    some ((-1 : Int32), σ)
  else
    bd (f_X10_menThere 1 v1 v3 v2 σ) fun r1 s2 =>
    bd (f_X10_needOf 1 v1 s2) fun r4 s5 =>
    if r1 < r4 then
      bnd (v3 + (1 : Int32)) fun x7 =>
      K27 (v1, v2, x7, s5)
    else
      some (v3, s5)
theorem l_X11_since_27 {Γ : CX} : ∀ (n : Nat) (v1 : Int32) (v2 : Int32) (v3 : Int32) (σ : St), RR vI Γ (itr (g_X11_since_27) n (v1, v2, v3, σ)) → WW Γ cX11_since 4 RX11 (some .int) rX11_since σ 27 [(0, .ref (xd Γ 0)), (1, .int v1), (2, .int v2), (3, .int v3)] [] := by
  intro n
  induction n with
  | zero => intro v1 v2 v3 σ h; exact RR.no h
  | succ n hK27 =>
  intro v1 v2 v3 σ h
  have h : RR vI Γ (g_X11_since_27 (itr (g_X11_since_27) n) (v1, v2, v3, σ)) := h
  generalize itr (g_X11_since_27) n = K27 at h hK27
  unfold g_X11_since_27 at h
  dsimp only at h
  refine w_iload_n 3 dX11_since_27 rfl rfl rfl ?_
  refine w_bipush (99 : Int32) dX11_since_28 ic_bipush_99 rfl ?_
  refine w_icmp_gt (tgt := 62) dX11_since_30 (by decide) rfl (fun q => ?_) (fun q => ?_)
  · have h := h.tt q
    refine w_iconst (-1 : Int32) dX11_since_62 ic_iconst_m1 rfl ?_
    exact w_ireturn dX11_since_63 h
  · have h := h.ff q
    refine w_aload_n 0 dX11_since_33 rfl rfl rfl ?_
    refine gf_RX11_10 dX11_since_34 rfl ?_
    refine w_iload_n 1 dX11_since_37 rfl rfl rfl ?_
    refine w_iload_n 3 dX11_since_38 rfl rfl rfl ?_
    refine w_iload_n 2 dX11_since_39 rfl rfl rfl ?_
    obtain ⟨r1, s2, h3, h⟩ := h.bd
    refine k_X10_menThere ml_RX11_158 (Nat.le_of_ble_eq_true rfl) ⟨Nat.le_of_ble_eq_true rfl, Nat.le_of_ble_eq_true rfl⟩ dX11_since_40 rfl h3 ?_
    refine w_aload_n 0 dX11_since_43 rfl rfl rfl ?_
    refine gf_RX11_10 dX11_since_44 rfl ?_
    refine w_iload_n 1 dX11_since_47 rfl rfl rfl ?_
    obtain ⟨r4, s5, h6, h⟩ := h.bd
    refine k_X10_needOf ml_RX11_129 (Nat.le_of_ble_eq_true rfl) ⟨Nat.le_of_ble_eq_true rfl, Nat.le_of_ble_eq_true rfl⟩ dX11_since_48 rfl h6 ?_
    refine w_icmp_lt (tgt := 56) dX11_since_51 (by decide) rfl (fun q => ?_) (fun q => ?_)
    · have h := h.tt q
      obtain ⟨x7, ex7⟩ : ∃ y : Int32, y = (v3 + (1 : Int32)) := ⟨_, rfl⟩
      replace h := h.bnd ex7
      refine w_iinc 3 x7 [(3, .int x7), (0, .ref (xd Γ 0)), (1, .int v1), (2, .int v2)] dX11_since_56 rfl (by rw [ex7, ic_iconst_1]) (by decide) rfl rfl ?_
      clear ex7
      refine w_goto (tgt := 27) dX11_since_59 (by decide) ?_
      exact w_sub [1, 2, 3, 0] rfl (hK27 v1 v2 x7 s5 h)
    · have h := h.ff q
      refine w_iload_n 3 dX11_since_54 rfl rfl rfl ?_
      exact w_ireturn dX11_since_55 h
def f_X11_since (p0 : Int32) (p1 : Int32) (σ : St) : Option (Int32 × St) :=
  bd (f_X10_hasSide 1 p0 σ) fun r1 s2 =>
  if r1 = 0 then
    f_X11_since_22 s2
  else
    bd (f_X10_hasSet 1 p1 s2) fun r4 s5 =>
    if r4 = 0 then
      f_X11_since_22 s5
    else
      itr (g_X11_since_27) FU (p0, p1, (0 : Int32), s5)
theorem e_X11_since {Γ : CX} (p0 : Int32) (p1 : Int32) (σ : St) (h : RR vI Γ (f_X11_since p0 p1 σ)) : WW Γ cX11_since 4 RX11 (some .int) rX11_since σ 0 [(0, .ref (xd Γ 0)), (1, .int p0), (2, .int p1)] [] := by
  unfold f_X11_since at h
  refine w_aload_n 0 dX11_since_0 rfl rfl rfl ?_
  refine gf_RX11_10 dX11_since_1 rfl ?_
  refine w_iload_n 1 dX11_since_4 rfl rfl rfl ?_
  obtain ⟨r1, s2, h3, h⟩ := h.bd
  refine k_X10_hasSide ml_RX11_126 (Nat.le_of_ble_eq_true rfl) ⟨Nat.le_of_ble_eq_true rfl, Nat.le_of_ble_eq_true rfl⟩ dX11_since_5 rfl h3 ?_
  refine w_if_eq (tgt := 22) dX11_since_8 (by decide) rfl (fun q => ?_) (fun q => ?_)
  · have h := h.tt q
    exact w_sub [] rfl (b_X11_since_22 s2 h)
  · have h := h.ff q
    refine w_aload_n 0 dX11_since_11 rfl rfl rfl ?_
    refine gf_RX11_10 dX11_since_12 rfl ?_
    refine w_iload_n 2 dX11_since_15 rfl rfl rfl ?_
    obtain ⟨r4, s5, h6, h⟩ := h.bd
    refine k_X10_hasSet ml_RX11_155 (Nat.le_of_ble_eq_true rfl) ⟨Nat.le_of_ble_eq_true rfl, Nat.le_of_ble_eq_true rfl⟩ dX11_since_16 rfl h6 ?_
    refine w_if_ne (tgt := 25) dX11_since_19 (by decide) rfl (fun q => ?_) (fun q => ?_)
    · have h := h.ff q
      refine w_iconst (0 : Int32) dX11_since_25 ic_iconst_0 rfl ?_
      refine w_istore_n [(3, .int (0 : Int32)), (0, .ref (xd Γ 0)), (1, .int p0), (2, .int p1)] dX11_since_26 rfl (by decide) rfl rfl ?_
      exact w_sub [1, 2, 3, 0] rfl (l_X11_since_27 FU p0 p1 (0 : Int32) s5 h)
    · have h := h.tt q
      exact w_sub [] rfl (b_X11_since_22 s5 h)
theorem c_X11_since {l : Launch} {D : va_G} {cy : Nat → ClassId} {ad : Nat → Nat} {p0 : Int32} {p1 : Int32} {σ σ' : St} {r : Int32} (hf : f_X11_since p0 p1 σ = some (r, σ')) : CT l D cy ad yX11_since cX11_since 4 (some .int) rX11_since [.ref (ad 0), .int p0, .int p1] σ (some (.int r)) σ' :=
  ct_of (by decide) (Nat.le_of_ble_eq_true rfl) (fun p e s m args below meth c A => e_X11_since (Γ := (p, l, e, rX11_since, s, m, args, below, meth, c, D, cy, ad, A, 0, 0, MQ below (QC D cy ad (some (.int r)) σ' A) args s 0 0 A)) p0 p1 σ ⟨_, hf, rfl⟩)
theorem k_X11_since {Γ : CX} {cc : ByteArray} {nL : Nat} {own : String} {ret : Option FieldType} {rm : Room} {σ σ' : St} {pc pc' idx : Nat} {lv : List (Nat × Value)} {rest : List Value} {p0 : Int32} {p1 : Int32} {r : Int32} (hl : Cond.methodLink own idx yX11_since ∈ TB) (hw : (rest.map fun v => v.category).sum ≤ 8) (hR : rX11_since.frames + 1 ≤ rm.frames ∧ 8 + (4 + 11) + rX11_since.locals ≤ rm.locals) (hd : decode cc pc = .ok (.invokevirtual idx, 3)) (hp : pc + 3 = pc') (hf : f_X11_since p0 p1 σ = some (r, σ')) (h : WW Γ cc nL own ret rm σ' pc' lv (.int r :: rest)) : WW Γ cc nL own ret rm σ pc lv (.int p1 :: .int p0 :: .ref (xd Γ 0) :: rest) :=
  w_callV (nn := 2) (i := 0) (As := [.int p0, .int p1]) (v := (some (.int r))) (T := TX11) (N := 11) (c_X11_since hf) hl mw_X11_since (by decide +kernel) ⟨rfl, rfl⟩ hR (lt_lit (by decide)) cel_0 rfl rfl hw hd rfl hp h
/-! WarByHours.comes (II)I -/
def rX11_comes : Room := { frames := 3, cells := 0, slots := 0, locals := 68 }
def f_X11_comes_18 (σ : St) : Option (Int32 × St) :=
  some ((-2 : Int32), σ)
theorem b_X11_comes_18 {Γ : CX} (σ : St) (h : RR vI Γ (f_X11_comes_18 σ)) : WW Γ cX11_comes 3 RX11 (some .int) rX11_comes σ 18 [] [] := by
  unfold f_X11_comes_18 at h
  refine w_bipush (-2 : Int32) dX11_comes_18 ic_bipush_m2 rfl ?_
  exact w_ireturn dX11_comes_20 h
def f_X11_comes (p0 : Int32) (p1 : Int32) (σ : St) : Option (Int32 × St) :=
  bd (f_X11_isMinute p0 σ) fun r1 s2 =>
  if r1 = 0 then
    f_X11_comes_18 s2
  else
    bd (f_X10_hasSet 1 p1 s2) fun r4 s5 =>
    if r4 = 0 then
      f_X11_comes_18 s5
    else
      bd (f_X10_comingIn 1 p0 p1 s5) fun r7 s8 =>
      some (r7, s8)
theorem e_X11_comes {Γ : CX} (p0 : Int32) (p1 : Int32) (σ : St) (h : RR vI Γ (f_X11_comes p0 p1 σ)) : WW Γ cX11_comes 3 RX11 (some .int) rX11_comes σ 0 [(0, .ref (xd Γ 0)), (1, .int p0), (2, .int p1)] [] := by
  unfold f_X11_comes at h
  refine w_iload_n 1 dX11_comes_0 rfl rfl rfl ?_
  obtain ⟨r1, s2, h3, h⟩ := h.bd
  refine k_X11_isMinute ml_RX11_152 (Nat.le_of_ble_eq_true rfl) ⟨Nat.le_of_ble_eq_true rfl, Nat.le_of_ble_eq_true rfl⟩ dX11_comes_1 rfl h3 ?_
  refine w_if_eq (tgt := 18) dX11_comes_4 (by decide) rfl (fun q => ?_) (fun q => ?_)
  · have h := h.tt q
    exact w_sub [] rfl (b_X11_comes_18 s2 h)
  · have h := h.ff q
    refine w_aload_n 0 dX11_comes_7 rfl rfl rfl ?_
    refine gf_RX11_10 dX11_comes_8 rfl ?_
    refine w_iload_n 2 dX11_comes_11 rfl rfl rfl ?_
    obtain ⟨r4, s5, h6, h⟩ := h.bd
    refine k_X10_hasSet ml_RX11_155 (Nat.le_of_ble_eq_true rfl) ⟨Nat.le_of_ble_eq_true rfl, Nat.le_of_ble_eq_true rfl⟩ dX11_comes_12 rfl h6 ?_
    refine w_if_ne (tgt := 21) dX11_comes_15 (by decide) rfl (fun q => ?_) (fun q => ?_)
    · have h := h.ff q
      refine w_aload_n 0 dX11_comes_21 rfl rfl rfl ?_
      refine gf_RX11_10 dX11_comes_22 rfl ?_
      refine w_iload_n 1 dX11_comes_25 rfl rfl rfl ?_
      refine w_iload_n 2 dX11_comes_26 rfl rfl rfl ?_
      obtain ⟨r7, s8, h9, h⟩ := h.bd
      refine k_X10_comingIn ml_RX11_259 (Nat.le_of_ble_eq_true rfl) ⟨Nat.le_of_ble_eq_true rfl, Nat.le_of_ble_eq_true rfl⟩ dX11_comes_27 rfl h9 ?_
      exact w_ireturn dX11_comes_30 h
    · have h := h.tt q
      exact w_sub [] rfl (b_X11_comes_18 s5 h)
theorem c_X11_comes {l : Launch} {D : va_G} {cy : Nat → ClassId} {ad : Nat → Nat} {p0 : Int32} {p1 : Int32} {σ σ' : St} {r : Int32} (hf : f_X11_comes p0 p1 σ = some (r, σ')) : CT l D cy ad yX11_comes cX11_comes 3 (some .int) rX11_comes [.ref (ad 0), .int p0, .int p1] σ (some (.int r)) σ' :=
  ct_of (by decide) (Nat.le_of_ble_eq_true rfl) (fun p e s m args below meth c A => e_X11_comes (Γ := (p, l, e, rX11_comes, s, m, args, below, meth, c, D, cy, ad, A, 0, 0, MQ below (QC D cy ad (some (.int r)) σ' A) args s 0 0 A)) p0 p1 σ ⟨_, hf, rfl⟩)
theorem k_X11_comes {Γ : CX} {cc : ByteArray} {nL : Nat} {own : String} {ret : Option FieldType} {rm : Room} {σ σ' : St} {pc pc' idx : Nat} {lv : List (Nat × Value)} {rest : List Value} {p0 : Int32} {p1 : Int32} {r : Int32} (hl : Cond.methodLink own idx yX11_comes ∈ TB) (hw : (rest.map fun v => v.category).sum ≤ 8) (hR : rX11_comes.frames + 1 ≤ rm.frames ∧ 8 + (3 + 11) + rX11_comes.locals ≤ rm.locals) (hd : decode cc pc = .ok (.invokevirtual idx, 3)) (hp : pc + 3 = pc') (hf : f_X11_comes p0 p1 σ = some (r, σ')) (h : WW Γ cc nL own ret rm σ' pc' lv (.int r :: rest)) : WW Γ cc nL own ret rm σ pc lv (.int p1 :: .int p0 :: .ref (xd Γ 0) :: rest) :=
  w_callV (nn := 2) (i := 0) (As := [.int p0, .int p1]) (v := (some (.int r))) (T := TX11) (N := 11) (c_X11_comes hf) hl mw_X11_comes (by decide +kernel) ⟨rfl, rfl⟩ hR (lt_lit (by decide)) cel_0 rfl rfl hw hd rfl hp h
/-! WarByHours.even (I)J -/
def rX11_even : Room := { frames := 4, cells := 0, slots := 0, locals := 91 }
def f_X11_even_52 (K20 : Int32 × Int64 × Int32 × St → Option (Int64 × St)) (v1 : Int32) (v2 : Int64) (v4 : Int32) (σ : St) : Option (Int64 × St) :=
  bnd (v4 + (1 : Int32)) fun x1 =>
  K20 (v1, v2, x1, σ)
theorem b_X11_even_52 {Γ : CX} (K20 : Int32 × Int64 × Int32 × St → Option (Int64 × St)) (hK20 : ∀ (v1 : Int32) (v2 : Int64) (v4 : Int32) (σ : St), RR vL Γ (K20 (v1, v2, v4, σ)) → WW Γ cX11_even 5 RX11 (some .long) rX11_even σ 20 [(0, .ref (xd Γ 0)), (1, .int v1), (2, .long v2), (4, .int v4)] []) (v1 : Int32) (v2 : Int64) (v4 : Int32) (σ : St) (h : RR vL Γ (f_X11_even_52 K20 v1 v2 v4 σ)) : WW Γ cX11_even 5 RX11 (some .long) rX11_even σ 52 [(0, .ref (xd Γ 0)), (1, .int v1), (2, .long v2), (4, .int v4)] [] := by
  unfold f_X11_even_52 at h
  obtain ⟨x1, ex1⟩ : ∃ y : Int32, y = (v4 + (1 : Int32)) := ⟨_, rfl⟩
  replace h := h.bnd ex1
  refine w_iinc 3 x1 [(4, .int x1), (0, .ref (xd Γ 0)), (1, .int v1), (2, .long v2)] dX11_even_52 rfl (by rw [ex1, ic_iconst_1]) (by decide) rfl rfl ?_
  clear ex1
  refine w_goto (tgt := 20) dX11_even_55 (by decide) ?_
  exact w_sub [1, 2, 3, 0] rfl (hK20 v1 v2 x1 σ h)
def g_X11_even_20 (K20 : Int32 × Int64 × Int32 × St → Option (Int64 × St)) (x : Int32 × Int64 × Int32 × St) : Option (Int64 × St) := match x with
  | (v1, v2, v4, σ) =>
  if (gf σ 1 1) ≤ v4 then
    some (v2, σ)
  else
    bd (f_X10_leadIn 1 v4 v1 σ) fun r1 s2 =>
    if r1 = 0 then
      bnd ((v2 ||| ((1 : Int64) <<< (v4.toInt64 &&& 63)))) fun x4 =>
      f_X11_even_52 K20 v1 x4 v4 s2
    else
      f_X11_even_52 K20 v1 v2 v4 s2
theorem l_X11_even_20 {Γ : CX} : ∀ (n : Nat) (v1 : Int32) (v2 : Int64) (v4 : Int32) (σ : St), RR vL Γ (itr (g_X11_even_20) n (v1, v2, v4, σ)) → WW Γ cX11_even 5 RX11 (some .long) rX11_even σ 20 [(0, .ref (xd Γ 0)), (1, .int v1), (2, .long v2), (4, .int v4)] [] := by
  intro n
  induction n with
  | zero => intro v1 v2 v4 σ h; exact RR.no h
  | succ n hK20 =>
  intro v1 v2 v4 σ h
  have h : RR vL Γ (g_X11_even_20 (itr (g_X11_even_20) n) (v1, v2, v4, σ)) := h
  generalize itr (g_X11_even_20) n = K20 at h hK20
  unfold g_X11_even_20 at h
  dsimp only at h
  refine w_iload 3 dX11_even_20 rfl rfl ?_
  refine w_aload_n 0 dX11_even_22 rfl rfl rfl ?_
  refine gf_RX11_10 dX11_even_23 rfl ?_
  refine gf_RX11_137 (i := 1) (isW_lit (by decide)) dX11_even_26 rfl ?_
  refine w_icmp_ge (tgt := 58) dX11_even_29 (by decide) rfl (fun q => ?_) (fun q => ?_)
  · have h := h.tt q
    refine w_lload_n 2 dX11_even_58 rfl rfl rfl ?_
    exact w_lreturn dX11_even_59 h
  · have h := h.ff q
    refine w_aload_n 0 dX11_even_32 rfl rfl rfl ?_
    refine gf_RX11_10 dX11_even_33 rfl ?_
    refine w_iload 3 dX11_even_36 rfl rfl ?_
    refine w_iload_n 1 dX11_even_38 rfl rfl rfl ?_
    obtain ⟨r1, s2, h3, h⟩ := h.bd
    refine k_X10_leadIn ml_RX11_262 (Nat.le_of_ble_eq_true rfl) ⟨Nat.le_of_ble_eq_true rfl, Nat.le_of_ble_eq_true rfl⟩ dX11_even_39 rfl h3 ?_
    refine w_if_ne (tgt := 52) dX11_even_42 (by decide) rfl (fun q => ?_) (fun q => ?_)
    · have h := h.ff q
      exact w_sub [0, 1, 2, 3] rfl (b_X11_even_52 K20 hK20 v1 v2 v4 s2 h)
    · have h := h.tt q
      refine w_lload_n 2 dX11_even_45 rfl rfl rfl ?_
      refine w_lconst (1 : Int64) dX11_even_46 rfl rfl ?_
      refine w_iload 3 dX11_even_47 rfl rfl ?_
      refine w_lshl dX11_even_49 rfl ?_
      refine w_lor dX11_even_50 rfl ?_
      refine w_nmL (fun x4 ex4 => ?_)
      replace h := h.bnd ex4
      clear ex4
      refine w_lstore_n [(2, .long x4), (0, .ref (xd Γ 0)), (1, .int v1), (4, .int v4)] dX11_even_51 rfl (by decide) rfl rfl ?_
      exact w_sub [1, 2, 0, 3] rfl (b_X11_even_52 K20 hK20 v1 x4 v4 s2 h)
def f_X11_even (p0 : Int32) (σ : St) : Option (Int64 × St) :=
  bd (f_X10_hasSet 1 p0 σ) fun r1 s2 =>
  if r1 = 0 then
    some ((-2 : Int64), s2)
  else
    itr (g_X11_even_20) FU (p0, (0 : Int64), (0 : Int32), s2)
theorem e_X11_even {Γ : CX} (p0 : Int32) (σ : St) (h : RR vL Γ (f_X11_even p0 σ)) : WW Γ cX11_even 5 RX11 (some .long) rX11_even σ 0 [(0, .ref (xd Γ 0)), (1, .int p0)] [] := by
  unfold f_X11_even at h
  refine w_aload_n 0 dX11_even_0 rfl rfl rfl ?_
  refine gf_RX11_10 dX11_even_1 rfl ?_
  refine w_iload_n 1 dX11_even_4 rfl rfl rfl ?_
  obtain ⟨r1, s2, h3, h⟩ := h.bd
  refine k_X10_hasSet ml_RX11_155 (Nat.le_of_ble_eq_true rfl) ⟨Nat.le_of_ble_eq_true rfl, Nat.le_of_ble_eq_true rfl⟩ dX11_even_5 rfl h3 ?_
  refine w_if_ne (tgt := 15) dX11_even_8 (by decide) rfl (fun q => ?_) (fun q => ?_)
  · have h := h.ff q
    refine w_lconst (0 : Int64) dX11_even_15 rfl rfl ?_
    refine w_lstore_n [(2, .long (0 : Int64)), (0, .ref (xd Γ 0)), (1, .int p0)] dX11_even_16 rfl (by decide) rfl rfl ?_
    refine w_iconst (0 : Int32) dX11_even_17 ic_iconst_0 rfl ?_
    refine w_istore [(4, .int (0 : Int32)), (2, .long (0 : Int64)), (0, .ref (xd Γ 0)), (1, .int p0)] dX11_even_18 (by decide) rfl rfl ?_
    exact w_sub [2, 3, 1, 0] rfl (l_X11_even_20 FU p0 (0 : Int64) (0 : Int32) s2 h)
  · have h := h.tt q
    refine w_ldc2_w (-2 : Int64) dX11_even_11 cl_RX11_196 rfl ?_
    exact w_lreturn dX11_even_14 h
theorem c_X11_even {l : Launch} {D : va_G} {cy : Nat → ClassId} {ad : Nat → Nat} {p0 : Int32} {σ σ' : St} {r : Int64} (hf : f_X11_even p0 σ = some (r, σ')) : CT l D cy ad yX11_even cX11_even 5 (some .long) rX11_even [.ref (ad 0), .int p0] σ (some (.long r)) σ' :=
  ct_of (by decide) (Nat.le_of_ble_eq_true rfl) (fun p e s m args below meth c A => e_X11_even (Γ := (p, l, e, rX11_even, s, m, args, below, meth, c, D, cy, ad, A, 0, 0, MQ below (QC D cy ad (some (.long r)) σ' A) args s 0 0 A)) p0 σ ⟨_, hf, rfl⟩)
theorem k_X11_even {Γ : CX} {cc : ByteArray} {nL : Nat} {own : String} {ret : Option FieldType} {rm : Room} {σ σ' : St} {pc pc' idx : Nat} {lv : List (Nat × Value)} {rest : List Value} {p0 : Int32} {r : Int64} (hl : Cond.methodLink own idx yX11_even ∈ TB) (hw : (rest.map fun v => v.category).sum ≤ 8) (hR : rX11_even.frames + 1 ≤ rm.frames ∧ 8 + (5 + 11) + rX11_even.locals ≤ rm.locals) (hd : decode cc pc = .ok (.invokevirtual idx, 3)) (hp : pc + 3 = pc') (hf : f_X11_even p0 σ = some (r, σ')) (h : WW Γ cc nL own ret rm σ' pc' lv (.long r :: rest)) : WW Γ cc nL own ret rm σ pc lv (.int p0 :: .ref (xd Γ 0) :: rest) :=
  w_callV (nn := 1) (i := 0) (As := [.int p0]) (v := (some (.long r))) (T := TX11) (N := 11) (c_X11_even hf) hl mw_X11_even (by decide +kernel) ⟨rfl, rfl⟩ hR (lt_lit (by decide)) cel_0 rfl rfl hw hd rfl hp h
/-! WarByHours.treaties (I)J -/
def rX11_treaties : Room := { frames := 5, cells := 0, slots := 0, locals := 114 }
def f_X11_treaties (p0 : Int32) (σ : St) : Option (Int64 × St) :=
  bd (f_X10_hasSet 1 p0 σ) fun r1 s2 =>
  if r1 = 0 then
    some ((-2 : Int64), s2)
  else
    bd (f_X2_follow p0 s2) fun _ s5 =>
    bd (f_X2_treatyEnds s5) fun r7 s8 =>
    some (r7, s8)
theorem e_X11_treaties {Γ : CX} (p0 : Int32) (σ : St) (h : RR vL Γ (f_X11_treaties p0 σ)) : WW Γ cX11_treaties 2 RX11 (some .long) rX11_treaties σ 0 [(0, .ref (xd Γ 0)), (1, .int p0)] [] := by
  unfold f_X11_treaties at h
  refine w_aload_n 0 dX11_treaties_0 rfl rfl rfl ?_
  refine gf_RX11_10 dX11_treaties_1 rfl ?_
  refine w_iload_n 1 dX11_treaties_4 rfl rfl rfl ?_
  obtain ⟨r1, s2, h3, h⟩ := h.bd
  refine k_X10_hasSet ml_RX11_155 (Nat.le_of_ble_eq_true rfl) ⟨Nat.le_of_ble_eq_true rfl, Nat.le_of_ble_eq_true rfl⟩ dX11_treaties_5 rfl h3 ?_
  refine w_if_ne (tgt := 15) dX11_treaties_8 (by decide) rfl (fun q => ?_) (fun q => ?_)
  · have h := h.ff q
    refine w_aload_n 0 dX11_treaties_15 rfl rfl rfl ?_
    refine gf_RX11_31 dX11_treaties_16 rfl ?_
    refine w_iload_n 1 dX11_treaties_19 rfl rfl rfl ?_
    obtain ⟨r4, s5, h6, h⟩ := h.bd
    refine k_X2_follow ml_RX11_162 (Nat.le_of_ble_eq_true rfl) ⟨Nat.le_of_ble_eq_true rfl, Nat.le_of_ble_eq_true rfl⟩ dX11_treaties_20 rfl h6 ?_
    refine w_aload_n 0 dX11_treaties_23 rfl rfl rfl ?_
    refine gf_RX11_31 dX11_treaties_24 rfl ?_
    obtain ⟨r7, s8, h9, h⟩ := h.bd
    refine k_X2_treatyEnds ml_RX11_301 (Nat.le_of_ble_eq_true rfl) ⟨Nat.le_of_ble_eq_true rfl, Nat.le_of_ble_eq_true rfl⟩ dX11_treaties_27 rfl h9 ?_
    exact w_lreturn dX11_treaties_30 h
  · have h := h.tt q
    refine w_ldc2_w (-2 : Int64) dX11_treaties_11 cl_RX11_196 rfl ?_
    exact w_lreturn dX11_treaties_14 h
theorem c_X11_treaties {l : Launch} {D : va_G} {cy : Nat → ClassId} {ad : Nat → Nat} {p0 : Int32} {σ σ' : St} {r : Int64} (hf : f_X11_treaties p0 σ = some (r, σ')) : CT l D cy ad yX11_treaties cX11_treaties 2 (some .long) rX11_treaties [.ref (ad 0), .int p0] σ (some (.long r)) σ' :=
  ct_of (by decide) (Nat.le_of_ble_eq_true rfl) (fun p e s m args below meth c A => e_X11_treaties (Γ := (p, l, e, rX11_treaties, s, m, args, below, meth, c, D, cy, ad, A, 0, 0, MQ below (QC D cy ad (some (.long r)) σ' A) args s 0 0 A)) p0 σ ⟨_, hf, rfl⟩)
theorem k_X11_treaties {Γ : CX} {cc : ByteArray} {nL : Nat} {own : String} {ret : Option FieldType} {rm : Room} {σ σ' : St} {pc pc' idx : Nat} {lv : List (Nat × Value)} {rest : List Value} {p0 : Int32} {r : Int64} (hl : Cond.methodLink own idx yX11_treaties ∈ TB) (hw : (rest.map fun v => v.category).sum ≤ 8) (hR : rX11_treaties.frames + 1 ≤ rm.frames ∧ 8 + (2 + 11) + rX11_treaties.locals ≤ rm.locals) (hd : decode cc pc = .ok (.invokevirtual idx, 3)) (hp : pc + 3 = pc') (hf : f_X11_treaties p0 σ = some (r, σ')) (h : WW Γ cc nL own ret rm σ' pc' lv (.long r :: rest)) : WW Γ cc nL own ret rm σ pc lv (.int p0 :: .ref (xd Γ 0) :: rest) :=
  w_callV (nn := 1) (i := 0) (As := [.int p0]) (v := (some (.long r))) (T := TX11) (N := 11) (c_X11_treaties hf) hl mw_X11_treaties (by decide +kernel) ⟨rfl, rfl⟩ hR (lt_lit (by decide)) cel_0 rfl rfl hw hd rfl hp h
/-! WarByHours.price (II)I -/
def rX11_price : Room := { frames := 5, cells := 0, slots := 0, locals := 114 }
def f_X11_price_27 (σ : St) : Option (Int32 × St) :=
  some ((-2 : Int32), σ)
theorem b_X11_price_27 {Γ : CX} (σ : St) (h : RR vI Γ (f_X11_price_27 σ)) : WW Γ cX11_price 4 RX11 (some .int) rX11_price σ 27 [] [] := by
  unfold f_X11_price_27 at h
  refine w_bipush (-2 : Int32) dX11_price_27 ic_bipush_m2 rfl ?_
  exact w_ireturn dX11_price_29 h
def f_X11_price_58 (k0 : Int32) (σ : St) : Option (Int32 × St) :=
  some (k0, σ)
theorem b_X11_price_58 {Γ : CX} (k0 : Int32) (σ : St) (h : RR vI Γ (f_X11_price_58 k0 σ)) : WW Γ cX11_price 4 RX11 (some .int) rX11_price σ 58 [] [.int k0] := by
  unfold f_X11_price_58 at h
  exact w_ireturn dX11_price_58 h
def f_X11_price (p0 : Int32) (p1 : Int32) (σ : St) : Option (Int32 × St) :=
  bd (f_X10_hasSet 1 p1 σ) fun r1 s2 =>
  if r1 = 0 then
    f_X11_price_27 s2
  else
    if p0 < (1 : Int32) then
      f_X11_price_27 s2
    else
      if p0 ≤ (gf s2 1 1) then
        bd (f_X2_follow p1 s2) fun _ s5 =>
        bd (f_X2_farthestFrom p0 s5) fun r7 s8 =>
        if (60 : Int32) < r7 then
          f_X11_price_58 (-1 : Int32) s8
        else
          f_X11_price_58 r7 s8
      else
        f_X11_price_27 s2
theorem e_X11_price {Γ : CX} (p0 : Int32) (p1 : Int32) (σ : St) (h : RR vI Γ (f_X11_price p0 p1 σ)) : WW Γ cX11_price 4 RX11 (some .int) rX11_price σ 0 [(0, .ref (xd Γ 0)), (1, .int p0), (2, .int p1)] [] := by
  unfold f_X11_price at h
  refine w_aload_n 0 dX11_price_0 rfl rfl rfl ?_
  refine gf_RX11_10 dX11_price_1 rfl ?_
  refine w_iload_n 2 dX11_price_4 rfl rfl rfl ?_
  obtain ⟨r1, s2, h3, h⟩ := h.bd
  refine k_X10_hasSet ml_RX11_155 (Nat.le_of_ble_eq_true rfl) ⟨Nat.le_of_ble_eq_true rfl, Nat.le_of_ble_eq_true rfl⟩ dX11_price_5 rfl h3 ?_
  refine w_if_eq (tgt := 27) dX11_price_8 (by decide) rfl (fun q => ?_) (fun q => ?_)
  · have h := h.tt q
    exact w_sub [] rfl (b_X11_price_27 s2 h)
  · have h := h.ff q
    refine w_iload_n 1 dX11_price_11 rfl rfl rfl ?_
    refine w_iconst (1 : Int32) dX11_price_12 ic_iconst_1 rfl ?_
    refine w_icmp_lt (tgt := 27) dX11_price_13 (by decide) rfl (fun q => ?_) (fun q => ?_)
    · have h := h.tt q
      exact w_sub [] rfl (b_X11_price_27 s2 h)
    · have h := h.ff q
      refine w_iload_n 1 dX11_price_16 rfl rfl rfl ?_
      refine w_aload_n 0 dX11_price_17 rfl rfl rfl ?_
      refine gf_RX11_10 dX11_price_18 rfl ?_
      refine gf_RX11_137 (i := 1) (isW_lit (by decide)) dX11_price_21 rfl ?_
      refine w_icmp_le (tgt := 30) dX11_price_24 (by decide) rfl (fun q => ?_) (fun q => ?_)
      · have h := h.tt q
        refine w_aload_n 0 dX11_price_30 rfl rfl rfl ?_
        refine gf_RX11_31 dX11_price_31 rfl ?_
        refine w_iload_n 2 dX11_price_34 rfl rfl rfl ?_
        obtain ⟨r4, s5, h6, h⟩ := h.bd
        refine k_X2_follow ml_RX11_162 (Nat.le_of_ble_eq_true rfl) ⟨Nat.le_of_ble_eq_true rfl, Nat.le_of_ble_eq_true rfl⟩ dX11_price_35 rfl h6 ?_
        refine w_aload_n 0 dX11_price_38 rfl rfl rfl ?_
        refine gf_RX11_31 dX11_price_39 rfl ?_
        refine w_iload_n 1 dX11_price_42 rfl rfl rfl ?_
        obtain ⟨r7, s8, h9, h⟩ := h.bd
        refine k_X2_farthestFrom ml_RX11_304 (Nat.le_of_ble_eq_true rfl) ⟨Nat.le_of_ble_eq_true rfl, Nat.le_of_ble_eq_true rfl⟩ dX11_price_43 rfl h9 ?_
        refine w_istore_n [(3, .int r7), (0, .ref (xd Γ 0)), (1, .int p0), (2, .int p1)] dX11_price_46 rfl (by decide) rfl rfl ?_
        refine w_iload_n 0 dX11_price_47 rfl rfl rfl ?_
        refine w_bipush (60 : Int32) dX11_price_48 ic_bipush_60 rfl ?_
        refine w_icmp_gt (tgt := 57) dX11_price_50 (by decide) rfl (fun q => ?_) (fun q => ?_)
        · have h := h.tt q
          refine w_iconst (-1 : Int32) dX11_price_57 ic_iconst_m1 rfl ?_
          exact w_sub [] rfl (b_X11_price_58 (-1 : Int32) s8 h)
        · have h := h.ff q
          refine w_iload_n 0 dX11_price_53 rfl rfl rfl ?_
          refine w_goto (tgt := 58) dX11_price_54 (by decide) ?_
          exact w_sub [] rfl (b_X11_price_58 r7 s8 h)
      · have h := h.ff q
        exact w_sub [] rfl (b_X11_price_27 s2 h)
theorem c_X11_price {l : Launch} {D : va_G} {cy : Nat → ClassId} {ad : Nat → Nat} {p0 : Int32} {p1 : Int32} {σ σ' : St} {r : Int32} (hf : f_X11_price p0 p1 σ = some (r, σ')) : CT l D cy ad yX11_price cX11_price 4 (some .int) rX11_price [.ref (ad 0), .int p0, .int p1] σ (some (.int r)) σ' :=
  ct_of (by decide) (Nat.le_of_ble_eq_true rfl) (fun p e s m args below meth c A => e_X11_price (Γ := (p, l, e, rX11_price, s, m, args, below, meth, c, D, cy, ad, A, 0, 0, MQ below (QC D cy ad (some (.int r)) σ' A) args s 0 0 A)) p0 p1 σ ⟨_, hf, rfl⟩)
theorem k_X11_price {Γ : CX} {cc : ByteArray} {nL : Nat} {own : String} {ret : Option FieldType} {rm : Room} {σ σ' : St} {pc pc' idx : Nat} {lv : List (Nat × Value)} {rest : List Value} {p0 : Int32} {p1 : Int32} {r : Int32} (hl : Cond.methodLink own idx yX11_price ∈ TB) (hw : (rest.map fun v => v.category).sum ≤ 8) (hR : rX11_price.frames + 1 ≤ rm.frames ∧ 8 + (4 + 11) + rX11_price.locals ≤ rm.locals) (hd : decode cc pc = .ok (.invokevirtual idx, 3)) (hp : pc + 3 = pc') (hf : f_X11_price p0 p1 σ = some (r, σ')) (h : WW Γ cc nL own ret rm σ' pc' lv (.int r :: rest)) : WW Γ cc nL own ret rm σ pc lv (.int p1 :: .int p0 :: .ref (xd Γ 0) :: rest) :=
  w_callV (nn := 2) (i := 0) (As := [.int p0, .int p1]) (v := (some (.int r))) (T := TX11) (N := 11) (c_X11_price hf) hl mw_X11_price (by decide +kernel) ⟨rfl, rfl⟩ hR (lt_lit (by decide)) cel_0 rfl rfl hw hd rfl hp h
/-! WarByHours.dry (III)J -/
def rX11_dry : Room := { frames := 2, cells := 0, slots := 0, locals := 52 }
def f_X11_dry_37 (σ : St) : Option (Int64 × St) :=
  some ((-2 : Int64), σ)
theorem b_X11_dry_37 {Γ : CX} (σ : St) (h : RR vL Γ (f_X11_dry_37 σ)) : WW Γ cX11_dry 4 RX11 (some .long) rX11_dry σ 37 [] [] := by
  unfold f_X11_dry_37 at h
  refine w_ldc2_w (-2 : Int64) dX11_dry_37 cl_RX11_196 rfl ?_
  exact w_lreturn dX11_dry_40 h
def f_X11_dry (p0 : Int32) (p1 : Int32) (p2 : Int32) (σ : St) : Option (Int64 × St) :=
  bd (f_X10_isTold 1 σ) fun r1 s2 =>
  if r1 = 0 then
    f_X11_dry_37 s2
  else
    if p0 < (1 : Int32) then
      f_X11_dry_37 s2
    else
      if (9 : Int32) < p0 then
        f_X11_dry_37 s2
      else
        if p1 < 0 then
          f_X11_dry_37 s2
        else
          if p0 < p1 then
            f_X11_dry_37 s2
          else
            bd (f_X11_isPart p2 s2) fun r4 s5 =>
            if r4 = 0 then
              f_X11_dry_37 s5
            else
              bd (f_X1_dryParts (gf s5 1 4) p0 p1 s5) fun r7 s8 =>
              bd (f_X1_hundreds p0 s8) fun r10 s11 =>
              bd (f_X1_lowest r7 r10 p2 s11) fun r13 s14 =>
              some (r13, s14)
theorem e_X11_dry {Γ : CX} (p0 : Int32) (p1 : Int32) (p2 : Int32) (σ : St) (h : RR vL Γ (f_X11_dry p0 p1 p2 σ)) : WW Γ cX11_dry 4 RX11 (some .long) rX11_dry σ 0 [(0, .ref (xd Γ 0)), (1, .int p0), (2, .int p1), (3, .int p2)] [] := by
  unfold f_X11_dry at h
  refine w_aload_n 0 dX11_dry_0 rfl rfl rfl ?_
  refine gf_RX11_10 dX11_dry_1 rfl ?_
  obtain ⟨r1, s2, h3, h⟩ := h.bd
  refine k_X10_isTold ml_RX11_133 (Nat.le_of_ble_eq_true rfl) ⟨Nat.le_of_ble_eq_true rfl, Nat.le_of_ble_eq_true rfl⟩ dX11_dry_4 rfl h3 ?_
  refine w_if_eq (tgt := 37) dX11_dry_7 (by decide) rfl (fun q => ?_) (fun q => ?_)
  · have h := h.tt q
    exact w_sub [] rfl (b_X11_dry_37 s2 h)
  · have h := h.ff q
    refine w_iload_n 1 dX11_dry_10 rfl rfl rfl ?_
    refine w_iconst (1 : Int32) dX11_dry_11 ic_iconst_1 rfl ?_
    refine w_icmp_lt (tgt := 37) dX11_dry_12 (by decide) rfl (fun q => ?_) (fun q => ?_)
    · have h := h.tt q
      exact w_sub [] rfl (b_X11_dry_37 s2 h)
    · have h := h.ff q
      refine w_iload_n 1 dX11_dry_15 rfl rfl rfl ?_
      refine w_bipush (9 : Int32) dX11_dry_16 ic_bipush_9 rfl ?_
      refine w_icmp_gt (tgt := 37) dX11_dry_18 (by decide) rfl (fun q => ?_) (fun q => ?_)
      · have h := h.tt q
        exact w_sub [] rfl (b_X11_dry_37 s2 h)
      · have h := h.ff q
        refine w_iload_n 2 dX11_dry_21 rfl rfl rfl ?_
        refine w_if_lt (tgt := 37) dX11_dry_22 (by decide) rfl (fun q => ?_) (fun q => ?_)
        · have h := h.tt q
          exact w_sub [] rfl (b_X11_dry_37 s2 h)
        · have h := h.ff q
          refine w_iload_n 2 dX11_dry_25 rfl rfl rfl ?_
          refine w_iload_n 1 dX11_dry_26 rfl rfl rfl ?_
          refine w_icmp_gt (tgt := 37) dX11_dry_27 (by decide) rfl (fun q => ?_) (fun q => ?_)
          · have h := h.tt q
            exact w_sub [] rfl (b_X11_dry_37 s2 h)
          · have h := h.ff q
            refine w_iload_n 3 dX11_dry_30 rfl rfl rfl ?_
            obtain ⟨r4, s5, h6, h⟩ := h.bd
            refine k_X11_isPart ml_RX11_193 (Nat.le_of_ble_eq_true rfl) ⟨Nat.le_of_ble_eq_true rfl, Nat.le_of_ble_eq_true rfl⟩ dX11_dry_31 rfl h6 ?_
            refine w_if_ne (tgt := 41) dX11_dry_34 (by decide) rfl (fun q => ?_) (fun q => ?_)
            · have h := h.ff q
              refine w_aload_n 0 dX11_dry_41 rfl rfl rfl ?_
              refine gf_RX11_10 dX11_dry_42 rfl ?_
              refine gf_RX11_329 (i := 1) (isW_lit (by decide)) dX11_dry_45 rfl ?_
              refine w_iload_n 1 dX11_dry_48 rfl rfl rfl ?_
              refine w_iload_n 2 dX11_dry_49 rfl rfl rfl ?_
              obtain ⟨r7, s8, h9, h⟩ := h.bd
              refine k_X1_dryParts ml_RX11_332 (Nat.le_of_ble_eq_true rfl) ⟨Nat.le_of_ble_eq_true rfl, Nat.le_of_ble_eq_true rfl⟩ dX11_dry_50 rfl h9 ?_
              refine w_iload_n 1 dX11_dry_53 rfl rfl rfl ?_
              obtain ⟨r10, s11, h12, h⟩ := h.bd
              refine k_X1_hundreds ml_RX11_210 (Nat.le_of_ble_eq_true rfl) ⟨Nat.le_of_ble_eq_true rfl, Nat.le_of_ble_eq_true rfl⟩ dX11_dry_54 rfl h12 ?_
              refine w_iload_n 3 dX11_dry_57 rfl rfl rfl ?_
              obtain ⟨r13, s14, h15, h⟩ := h.bd
              refine k_X1_lowest ml_RX11_215 (Nat.le_of_ble_eq_true rfl) ⟨Nat.le_of_ble_eq_true rfl, Nat.le_of_ble_eq_true rfl⟩ dX11_dry_58 rfl h15 ?_
              exact w_lreturn dX11_dry_61 h
            · have h := h.tt q
              exact w_sub [] rfl (b_X11_dry_37 s5 h)
theorem c_X11_dry {l : Launch} {D : va_G} {cy : Nat → ClassId} {ad : Nat → Nat} {p0 : Int32} {p1 : Int32} {p2 : Int32} {σ σ' : St} {r : Int64} (hf : f_X11_dry p0 p1 p2 σ = some (r, σ')) : CT l D cy ad yX11_dry cX11_dry 4 (some .long) rX11_dry [.ref (ad 0), .int p0, .int p1, .int p2] σ (some (.long r)) σ' :=
  ct_of (by decide) (Nat.le_of_ble_eq_true rfl) (fun p e s m args below meth c A => e_X11_dry (Γ := (p, l, e, rX11_dry, s, m, args, below, meth, c, D, cy, ad, A, 0, 0, MQ below (QC D cy ad (some (.long r)) σ' A) args s 0 0 A)) p0 p1 p2 σ ⟨_, hf, rfl⟩)
theorem k_X11_dry {Γ : CX} {cc : ByteArray} {nL : Nat} {own : String} {ret : Option FieldType} {rm : Room} {σ σ' : St} {pc pc' idx : Nat} {lv : List (Nat × Value)} {rest : List Value} {p0 : Int32} {p1 : Int32} {p2 : Int32} {r : Int64} (hl : Cond.methodLink own idx yX11_dry ∈ TB) (hw : (rest.map fun v => v.category).sum ≤ 8) (hR : rX11_dry.frames + 1 ≤ rm.frames ∧ 8 + (4 + 11) + rX11_dry.locals ≤ rm.locals) (hd : decode cc pc = .ok (.invokevirtual idx, 3)) (hp : pc + 3 = pc') (hf : f_X11_dry p0 p1 p2 σ = some (r, σ')) (h : WW Γ cc nL own ret rm σ' pc' lv (.long r :: rest)) : WW Γ cc nL own ret rm σ pc lv (.int p2 :: .int p1 :: .int p0 :: .ref (xd Γ 0) :: rest) :=
  w_callV (nn := 3) (i := 0) (As := [.int p0, .int p1, .int p2]) (v := (some (.long r))) (T := TX11) (N := 11) (c_X11_dry hf) hl mw_X11_dry (by decide +kernel) ⟨rfl, rfl⟩ hR (lt_lit (by decide)) cel_0 rfl rfl hw hd rfl hp h
/-! WarByHours.insist (I)I -/
def rX11_insist : Room := { frames := 1, cells := 0, slots := 0, locals := 23 }
def f_X11_insist_33 (k0 : Int32) (σ : St) : Option (Int32 × St) :=
  some (k0, σ)
theorem b_X11_insist_33 {Γ : CX} (k0 : Int32) (σ : St) (h : RR vI Γ (f_X11_insist_33 k0 σ)) : WW Γ cX11_insist 2 RX11 (some .int) rX11_insist σ 33 [] [.int k0] := by
  unfold f_X11_insist_33 at h
  exact w_ireturn dX11_insist_33 h
def f_X11_insist_31 (σ : St) : Option (Int32 × St) :=
  f_X11_insist_33 (-2 : Int32) σ
theorem b_X11_insist_31 {Γ : CX} (σ : St) (h : RR vI Γ (f_X11_insist_31 σ)) : WW Γ cX11_insist 2 RX11 (some .int) rX11_insist σ 31 [] [] := by
  unfold f_X11_insist_31 at h
  refine w_bipush (-2 : Int32) dX11_insist_31 ic_bipush_m2 rfl ?_
  exact w_sub [] rfl (b_X11_insist_33 (-2 : Int32) σ h)
def f_X11_insist (p0 : Int32) (σ : St) : Option (Int32 × St) :=
  bd (f_X10_isTold 1 σ) fun r1 s2 =>
  if r1 = 0 then
    f_X11_insist_31 s2
  else
    bd (f_X11_isPercent p0 s2) fun r4 s5 =>
    if r4 = 0 then
      f_X11_insist_31 s5
    else
      bd (f_X1_wednesdaysToInsist (gf s5 1 4) p0 s5) fun r7 s8 =>
      f_X11_insist_33 r7 s8
theorem e_X11_insist {Γ : CX} (p0 : Int32) (σ : St) (h : RR vI Γ (f_X11_insist p0 σ)) : WW Γ cX11_insist 2 RX11 (some .int) rX11_insist σ 0 [(0, .ref (xd Γ 0)), (1, .int p0)] [] := by
  unfold f_X11_insist at h
  refine w_aload_n 0 dX11_insist_0 rfl rfl rfl ?_
  refine gf_RX11_10 dX11_insist_1 rfl ?_
  obtain ⟨r1, s2, h3, h⟩ := h.bd
  refine k_X10_isTold ml_RX11_133 (Nat.le_of_ble_eq_true rfl) ⟨Nat.le_of_ble_eq_true rfl, Nat.le_of_ble_eq_true rfl⟩ dX11_insist_4 rfl h3 ?_
  refine w_if_eq (tgt := 31) dX11_insist_7 (by decide) rfl (fun q => ?_) (fun q => ?_)
  · have h := h.tt q
    exact w_sub [] rfl (b_X11_insist_31 s2 h)
  · have h := h.ff q
    refine w_iload_n 1 dX11_insist_10 rfl rfl rfl ?_
    obtain ⟨r4, s5, h6, h⟩ := h.bd
    refine k_X11_isPercent ml_RX11_336 (Nat.le_of_ble_eq_true rfl) ⟨Nat.le_of_ble_eq_true rfl, Nat.le_of_ble_eq_true rfl⟩ dX11_insist_11 rfl h6 ?_
    refine w_if_eq (tgt := 31) dX11_insist_14 (by decide) rfl (fun q => ?_) (fun q => ?_)
    · have h := h.tt q
      exact w_sub [] rfl (b_X11_insist_31 s5 h)
    · have h := h.ff q
      refine w_aload_n 0 dX11_insist_17 rfl rfl rfl ?_
      refine gf_RX11_10 dX11_insist_18 rfl ?_
      refine gf_RX11_329 (i := 1) (isW_lit (by decide)) dX11_insist_21 rfl ?_
      refine w_iload_n 1 dX11_insist_24 rfl rfl rfl ?_
      obtain ⟨r7, s8, h9, h⟩ := h.bd
      refine k_X1_wednesdaysToInsist ml_RX11_339 (Nat.le_of_ble_eq_true rfl) ⟨Nat.le_of_ble_eq_true rfl, Nat.le_of_ble_eq_true rfl⟩ dX11_insist_25 rfl h9 ?_
      refine w_goto (tgt := 33) dX11_insist_28 (by decide) ?_
      exact w_sub [] rfl (b_X11_insist_33 r7 s8 h)
theorem c_X11_insist {l : Launch} {D : va_G} {cy : Nat → ClassId} {ad : Nat → Nat} {p0 : Int32} {σ σ' : St} {r : Int32} (hf : f_X11_insist p0 σ = some (r, σ')) : CT l D cy ad yX11_insist cX11_insist 2 (some .int) rX11_insist [.ref (ad 0), .int p0] σ (some (.int r)) σ' :=
  ct_of (by decide) (Nat.le_of_ble_eq_true rfl) (fun p e s m args below meth c A => e_X11_insist (Γ := (p, l, e, rX11_insist, s, m, args, below, meth, c, D, cy, ad, A, 0, 0, MQ below (QC D cy ad (some (.int r)) σ' A) args s 0 0 A)) p0 σ ⟨_, hf, rfl⟩)
theorem k_X11_insist {Γ : CX} {cc : ByteArray} {nL : Nat} {own : String} {ret : Option FieldType} {rm : Room} {σ σ' : St} {pc pc' idx : Nat} {lv : List (Nat × Value)} {rest : List Value} {p0 : Int32} {r : Int32} (hl : Cond.methodLink own idx yX11_insist ∈ TB) (hw : (rest.map fun v => v.category).sum ≤ 8) (hR : rX11_insist.frames + 1 ≤ rm.frames ∧ 8 + (2 + 11) + rX11_insist.locals ≤ rm.locals) (hd : decode cc pc = .ok (.invokevirtual idx, 3)) (hp : pc + 3 = pc') (hf : f_X11_insist p0 σ = some (r, σ')) (h : WW Γ cc nL own ret rm σ' pc' lv (.int r :: rest)) : WW Γ cc nL own ret rm σ pc lv (.int p0 :: .ref (xd Γ 0) :: rest) :=
  w_callV (nn := 1) (i := 0) (As := [.int p0]) (v := (some (.int r))) (T := TX11) (N := 11) (c_X11_insist hf) hl mw_X11_insist (by decide +kernel) ⟨rfl, rfl⟩ hR (lt_lit (by decide)) cel_0 rfl rfl hw hd rfl hp h
/-! WarByHours.tell (III)I -/
def rX11_tell : Room := { frames := 3, cells := 0, slots := 0, locals := 71 }
def f_X11_tell_32 (σ : St) : Option (Int32 × St) :=
  some ((-2 : Int32), σ)
theorem b_X11_tell_32 {Γ : CX} (σ : St) (h : RR vI Γ (f_X11_tell_32 σ)) : WW Γ cX11_tell 4 RX11 (some .int) rX11_tell σ 32 [] [] := by
  unfold f_X11_tell_32 at h
  refine w_bipush (-2 : Int32) dX11_tell_32 ic_bipush_m2 rfl ?_
  exact w_ireturn dX11_tell_34 h
def f_X11_tell (p0 : Int32) (p1 : Int32) (p2 : Int32) (σ : St) : Option (Int32 × St) :=
  bd (f_X10_hasTrain 1 p0 σ) fun r1 s2 =>
  if r1 = 0 then
    f_X11_tell_32 s2
  else
    if p1 < 0 then
      f_X11_tell_32 s2
    else
      if (2 : Int32) < p1 then
        f_X11_tell_32 s2
      else
        if p2 < 0 then
          f_X11_tell_32 s2
        else
          bd (f_X10_mostTold p1 s2) fun r4 s5 =>
          if p2 ≤ r4 then
            bd (f_X2_forget s5) fun _ s8 =>
            bd (f_X10_change 1 p0 p1 p2 s8) fun r10 s11 =>
            some (r10, s11)
          else
            f_X11_tell_32 s5
theorem e_X11_tell {Γ : CX} (p0 : Int32) (p1 : Int32) (p2 : Int32) (σ : St) (h : RR vI Γ (f_X11_tell p0 p1 p2 σ)) : WW Γ cX11_tell 4 RX11 (some .int) rX11_tell σ 0 [(0, .ref (xd Γ 0)), (1, .int p0), (2, .int p1), (3, .int p2)] [] := by
  unfold f_X11_tell at h
  refine w_aload_n 0 dX11_tell_0 rfl rfl rfl ?_
  refine gf_RX11_10 dX11_tell_1 rfl ?_
  refine w_iload_n 1 dX11_tell_4 rfl rfl rfl ?_
  obtain ⟨r1, s2, h3, h⟩ := h.bd
  refine k_X10_hasTrain ml_RX11_342 (Nat.le_of_ble_eq_true rfl) ⟨Nat.le_of_ble_eq_true rfl, Nat.le_of_ble_eq_true rfl⟩ dX11_tell_5 rfl h3 ?_
  refine w_if_eq (tgt := 32) dX11_tell_8 (by decide) rfl (fun q => ?_) (fun q => ?_)
  · have h := h.tt q
    exact w_sub [] rfl (b_X11_tell_32 s2 h)
  · have h := h.ff q
    refine w_iload_n 2 dX11_tell_11 rfl rfl rfl ?_
    refine w_if_lt (tgt := 32) dX11_tell_12 (by decide) rfl (fun q => ?_) (fun q => ?_)
    · have h := h.tt q
      exact w_sub [] rfl (b_X11_tell_32 s2 h)
    · have h := h.ff q
      refine w_iload_n 2 dX11_tell_15 rfl rfl rfl ?_
      refine w_iconst (2 : Int32) dX11_tell_16 ic_iconst_2 rfl ?_
      refine w_icmp_gt (tgt := 32) dX11_tell_17 (by decide) rfl (fun q => ?_) (fun q => ?_)
      · have h := h.tt q
        exact w_sub [] rfl (b_X11_tell_32 s2 h)
      · have h := h.ff q
        refine w_iload_n 3 dX11_tell_20 rfl rfl rfl ?_
        refine w_if_lt (tgt := 32) dX11_tell_21 (by decide) rfl (fun q => ?_) (fun q => ?_)
        · have h := h.tt q
          exact w_sub [] rfl (b_X11_tell_32 s2 h)
        · have h := h.ff q
          refine w_iload_n 3 dX11_tell_24 rfl rfl rfl ?_
          refine w_iload_n 2 dX11_tell_25 rfl rfl rfl ?_
          obtain ⟨r4, s5, h6, h⟩ := h.bd
          refine k_X10_mostTold ml_RX11_345 (Nat.le_of_ble_eq_true rfl) ⟨Nat.le_of_ble_eq_true rfl, Nat.le_of_ble_eq_true rfl⟩ dX11_tell_26 rfl h6 ?_
          refine w_icmp_le (tgt := 35) dX11_tell_29 (by decide) rfl (fun q => ?_) (fun q => ?_)
          · have h := h.tt q
            refine w_aload_n 0 dX11_tell_35 rfl rfl rfl ?_
            refine gf_RX11_31 dX11_tell_36 rfl ?_
            obtain ⟨r7, s8, h9, h⟩ := h.bd
            refine k_X2_forget ml_RX11_107 (Nat.le_of_ble_eq_true rfl) ⟨Nat.le_of_ble_eq_true rfl, Nat.le_of_ble_eq_true rfl⟩ dX11_tell_39 rfl h9 ?_
            refine w_aload_n 0 dX11_tell_42 rfl rfl rfl ?_
            refine gf_RX11_10 dX11_tell_43 rfl ?_
            refine w_iload_n 1 dX11_tell_46 rfl rfl rfl ?_
            refine w_iload_n 2 dX11_tell_47 rfl rfl rfl ?_
            refine w_iload_n 3 dX11_tell_48 rfl rfl rfl ?_
            obtain ⟨r10, s11, h12, h⟩ := h.bd
            refine k_X10_change ml_RX11_348 (Nat.le_of_ble_eq_true rfl) ⟨Nat.le_of_ble_eq_true rfl, Nat.le_of_ble_eq_true rfl⟩ dX11_tell_49 rfl h12 ?_
            exact w_ireturn dX11_tell_52 h
          · have h := h.ff q
            exact w_sub [] rfl (b_X11_tell_32 s5 h)
theorem c_X11_tell {l : Launch} {D : va_G} {cy : Nat → ClassId} {ad : Nat → Nat} {p0 : Int32} {p1 : Int32} {p2 : Int32} {σ σ' : St} {r : Int32} (hf : f_X11_tell p0 p1 p2 σ = some (r, σ')) : CT l D cy ad yX11_tell cX11_tell 4 (some .int) rX11_tell [.ref (ad 0), .int p0, .int p1, .int p2] σ (some (.int r)) σ' :=
  ct_of (by decide) (Nat.le_of_ble_eq_true rfl) (fun p e s m args below meth c A => e_X11_tell (Γ := (p, l, e, rX11_tell, s, m, args, below, meth, c, D, cy, ad, A, 0, 0, MQ below (QC D cy ad (some (.int r)) σ' A) args s 0 0 A)) p0 p1 p2 σ ⟨_, hf, rfl⟩)
theorem k_X11_tell {Γ : CX} {cc : ByteArray} {nL : Nat} {own : String} {ret : Option FieldType} {rm : Room} {σ σ' : St} {pc pc' idx : Nat} {lv : List (Nat × Value)} {rest : List Value} {p0 : Int32} {p1 : Int32} {p2 : Int32} {r : Int32} (hl : Cond.methodLink own idx yX11_tell ∈ TB) (hw : (rest.map fun v => v.category).sum ≤ 8) (hR : rX11_tell.frames + 1 ≤ rm.frames ∧ 8 + (4 + 11) + rX11_tell.locals ≤ rm.locals) (hd : decode cc pc = .ok (.invokevirtual idx, 3)) (hp : pc + 3 = pc') (hf : f_X11_tell p0 p1 p2 σ = some (r, σ')) (h : WW Γ cc nL own ret rm σ' pc' lv (.int r :: rest)) : WW Γ cc nL own ret rm σ pc lv (.int p2 :: .int p1 :: .int p0 :: .ref (xd Γ 0) :: rest) :=
  w_callV (nn := 3) (i := 0) (As := [.int p0, .int p1, .int p2]) (v := (some (.int r))) (T := TX11) (N := 11) (c_X11_tell hf) hl mw_X11_tell (by decide +kernel) ⟨rfl, rfl⟩ hR (lt_lit (by decide)) cel_0 rfl rfl hw hd rfl hp h
/-! WarByHours.needs (II)I -/
def rX11_needs : Room := { frames := 3, cells := 0, slots := 0, locals := 71 }
def f_X11_needs_23 (σ : St) : Option (Int32 × St) :=
  some ((-2 : Int32), σ)
theorem b_X11_needs_23 {Γ : CX} (σ : St) (h : RR vI Γ (f_X11_needs_23 σ)) : WW Γ cX11_needs 3 RX11 (some .int) rX11_needs σ 23 [] [] := by
  unfold f_X11_needs_23 at h
  refine w_bipush (-2 : Int32) dX11_needs_23 ic_bipush_m2 rfl ?_
  exact w_ireturn dX11_needs_25 h
def f_X11_needs (p0 : Int32) (p1 : Int32) (σ : St) : Option (Int32 × St) :=
  bd (f_X10_hasSide 1 p0 σ) fun r1 s2 =>
  if r1 = 0 then
    f_X11_needs_23 s2
  else
    if p1 < 0 then
      f_X11_needs_23 s2
    else
      bd (f_X10_mostTold (3 : Int32) s2) fun r4 s5 =>
      if p1 ≤ r4 then
        bd (f_X2_forget s5) fun _ s8 =>
        bd (f_X10_change 1 p0 (3 : Int32) p1 s8) fun r10 s11 =>
        some (r10, s11)
      else
        f_X11_needs_23 s5
theorem e_X11_needs {Γ : CX} (p0 : Int32) (p1 : Int32) (σ : St) (h : RR vI Γ (f_X11_needs p0 p1 σ)) : WW Γ cX11_needs 3 RX11 (some .int) rX11_needs σ 0 [(0, .ref (xd Γ 0)), (1, .int p0), (2, .int p1)] [] := by
  unfold f_X11_needs at h
  refine w_aload_n 0 dX11_needs_0 rfl rfl rfl ?_
  refine gf_RX11_10 dX11_needs_1 rfl ?_
  refine w_iload_n 1 dX11_needs_4 rfl rfl rfl ?_
  obtain ⟨r1, s2, h3, h⟩ := h.bd
  refine k_X10_hasSide ml_RX11_126 (Nat.le_of_ble_eq_true rfl) ⟨Nat.le_of_ble_eq_true rfl, Nat.le_of_ble_eq_true rfl⟩ dX11_needs_5 rfl h3 ?_
  refine w_if_eq (tgt := 23) dX11_needs_8 (by decide) rfl (fun q => ?_) (fun q => ?_)
  · have h := h.tt q
    exact w_sub [] rfl (b_X11_needs_23 s2 h)
  · have h := h.ff q
    refine w_iload_n 2 dX11_needs_11 rfl rfl rfl ?_
    refine w_if_lt (tgt := 23) dX11_needs_12 (by decide) rfl (fun q => ?_) (fun q => ?_)
    · have h := h.tt q
      exact w_sub [] rfl (b_X11_needs_23 s2 h)
    · have h := h.ff q
      refine w_iload_n 2 dX11_needs_15 rfl rfl rfl ?_
      refine w_iconst (3 : Int32) dX11_needs_16 ic_iconst_3 rfl ?_
      obtain ⟨r4, s5, h6, h⟩ := h.bd
      refine k_X10_mostTold ml_RX11_345 (Nat.le_of_ble_eq_true rfl) ⟨Nat.le_of_ble_eq_true rfl, Nat.le_of_ble_eq_true rfl⟩ dX11_needs_17 rfl h6 ?_
      refine w_icmp_le (tgt := 26) dX11_needs_20 (by decide) rfl (fun q => ?_) (fun q => ?_)
      · have h := h.tt q
        refine w_aload_n 0 dX11_needs_26 rfl rfl rfl ?_
        refine gf_RX11_31 dX11_needs_27 rfl ?_
        obtain ⟨r7, s8, h9, h⟩ := h.bd
        refine k_X2_forget ml_RX11_107 (Nat.le_of_ble_eq_true rfl) ⟨Nat.le_of_ble_eq_true rfl, Nat.le_of_ble_eq_true rfl⟩ dX11_needs_30 rfl h9 ?_
        refine w_aload_n 0 dX11_needs_33 rfl rfl rfl ?_
        refine gf_RX11_10 dX11_needs_34 rfl ?_
        refine w_iload_n 1 dX11_needs_37 rfl rfl rfl ?_
        refine w_iconst (3 : Int32) dX11_needs_38 ic_iconst_3 rfl ?_
        refine w_iload_n 2 dX11_needs_39 rfl rfl rfl ?_
        obtain ⟨r10, s11, h12, h⟩ := h.bd
        refine k_X10_change ml_RX11_348 (Nat.le_of_ble_eq_true rfl) ⟨Nat.le_of_ble_eq_true rfl, Nat.le_of_ble_eq_true rfl⟩ dX11_needs_40 rfl h12 ?_
        exact w_ireturn dX11_needs_43 h
      · have h := h.ff q
        exact w_sub [] rfl (b_X11_needs_23 s5 h)
theorem c_X11_needs {l : Launch} {D : va_G} {cy : Nat → ClassId} {ad : Nat → Nat} {p0 : Int32} {p1 : Int32} {σ σ' : St} {r : Int32} (hf : f_X11_needs p0 p1 σ = some (r, σ')) : CT l D cy ad yX11_needs cX11_needs 3 (some .int) rX11_needs [.ref (ad 0), .int p0, .int p1] σ (some (.int r)) σ' :=
  ct_of (by decide) (Nat.le_of_ble_eq_true rfl) (fun p e s m args below meth c A => e_X11_needs (Γ := (p, l, e, rX11_needs, s, m, args, below, meth, c, D, cy, ad, A, 0, 0, MQ below (QC D cy ad (some (.int r)) σ' A) args s 0 0 A)) p0 p1 σ ⟨_, hf, rfl⟩)
theorem k_X11_needs {Γ : CX} {cc : ByteArray} {nL : Nat} {own : String} {ret : Option FieldType} {rm : Room} {σ σ' : St} {pc pc' idx : Nat} {lv : List (Nat × Value)} {rest : List Value} {p0 : Int32} {p1 : Int32} {r : Int32} (hl : Cond.methodLink own idx yX11_needs ∈ TB) (hw : (rest.map fun v => v.category).sum ≤ 8) (hR : rX11_needs.frames + 1 ≤ rm.frames ∧ 8 + (3 + 11) + rX11_needs.locals ≤ rm.locals) (hd : decode cc pc = .ok (.invokevirtual idx, 3)) (hp : pc + 3 = pc') (hf : f_X11_needs p0 p1 σ = some (r, σ')) (h : WW Γ cc nL own ret rm σ' pc' lv (.int r :: rest)) : WW Γ cc nL own ret rm σ pc lv (.int p1 :: .int p0 :: .ref (xd Γ 0) :: rest) :=
  w_callV (nn := 2) (i := 0) (As := [.int p0, .int p1]) (v := (some (.int r))) (T := TX11) (N := 11) (c_X11_needs hf) hl mw_X11_needs (by decide +kernel) ⟨rfl, rfl⟩ hR (lt_lit (by decide)) cel_0 rfl rfl hw hd rfl hp h
/-! WarByHours.undo ()I -/
def rX11_undo : Room := { frames := 3, cells := 0, slots := 0, locals := 67 }
def f_X11_undo (σ : St) : Option (Int32 × St) :=
  bd (f_X10_isTold 1 σ) fun r1 s2 =>
  if r1 = 0 then
    some ((-2 : Int32), s2)
  else
    bd (f_X2_forget s2) fun _ s5 =>
    bd (f_X10_takeBack 1 s5) fun r7 s8 =>
    some (r7, s8)
theorem e_X11_undo {Γ : CX} (σ : St) (h : RR vI Γ (f_X11_undo σ)) : WW Γ cX11_undo 1 RX11 (some .int) rX11_undo σ 0 [(0, .ref (xd Γ 0))] [] := by
  unfold f_X11_undo at h
  refine w_aload_n 0 dX11_undo_0 rfl rfl rfl ?_
  refine gf_RX11_10 dX11_undo_1 rfl ?_
  obtain ⟨r1, s2, h3, h⟩ := h.bd
  refine k_X10_isTold ml_RX11_133 (Nat.le_of_ble_eq_true rfl) ⟨Nat.le_of_ble_eq_true rfl, Nat.le_of_ble_eq_true rfl⟩ dX11_undo_4 rfl h3 ?_
  refine w_if_ne (tgt := 13) dX11_undo_7 (by decide) rfl (fun q => ?_) (fun q => ?_)
  · have h := h.ff q
    refine w_aload_n 0 dX11_undo_13 rfl rfl rfl ?_
    refine gf_RX11_31 dX11_undo_14 rfl ?_
    obtain ⟨r4, s5, h6, h⟩ := h.bd
    refine k_X2_forget ml_RX11_107 (Nat.le_of_ble_eq_true rfl) ⟨Nat.le_of_ble_eq_true rfl, Nat.le_of_ble_eq_true rfl⟩ dX11_undo_17 rfl h6 ?_
    refine w_aload_n 0 dX11_undo_20 rfl rfl rfl ?_
    refine gf_RX11_10 dX11_undo_21 rfl ?_
    obtain ⟨r7, s8, h9, h⟩ := h.bd
    refine k_X10_takeBack ml_RX11_351 (Nat.le_of_ble_eq_true rfl) ⟨Nat.le_of_ble_eq_true rfl, Nat.le_of_ble_eq_true rfl⟩ dX11_undo_24 rfl h9 ?_
    exact w_ireturn dX11_undo_27 h
  · have h := h.tt q
    refine w_bipush (-2 : Int32) dX11_undo_10 ic_bipush_m2 rfl ?_
    exact w_ireturn dX11_undo_12 h
theorem c_X11_undo {l : Launch} {D : va_G} {cy : Nat → ClassId} {ad : Nat → Nat}  {σ σ' : St} {r : Int32} (hf : f_X11_undo σ = some (r, σ')) : CT l D cy ad yX11_undo cX11_undo 1 (some .int) rX11_undo [.ref (ad 0)] σ (some (.int r)) σ' :=
  ct_of (by decide) (Nat.le_of_ble_eq_true rfl) (fun p e s m args below meth c A => e_X11_undo (Γ := (p, l, e, rX11_undo, s, m, args, below, meth, c, D, cy, ad, A, 0, 0, MQ below (QC D cy ad (some (.int r)) σ' A) args s 0 0 A)) σ ⟨_, hf, rfl⟩)
theorem k_X11_undo {Γ : CX} {cc : ByteArray} {nL : Nat} {own : String} {ret : Option FieldType} {rm : Room} {σ σ' : St} {pc pc' idx : Nat} {lv : List (Nat × Value)} {rest : List Value}  {r : Int32} (hl : Cond.methodLink own idx yX11_undo ∈ TB) (hw : (rest.map fun v => v.category).sum ≤ 8) (hR : rX11_undo.frames + 1 ≤ rm.frames ∧ 8 + (1 + 11) + rX11_undo.locals ≤ rm.locals) (hd : decode cc pc = .ok (.invokevirtual idx, 3)) (hp : pc + 3 = pc') (hf : f_X11_undo σ = some (r, σ')) (h : WW Γ cc nL own ret rm σ' pc' lv (.int r :: rest)) : WW Γ cc nL own ret rm σ pc lv (.ref (xd Γ 0) :: rest) :=
  w_callV (nn := 0) (i := 0) (As := []) (v := (some (.int r))) (T := TX11) (N := 11) (c_X11_undo hf) hl mw_X11_undo (by decide +kernel) ⟨rfl, rfl⟩ hR (lt_lit (by decide)) cel_0 rfl rfl hw hd rfl hp h
/-! WarByHours.drawn (II)I -/
def rX11_drawn : Room := { frames := 6, cells := 0, slots := 0, locals := 135 }
def f_X11_drawn_17 (σ : St) : Option (Int32 × St) :=
  some ((-2 : Int32), σ)
theorem b_X11_drawn_17 {Γ : CX} (σ : St) (h : RR vI Γ (f_X11_drawn_17 σ)) : WW Γ cX11_drawn 4 RX11 (some .int) rX11_drawn σ 17 [] [] := by
  unfold f_X11_drawn_17 at h
  refine w_bipush (-2 : Int32) dX11_drawn_17 ic_bipush_m2 rfl ?_
  exact w_ireturn dX11_drawn_19 h
def f_X11_drawn_57 (k0 : Int32) (σ : St) : Option (Int32 × St) :=
  some (k0, σ)
theorem b_X11_drawn_57 {Γ : CX} (k0 : Int32) (σ : St) (h : RR vI Γ (f_X11_drawn_57 k0 σ)) : WW Γ cX11_drawn 4 RX11 (some .int) rX11_drawn σ 57 [] [.int k0] := by
  unfold f_X11_drawn_57 at h
  exact w_ireturn dX11_drawn_57 h
def f_X11_drawn (p0 : Int32) (p1 : Int32) (σ : St) : Option (Int32 × St) :=
  bd (f_X11_isSeed p0 σ) fun r1 s2 =>
  if r1 = 0 then
    f_X11_drawn_17 s2
  else
    if p1 < 0 then
      f_X11_drawn_17 s2
    else
      if p1 ≤ (2 : Int32) then
        bd (f_X1_drawnDelays 1 p0 s2) fun r4 s5 =>
        if p1 = 0 then
          some (r4, s5)
        else
          if p1 = (1 : Int32) then
            if r4 = (-1 : Int32) then
              f_X11_drawn_57 (-1 : Int32) s5
            else
              bd (f_X2_winnerBy r4 s5) fun r13 s14 =>
              f_X11_drawn_57 r13 s14
          else
            if r4 = (-1 : Int32) then
              some ((0 : Int32), s5)
            else
              bd (f_X2_follow r4 s5) fun _ s8 =>
              bd (f_X2_frontBehind (gf s8 1 1) s8) fun r10 s11 =>
              some (r10, s11)
      else
        f_X11_drawn_17 s2
theorem e_X11_drawn {Γ : CX} (p0 : Int32) (p1 : Int32) (σ : St) (h : RR vI Γ (f_X11_drawn p0 p1 σ)) : WW Γ cX11_drawn 4 RX11 (some .int) rX11_drawn σ 0 [(0, .ref (xd Γ 0)), (1, .int p0), (2, .int p1)] [] := by
  unfold f_X11_drawn at h
  refine w_aload_n 0 dX11_drawn_0 rfl rfl rfl ?_
  refine w_iload_n 1 dX11_drawn_1 rfl rfl rfl ?_
  obtain ⟨r1, s2, h3, h⟩ := h.bd
  refine k_X11_isSeed ml_RX11_354 (Nat.le_of_ble_eq_true rfl) ⟨Nat.le_of_ble_eq_true rfl, Nat.le_of_ble_eq_true rfl⟩ dX11_drawn_2 rfl h3 ?_
  refine w_if_eq (tgt := 17) dX11_drawn_5 (by decide) rfl (fun q => ?_) (fun q => ?_)
  · have h := h.tt q
    exact w_sub [] rfl (b_X11_drawn_17 s2 h)
  · have h := h.ff q
    refine w_iload_n 2 dX11_drawn_8 rfl rfl rfl ?_
    refine w_if_lt (tgt := 17) dX11_drawn_9 (by decide) rfl (fun q => ?_) (fun q => ?_)
    · have h := h.tt q
      exact w_sub [] rfl (b_X11_drawn_17 s2 h)
    · have h := h.ff q
      refine w_iload_n 2 dX11_drawn_12 rfl rfl rfl ?_
      refine w_iconst (2 : Int32) dX11_drawn_13 ic_iconst_2 rfl ?_
      refine w_icmp_le (tgt := 20) dX11_drawn_14 (by decide) rfl (fun q => ?_) (fun q => ?_)
      · have h := h.tt q
        refine w_aload_n 0 dX11_drawn_20 rfl rfl rfl ?_
        refine gf_RX11_10 dX11_drawn_21 rfl ?_
        refine w_iload_n 1 dX11_drawn_24 rfl rfl rfl ?_
        obtain ⟨r4, s5, h6, h⟩ := h.bd
        refine k_X1_drawnDelays ml_RX11_357 (Nat.le_of_ble_eq_true rfl) ⟨Nat.le_of_ble_eq_true rfl, Nat.le_of_ble_eq_true rfl⟩ dX11_drawn_25 rfl h6 ?_
        refine w_istore_n [(3, .int r4), (0, .ref (xd Γ 0)), (1, .int p0), (2, .int p1)] dX11_drawn_28 rfl (by decide) rfl rfl ?_
        refine w_iload_n 3 dX11_drawn_29 rfl rfl rfl ?_
        refine w_if_ne (tgt := 35) dX11_drawn_30 (by decide) rfl (fun q => ?_) (fun q => ?_)
        · have h := h.ff q
          refine w_iload_n 3 dX11_drawn_35 rfl rfl rfl ?_
          refine w_iconst (1 : Int32) dX11_drawn_36 ic_iconst_1 rfl ?_
          refine w_icmp_ne (tgt := 58) dX11_drawn_37 (by decide) rfl (fun q => ?_) (fun q => ?_)
          · have h := h.ff q
            refine w_iload_n 0 dX11_drawn_58 rfl rfl rfl ?_
            refine w_iconst (-1 : Int32) dX11_drawn_59 ic_iconst_m1 rfl ?_
            refine w_icmp_ne (tgt := 65) dX11_drawn_60 (by decide) rfl (fun q => ?_) (fun q => ?_)
            · have h := h.ff q
              refine w_aload_n 1 dX11_drawn_65 rfl rfl rfl ?_
              refine gf_RX11_31 dX11_drawn_66 rfl ?_
              refine w_iload_n 0 dX11_drawn_69 rfl rfl rfl ?_
              obtain ⟨r7, s8, h9, h⟩ := h.bd
              refine k_X2_follow ml_RX11_162 (Nat.le_of_ble_eq_true rfl) ⟨Nat.le_of_ble_eq_true rfl, Nat.le_of_ble_eq_true rfl⟩ dX11_drawn_70 rfl h9 ?_
              refine w_aload_n 1 dX11_drawn_73 rfl rfl rfl ?_
              refine gf_RX11_31 dX11_drawn_74 rfl ?_
              refine w_aload_n 1 dX11_drawn_77 rfl rfl rfl ?_
              refine gf_RX11_10 dX11_drawn_78 rfl ?_
              refine gf_RX11_137 (i := 1) (isW_lit (by decide)) dX11_drawn_81 rfl ?_
              obtain ⟨r10, s11, h12, h⟩ := h.bd
              refine k_X2_frontBehind ml_RX11_165 (Nat.le_of_ble_eq_true rfl) ⟨Nat.le_of_ble_eq_true rfl, Nat.le_of_ble_eq_true rfl⟩ dX11_drawn_84 rfl h12 ?_
              exact w_ireturn dX11_drawn_87 h
            · have h := h.tt q
              refine w_iconst (0 : Int32) dX11_drawn_63 ic_iconst_0 rfl ?_
              exact w_ireturn dX11_drawn_64 h
          · have h := h.tt q
            refine w_iload_n 0 dX11_drawn_40 rfl rfl rfl ?_
            refine w_iconst (-1 : Int32) dX11_drawn_41 ic_iconst_m1 rfl ?_
            refine w_icmp_ne (tgt := 49) dX11_drawn_42 (by decide) rfl (fun q => ?_) (fun q => ?_)
            · have h := h.ff q
              refine w_aload_n 1 dX11_drawn_49 rfl rfl rfl ?_
              refine gf_RX11_31 dX11_drawn_50 rfl ?_
              refine w_iload_n 0 dX11_drawn_53 rfl rfl rfl ?_
              obtain ⟨r13, s14, h15, h⟩ := h.bd
              refine k_X2_winnerBy ml_RX11_171 (Nat.le_of_ble_eq_true rfl) ⟨Nat.le_of_ble_eq_true rfl, Nat.le_of_ble_eq_true rfl⟩ dX11_drawn_54 rfl h15 ?_
              exact w_sub [] rfl (b_X11_drawn_57 r13 s14 h)
            · have h := h.tt q
              refine w_iconst (-1 : Int32) dX11_drawn_45 ic_iconst_m1 rfl ?_
              refine w_goto (tgt := 57) dX11_drawn_46 (by decide) ?_
              exact w_sub [] rfl (b_X11_drawn_57 (-1 : Int32) s5 h)
        · have h := h.tt q
          refine w_iload_n 0 dX11_drawn_33 rfl rfl rfl ?_
          exact w_ireturn dX11_drawn_34 h
      · have h := h.ff q
        exact w_sub [] rfl (b_X11_drawn_17 s2 h)
theorem c_X11_drawn {l : Launch} {D : va_G} {cy : Nat → ClassId} {ad : Nat → Nat} {p0 : Int32} {p1 : Int32} {σ σ' : St} {r : Int32} (hf : f_X11_drawn p0 p1 σ = some (r, σ')) : CT l D cy ad yX11_drawn cX11_drawn 4 (some .int) rX11_drawn [.ref (ad 0), .int p0, .int p1] σ (some (.int r)) σ' :=
  ct_of (by decide) (Nat.le_of_ble_eq_true rfl) (fun p e s m args below meth c A => e_X11_drawn (Γ := (p, l, e, rX11_drawn, s, m, args, below, meth, c, D, cy, ad, A, 0, 0, MQ below (QC D cy ad (some (.int r)) σ' A) args s 0 0 A)) p0 p1 σ ⟨_, hf, rfl⟩)
theorem k_X11_drawn {Γ : CX} {cc : ByteArray} {nL : Nat} {own : String} {ret : Option FieldType} {rm : Room} {σ σ' : St} {pc pc' idx : Nat} {lv : List (Nat × Value)} {rest : List Value} {p0 : Int32} {p1 : Int32} {r : Int32} (hl : Cond.methodLink own idx yX11_drawn ∈ TB) (hw : (rest.map fun v => v.category).sum ≤ 8) (hR : rX11_drawn.frames + 1 ≤ rm.frames ∧ 8 + (4 + 11) + rX11_drawn.locals ≤ rm.locals) (hd : decode cc pc = .ok (.invokevirtual idx, 3)) (hp : pc + 3 = pc') (hf : f_X11_drawn p0 p1 σ = some (r, σ')) (h : WW Γ cc nL own ret rm σ' pc' lv (.int r :: rest)) : WW Γ cc nL own ret rm σ pc lv (.int p1 :: .int p0 :: .ref (xd Γ 0) :: rest) :=
  w_callV (nn := 2) (i := 0) (As := [.int p0, .int p1]) (v := (some (.int r))) (T := TX11) (N := 11) (c_X11_drawn hf) hl mw_X11_drawn (by decide +kernel) ⟨rfl, rfl⟩ hR (lt_lit (by decide)) cel_0 rfl rfl hw hd rfl hp h
/-! WarByHours.luck (III)I -/
def rX11_luck : Room := { frames := 6, cells := 0, slots := 0, locals := 135 }
def f_X11_luck_30 (σ : St) : Option (Int32 × St) :=
  some ((-2 : Int32), σ)
theorem b_X11_luck_30 {Γ : CX} (σ : St) (h : RR vI Γ (f_X11_luck_30 σ)) : WW Γ cX11_luck 7 RX11 (some .int) rX11_luck σ 30 [] [] := by
  unfold f_X11_luck_30 at h
  refine w_bipush (-2 : Int32) dX11_luck_30 ic_bipush_m2 rfl ?_
  exact w_ireturn dX11_luck_32 h
def f_X11_luck_80 (K39 : Int32 × Int32 × Int32 × Int32 × Int32 × St → Option (Int32 × St)) (v1 : Int32) (v2 : Int32) (v3 : Int32) (v4 : Int32) (v5 : Int32) (σ : St) : Option (Int32 × St) :=
  bnd (v5 + (1 : Int32)) fun x1 =>
  K39 (v1, v2, v3, v4, x1, σ)
theorem b_X11_luck_80 {Γ : CX} (K39 : Int32 × Int32 × Int32 × Int32 × Int32 × St → Option (Int32 × St)) (hK39 : ∀ (v1 : Int32) (v2 : Int32) (v3 : Int32) (v4 : Int32) (v5 : Int32) (σ : St), RR vI Γ (K39 (v1, v2, v3, v4, v5, σ)) → WW Γ cX11_luck 7 RX11 (some .int) rX11_luck σ 39 [(0, .ref (xd Γ 0)), (1, .int v1), (2, .int v2), (3, .int v3), (4, .int v4), (5, .int v5)] []) (v1 : Int32) (v2 : Int32) (v3 : Int32) (v4 : Int32) (v5 : Int32) (σ : St) (h : RR vI Γ (f_X11_luck_80 K39 v1 v2 v3 v4 v5 σ)) : WW Γ cX11_luck 7 RX11 (some .int) rX11_luck σ 80 [(0, .ref (xd Γ 0)), (1, .int v1), (2, .int v2), (3, .int v3), (4, .int v4), (5, .int v5)] [] := by
  unfold f_X11_luck_80 at h
  obtain ⟨x1, ex1⟩ : ∃ y : Int32, y = (v5 + (1 : Int32)) := ⟨_, rfl⟩
  replace h := h.bnd ex1
  refine w_iinc 5 x1 [(5, .int x1), (0, .ref (xd Γ 0)), (1, .int v1), (2, .int v2), (3, .int v3), (4, .int v4)] dX11_luck_80 rfl (by rw [ex1, ic_iconst_1]) (by decide) rfl rfl ?_
  clear ex1
  refine w_goto (tgt := 39) dX11_luck_83 (by decide) ?_
  exact w_sub [1, 2, 3, 4, 5, 0] rfl (hK39 v1 v2 v3 v4 x1 σ h)
def g_X11_luck_39 (K39 : Int32 × Int32 × Int32 × Int32 × Int32 × St → Option (Int32 × St)) (x : Int32 × Int32 × Int32 × Int32 × Int32 × St) : Option (Int32 × St) := match x with
  | (v1, v2, v3, v4, v5, σ) =>
  if v2 ≤ v5 then
    some (v4, σ)
  else
    bd (f_X1_drawnDelays 1 (v1 + v5) σ) fun r1 s2 =>
    if r1 = (-1 : Int32) then
      f_X11_luck_80 K39 v1 v2 v3 v4 v5 s2
    else
      bd (f_X2_winnerBy r1 s2) fun r4 s5 =>
      if r4 = v3 then
        bnd (v4 + (1 : Int32)) fun x7 =>
        f_X11_luck_80 K39 v1 v2 v3 x7 v5 s5
      else
        f_X11_luck_80 K39 v1 v2 v3 v4 v5 s5
theorem l_X11_luck_39 {Γ : CX} : ∀ (n : Nat) (v1 : Int32) (v2 : Int32) (v3 : Int32) (v4 : Int32) (v5 : Int32) (σ : St), RR vI Γ (itr (g_X11_luck_39) n (v1, v2, v3, v4, v5, σ)) → WW Γ cX11_luck 7 RX11 (some .int) rX11_luck σ 39 [(0, .ref (xd Γ 0)), (1, .int v1), (2, .int v2), (3, .int v3), (4, .int v4), (5, .int v5)] [] := by
  intro n
  induction n with
  | zero => intro v1 v2 v3 v4 v5 σ h; exact RR.no h
  | succ n hK39 =>
  intro v1 v2 v3 v4 v5 σ h
  have h : RR vI Γ (g_X11_luck_39 (itr (g_X11_luck_39) n) (v1, v2, v3, v4, v5, σ)) := h
  generalize itr (g_X11_luck_39) n = K39 at h hK39
  unfold g_X11_luck_39 at h
  dsimp only at h
  refine w_iload 5 dX11_luck_39 rfl rfl ?_
  refine w_iload_n 2 dX11_luck_41 rfl rfl rfl ?_
  refine w_icmp_ge (tgt := 86) dX11_luck_42 (by decide) rfl (fun q => ?_) (fun q => ?_)
  · have h := h.tt q
    refine w_iload 4 dX11_luck_86 rfl rfl ?_
    exact w_ireturn dX11_luck_88 h
  · have h := h.ff q
    refine w_aload_n 0 dX11_luck_45 rfl rfl rfl ?_
    refine gf_RX11_10 dX11_luck_46 rfl ?_
    refine w_iload_n 1 dX11_luck_49 rfl rfl rfl ?_
    refine w_iload 5 dX11_luck_50 rfl rfl ?_
    refine w_iadd dX11_luck_52 rfl ?_
    obtain ⟨r1, s2, h3, h⟩ := h.bd
    refine k_X1_drawnDelays ml_RX11_357 (Nat.le_of_ble_eq_true rfl) ⟨Nat.le_of_ble_eq_true rfl, Nat.le_of_ble_eq_true rfl⟩ dX11_luck_53 rfl h3 ?_
    refine w_istore [(6, .int r1), (0, .ref (xd Γ 0)), (1, .int v1), (2, .int v2), (3, .int v3), (4, .int v4), (5, .int v5)] dX11_luck_56 (by decide) rfl rfl ?_
    refine w_iload 0 dX11_luck_58 rfl rfl ?_
    refine w_iconst (-1 : Int32) dX11_luck_60 ic_iconst_m1 rfl ?_
    refine w_icmp_eq (tgt := 80) dX11_luck_61 (by decide) rfl (fun q => ?_) (fun q => ?_)
    · have h := h.tt q
      exact w_sub [1, 2, 3, 4, 5, 6] rfl (b_X11_luck_80 K39 hK39 v1 v2 v3 v4 v5 s2 h)
    · have h := h.ff q
      refine w_aload_n 1 dX11_luck_64 rfl rfl rfl ?_
      refine gf_RX11_31 dX11_luck_65 rfl ?_
      refine w_iload 0 dX11_luck_68 rfl rfl ?_
      obtain ⟨r4, s5, h6, h⟩ := h.bd
      refine k_X2_winnerBy ml_RX11_171 (Nat.le_of_ble_eq_true rfl) ⟨Nat.le_of_ble_eq_true rfl, Nat.le_of_ble_eq_true rfl⟩ dX11_luck_70 rfl h6 ?_
      refine w_iload_n 4 dX11_luck_73 rfl rfl rfl ?_
      refine w_icmp_ne (tgt := 80) dX11_luck_74 (by decide) rfl (fun q => ?_) (fun q => ?_)
      · have h := h.ff q
        exact w_sub [1, 2, 3, 4, 5, 6] rfl (b_X11_luck_80 K39 hK39 v1 v2 v3 v4 v5 s5 h)
      · have h := h.tt q
        obtain ⟨x7, ex7⟩ : ∃ y : Int32, y = (v4 + (1 : Int32)) := ⟨_, rfl⟩
        replace h := h.bnd ex7
        refine w_iinc 5 x7 [(4, .int x7), (6, .int r1), (0, .ref (xd Γ 0)), (1, .int v1), (2, .int v2), (3, .int v3), (5, .int v5)] dX11_luck_77 rfl (by rw [ex7, ic_iconst_1]) (by decide) rfl rfl ?_
        clear ex7
        exact w_sub [2, 3, 4, 5, 0, 6] rfl (b_X11_luck_80 K39 hK39 v1 v2 v3 x7 v5 s5 h)
def f_X11_luck (p0 : Int32) (p1 : Int32) (p2 : Int32) (σ : St) : Option (Int32 × St) :=
  bd (f_X11_isSeed p0 σ) fun r1 s2 =>
  if r1 = 0 then
    f_X11_luck_30 s2
  else
    if p1 < (1 : Int32) then
      f_X11_luck_30 s2
    else
      if (20 : Int32) < p1 then
        f_X11_luck_30 s2
      else
        bd (f_X10_hasSide 1 p2 s2) fun r4 s5 =>
        if r4 = 0 then
          f_X11_luck_30 s5
        else
          itr (g_X11_luck_39) FU (p0, p1, p2, (0 : Int32), (0 : Int32), s5)
theorem e_X11_luck {Γ : CX} (p0 : Int32) (p1 : Int32) (p2 : Int32) (σ : St) (h : RR vI Γ (f_X11_luck p0 p1 p2 σ)) : WW Γ cX11_luck 7 RX11 (some .int) rX11_luck σ 0 [(0, .ref (xd Γ 0)), (1, .int p0), (2, .int p1), (3, .int p2)] [] := by
  unfold f_X11_luck at h
  refine w_aload_n 0 dX11_luck_0 rfl rfl rfl ?_
  refine w_iload_n 1 dX11_luck_1 rfl rfl rfl ?_
  obtain ⟨r1, s2, h3, h⟩ := h.bd
  refine k_X11_isSeed ml_RX11_354 (Nat.le_of_ble_eq_true rfl) ⟨Nat.le_of_ble_eq_true rfl, Nat.le_of_ble_eq_true rfl⟩ dX11_luck_2 rfl h3 ?_
  refine w_if_eq (tgt := 30) dX11_luck_5 (by decide) rfl (fun q => ?_) (fun q => ?_)
  · have h := h.tt q
    exact w_sub [] rfl (b_X11_luck_30 s2 h)
  · have h := h.ff q
    refine w_iload_n 2 dX11_luck_8 rfl rfl rfl ?_
    refine w_iconst (1 : Int32) dX11_luck_9 ic_iconst_1 rfl ?_
    refine w_icmp_lt (tgt := 30) dX11_luck_10 (by decide) rfl (fun q => ?_) (fun q => ?_)
    · have h := h.tt q
      exact w_sub [] rfl (b_X11_luck_30 s2 h)
    · have h := h.ff q
      refine w_iload_n 2 dX11_luck_13 rfl rfl rfl ?_
      refine w_bipush (20 : Int32) dX11_luck_14 ic_bipush_20 rfl ?_
      refine w_icmp_gt (tgt := 30) dX11_luck_16 (by decide) rfl (fun q => ?_) (fun q => ?_)
      · have h := h.tt q
        exact w_sub [] rfl (b_X11_luck_30 s2 h)
      · have h := h.ff q
        refine w_aload_n 0 dX11_luck_19 rfl rfl rfl ?_
        refine gf_RX11_10 dX11_luck_20 rfl ?_
        refine w_iload_n 3 dX11_luck_23 rfl rfl rfl ?_
        obtain ⟨r4, s5, h6, h⟩ := h.bd
        refine k_X10_hasSide ml_RX11_126 (Nat.le_of_ble_eq_true rfl) ⟨Nat.le_of_ble_eq_true rfl, Nat.le_of_ble_eq_true rfl⟩ dX11_luck_24 rfl h6 ?_
        refine w_if_ne (tgt := 33) dX11_luck_27 (by decide) rfl (fun q => ?_) (fun q => ?_)
        · have h := h.ff q
          refine w_iconst (0 : Int32) dX11_luck_33 ic_iconst_0 rfl ?_
          refine w_istore [(4, .int (0 : Int32)), (0, .ref (xd Γ 0)), (1, .int p0), (2, .int p1), (3, .int p2)] dX11_luck_34 (by decide) rfl rfl ?_
          refine w_iconst (0 : Int32) dX11_luck_36 ic_iconst_0 rfl ?_
          refine w_istore [(5, .int (0 : Int32)), (4, .int (0 : Int32)), (0, .ref (xd Γ 0)), (1, .int p0), (2, .int p1), (3, .int p2)] dX11_luck_37 (by decide) rfl rfl ?_
          exact w_sub [2, 3, 4, 5, 1, 0] rfl (l_X11_luck_39 FU p0 p1 p2 (0 : Int32) (0 : Int32) s5 h)
        · have h := h.tt q
          exact w_sub [] rfl (b_X11_luck_30 s5 h)
theorem c_X11_luck {l : Launch} {D : va_G} {cy : Nat → ClassId} {ad : Nat → Nat} {p0 : Int32} {p1 : Int32} {p2 : Int32} {σ σ' : St} {r : Int32} (hf : f_X11_luck p0 p1 p2 σ = some (r, σ')) : CT l D cy ad yX11_luck cX11_luck 7 (some .int) rX11_luck [.ref (ad 0), .int p0, .int p1, .int p2] σ (some (.int r)) σ' :=
  ct_of (by decide) (Nat.le_of_ble_eq_true rfl) (fun p e s m args below meth c A => e_X11_luck (Γ := (p, l, e, rX11_luck, s, m, args, below, meth, c, D, cy, ad, A, 0, 0, MQ below (QC D cy ad (some (.int r)) σ' A) args s 0 0 A)) p0 p1 p2 σ ⟨_, hf, rfl⟩)
theorem k_X11_luck {Γ : CX} {cc : ByteArray} {nL : Nat} {own : String} {ret : Option FieldType} {rm : Room} {σ σ' : St} {pc pc' idx : Nat} {lv : List (Nat × Value)} {rest : List Value} {p0 : Int32} {p1 : Int32} {p2 : Int32} {r : Int32} (hl : Cond.methodLink own idx yX11_luck ∈ TB) (hw : (rest.map fun v => v.category).sum ≤ 8) (hR : rX11_luck.frames + 1 ≤ rm.frames ∧ 8 + (7 + 11) + rX11_luck.locals ≤ rm.locals) (hd : decode cc pc = .ok (.invokevirtual idx, 3)) (hp : pc + 3 = pc') (hf : f_X11_luck p0 p1 p2 σ = some (r, σ')) (h : WW Γ cc nL own ret rm σ' pc' lv (.int r :: rest)) : WW Γ cc nL own ret rm σ pc lv (.int p2 :: .int p1 :: .int p0 :: .ref (xd Γ 0) :: rest) :=
  w_callV (nn := 3) (i := 0) (As := [.int p0, .int p1, .int p2]) (v := (some (.int r))) (T := TX11) (N := 11) (c_X11_luck hf) hl mw_X11_luck (by decide +kernel) ⟨rfl, rfl⟩ hR (lt_lit (by decide)) cel_0 rfl rfl hw hd rfl hp h
/-! WarByHours.row (III)I -/
def rX11_row : Room := { frames := 2, cells := 0, slots := 0, locals := 44 }
def f_X11_row (p0 : Int32) (p1 : Int32) (p2 : Int32) (σ : St) : Option (Int32 × St) :=
  bd (f_X7_lay p0 p1 p2 σ) fun r1 s2 =>
  some (r1, s2)
theorem e_X11_row {Γ : CX} (p0 : Int32) (p1 : Int32) (p2 : Int32) (σ : St) (h : RR vI Γ (f_X11_row p0 p1 p2 σ)) : WW Γ cX11_row 4 RX11 (some .int) rX11_row σ 0 [(0, .ref (xd Γ 0)), (1, .int p0), (2, .int p1), (3, .int p2)] [] := by
  unfold f_X11_row at h
  refine w_aload_n 0 dX11_row_0 rfl rfl rfl ?_
  refine gf_RX11_75 dX11_row_1 rfl ?_
  refine w_iload_n 1 dX11_row_4 rfl rfl rfl ?_
  refine w_iload_n 2 dX11_row_5 rfl rfl rfl ?_
  refine w_iload_n 3 dX11_row_6 rfl rfl rfl ?_
  obtain ⟨r1, s2, h3, h⟩ := h.bd
  refine k_X7_lay ml_RX11_379 (Nat.le_of_ble_eq_true rfl) ⟨Nat.le_of_ble_eq_true rfl, Nat.le_of_ble_eq_true rfl⟩ dX11_row_7 rfl h3 ?_
  exact w_ireturn dX11_row_10 h
theorem c_X11_row {l : Launch} {D : va_G} {cy : Nat → ClassId} {ad : Nat → Nat} {p0 : Int32} {p1 : Int32} {p2 : Int32} {σ σ' : St} {r : Int32} (hf : f_X11_row p0 p1 p2 σ = some (r, σ')) : CT l D cy ad yX11_row cX11_row 4 (some .int) rX11_row [.ref (ad 0), .int p0, .int p1, .int p2] σ (some (.int r)) σ' :=
  ct_of (by decide) (Nat.le_of_ble_eq_true rfl) (fun p e s m args below meth c A => e_X11_row (Γ := (p, l, e, rX11_row, s, m, args, below, meth, c, D, cy, ad, A, 0, 0, MQ below (QC D cy ad (some (.int r)) σ' A) args s 0 0 A)) p0 p1 p2 σ ⟨_, hf, rfl⟩)
theorem k_X11_row {Γ : CX} {cc : ByteArray} {nL : Nat} {own : String} {ret : Option FieldType} {rm : Room} {σ σ' : St} {pc pc' idx : Nat} {lv : List (Nat × Value)} {rest : List Value} {p0 : Int32} {p1 : Int32} {p2 : Int32} {r : Int32} (hl : Cond.methodLink own idx yX11_row ∈ TB) (hw : (rest.map fun v => v.category).sum ≤ 8) (hR : rX11_row.frames + 1 ≤ rm.frames ∧ 8 + (4 + 11) + rX11_row.locals ≤ rm.locals) (hd : decode cc pc = .ok (.invokevirtual idx, 3)) (hp : pc + 3 = pc') (hf : f_X11_row p0 p1 p2 σ = some (r, σ')) (h : WW Γ cc nL own ret rm σ' pc' lv (.int r :: rest)) : WW Γ cc nL own ret rm σ pc lv (.int p2 :: .int p1 :: .int p0 :: .ref (xd Γ 0) :: rest) :=
  w_callV (nn := 3) (i := 0) (As := [.int p0, .int p1, .int p2]) (v := (some (.int r))) (T := TX11) (N := 11) (c_X11_row hf) hl mw_X11_row (by decide +kernel) ⟨rfl, rfl⟩ hR (lt_lit (by decide)) cel_0 rfl rfl hw hd rfl hp h
/-! WarByHours.write (IIJ)I -/
def rX11_write : Room := { frames := 2, cells := 0, slots := 0, locals := 46 }
def f_X11_write (p0 : Int32) (p1 : Int32) (p2 : Int64) (σ : St) : Option (Int32 × St) :=
  bd (f_X7_put p0 p1 p2 σ) fun r1 s2 =>
  some (r1, s2)
theorem e_X11_write {Γ : CX} (p0 : Int32) (p1 : Int32) (p2 : Int64) (σ : St) (h : RR vI Γ (f_X11_write p0 p1 p2 σ)) : WW Γ cX11_write 5 RX11 (some .int) rX11_write σ 0 [(0, .ref (xd Γ 0)), (1, .int p0), (2, .int p1), (3, .long p2)] [] := by
  unfold f_X11_write at h
  refine w_aload_n 0 dX11_write_0 rfl rfl rfl ?_
  refine gf_RX11_75 dX11_write_1 rfl ?_
  refine w_iload_n 1 dX11_write_4 rfl rfl rfl ?_
  refine w_iload_n 2 dX11_write_5 rfl rfl rfl ?_
  refine w_lload_n 3 dX11_write_6 rfl rfl rfl ?_
  obtain ⟨r1, s2, h3, h⟩ := h.bd
  refine k_X7_put ml_RX11_382 (Nat.le_of_ble_eq_true rfl) ⟨Nat.le_of_ble_eq_true rfl, Nat.le_of_ble_eq_true rfl⟩ dX11_write_7 rfl h3 ?_
  exact w_ireturn dX11_write_10 h
theorem c_X11_write {l : Launch} {D : va_G} {cy : Nat → ClassId} {ad : Nat → Nat} {p0 : Int32} {p1 : Int32} {p2 : Int64} {σ σ' : St} {r : Int32} (hf : f_X11_write p0 p1 p2 σ = some (r, σ')) : CT l D cy ad yX11_write cX11_write 5 (some .int) rX11_write [.ref (ad 0), .int p0, .int p1, .long p2] σ (some (.int r)) σ' :=
  ct_of (by decide) (Nat.le_of_ble_eq_true rfl) (fun p e s m args below meth c A => e_X11_write (Γ := (p, l, e, rX11_write, s, m, args, below, meth, c, D, cy, ad, A, 0, 0, MQ below (QC D cy ad (some (.int r)) σ' A) args s 0 0 A)) p0 p1 p2 σ ⟨_, hf, rfl⟩)
theorem k_X11_write {Γ : CX} {cc : ByteArray} {nL : Nat} {own : String} {ret : Option FieldType} {rm : Room} {σ σ' : St} {pc pc' idx : Nat} {lv : List (Nat × Value)} {rest : List Value} {p0 : Int32} {p1 : Int32} {p2 : Int64} {r : Int32} (hl : Cond.methodLink own idx yX11_write ∈ TB) (hw : (rest.map fun v => v.category).sum ≤ 8) (hR : rX11_write.frames + 1 ≤ rm.frames ∧ 8 + (5 + 11) + rX11_write.locals ≤ rm.locals) (hd : decode cc pc = .ok (.invokevirtual idx, 3)) (hp : pc + 3 = pc') (hf : f_X11_write p0 p1 p2 σ = some (r, σ')) (h : WW Γ cc nL own ret rm σ' pc' lv (.int r :: rest)) : WW Γ cc nL own ret rm σ pc lv (.long p2 :: .int p1 :: .int p0 :: .ref (xd Γ 0) :: rest) :=
  w_callV (nn := 3) (i := 0) (As := [.int p0, .int p1, .long p2]) (v := (some (.int r))) (T := TX11) (N := 11) (c_X11_write hf) hl mw_X11_write (by decide +kernel) ⟨rfl, rfl⟩ hR (lt_lit (by decide)) cel_0 rfl rfl hw hd rfl hp h
/-! WarByHours.paste (IIIII)I -/
def rX11_paste : Room := { frames := 2, cells := 0, slots := 0, locals := 85 }
def f_X11_paste (p0 : Int32) (p1 : Int32) (p2 : Int32) (p3 : Int32) (p4 : Int32) (σ : St) : Option (Int32 × St) :=
  bd (f_X7_copy p0 p1 p2 p3 p4 σ) fun r1 s2 =>
  some (r1, s2)
theorem e_X11_paste {Γ : CX} (p0 : Int32) (p1 : Int32) (p2 : Int32) (p3 : Int32) (p4 : Int32) (σ : St) (h : RR vI Γ (f_X11_paste p0 p1 p2 p3 p4 σ)) : WW Γ cX11_paste 6 RX11 (some .int) rX11_paste σ 0 [(0, .ref (xd Γ 0)), (1, .int p0), (2, .int p1), (3, .int p2), (4, .int p3), (5, .int p4)] [] := by
  unfold f_X11_paste at h
  refine w_aload_n 0 dX11_paste_0 rfl rfl rfl ?_
  refine gf_RX11_75 dX11_paste_1 rfl ?_
  refine w_iload_n 1 dX11_paste_4 rfl rfl rfl ?_
  refine w_iload_n 2 dX11_paste_5 rfl rfl rfl ?_
  refine w_iload_n 3 dX11_paste_6 rfl rfl rfl ?_
  refine w_iload 4 dX11_paste_7 rfl rfl ?_
  refine w_iload 5 dX11_paste_9 rfl rfl ?_
  obtain ⟨r1, s2, h3, h⟩ := h.bd
  refine k_X7_copy ml_RX11_386 (Nat.le_of_ble_eq_true rfl) ⟨Nat.le_of_ble_eq_true rfl, Nat.le_of_ble_eq_true rfl⟩ dX11_paste_11 rfl h3 ?_
  exact w_ireturn dX11_paste_14 h
theorem c_X11_paste {l : Launch} {D : va_G} {cy : Nat → ClassId} {ad : Nat → Nat} {p0 : Int32} {p1 : Int32} {p2 : Int32} {p3 : Int32} {p4 : Int32} {σ σ' : St} {r : Int32} (hf : f_X11_paste p0 p1 p2 p3 p4 σ = some (r, σ')) : CT l D cy ad yX11_paste cX11_paste 6 (some .int) rX11_paste [.ref (ad 0), .int p0, .int p1, .int p2, .int p3, .int p4] σ (some (.int r)) σ' :=
  ct_of (by decide) (Nat.le_of_ble_eq_true rfl) (fun p e s m args below meth c A => e_X11_paste (Γ := (p, l, e, rX11_paste, s, m, args, below, meth, c, D, cy, ad, A, 0, 0, MQ below (QC D cy ad (some (.int r)) σ' A) args s 0 0 A)) p0 p1 p2 p3 p4 σ ⟨_, hf, rfl⟩)
theorem k_X11_paste {Γ : CX} {cc : ByteArray} {nL : Nat} {own : String} {ret : Option FieldType} {rm : Room} {σ σ' : St} {pc pc' idx : Nat} {lv : List (Nat × Value)} {rest : List Value} {p0 : Int32} {p1 : Int32} {p2 : Int32} {p3 : Int32} {p4 : Int32} {r : Int32} (hl : Cond.methodLink own idx yX11_paste ∈ TB) (hw : (rest.map fun v => v.category).sum ≤ 8) (hR : rX11_paste.frames + 1 ≤ rm.frames ∧ 8 + (6 + 11) + rX11_paste.locals ≤ rm.locals) (hd : decode cc pc = .ok (.invokevirtual idx, 3)) (hp : pc + 3 = pc') (hf : f_X11_paste p0 p1 p2 p3 p4 σ = some (r, σ')) (h : WW Γ cc nL own ret rm σ' pc' lv (.int r :: rest)) : WW Γ cc nL own ret rm σ pc lv (.int p4 :: .int p3 :: .int p2 :: .int p1 :: .int p0 :: .ref (xd Γ 0) :: rest) :=
  w_callV (nn := 5) (i := 0) (As := [.int p0, .int p1, .int p2, .int p3, .int p4]) (v := (some (.int r))) (T := TX11) (N := 11) (c_X11_paste hf) hl mw_X11_paste (by decide +kernel) ⟨rfl, rfl⟩ hR (lt_lit (by decide)) cel_0 rfl rfl hw hd rfl hp h
/-! java/lang/String.length ()I -/
def rJ0_length_8abf5 : Room := { frames := 1, cells := 0, slots := 0, locals := 20 }
def f_J0_length_8abf5 (z : Nat) (σ : St) : Option (Int32 × St) :=
  gd (isS σ z) <|
  bd (f_J0_coder_7d493 z σ) fun r1 s2 =>
  some (((nI (sL z)) >>> (r1 &&& 31)), s2)
theorem e_J0_length_8abf5 {Γ : CX} (z : Nat) (σ : St) (h : RR vI Γ (f_J0_length_8abf5 z σ)) : WW Γ cJ0_length_8abf5 1 RJ0 (some .int) rJ0_length_8abf5 σ 0 [(0, .ref (xd Γ (z + 1000)))] [] := by
  unfold f_J0_length_8abf5 at h
  obtain ⟨hg_z_σ, h⟩ := h.gd
  refine w_aload_n 0 dJ0_length_8abf5_0 rfl rfl rfl ?_
  refine w_sval (k := z) hg_z_σ fl_RJ0_9 dJ0_length_8abf5_1 rfl ?_
  refine w_slen (k := z) hg_z_σ dJ0_length_8abf5_4 rfl ?_
  refine w_aload_n 0 dJ0_length_8abf5_5 rfl rfl rfl ?_
  obtain ⟨r1, s2, h3, h⟩ := h.bd
  refine k_J0_coder_7d493 ml_RJ0_335 (Nat.le_of_ble_eq_true rfl) ⟨Nat.le_of_ble_eq_true rfl, Nat.le_of_ble_eq_true rfl⟩ dJ0_length_8abf5_6 rfl h3 ?_
  refine w_ishr dJ0_length_8abf5_9 rfl ?_
  exact w_ireturn dJ0_length_8abf5_10 h
theorem c_J0_length_8abf5 {l : Launch} {D : va_G} {cy : Nat → ClassId} {ad : Nat → Nat} {z : Nat} {σ σ' : St} {r : Int32} (hf : f_J0_length_8abf5 z σ = some (r, σ')) : CT l D cy ad yJ0_length_8abf5 cJ0_length_8abf5 1 (some .int) rJ0_length_8abf5 [.ref (ad (z + 1000))] σ (some (.int r)) σ' :=
  ct_of (by decide) (Nat.le_of_ble_eq_true rfl) (fun p e s m args below meth c A => e_J0_length_8abf5 (Γ := (p, l, e, rJ0_length_8abf5, s, m, args, below, meth, c, D, cy, ad, A, 0, 0, MQ below (QC D cy ad (some (.int r)) σ' A) args s 0 0 A)) z σ ⟨_, hf, rfl⟩)
theorem k_J0_length_8abf5 {Γ : CX} {cc : ByteArray} {nL : Nat} {own : String} {ret : Option FieldType} {rm : Room} {σ σ' : St} {pc pc' idx : Nat} {lv : List (Nat × Value)} {rest : List Value} {z : Nat} {r : Int32} (hl : Cond.methodLink own idx yJ0_length_8abf5 ∈ TB) (hw : (rest.map fun v => v.category).sum ≤ 8) (hR : rJ0_length_8abf5.frames + 1 ≤ rm.frames ∧ 8 + (1 + 11) + rJ0_length_8abf5.locals ≤ rm.locals) (hd : decode cc pc = .ok (.invokevirtual idx, 3)) (hp : pc + 3 = pc') (hf : f_J0_length_8abf5 z σ = some (r, σ')) (h : WW Γ cc nL own ret rm σ' pc' lv (.int r :: rest)) : WW Γ cc nL own ret rm σ pc lv (.ref (xd Γ (z + 1000)) :: rest) := by
  have hT : isS σ z = true := by
    unfold f_J0_length_8abf5 at hf
    exact gd_of hf
  exact w_callT (nn := 0) (k := z) (As := []) (v := (some (.int r))) (c_J0_length_8abf5 hf) hT hl mw_J0_length_8abf5 (by decide +kernel) ⟨rfl, rfl⟩ hR rfl hw hd rfl hp h
/-! java/lang/String.charAt (I)C -/
def rJ0_charAt_5068e : Room := { frames := 3, cells := 0, slots := 0, locals := 64 }
def f_J0_charAt_5068e (z : Nat) (p0 : Int32) (σ : St) : Option (Int32 × St) :=
  gd (isS σ z) <|
  bd (f_J0_isLatin1_aae02 z σ) fun r1 s2 =>
  if r1 = 0 then
    gd (isS s2 z) <|
    none
  else
    gd (isS s2 z) <|
    bd (f_J1_charAt_3b067 z p0 s2) fun r4 s5 =>
    gd (nch r4) <| some (r4, s5)
theorem e_J0_charAt_5068e {Γ : CX} (z : Nat) (p0 : Int32) (σ : St) (h : RR vI Γ (f_J0_charAt_5068e z p0 σ)) : WW Γ cJ0_charAt_5068e 2 RJ0 (some .char) rJ0_charAt_5068e σ 0 [(0, .ref (xd Γ (z + 1000))), (1, .int p0)] [] := by
  unfold f_J0_charAt_5068e at h
  obtain ⟨hg_z_σ, h⟩ := h.gd
  refine w_aload_n 0 dJ0_charAt_5068e_0 rfl rfl rfl ?_
  obtain ⟨r1, s2, h3, h⟩ := h.bd
  refine k_J0_isLatin1_aae02 ml_RJ0_492 (Nat.le_of_ble_eq_true rfl) ⟨Nat.le_of_ble_eq_true rfl, Nat.le_of_ble_eq_true rfl⟩ dJ0_charAt_5068e_1 rfl h3 ?_
  refine w_if_eq (tgt := 16) dJ0_charAt_5068e_4 (by decide) rfl (fun q => ?_) (fun q => ?_)
  · have h := h.tt q
    refine w_aload_n 0 dJ0_charAt_5068e_16 rfl rfl rfl ?_
    obtain ⟨hg_z_s2, h⟩ := h.gd
    refine w_sval (k := z) hg_z_s2 fl_RJ0_9 dJ0_charAt_5068e_17 rfl ?_
    refine w_iload_n 1 dJ0_charAt_5068e_20 rfl rfl rfl ?_
    exact RR.no h
  · have h := h.ff q
    refine w_aload_n 0 dJ0_charAt_5068e_7 rfl rfl rfl ?_
    obtain ⟨hg_z_s2, h⟩ := h.gd
    refine w_sval (k := z) hg_z_s2 fl_RJ0_9 dJ0_charAt_5068e_8 rfl ?_
    refine w_iload_n 1 dJ0_charAt_5068e_11 rfl rfl rfl ?_
    obtain ⟨r4, s5, h6, h⟩ := h.bd
    refine k_J1_charAt_3b067 ml_RJ0_495 (Nat.le_of_ble_eq_true rfl) ⟨Nat.le_of_ble_eq_true rfl, Nat.le_of_ble_eq_true rfl⟩ dJ0_charAt_5068e_12 rfl h6 ?_
    obtain ⟨hb, h⟩ := h.gd
    exact w_creturn dJ0_charAt_5068e_15 hb h
theorem c_J0_charAt_5068e {l : Launch} {D : va_G} {cy : Nat → ClassId} {ad : Nat → Nat} {z : Nat} {p0 : Int32} {σ σ' : St} {r : Int32} (hf : f_J0_charAt_5068e z p0 σ = some (r, σ')) : CT l D cy ad yJ0_charAt_5068e cJ0_charAt_5068e 2 (some .char) rJ0_charAt_5068e [.ref (ad (z + 1000)), .int p0] σ (some (.int r)) σ' :=
  ct_of (by decide) (Nat.le_of_ble_eq_true rfl) (fun p e s m args below meth c A => e_J0_charAt_5068e (Γ := (p, l, e, rJ0_charAt_5068e, s, m, args, below, meth, c, D, cy, ad, A, 0, 0, MQ below (QC D cy ad (some (.int r)) σ' A) args s 0 0 A)) z p0 σ ⟨_, hf, rfl⟩)
theorem k_J0_charAt_5068e {Γ : CX} {cc : ByteArray} {nL : Nat} {own : String} {ret : Option FieldType} {rm : Room} {σ σ' : St} {pc pc' idx : Nat} {lv : List (Nat × Value)} {rest : List Value} {z : Nat} {p0 : Int32} {r : Int32} (hl : Cond.methodLink own idx yJ0_charAt_5068e ∈ TB) (hw : (rest.map fun v => v.category).sum ≤ 8) (hR : rJ0_charAt_5068e.frames + 1 ≤ rm.frames ∧ 8 + (2 + 11) + rJ0_charAt_5068e.locals ≤ rm.locals) (hd : decode cc pc = .ok (.invokevirtual idx, 3)) (hp : pc + 3 = pc') (hf : f_J0_charAt_5068e z p0 σ = some (r, σ')) (h : WW Γ cc nL own ret rm σ' pc' lv (.int r :: rest)) : WW Γ cc nL own ret rm σ pc lv (.int p0 :: .ref (xd Γ (z + 1000)) :: rest) := by
  have hT : isS σ z = true := by
    unfold f_J0_charAt_5068e at hf
    exact gd_of hf
  exact w_callT (nn := 1) (k := z) (As := [.int p0]) (v := (some (.int r))) (c_J0_charAt_5068e hf) hT hl mw_J0_charAt_5068e (by decide +kernel) ⟨rfl, rfl⟩ hR rfl hw hd rfl hp h
/-! WarByHours.Cannon.bestSet (Z)I -/
def rX0_bestSet : Room := { frames := 2, cells := 0, slots := 0, locals := 50 }
def f_X0_bestSet_58 (K11 : Int32 × Int32 × Int32 × Int32 × St → Option (Int32 × St)) (v1 : Int32) (v2 : Int32) (v3 : Int32) (v4 : Int32) (σ : St) : Option (Int32 × St) :=
  bnd (v4 + (1 : Int32)) fun x1 =>
  K11 (v1, v2, v3, x1, σ)
theorem b_X0_bestSet_58 {Γ : CX} (K11 : Int32 × Int32 × Int32 × Int32 × St → Option (Int32 × St)) (hK11 : ∀ (v1 : Int32) (v2 : Int32) (v3 : Int32) (v4 : Int32) (σ : St), RR vI Γ (K11 (v1, v2, v3, v4, σ)) → WW Γ cX0_bestSet 6 RX0 (some .int) rX0_bestSet σ 11 [(0, .ref (xd Γ 50)), (1, .int v1), (2, .int v2), (3, .int v3), (4, .int v4)] []) (v1 : Int32) (v2 : Int32) (v3 : Int32) (v4 : Int32) (σ : St) (h : RR vI Γ (f_X0_bestSet_58 K11 v1 v2 v3 v4 σ)) : WW Γ cX0_bestSet 6 RX0 (some .int) rX0_bestSet σ 58 [(0, .ref (xd Γ 50)), (1, .int v1), (2, .int v2), (3, .int v3), (4, .int v4)] [] := by
  unfold f_X0_bestSet_58 at h
  obtain ⟨x1, ex1⟩ : ∃ y : Int32, y = (v4 + (1 : Int32)) := ⟨_, rfl⟩
  replace h := h.bnd ex1
  refine w_iinc 4 x1 [(4, .int x1), (0, .ref (xd Γ 50)), (1, .int v1), (2, .int v2), (3, .int v3)] dX0_bestSet_58 rfl (by rw [ex1, ic_iconst_1]) (by decide) rfl rfl ?_
  clear ex1
  refine w_goto (tgt := 11) dX0_bestSet_61 (by decide) ?_
  exact w_sub [1, 2, 3, 4, 0] rfl (hK11 v1 v2 v3 x1 σ h)
def g_X0_bestSet_11 (K11 : Int32 × Int32 × Int32 × Int32 × St → Option (Int32 × St)) (x : Int32 × Int32 × Int32 × Int32 × St) : Option (Int32 × St) := match x with
  | (v1, v2, v3, v4, σ) =>
  if ((1 : Int32) <<< ((gf σ 7 3) &&& 31)) ≤ v4 then
    some (v2, σ)
  else
    bd (f_X0_worthOf v4 σ) fun r1 s2 =>
    if r1 ≤ v3 then
      f_X0_bestSet_58 K11 v1 v2 v3 v4 s2
    else
      bd (f_X0_canStand v4 v1 s2) fun r4 s5 =>
      if r4 = 0 then
        f_X0_bestSet_58 K11 v1 v2 v3 v4 s5
      else
        f_X0_bestSet_58 K11 v1 v4 r1 v4 s5
theorem l_X0_bestSet_11 {Γ : CX} : ∀ (n : Nat) (v1 : Int32) (v2 : Int32) (v3 : Int32) (v4 : Int32) (σ : St), RR vI Γ (itr (g_X0_bestSet_11) n (v1, v2, v3, v4, σ)) → WW Γ cX0_bestSet 6 RX0 (some .int) rX0_bestSet σ 11 [(0, .ref (xd Γ 50)), (1, .int v1), (2, .int v2), (3, .int v3), (4, .int v4)] [] := by
  intro n
  induction n with
  | zero => intro v1 v2 v3 v4 σ h; exact RR.no h
  | succ n hK11 =>
  intro v1 v2 v3 v4 σ h
  have h : RR vI Γ (g_X0_bestSet_11 (itr (g_X0_bestSet_11) n) (v1, v2, v3, v4, σ)) := h
  generalize itr (g_X0_bestSet_11) n = K11 at h hK11
  unfold g_X0_bestSet_11 at h
  dsimp only at h
  refine w_iload 4 dX0_bestSet_11 rfl rfl ?_
  refine w_iconst (1 : Int32) dX0_bestSet_13 ic_iconst_1 rfl ?_
  refine w_aload_n 0 dX0_bestSet_14 rfl rfl rfl ?_
  refine gf_RX0_15 dX0_bestSet_15 rfl ?_
  refine gf_RX0_22 (i := 1) (isW_lit (by decide)) dX0_bestSet_18 rfl ?_
  refine gf_RX0_28 (i := 7) (isT_lit (by decide)) dX0_bestSet_21 rfl ?_
  refine w_ishl dX0_bestSet_24 rfl ?_
  refine w_icmp_ge (tgt := 64) dX0_bestSet_25 (by decide) rfl (fun q => ?_) (fun q => ?_)
  · have h := h.tt q
    refine w_iload_n 2 dX0_bestSet_64 rfl rfl rfl ?_
    exact w_ireturn dX0_bestSet_65 h
  · have h := h.ff q
    refine w_aload_n 0 dX0_bestSet_28 rfl rfl rfl ?_
    refine w_iload 4 dX0_bestSet_29 rfl rfl ?_
    obtain ⟨r1, s2, h3, h⟩ := h.bd
    refine k_X0_worthOf ml_RX0_34 (Nat.le_of_ble_eq_true rfl) ⟨Nat.le_of_ble_eq_true rfl, Nat.le_of_ble_eq_true rfl⟩ dX0_bestSet_31 rfl h3 ?_
    refine w_istore [(5, .int r1), (0, .ref (xd Γ 50)), (1, .int v1), (2, .int v2), (3, .int v3), (4, .int v4)] dX0_bestSet_34 (by decide) rfl rfl ?_
    refine w_iload 0 dX0_bestSet_36 rfl rfl ?_
    refine w_iload_n 4 dX0_bestSet_38 rfl rfl rfl ?_
    refine w_icmp_le (tgt := 58) dX0_bestSet_39 (by decide) rfl (fun q => ?_) (fun q => ?_)
    · have h := h.tt q
      exact w_sub [1, 2, 3, 4, 5] rfl (b_X0_bestSet_58 K11 hK11 v1 v2 v3 v4 s2 h)
    · have h := h.ff q
      refine w_aload_n 1 dX0_bestSet_42 rfl rfl rfl ?_
      refine w_iload 5 dX0_bestSet_43 rfl rfl ?_
      refine w_iload_n 2 dX0_bestSet_45 rfl rfl rfl ?_
      obtain ⟨r4, s5, h6, h⟩ := h.bd
      refine k_X0_canStand ml_RX0_38 (Nat.le_of_ble_eq_true rfl) ⟨Nat.le_of_ble_eq_true rfl, Nat.le_of_ble_eq_true rfl⟩ dX0_bestSet_46 rfl h6 ?_
      refine w_if_eq (tgt := 58) dX0_bestSet_49 (by decide) rfl (fun q => ?_) (fun q => ?_)
      · have h := h.tt q
        exact w_sub [1, 2, 3, 4, 5] rfl (b_X0_bestSet_58 K11 hK11 v1 v2 v3 v4 s5 h)
      · have h := h.ff q
        refine w_iload 0 dX0_bestSet_52 rfl rfl ?_
        refine w_istore_n [(3, .int r1), (5, .int r1), (0, .ref (xd Γ 50)), (1, .int v1), (2, .int v2), (4, .int v4)] dX0_bestSet_54 rfl (by decide) rfl rfl ?_
        refine w_iload 5 dX0_bestSet_55 rfl rfl ?_
        refine w_istore_n [(2, .int v4), (3, .int r1), (5, .int r1), (0, .ref (xd Γ 50)), (1, .int v1), (4, .int v4)] dX0_bestSet_57 rfl (by decide) rfl rfl ?_
        exact w_sub [3, 4, 0, 1, 5] rfl (b_X0_bestSet_58 K11 hK11 v1 v4 r1 v4 s5 h)
def f_X0_bestSet (p0 : Int32) (σ : St) : Option (Int32 × St) :=
  bd (f_X0_sortByMinute σ) fun _ s2 =>
  itr (g_X0_bestSet_11) FU (p0, (0 : Int32), (0 : Int32), (1 : Int32), s2)
theorem e_X0_bestSet {Γ : CX} (p0 : Int32) (σ : St) (h : RR vI Γ (f_X0_bestSet p0 σ)) : WW Γ cX0_bestSet 6 RX0 (some .int) rX0_bestSet σ 0 [(0, .ref (xd Γ 50)), (1, .int p0)] [] := by
  unfold f_X0_bestSet at h
  refine w_aload_n 0 dX0_bestSet_0 rfl rfl rfl ?_
  obtain ⟨r1, s2, h3, h⟩ := h.bd
  refine k_X0_sortByMinute ml_RX0_19 (Nat.le_of_ble_eq_true rfl) ⟨Nat.le_of_ble_eq_true rfl, Nat.le_of_ble_eq_true rfl⟩ dX0_bestSet_1 rfl h3 ?_
  refine w_iconst (0 : Int32) dX0_bestSet_4 ic_iconst_0 rfl ?_
  refine w_istore_n [(2, .int (0 : Int32)), (0, .ref (xd Γ 50)), (1, .int p0)] dX0_bestSet_5 rfl (by decide) rfl rfl ?_
  refine w_iconst (0 : Int32) dX0_bestSet_6 ic_iconst_0 rfl ?_
  refine w_istore_n [(3, .int (0 : Int32)), (2, .int (0 : Int32)), (0, .ref (xd Γ 50)), (1, .int p0)] dX0_bestSet_7 rfl (by decide) rfl rfl ?_
  refine w_iconst (1 : Int32) dX0_bestSet_8 ic_iconst_1 rfl ?_
  refine w_istore [(4, .int (1 : Int32)), (3, .int (0 : Int32)), (2, .int (0 : Int32)), (0, .ref (xd Γ 50)), (1, .int p0)] dX0_bestSet_9 (by decide) rfl rfl ?_
  exact w_sub [3, 4, 2, 1, 0] rfl (l_X0_bestSet_11 FU p0 (0 : Int32) (0 : Int32) (1 : Int32) s2 h)
theorem c_X0_bestSet {l : Launch} {D : va_G} {cy : Nat → ClassId} {ad : Nat → Nat} {p0 : Int32} {σ σ' : St} {r : Int32} (hf : f_X0_bestSet p0 σ = some (r, σ')) : CT l D cy ad yX0_bestSet cX0_bestSet 6 (some .int) rX0_bestSet [.ref (ad 50), .int p0] σ (some (.int r)) σ' :=
  ct_of (by decide) (Nat.le_of_ble_eq_true rfl) (fun p e s m args below meth c A => e_X0_bestSet (Γ := (p, l, e, rX0_bestSet, s, m, args, below, meth, c, D, cy, ad, A, 0, 0, MQ below (QC D cy ad (some (.int r)) σ' A) args s 0 0 A)) p0 σ ⟨_, hf, rfl⟩)
theorem k_X0_bestSet {Γ : CX} {cc : ByteArray} {nL : Nat} {own : String} {ret : Option FieldType} {rm : Room} {σ σ' : St} {pc pc' idx : Nat} {lv : List (Nat × Value)} {rest : List Value} {p0 : Int32} {r : Int32} (hl : Cond.methodLink own idx yX0_bestSet ∈ TB) (hw : (rest.map fun v => v.category).sum ≤ 8) (hR : rX0_bestSet.frames + 1 ≤ rm.frames ∧ 8 + (6 + 11) + rX0_bestSet.locals ≤ rm.locals) (hd : decode cc pc = .ok (.invokevirtual idx, 3)) (hp : pc + 3 = pc') (hf : f_X0_bestSet p0 σ = some (r, σ')) (h : WW Γ cc nL own ret rm σ' pc' lv (.int r :: rest)) : WW Γ cc nL own ret rm σ pc lv (.int p0 :: .ref (xd Γ 50) :: rest) :=
  w_callV (nn := 1) (i := 50) (As := [.int p0]) (v := (some (.int r))) (T := TX0) (N := 2) (c_X0_bestSet hf) hl mw_X0_bestSet (by decide +kernel) ⟨rfl, rfl⟩ hR (lt_lit (by decide)) cel_50 rfl rfl hw hd rfl hp h
/-! WarByHours.Course.reckon ()V -/
def rX2_reckon : Room := { frames := 5, cells := 0, slots := 0, locals := 116 }
def f_X2_reckon_71 (K20 : Int32 × Int32 × St → Option (Unit × St)) (v1 : Int32) (v2 : Int32) (σ : St) : Option (Unit × St) :=
  bnd (v2 + (1 : Int32)) fun x1 =>
  K20 (v1, x1, σ)
theorem b_X2_reckon_71 {Γ : CX} (K20 : Int32 × Int32 × St → Option (Unit × St)) (hK20 : ∀ (v1 : Int32) (v2 : Int32) (σ : St), RR vU Γ (K20 (v1, v2, σ)) → WW Γ cX2_reckon 3 RX2 none rX2_reckon σ 20 [(0, .ref (xd Γ 31)), (1, .int v1), (2, .int v2)] []) (v1 : Int32) (v2 : Int32) (σ : St) (h : RR vU Γ (f_X2_reckon_71 K20 v1 v2 σ)) : WW Γ cX2_reckon 3 RX2 none rX2_reckon σ 71 [(0, .ref (xd Γ 31)), (1, .int v1), (2, .int v2)] [] := by
  unfold f_X2_reckon_71 at h
  obtain ⟨x1, ex1⟩ : ∃ y : Int32, y = (v2 + (1 : Int32)) := ⟨_, rfl⟩
  replace h := h.bnd ex1
  refine w_iinc 2 x1 [(2, .int x1), (0, .ref (xd Γ 31)), (1, .int v1)] dX2_reckon_71 rfl (by rw [ex1, ic_iconst_1]) (by decide) rfl rfl ?_
  clear ex1
  refine w_goto (tgt := 20) dX2_reckon_74 (by decide) ?_
  exact w_sub [1, 2, 0] rfl (hK20 v1 x1 σ h)
def f_X2_reckon_57 (K20 : Int32 × Int32 × St → Option (Unit × St)) (v1 : Int32) (v2 : Int32) (σ : St) : Option (Unit × St) :=
  bd (f_X10_isTea 1 v2 σ) fun r1 s2 =>
  if r1 = 0 then
    bnd (v1 + (1 : Int32)) fun x4 =>
    f_X2_reckon_71 K20 x4 v2 s2
  else
    f_X2_reckon_71 K20 v1 v2 s2
theorem b_X2_reckon_57 {Γ : CX} (K20 : Int32 × Int32 × St → Option (Unit × St)) (hK20 : ∀ (v1 : Int32) (v2 : Int32) (σ : St), RR vU Γ (K20 (v1, v2, σ)) → WW Γ cX2_reckon 3 RX2 none rX2_reckon σ 20 [(0, .ref (xd Γ 31)), (1, .int v1), (2, .int v2)] []) (v1 : Int32) (v2 : Int32) (σ : St) (h : RR vU Γ (f_X2_reckon_57 K20 v1 v2 σ)) : WW Γ cX2_reckon 3 RX2 none rX2_reckon σ 57 [(0, .ref (xd Γ 31)), (1, .int v1), (2, .int v2)] [] := by
  unfold f_X2_reckon_57 at h
  refine w_aload_n 0 dX2_reckon_57 rfl rfl rfl ?_
  refine gf_RX2_24 dX2_reckon_58 rfl ?_
  refine w_iload_n 2 dX2_reckon_61 rfl rfl rfl ?_
  obtain ⟨r1, s2, h3, h⟩ := h.bd
  refine k_X10_isTea ml_RX2_38 (Nat.le_of_ble_eq_true rfl) ⟨Nat.le_of_ble_eq_true rfl, Nat.le_of_ble_eq_true rfl⟩ dX2_reckon_62 rfl h3 ?_
  refine w_if_ne (tgt := 71) dX2_reckon_65 (by decide) rfl (fun q => ?_) (fun q => ?_)
  · have h := h.ff q
    exact w_sub [0, 1, 2] rfl (b_X2_reckon_71 K20 hK20 v1 v2 s2 h)
  · have h := h.tt q
    obtain ⟨x4, ex4⟩ : ∃ y : Int32, y = (v1 + (1 : Int32)) := ⟨_, rfl⟩
    replace h := h.bnd ex4
    refine w_iinc 1 x4 [(1, .int x4), (0, .ref (xd Γ 31)), (2, .int v2)] dX2_reckon_68 rfl (by rw [ex4, ic_iconst_1]) (by decide) rfl rfl ?_
    clear ex4
    exact w_sub [1, 0, 2] rfl (b_X2_reckon_71 K20 hK20 x4 v2 s2 h)
def f_X2_reckon_43 (K20 : Int32 × Int32 × St → Option (Unit × St)) (v1 : Int32) (v2 : Int32) (σ : St) : Option (Unit × St) :=
  bd (f_X2_moveEnds v1 σ) fun _ s2 =>
  bd (f_X2_takeMen v2 (1 : Int32) (-1 : Int32) s2) fun _ s5 =>
  f_X2_reckon_57 K20 (0 : Int32) v2 s5
theorem b_X2_reckon_43 {Γ : CX} (K20 : Int32 × Int32 × St → Option (Unit × St)) (hK20 : ∀ (v1 : Int32) (v2 : Int32) (σ : St), RR vU Γ (K20 (v1, v2, σ)) → WW Γ cX2_reckon 3 RX2 none rX2_reckon σ 20 [(0, .ref (xd Γ 31)), (1, .int v1), (2, .int v2)] []) (v1 : Int32) (v2 : Int32) (σ : St) (h : RR vU Γ (f_X2_reckon_43 K20 v1 v2 σ)) : WW Γ cX2_reckon 3 RX2 none rX2_reckon σ 43 [(0, .ref (xd Γ 31)), (1, .int v1), (2, .int v2)] [] := by
  unfold f_X2_reckon_43 at h
  refine w_aload_n 0 dX2_reckon_43 rfl rfl rfl ?_
  refine w_iload_n 1 dX2_reckon_44 rfl rfl rfl ?_
  obtain ⟨r1, s2, h3, h⟩ := h.bd
  refine k_X2_moveEnds ml_RX2_125 (Nat.le_of_ble_eq_true rfl) ⟨Nat.le_of_ble_eq_true rfl, Nat.le_of_ble_eq_true rfl⟩ dX2_reckon_45 rfl h3 ?_
  refine w_iconst (0 : Int32) dX2_reckon_48 ic_iconst_0 rfl ?_
  refine w_istore_n [(1, .int (0 : Int32)), (0, .ref (xd Γ 31)), (2, .int v2)] dX2_reckon_49 rfl (by decide) rfl rfl ?_
  refine w_aload_n 1 dX2_reckon_50 rfl rfl rfl ?_
  refine w_iload_n 2 dX2_reckon_51 rfl rfl rfl ?_
  refine w_iconst (1 : Int32) dX2_reckon_52 ic_iconst_1 rfl ?_
  refine w_iconst (-1 : Int32) dX2_reckon_53 ic_iconst_m1 rfl ?_
  obtain ⟨r4, s5, h6, h⟩ := h.bd
  refine k_X2_takeMen ml_RX2_128 (Nat.le_of_ble_eq_true rfl) ⟨Nat.le_of_ble_eq_true rfl, Nat.le_of_ble_eq_true rfl⟩ dX2_reckon_54 rfl h6 ?_
  exact w_sub [1, 0, 2] rfl (b_X2_reckon_57 K20 hK20 (0 : Int32) v2 s5 h)
def g_X2_reckon_20 (K20 : Int32 × Int32 × St → Option (Unit × St)) (x : Int32 × Int32 × St) : Option (Unit × St) := match x with
  | (v1, v2, σ) =>
  if (gf σ 1 1) ≤ v2 then
    bd (f_X2_moveEnds v1 σ) fun _ s2 =>
    bd (f_X2_findWinners s2) fun _ s5 =>
    gd (bz (1 : Int32)) <|
    bnd (sf s5 31 5 (1 : Int32)) fun s7 =>
    some ((), s7)
  else
    if v2 = 0 then
      f_X2_reckon_43 K20 v1 v2 σ
    else
      bd (f_X2_isArrival v2 σ) fun r9 s10 =>
      if r9 = 0 then
        f_X2_reckon_57 K20 v1 v2 s10
      else
        f_X2_reckon_43 K20 v1 v2 s10
theorem l_X2_reckon_20 {Γ : CX} : ∀ (n : Nat) (v1 : Int32) (v2 : Int32) (σ : St), RR vU Γ (itr (g_X2_reckon_20) n (v1, v2, σ)) → WW Γ cX2_reckon 3 RX2 none rX2_reckon σ 20 [(0, .ref (xd Γ 31)), (1, .int v1), (2, .int v2)] [] := by
  intro n
  induction n with
  | zero => intro v1 v2 σ h; exact RR.no h
  | succ n hK20 =>
  intro v1 v2 σ h
  have h : RR vU Γ (g_X2_reckon_20 (itr (g_X2_reckon_20) n) (v1, v2, σ)) := h
  generalize itr (g_X2_reckon_20) n = K20 at h hK20
  unfold g_X2_reckon_20 at h
  dsimp only at h
  refine w_iload_n 2 dX2_reckon_20 rfl rfl rfl ?_
  refine w_aload_n 0 dX2_reckon_21 rfl rfl rfl ?_
  refine gf_RX2_24 dX2_reckon_22 rfl ?_
  refine gf_RX2_32 (i := 1) (isW_lit (by decide)) dX2_reckon_25 rfl ?_
  refine w_icmp_ge (tgt := 77) dX2_reckon_28 (by decide) rfl (fun q => ?_) (fun q => ?_)
  · have h := h.tt q
    refine w_aload_n 0 dX2_reckon_77 rfl rfl rfl ?_
    refine w_iload_n 1 dX2_reckon_78 rfl rfl rfl ?_
    obtain ⟨r1, s2, h3, h⟩ := h.bd
    refine k_X2_moveEnds ml_RX2_125 (Nat.le_of_ble_eq_true rfl) ⟨Nat.le_of_ble_eq_true rfl, Nat.le_of_ble_eq_true rfl⟩ dX2_reckon_79 rfl h3 ?_
    refine w_aload_n 0 dX2_reckon_82 rfl rfl rfl ?_
    obtain ⟨r4, s5, h6, h⟩ := h.bd
    refine k_X2_findWinners ml_RX2_132 (Nat.le_of_ble_eq_true rfl) ⟨Nat.le_of_ble_eq_true rfl, Nat.le_of_ble_eq_true rfl⟩ dX2_reckon_83 rfl h6 ?_
    refine w_aload_n 0 dX2_reckon_86 rfl rfl rfl ?_
    refine w_iconst (1 : Int32) dX2_reckon_87 ic_iconst_1 rfl ?_
    obtain ⟨hz8, h⟩ := h.gd
    refine pf_RX2_28 dX2_reckon_88 hz8 rfl ?_
    obtain ⟨s7, es7⟩ : ∃ y : St, y = (sf s5 31 5 (1 : Int32)) := ⟨_, rfl⟩
    rw [← es7]
    replace h := h.bnd es7
    clear es7
    exact w_return dX2_reckon_91 h
  · have h := h.ff q
    refine w_iload_n 2 dX2_reckon_31 rfl rfl rfl ?_
    refine w_if_eq (tgt := 43) dX2_reckon_32 (by decide) rfl (fun q => ?_) (fun q => ?_)
    · have h := h.tt q
      exact w_sub [0, 1, 2] rfl (b_X2_reckon_43 K20 hK20 v1 v2 σ h)
    · have h := h.ff q
      refine w_aload_n 0 dX2_reckon_35 rfl rfl rfl ?_
      refine w_iload_n 2 dX2_reckon_36 rfl rfl rfl ?_
      obtain ⟨r9, s10, h11, h⟩ := h.bd
      refine k_X2_isArrival ml_RX2_122 (Nat.le_of_ble_eq_true rfl) ⟨Nat.le_of_ble_eq_true rfl, Nat.le_of_ble_eq_true rfl⟩ dX2_reckon_37 rfl h11 ?_
      refine w_if_eq (tgt := 57) dX2_reckon_40 (by decide) rfl (fun q => ?_) (fun q => ?_)
      · have h := h.tt q
        exact w_sub [0, 1, 2] rfl (b_X2_reckon_57 K20 hK20 v1 v2 s10 h)
      · have h := h.ff q
        exact w_sub [0, 1, 2] rfl (b_X2_reckon_43 K20 hK20 v1 v2 s10 h)
def f_X2_reckon (σ : St) : Option (Unit × St) :=
  if (gf σ 31 5) = 0 then
    bd (f_J7_fill_53178 34 (0 : Int32) σ) fun _ s2 =>
    itr (g_X2_reckon_20) FU ((0 : Int32), (0 : Int32), s2)
  else
    some ((), σ)
theorem e_X2_reckon {Γ : CX} (σ : St) (h : RR vU Γ (f_X2_reckon σ)) : WW Γ cX2_reckon 3 RX2 none rX2_reckon σ 0 [(0, .ref (xd Γ 31))] [] := by
  unfold f_X2_reckon at h
  refine w_aload_n 0 dX2_reckon_0 rfl rfl rfl ?_
  refine gf_RX2_28 dX2_reckon_1 rfl ?_
  refine w_if_eq (tgt := 8) dX2_reckon_4 (by decide) rfl (fun q => ?_) (fun q => ?_)
  · have h := h.tt q
    refine w_aload_n 0 dX2_reckon_8 rfl rfl rfl ?_
    refine gf_RX2_18 dX2_reckon_9 rfl ?_
    refine w_iconst (0 : Int32) dX2_reckon_12 ic_iconst_0 rfl ?_
    obtain ⟨r1, s2, h3, h⟩ := h.bd
    refine k_J7_fill_53178 ml_RX2_116 (Nat.le_of_ble_eq_true rfl) ⟨Nat.le_of_ble_eq_true rfl, Nat.le_of_ble_eq_true rfl⟩ dX2_reckon_13 rfl h3 ?_
    refine w_iconst (0 : Int32) dX2_reckon_16 ic_iconst_0 rfl ?_
    refine w_istore_n [(1, .int (0 : Int32)), (0, .ref (xd Γ 31))] dX2_reckon_17 rfl (by decide) rfl rfl ?_
    refine w_iconst (0 : Int32) dX2_reckon_18 ic_iconst_0 rfl ?_
    refine w_istore_n [(2, .int (0 : Int32)), (1, .int (0 : Int32)), (0, .ref (xd Γ 31))] dX2_reckon_19 rfl (by decide) rfl rfl ?_
    exact w_sub [2, 1, 0] rfl (l_X2_reckon_20 FU (0 : Int32) (0 : Int32) s2 h)
  · have h := h.ff q
    exact w_return dX2_reckon_7 h
theorem c_X2_reckon {l : Launch} {D : va_G} {cy : Nat → ClassId} {ad : Nat → Nat}  {σ σ' : St} {r : Unit} (hf : f_X2_reckon σ = some (r, σ')) : CT l D cy ad yX2_reckon cX2_reckon 3 none rX2_reckon [.ref (ad 31)] σ none σ' :=
  ct_of (by decide) (Nat.le_of_ble_eq_true rfl) (fun p e s m args below meth c A => e_X2_reckon (Γ := (p, l, e, rX2_reckon, s, m, args, below, meth, c, D, cy, ad, A, 0, 0, MQ below (QC D cy ad none σ' A) args s 0 0 A)) σ ⟨_, hf, rfl⟩)
theorem k_X2_reckon {Γ : CX} {cc : ByteArray} {nL : Nat} {own : String} {ret : Option FieldType} {rm : Room} {σ σ' : St} {pc pc' idx : Nat} {lv : List (Nat × Value)} {rest : List Value}  {r : Unit} (hl : Cond.methodLink own idx yX2_reckon ∈ TB) (hw : (rest.map fun v => v.category).sum ≤ 8) (hR : rX2_reckon.frames + 1 ≤ rm.frames ∧ 8 + (3 + 11) + rX2_reckon.locals ≤ rm.locals) (hd : decode cc pc = .ok (.invokevirtual idx, 3)) (hp : pc + 3 = pc') (hf : f_X2_reckon σ = some (r, σ')) (h : WW Γ cc nL own ret rm σ' pc' lv (rest)) : WW Γ cc nL own ret rm σ pc lv (.ref (xd Γ 31) :: rest) :=
  w_callV (nn := 0) (i := 31) (As := []) (v := none) (T := TX2) (N := 6) (c_X2_reckon hf) hl mw_X2_reckon (by decide +kernel) ⟨rfl, rfl⟩ hR (lt_lit (by decide)) cel_31 rfl rfl hw hd rfl hp h
/-! WarByHours.Fares.bribedSet (II)I -/
def rX3_bribedSet : Room := { frames := 4, cells := 0, slots := 0, locals := 92 }
def f_X3_bribedSet_35 (k0 : Int32) (σ : St) : Option (Int32 × St) :=
  bd (f_X3_cheapest k0 σ) fun r1 s2 =>
  some (r1, s2)
theorem b_X3_bribedSet_35 {Γ : CX} (k0 : Int32) (σ : St) (h : RR vI Γ (f_X3_bribedSet_35 k0 σ)) : WW Γ cX3_bribedSet 4 RX3 (some .int) rX3_bribedSet σ 35 [] [.int k0, .ref (xd Γ 36)] := by
  unfold f_X3_bribedSet_35 at h
  obtain ⟨r1, s2, h3, h⟩ := h.bd
  refine k_X3_cheapest ml_RX3_70 (Nat.le_of_ble_eq_true rfl) ⟨Nat.le_of_ble_eq_true rfl, Nat.le_of_ble_eq_true rfl⟩ dX3_bribedSet_35 rfl h3 ?_
  exact w_ireturn dX3_bribedSet_38 h
def f_X3_bribedSet (p0 : Int32) (p1 : Int32) (σ : St) : Option (Int32 × St) :=
  bd (f_X3_takePrices σ) fun _ s2 =>
  bd (f_X3_fitByDelays p0 s2) fun _ s5 =>
  bd (f_X10_trainsOf 1 p0 s5) fun r7 s8 =>
  if p1 = (-1 : Int32) then
    f_X3_bribedSet_35 r7 s8
  else
    f_X3_bribedSet_35 (r7 &&& (((1 : Int32) <<< (p1 &&& 31)) ^^^ (-1 : Int32))) s8
theorem e_X3_bribedSet {Γ : CX} (p0 : Int32) (p1 : Int32) (σ : St) (h : RR vI Γ (f_X3_bribedSet p0 p1 σ)) : WW Γ cX3_bribedSet 4 RX3 (some .int) rX3_bribedSet σ 0 [(0, .ref (xd Γ 36)), (1, .int p0), (2, .int p1)] [] := by
  unfold f_X3_bribedSet at h
  refine w_aload_n 0 dX3_bribedSet_0 rfl rfl rfl ?_
  obtain ⟨r1, s2, h3, h⟩ := h.bd
  refine k_X3_takePrices ml_RX3_67 (Nat.le_of_ble_eq_true rfl) ⟨Nat.le_of_ble_eq_true rfl, Nat.le_of_ble_eq_true rfl⟩ dX3_bribedSet_1 rfl h3 ?_
  refine w_aload_n 0 dX3_bribedSet_4 rfl rfl rfl ?_
  refine w_iload_n 1 dX3_bribedSet_5 rfl rfl rfl ?_
  obtain ⟨r4, s5, h6, h⟩ := h.bd
  refine k_X3_fitByDelays ml_RX3_73 (Nat.le_of_ble_eq_true rfl) ⟨Nat.le_of_ble_eq_true rfl, Nat.le_of_ble_eq_true rfl⟩ dX3_bribedSet_6 rfl h6 ?_
  refine w_aload_n 0 dX3_bribedSet_9 rfl rfl rfl ?_
  refine gf_RX3_32 dX3_bribedSet_10 rfl ?_
  refine w_iload_n 1 dX3_bribedSet_13 rfl rfl rfl ?_
  obtain ⟨r7, s8, h9, h⟩ := h.bd
  refine k_X10_trainsOf ml_RX3_44 (Nat.le_of_ble_eq_true rfl) ⟨Nat.le_of_ble_eq_true rfl, Nat.le_of_ble_eq_true rfl⟩ dX3_bribedSet_14 rfl h9 ?_
  refine w_istore_n [(3, .int r7), (0, .ref (xd Γ 36)), (1, .int p0), (2, .int p1)] dX3_bribedSet_17 rfl (by decide) rfl rfl ?_
  refine w_aload_n 1 dX3_bribedSet_18 rfl rfl rfl ?_
  refine w_iload_n 3 dX3_bribedSet_19 rfl rfl rfl ?_
  refine w_iconst (-1 : Int32) dX3_bribedSet_20 ic_iconst_m1 rfl ?_
  refine w_icmp_ne (tgt := 28) dX3_bribedSet_21 (by decide) rfl (fun q => ?_) (fun q => ?_)
  · have h := h.ff q
    refine w_iload_n 0 dX3_bribedSet_28 rfl rfl rfl ?_
    refine w_iconst (1 : Int32) dX3_bribedSet_29 ic_iconst_1 rfl ?_
    refine w_iload_n 3 dX3_bribedSet_30 rfl rfl rfl ?_
    refine w_ishl dX3_bribedSet_31 rfl ?_
    refine w_iconst (-1 : Int32) dX3_bribedSet_32 ic_iconst_m1 rfl ?_
    refine w_ixor dX3_bribedSet_33 rfl ?_
    refine w_iand dX3_bribedSet_34 rfl ?_
    exact w_sub [] rfl (b_X3_bribedSet_35 (r7 &&& (((1 : Int32) <<< (p1 &&& 31)) ^^^ (-1 : Int32))) s8 h)
  · have h := h.tt q
    refine w_iload_n 0 dX3_bribedSet_24 rfl rfl rfl ?_
    refine w_goto (tgt := 35) dX3_bribedSet_25 (by decide) ?_
    exact w_sub [] rfl (b_X3_bribedSet_35 r7 s8 h)
theorem c_X3_bribedSet {l : Launch} {D : va_G} {cy : Nat → ClassId} {ad : Nat → Nat} {p0 : Int32} {p1 : Int32} {σ σ' : St} {r : Int32} (hf : f_X3_bribedSet p0 p1 σ = some (r, σ')) : CT l D cy ad yX3_bribedSet cX3_bribedSet 4 (some .int) rX3_bribedSet [.ref (ad 36), .int p0, .int p1] σ (some (.int r)) σ' :=
  ct_of (by decide) (Nat.le_of_ble_eq_true rfl) (fun p e s m args below meth c A => e_X3_bribedSet (Γ := (p, l, e, rX3_bribedSet, s, m, args, below, meth, c, D, cy, ad, A, 0, 0, MQ below (QC D cy ad (some (.int r)) σ' A) args s 0 0 A)) p0 p1 σ ⟨_, hf, rfl⟩)
theorem k_X3_bribedSet {Γ : CX} {cc : ByteArray} {nL : Nat} {own : String} {ret : Option FieldType} {rm : Room} {σ σ' : St} {pc pc' idx : Nat} {lv : List (Nat × Value)} {rest : List Value} {p0 : Int32} {p1 : Int32} {r : Int32} (hl : Cond.methodLink own idx yX3_bribedSet ∈ TB) (hw : (rest.map fun v => v.category).sum ≤ 8) (hR : rX3_bribedSet.frames + 1 ≤ rm.frames ∧ 8 + (4 + 11) + rX3_bribedSet.locals ≤ rm.locals) (hd : decode cc pc = .ok (.invokevirtual idx, 3)) (hp : pc + 3 = pc') (hf : f_X3_bribedSet p0 p1 σ = some (r, σ')) (h : WW Γ cc nL own ret rm σ' pc' lv (.int r :: rest)) : WW Γ cc nL own ret rm σ pc lv (.int p1 :: .int p0 :: .ref (xd Γ 36) :: rest) :=
  w_callV (nn := 2) (i := 36) (As := [.int p0, .int p1]) (v := (some (.int r))) (T := TX3) (N := 8) (c_X3_bribedSet hf) hl mw_X3_bribedSet (by decide +kernel) ⟨rfl, rfl⟩ hR (lt_lit (by decide)) cel_36 rfl rfl hw hd rfl hp h
/-! WarByHours.Fares.guardedTrain (I)I -/
def rX3_guardedTrain : Room := { frames := 4, cells := 0, slots := 0, locals := 92 }
def f_X3_guardedTrain_93 (K34 : Int32 × Int32 × Int32 × Int32 × St → Option (Int32 × St)) (v2 : Int32) (v3 : Int32) (v4 : Int32) (v5 : Int32) (σ : St) : Option (Int32 × St) :=
  bnd (v5 + (1 : Int32)) fun x1 =>
  K34 (v2, v3, v4, x1, σ)
theorem b_X3_guardedTrain_93 {Γ : CX} (K34 : Int32 × Int32 × Int32 × Int32 × St → Option (Int32 × St)) (hK34 : ∀ (v2 : Int32) (v3 : Int32) (v4 : Int32) (v5 : Int32) (σ : St), RR vI Γ (K34 (v2, v3, v4, v5, σ)) → WW Γ cX3_guardedTrain 7 RX3 (some .int) rX3_guardedTrain σ 34 [(0, .ref (xd Γ 36)), (2, .int v2), (3, .int v3), (4, .int v4), (5, .int v5)] []) (v2 : Int32) (v3 : Int32) (v4 : Int32) (v5 : Int32) (σ : St) (h : RR vI Γ (f_X3_guardedTrain_93 K34 v2 v3 v4 v5 σ)) : WW Γ cX3_guardedTrain 7 RX3 (some .int) rX3_guardedTrain σ 93 [(0, .ref (xd Γ 36)), (2, .int v2), (3, .int v3), (4, .int v4), (5, .int v5)] [] := by
  unfold f_X3_guardedTrain_93 at h
  obtain ⟨x1, ex1⟩ : ∃ y : Int32, y = (v5 + (1 : Int32)) := ⟨_, rfl⟩
  replace h := h.bnd ex1
  refine w_iinc 4 x1 [(5, .int x1), (0, .ref (xd Γ 36)), (2, .int v2), (3, .int v3), (4, .int v4)] dX3_guardedTrain_93 rfl (by rw [ex1, ic_iconst_1]) (by decide) rfl rfl ?_
  clear ex1
  refine w_goto (tgt := 34) dX3_guardedTrain_96 (by decide) ?_
  exact w_sub [1, 2, 3, 4, 0] rfl (hK34 v2 v3 v4 x1 σ h)
def f_X3_guardedTrain_78 (K34 : Int32 × Int32 × Int32 × Int32 × St → Option (Int32 × St)) (v2 : Int32) (v3 : Int32) (v4 : Int32) (v5 : Int32) (k0 : Int32) (σ : St) : Option (Int32 × St) :=
  if k0 ≤ v3 then
    f_X3_guardedTrain_93 K34 v2 v3 v4 v5 σ
  else
    f_X3_guardedTrain_93 K34 v2 k0 v5 v5 σ
theorem b_X3_guardedTrain_78 {Γ : CX} (K34 : Int32 × Int32 × Int32 × Int32 × St → Option (Int32 × St)) (hK34 : ∀ (v2 : Int32) (v3 : Int32) (v4 : Int32) (v5 : Int32) (σ : St), RR vI Γ (K34 (v2, v3, v4, v5, σ)) → WW Γ cX3_guardedTrain 7 RX3 (some .int) rX3_guardedTrain σ 34 [(0, .ref (xd Γ 36)), (2, .int v2), (3, .int v3), (4, .int v4), (5, .int v5)] []) (v2 : Int32) (v3 : Int32) (v4 : Int32) (v5 : Int32) (k0 : Int32) (σ : St) (h : RR vI Γ (f_X3_guardedTrain_78 K34 v2 v3 v4 v5 k0 σ)) : WW Γ cX3_guardedTrain 7 RX3 (some .int) rX3_guardedTrain σ 78 [(0, .ref (xd Γ 36)), (2, .int v2), (3, .int v3), (4, .int v4), (5, .int v5)] [.int k0] := by
  unfold f_X3_guardedTrain_78 at h
  refine w_istore [(6, .int k0), (0, .ref (xd Γ 36)), (2, .int v2), (3, .int v3), (4, .int v4), (5, .int v5)] dX3_guardedTrain_78 (by decide) rfl rfl ?_
  refine w_iload 0 dX3_guardedTrain_80 rfl rfl ?_
  refine w_iload_n 3 dX3_guardedTrain_82 rfl rfl rfl ?_
  refine w_icmp_le (tgt := 93) dX3_guardedTrain_83 (by decide) rfl (fun q => ?_) (fun q => ?_)
  · have h := h.tt q
    exact w_sub [1, 2, 3, 4, 5] rfl (b_X3_guardedTrain_93 K34 hK34 v2 v3 v4 v5 σ h)
  · have h := h.ff q
    refine w_iload 0 dX3_guardedTrain_86 rfl rfl ?_
    refine w_istore_n [(3, .int k0), (6, .int k0), (0, .ref (xd Γ 36)), (2, .int v2), (4, .int v4), (5, .int v5)] dX3_guardedTrain_88 rfl (by decide) rfl rfl ?_
    refine w_iload 5 dX3_guardedTrain_89 rfl rfl ?_
    refine w_istore [(4, .int v5), (3, .int k0), (6, .int k0), (0, .ref (xd Γ 36)), (2, .int v2), (5, .int v5)] dX3_guardedTrain_91 (by decide) rfl rfl ?_
    exact w_sub [3, 4, 1, 0, 5] rfl (b_X3_guardedTrain_93 K34 hK34 v2 k0 v5 v5 σ h)
def g_X3_guardedTrain_34 (K34 : Int32 × Int32 × Int32 × Int32 × St → Option (Int32 × St)) (x : Int32 × Int32 × Int32 × Int32 × St) : Option (Int32 × St) := match x with
  | (v2, v3, v4, v5, σ) =>
  if (gf σ 3 3) ≤ v5 then
    some (v4, σ)
  else
    bd (f_X10_isIn v2 v5 σ) fun r1 s2 =>
    if r1 = 0 then
      f_X3_guardedTrain_78 K34 v2 v3 v4 v5 (0 : Int32) s2
    else
      bd (f_X3_cheapest (v2 &&& (((1 : Int32) <<< (v5 &&& 31)) ^^^ (-1 : Int32))) s2) fun r4 s5 =>
      bd (f_X3_orPriceless r4 s5) fun r7 s8 =>
      f_X3_guardedTrain_78 K34 v2 v3 v4 v5 r7 s8
theorem l_X3_guardedTrain_34 {Γ : CX} : ∀ (n : Nat) (v2 : Int32) (v3 : Int32) (v4 : Int32) (v5 : Int32) (σ : St), RR vI Γ (itr (g_X3_guardedTrain_34) n (v2, v3, v4, v5, σ)) → WW Γ cX3_guardedTrain 7 RX3 (some .int) rX3_guardedTrain σ 34 [(0, .ref (xd Γ 36)), (2, .int v2), (3, .int v3), (4, .int v4), (5, .int v5)] [] := by
  intro n
  induction n with
  | zero => intro v2 v3 v4 v5 σ h; exact RR.no h
  | succ n hK34 =>
  intro v2 v3 v4 v5 σ h
  have h : RR vI Γ (g_X3_guardedTrain_34 (itr (g_X3_guardedTrain_34) n) (v2, v3, v4, v5, σ)) := h
  generalize itr (g_X3_guardedTrain_34) n = K34 at h hK34
  unfold g_X3_guardedTrain_34 at h
  dsimp only at h
  refine w_iload 4 dX3_guardedTrain_34 rfl rfl ?_
  refine w_aload_n 0 dX3_guardedTrain_36 rfl rfl rfl ?_
  refine gf_RX3_32 dX3_guardedTrain_37 rfl ?_
  refine gf_RX3_79 (i := 1) (isW_lit (by decide)) dX3_guardedTrain_40 rfl ?_
  refine gf_RX3_83 (i := 3) (isT_lit (by decide)) dX3_guardedTrain_43 rfl ?_
  refine w_icmp_ge (tgt := 99) dX3_guardedTrain_46 (by decide) rfl (fun q => ?_) (fun q => ?_)
  · have h := h.tt q
    refine w_iload 3 dX3_guardedTrain_99 rfl rfl ?_
    exact w_ireturn dX3_guardedTrain_101 h
  · have h := h.ff q
    refine w_iload_n 1 dX3_guardedTrain_49 rfl rfl rfl ?_
    refine w_iload 4 dX3_guardedTrain_50 rfl rfl ?_
    obtain ⟨r1, s2, h3, h⟩ := h.bd
    refine k_X10_isIn ml_RX3_89 (Nat.le_of_ble_eq_true rfl) ⟨Nat.le_of_ble_eq_true rfl, Nat.le_of_ble_eq_true rfl⟩ dX3_guardedTrain_52 rfl h3 ?_
    refine w_if_eq (tgt := 77) dX3_guardedTrain_55 (by decide) rfl (fun q => ?_) (fun q => ?_)
    · have h := h.tt q
      refine w_iconst (0 : Int32) dX3_guardedTrain_77 ic_iconst_0 rfl ?_
      exact w_sub [0, 1, 2, 3, 4] rfl (b_X3_guardedTrain_78 K34 hK34 v2 v3 v4 v5 (0 : Int32) s2 h)
    · have h := h.ff q
      refine w_aload_n 0 dX3_guardedTrain_58 rfl rfl rfl ?_
      refine w_aload_n 0 dX3_guardedTrain_59 rfl rfl rfl ?_
      refine w_iload_n 1 dX3_guardedTrain_60 rfl rfl rfl ?_
      refine w_iconst (1 : Int32) dX3_guardedTrain_61 ic_iconst_1 rfl ?_
      refine w_iload 4 dX3_guardedTrain_62 rfl rfl ?_
      refine w_ishl dX3_guardedTrain_64 rfl ?_
      refine w_iconst (-1 : Int32) dX3_guardedTrain_65 ic_iconst_m1 rfl ?_
      refine w_ixor dX3_guardedTrain_66 rfl ?_
      refine w_iand dX3_guardedTrain_67 rfl ?_
      obtain ⟨r4, s5, h6, h⟩ := h.bd
      refine k_X3_cheapest ml_RX3_70 (Nat.le_of_ble_eq_true rfl) ⟨Nat.le_of_ble_eq_true rfl, Nat.le_of_ble_eq_true rfl⟩ dX3_guardedTrain_68 rfl h6 ?_
      obtain ⟨r7, s8, h9, h⟩ := h.bd
      refine k_X3_orPriceless ml_RX3_76 (Nat.le_of_ble_eq_true rfl) ⟨Nat.le_of_ble_eq_true rfl, Nat.le_of_ble_eq_true rfl⟩ dX3_guardedTrain_71 rfl h9 ?_
      refine w_goto (tgt := 78) dX3_guardedTrain_74 (by decide) ?_
      exact w_sub [0, 1, 2, 3, 4] rfl (b_X3_guardedTrain_78 K34 hK34 v2 v3 v4 v5 r7 s8 h)
def f_X3_guardedTrain (p0 : Int32) (σ : St) : Option (Int32 × St) :=
  bd (f_X3_takePrices σ) fun _ s2 =>
  bd (f_X3_fitByDelays p0 s2) fun _ s5 =>
  bd (f_X10_trainsOf 1 p0 s5) fun r7 s8 =>
  bd (f_X3_cheapest r7 s8) fun r10 s11 =>
  bd (f_X3_orPriceless r10 s11) fun r13 s14 =>
  itr (g_X3_guardedTrain_34) FU (r7, r13, (-1 : Int32), (0 : Int32), s14)
theorem e_X3_guardedTrain {Γ : CX} (p0 : Int32) (σ : St) (h : RR vI Γ (f_X3_guardedTrain p0 σ)) : WW Γ cX3_guardedTrain 7 RX3 (some .int) rX3_guardedTrain σ 0 [(0, .ref (xd Γ 36)), (1, .int p0)] [] := by
  unfold f_X3_guardedTrain at h
  refine w_aload_n 0 dX3_guardedTrain_0 rfl rfl rfl ?_
  obtain ⟨r1, s2, h3, h⟩ := h.bd
  refine k_X3_takePrices ml_RX3_67 (Nat.le_of_ble_eq_true rfl) ⟨Nat.le_of_ble_eq_true rfl, Nat.le_of_ble_eq_true rfl⟩ dX3_guardedTrain_1 rfl h3 ?_
  refine w_aload_n 0 dX3_guardedTrain_4 rfl rfl rfl ?_
  refine w_iload_n 1 dX3_guardedTrain_5 rfl rfl rfl ?_
  obtain ⟨r4, s5, h6, h⟩ := h.bd
  refine k_X3_fitByDelays ml_RX3_73 (Nat.le_of_ble_eq_true rfl) ⟨Nat.le_of_ble_eq_true rfl, Nat.le_of_ble_eq_true rfl⟩ dX3_guardedTrain_6 rfl h6 ?_
  refine w_aload_n 0 dX3_guardedTrain_9 rfl rfl rfl ?_
  refine gf_RX3_32 dX3_guardedTrain_10 rfl ?_
  refine w_iload_n 1 dX3_guardedTrain_13 rfl rfl rfl ?_
  obtain ⟨r7, s8, h9, h⟩ := h.bd
  refine k_X10_trainsOf ml_RX3_44 (Nat.le_of_ble_eq_true rfl) ⟨Nat.le_of_ble_eq_true rfl, Nat.le_of_ble_eq_true rfl⟩ dX3_guardedTrain_14 rfl h9 ?_
  refine w_istore_n [(2, .int r7), (0, .ref (xd Γ 36)), (1, .int p0)] dX3_guardedTrain_17 rfl (by decide) rfl rfl ?_
  refine w_aload_n 1 dX3_guardedTrain_18 rfl rfl rfl ?_
  refine w_aload_n 1 dX3_guardedTrain_19 rfl rfl rfl ?_
  refine w_iload_n 0 dX3_guardedTrain_20 rfl rfl rfl ?_
  obtain ⟨r10, s11, h12, h⟩ := h.bd
  refine k_X3_cheapest ml_RX3_70 (Nat.le_of_ble_eq_true rfl) ⟨Nat.le_of_ble_eq_true rfl, Nat.le_of_ble_eq_true rfl⟩ dX3_guardedTrain_21 rfl h12 ?_
  obtain ⟨r13, s14, h15, h⟩ := h.bd
  refine k_X3_orPriceless ml_RX3_76 (Nat.le_of_ble_eq_true rfl) ⟨Nat.le_of_ble_eq_true rfl, Nat.le_of_ble_eq_true rfl⟩ dX3_guardedTrain_24 rfl h15 ?_
  refine w_istore_n [(3, .int r13), (2, .int r7), (0, .ref (xd Γ 36)), (1, .int p0)] dX3_guardedTrain_27 rfl (by decide) rfl rfl ?_
  refine w_iconst (-1 : Int32) dX3_guardedTrain_28 ic_iconst_m1 rfl ?_
  refine w_istore [(4, .int (-1 : Int32)), (3, .int r13), (2, .int r7), (0, .ref (xd Γ 36)), (1, .int p0)] dX3_guardedTrain_29 (by decide) rfl rfl ?_
  refine w_iconst (0 : Int32) dX3_guardedTrain_31 ic_iconst_0 rfl ?_
  refine w_istore [(5, .int (0 : Int32)), (4, .int (-1 : Int32)), (3, .int r13), (2, .int r7), (0, .ref (xd Γ 36)), (1, .int p0)] dX3_guardedTrain_32 (by decide) rfl rfl ?_
  exact w_sub [4, 3, 2, 1, 0] rfl (l_X3_guardedTrain_34 FU r7 r13 (-1 : Int32) (0 : Int32) s14 h)
theorem c_X3_guardedTrain {l : Launch} {D : va_G} {cy : Nat → ClassId} {ad : Nat → Nat} {p0 : Int32} {σ σ' : St} {r : Int32} (hf : f_X3_guardedTrain p0 σ = some (r, σ')) : CT l D cy ad yX3_guardedTrain cX3_guardedTrain 7 (some .int) rX3_guardedTrain [.ref (ad 36), .int p0] σ (some (.int r)) σ' :=
  ct_of (by decide) (Nat.le_of_ble_eq_true rfl) (fun p e s m args below meth c A => e_X3_guardedTrain (Γ := (p, l, e, rX3_guardedTrain, s, m, args, below, meth, c, D, cy, ad, A, 0, 0, MQ below (QC D cy ad (some (.int r)) σ' A) args s 0 0 A)) p0 σ ⟨_, hf, rfl⟩)
theorem k_X3_guardedTrain {Γ : CX} {cc : ByteArray} {nL : Nat} {own : String} {ret : Option FieldType} {rm : Room} {σ σ' : St} {pc pc' idx : Nat} {lv : List (Nat × Value)} {rest : List Value} {p0 : Int32} {r : Int32} (hl : Cond.methodLink own idx yX3_guardedTrain ∈ TB) (hw : (rest.map fun v => v.category).sum ≤ 8) (hR : rX3_guardedTrain.frames + 1 ≤ rm.frames ∧ 8 + (7 + 11) + rX3_guardedTrain.locals ≤ rm.locals) (hd : decode cc pc = .ok (.invokevirtual idx, 3)) (hp : pc + 3 = pc') (hf : f_X3_guardedTrain p0 σ = some (r, σ')) (h : WW Γ cc nL own ret rm σ' pc' lv (.int r :: rest)) : WW Γ cc nL own ret rm σ pc lv (.int p0 :: .ref (xd Γ 36) :: rest) :=
  w_callV (nn := 1) (i := 36) (As := [.int p0]) (v := (some (.int r))) (T := TX3) (N := 8) (c_X3_guardedTrain hf) hl mw_X3_guardedTrain (by decide +kernel) ⟨rfl, rfl⟩ hR (lt_lit (by decide)) cel_36 rfl rfl hw hd rfl hp h
/-! WarByHours.Fares.spoiledSet (II)I -/
def rX3_spoiledSet : Room := { frames := 6, cells := 0, slots := 0, locals := 138 }
def f_X3_spoiledSet_85 (K26 : Int32 × Int32 × Int32 × Int32 × Int32 × St → Option (Int32 × St)) (v1 : Int32) (v2 : Int32) (v3 : Int32) (v4 : Int32) (v5 : Int32) (σ : St) : Option (Int32 × St) :=
  bnd (v5 + (1 : Int32)) fun x1 =>
  K26 (v1, v2, v3, v4, x1, σ)
theorem b_X3_spoiledSet_85 {Γ : CX} (K26 : Int32 × Int32 × Int32 × Int32 × Int32 × St → Option (Int32 × St)) (hK26 : ∀ (v1 : Int32) (v2 : Int32) (v3 : Int32) (v4 : Int32) (v5 : Int32) (σ : St), RR vI Γ (K26 (v1, v2, v3, v4, v5, σ)) → WW Γ cX3_spoiledSet 6 RX3 (some .int) rX3_spoiledSet σ 26 [(0, .ref (xd Γ 36)), (1, .int v1), (2, .int v2), (3, .int v3), (4, .int v4), (5, .int v5)] []) (v1 : Int32) (v2 : Int32) (v3 : Int32) (v4 : Int32) (v5 : Int32) (σ : St) (h : RR vI Γ (f_X3_spoiledSet_85 K26 v1 v2 v3 v4 v5 σ)) : WW Γ cX3_spoiledSet 6 RX3 (some .int) rX3_spoiledSet σ 85 [(0, .ref (xd Γ 36)), (1, .int v1), (2, .int v2), (3, .int v3), (4, .int v4), (5, .int v5)] [] := by
  unfold f_X3_spoiledSet_85 at h
  obtain ⟨x1, ex1⟩ : ∃ y : Int32, y = (v5 + (1 : Int32)) := ⟨_, rfl⟩
  replace h := h.bnd ex1
  refine w_iinc 5 x1 [(5, .int x1), (0, .ref (xd Γ 36)), (1, .int v1), (2, .int v2), (3, .int v3), (4, .int v4)] dX3_spoiledSet_85 rfl (by rw [ex1, ic_iconst_1]) (by decide) rfl rfl ?_
  clear ex1
  refine w_goto (tgt := 26) dX3_spoiledSet_88 (by decide) ?_
  exact w_sub [1, 2, 3, 4, 5, 0] rfl (hK26 v1 v2 v3 v4 x1 σ h)
def g_X3_spoiledSet_26 (K26 : Int32 × Int32 × Int32 × Int32 × Int32 × St → Option (Int32 × St)) (x : Int32 × Int32 × Int32 × Int32 × Int32 × St) : Option (Int32 × St) := match x with
  | (v1, v2, v3, v4, v5, σ) =>
  bd (f_X10_sets 1 σ) fun r1 s2 =>
  if r1 ≤ v5 then
    some (v4, s2)
  else
    if (v5 &&& (v3 ^^^ (-1 : Int32))) = 0 then
      gd (inb v5 (ln 37)) <|
      if v2 < (gr s2 37 v5.toNatClampNeg) then
        f_X3_spoiledSet_85 K26 v1 v2 v3 v4 v5 s2
      else
        bd (f_X2_goodAtEnd v1 v5 s2) fun r5 s6 =>
        bd (f_X2_goodAtEnd v1 v4 s6) fun r8 s9 =>
        if r8 ≤ r5 then
          f_X3_spoiledSet_85 K26 v1 v2 v3 v4 v5 s9
        else
          f_X3_spoiledSet_85 K26 v1 v2 v3 v5 v5 s9
    else
      f_X3_spoiledSet_85 K26 v1 v2 v3 v4 v5 s2
theorem l_X3_spoiledSet_26 {Γ : CX} : ∀ (n : Nat) (v1 : Int32) (v2 : Int32) (v3 : Int32) (v4 : Int32) (v5 : Int32) (σ : St), RR vI Γ (itr (g_X3_spoiledSet_26) n (v1, v2, v3, v4, v5, σ)) → WW Γ cX3_spoiledSet 6 RX3 (some .int) rX3_spoiledSet σ 26 [(0, .ref (xd Γ 36)), (1, .int v1), (2, .int v2), (3, .int v3), (4, .int v4), (5, .int v5)] [] := by
  intro n
  induction n with
  | zero => intro v1 v2 v3 v4 v5 σ h; exact RR.no h
  | succ n hK26 =>
  intro v1 v2 v3 v4 v5 σ h
  have h : RR vI Γ (g_X3_spoiledSet_26 (itr (g_X3_spoiledSet_26) n) (v1, v2, v3, v4, v5, σ)) := h
  generalize itr (g_X3_spoiledSet_26) n = K26 at h hK26
  unfold g_X3_spoiledSet_26 at h
  dsimp only at h
  refine w_iload 5 dX3_spoiledSet_26 rfl rfl ?_
  refine w_aload_n 0 dX3_spoiledSet_28 rfl rfl rfl ?_
  refine gf_RX3_32 dX3_spoiledSet_29 rfl ?_
  obtain ⟨r1, s2, h3, h⟩ := h.bd
  refine k_X10_sets ml_RX3_58 (Nat.le_of_ble_eq_true rfl) ⟨Nat.le_of_ble_eq_true rfl, Nat.le_of_ble_eq_true rfl⟩ dX3_spoiledSet_32 rfl h3 ?_
  refine w_icmp_ge (tgt := 91) dX3_spoiledSet_35 (by decide) rfl (fun q => ?_) (fun q => ?_)
  · have h := h.tt q
    refine w_iload 4 dX3_spoiledSet_91 rfl rfl ?_
    exact w_ireturn dX3_spoiledSet_93 h
  · have h := h.ff q
    refine w_iload 5 dX3_spoiledSet_38 rfl rfl ?_
    refine w_iload_n 3 dX3_spoiledSet_40 rfl rfl rfl ?_
    refine w_iconst (-1 : Int32) dX3_spoiledSet_41 ic_iconst_m1 rfl ?_
    refine w_ixor dX3_spoiledSet_42 rfl ?_
    refine w_iand dX3_spoiledSet_43 rfl ?_
    refine w_if_ne (tgt := 85) dX3_spoiledSet_44 (by decide) rfl (fun q => ?_) (fun q => ?_)
    · have h := h.ff q
      exact w_sub [0, 1, 2, 3, 4, 5] rfl (b_X3_spoiledSet_85 K26 hK26 v1 v2 v3 v4 v5 s2 h)
    · have h := h.tt q
      refine w_aload_n 0 dX3_spoiledSet_47 rfl rfl rfl ?_
      refine gf_RX3_9 dX3_spoiledSet_48 rfl ?_
      refine w_iload 5 dX3_spoiledSet_51 rfl rfl ?_
      obtain ⟨hi4, h⟩ := h.gd
      refine w_iald (i := 37) (lt_lit (by decide)) rfl hi4 dX3_spoiledSet_53 rfl ?_
      refine w_iload_n 2 dX3_spoiledSet_54 rfl rfl rfl ?_
      refine w_icmp_gt (tgt := 85) dX3_spoiledSet_55 (by decide) rfl (fun q => ?_) (fun q => ?_)
      · have h := h.tt q
        exact w_sub [0, 1, 2, 3, 4, 5] rfl (b_X3_spoiledSet_85 K26 hK26 v1 v2 v3 v4 v5 s2 h)
      · have h := h.ff q
        refine w_aload_n 0 dX3_spoiledSet_58 rfl rfl rfl ?_
        refine gf_RX3_36 dX3_spoiledSet_59 rfl ?_
        refine w_iload_n 1 dX3_spoiledSet_62 rfl rfl rfl ?_
        refine w_iload 5 dX3_spoiledSet_63 rfl rfl ?_
        obtain ⟨r5, s6, h7, h⟩ := h.bd
        refine k_X2_goodAtEnd ml_RX3_98 (Nat.le_of_ble_eq_true rfl) ⟨Nat.le_of_ble_eq_true rfl, Nat.le_of_ble_eq_true rfl⟩ dX3_spoiledSet_65 rfl h7 ?_
        refine w_aload_n 0 dX3_spoiledSet_68 rfl rfl rfl ?_
        refine gf_RX3_36 dX3_spoiledSet_69 rfl ?_
        refine w_iload_n 1 dX3_spoiledSet_72 rfl rfl rfl ?_
        refine w_iload 4 dX3_spoiledSet_73 rfl rfl ?_
        obtain ⟨r8, s9, h10, h⟩ := h.bd
        refine k_X2_goodAtEnd ml_RX3_98 (Nat.le_of_ble_eq_true rfl) ⟨Nat.le_of_ble_eq_true rfl, Nat.le_of_ble_eq_true rfl⟩ dX3_spoiledSet_75 rfl h10 ?_
        refine w_icmp_ge (tgt := 85) dX3_spoiledSet_78 (by decide) rfl (fun q => ?_) (fun q => ?_)
        · have h := h.tt q
          exact w_sub [0, 1, 2, 3, 4, 5] rfl (b_X3_spoiledSet_85 K26 hK26 v1 v2 v3 v4 v5 s9 h)
        · have h := h.ff q
          refine w_iload 5 dX3_spoiledSet_81 rfl rfl ?_
          refine w_istore [(4, .int v5), (0, .ref (xd Γ 36)), (1, .int v1), (2, .int v2), (3, .int v3), (5, .int v5)] dX3_spoiledSet_83 (by decide) rfl rfl ?_
          exact w_sub [1, 2, 3, 4, 0, 5] rfl (b_X3_spoiledSet_85 K26 hK26 v1 v2 v3 v5 v5 s9 h)
def f_X3_spoiledSet (p0 : Int32) (p1 : Int32) (σ : St) : Option (Int32 × St) :=
  bd (f_X2_reckon σ) fun _ s2 =>
  bd (f_X3_takePrices s2) fun _ s5 =>
  bd (f_X10_trainsOf 1 p0 s5) fun r7 s8 =>
  itr (g_X3_spoiledSet_26) FU (p0, p1, r7, (0 : Int32), (1 : Int32), s8)
theorem e_X3_spoiledSet {Γ : CX} (p0 : Int32) (p1 : Int32) (σ : St) (h : RR vI Γ (f_X3_spoiledSet p0 p1 σ)) : WW Γ cX3_spoiledSet 6 RX3 (some .int) rX3_spoiledSet σ 0 [(0, .ref (xd Γ 36)), (1, .int p0), (2, .int p1)] [] := by
  unfold f_X3_spoiledSet at h
  refine w_aload_n 0 dX3_spoiledSet_0 rfl rfl rfl ?_
  refine gf_RX3_36 dX3_spoiledSet_1 rfl ?_
  obtain ⟨r1, s2, h3, h⟩ := h.bd
  refine k_X2_reckon ml_RX3_93 (Nat.le_of_ble_eq_true rfl) ⟨Nat.le_of_ble_eq_true rfl, Nat.le_of_ble_eq_true rfl⟩ dX3_spoiledSet_4 rfl h3 ?_
  refine w_aload_n 0 dX3_spoiledSet_7 rfl rfl rfl ?_
  obtain ⟨r4, s5, h6, h⟩ := h.bd
  refine k_X3_takePrices ml_RX3_67 (Nat.le_of_ble_eq_true rfl) ⟨Nat.le_of_ble_eq_true rfl, Nat.le_of_ble_eq_true rfl⟩ dX3_spoiledSet_8 rfl h6 ?_
  refine w_aload_n 0 dX3_spoiledSet_11 rfl rfl rfl ?_
  refine gf_RX3_32 dX3_spoiledSet_12 rfl ?_
  refine w_iload_n 1 dX3_spoiledSet_15 rfl rfl rfl ?_
  obtain ⟨r7, s8, h9, h⟩ := h.bd
  refine k_X10_trainsOf ml_RX3_44 (Nat.le_of_ble_eq_true rfl) ⟨Nat.le_of_ble_eq_true rfl, Nat.le_of_ble_eq_true rfl⟩ dX3_spoiledSet_16 rfl h9 ?_
  refine w_istore_n [(3, .int r7), (0, .ref (xd Γ 36)), (1, .int p0), (2, .int p1)] dX3_spoiledSet_19 rfl (by decide) rfl rfl ?_
  refine w_iconst (0 : Int32) dX3_spoiledSet_20 ic_iconst_0 rfl ?_
  refine w_istore [(4, .int (0 : Int32)), (3, .int r7), (0, .ref (xd Γ 36)), (1, .int p0), (2, .int p1)] dX3_spoiledSet_21 (by decide) rfl rfl ?_
  refine w_iconst (1 : Int32) dX3_spoiledSet_23 ic_iconst_1 rfl ?_
  refine w_istore [(5, .int (1 : Int32)), (4, .int (0 : Int32)), (3, .int r7), (0, .ref (xd Γ 36)), (1, .int p0), (2, .int p1)] dX3_spoiledSet_24 (by decide) rfl rfl ?_
  exact w_sub [3, 4, 5, 2, 1, 0] rfl (l_X3_spoiledSet_26 FU p0 p1 r7 (0 : Int32) (1 : Int32) s8 h)
theorem c_X3_spoiledSet {l : Launch} {D : va_G} {cy : Nat → ClassId} {ad : Nat → Nat} {p0 : Int32} {p1 : Int32} {σ σ' : St} {r : Int32} (hf : f_X3_spoiledSet p0 p1 σ = some (r, σ')) : CT l D cy ad yX3_spoiledSet cX3_spoiledSet 6 (some .int) rX3_spoiledSet [.ref (ad 36), .int p0, .int p1] σ (some (.int r)) σ' :=
  ct_of (by decide) (Nat.le_of_ble_eq_true rfl) (fun p e s m args below meth c A => e_X3_spoiledSet (Γ := (p, l, e, rX3_spoiledSet, s, m, args, below, meth, c, D, cy, ad, A, 0, 0, MQ below (QC D cy ad (some (.int r)) σ' A) args s 0 0 A)) p0 p1 σ ⟨_, hf, rfl⟩)
theorem k_X3_spoiledSet {Γ : CX} {cc : ByteArray} {nL : Nat} {own : String} {ret : Option FieldType} {rm : Room} {σ σ' : St} {pc pc' idx : Nat} {lv : List (Nat × Value)} {rest : List Value} {p0 : Int32} {p1 : Int32} {r : Int32} (hl : Cond.methodLink own idx yX3_spoiledSet ∈ TB) (hw : (rest.map fun v => v.category).sum ≤ 8) (hR : rX3_spoiledSet.frames + 1 ≤ rm.frames ∧ 8 + (6 + 11) + rX3_spoiledSet.locals ≤ rm.locals) (hd : decode cc pc = .ok (.invokevirtual idx, 3)) (hp : pc + 3 = pc') (hf : f_X3_spoiledSet p0 p1 σ = some (r, σ')) (h : WW Γ cc nL own ret rm σ' pc' lv (.int r :: rest)) : WW Γ cc nL own ret rm σ pc lv (.int p1 :: .int p0 :: .ref (xd Γ 36) :: rest) :=
  w_callV (nn := 2) (i := 36) (As := [.int p0, .int p1]) (v := (some (.int r))) (T := TX3) (N := 8) (c_X3_spoiledSet hf) hl mw_X3_spoiledSet (by decide +kernel) ⟨rfl, rfl⟩ hR (lt_lit (by decide)) cel_36 rfl rfl hw hd rfl hp h
/-! WarByHours.Fares.meetAnswers (II)V -/
def rX3_meetAnswers : Room := { frames := 2, cells := 0, slots := 0, locals := 45 }
def f_X3_meetAnswers_119 (K34 : Int32 × Int32 × Int32 × Int32 × St → Option (Unit × St)) (v1 : Int32) (v2 : Int32) (v3 : Int32) (v4 : Int32) (σ : St) : Option (Unit × St) :=
  bnd (v4 + (1 : Int32)) fun x1 =>
  K34 (v1, v2, v3, x1, σ)
theorem b_X3_meetAnswers_119 {Γ : CX} (K34 : Int32 × Int32 × Int32 × Int32 × St → Option (Unit × St)) (hK34 : ∀ (v1 : Int32) (v2 : Int32) (v3 : Int32) (v4 : Int32) (σ : St), RR vU Γ (K34 (v1, v2, v3, v4, σ)) → WW Γ cX3_meetAnswers 6 RX3 none rX3_meetAnswers σ 34 [(0, .ref (xd Γ 36)), (1, .int v1), (2, .int v2), (3, .int v3), (4, .int v4)] []) (v1 : Int32) (v2 : Int32) (v3 : Int32) (v4 : Int32) (σ : St) (h : RR vU Γ (f_X3_meetAnswers_119 K34 v1 v2 v3 v4 σ)) : WW Γ cX3_meetAnswers 6 RX3 none rX3_meetAnswers σ 119 [(0, .ref (xd Γ 36)), (1, .int v1), (2, .int v2), (3, .int v3), (4, .int v4)] [] := by
  unfold f_X3_meetAnswers_119 at h
  obtain ⟨x1, ex1⟩ : ∃ y : Int32, y = (v4 + (1 : Int32)) := ⟨_, rfl⟩
  replace h := h.bnd ex1
  refine w_iinc 4 x1 [(4, .int x1), (0, .ref (xd Γ 36)), (1, .int v1), (2, .int v2), (3, .int v3)] dX3_meetAnswers_119 rfl (by rw [ex1, ic_iconst_1]) (by decide) rfl rfl ?_
  clear ex1
  refine w_goto (tgt := 34) dX3_meetAnswers_122 (by decide) ?_
  exact w_sub [1, 2, 3, 4, 0] rfl (hK34 v1 v2 v3 x1 σ h)
def g_X3_meetAnswers_34 (K34 : Int32 × Int32 × Int32 × Int32 × St → Option (Unit × St)) (x : Int32 × Int32 × Int32 × Int32 × St) : Option (Unit × St) := match x with
  | (v1, v2, v3, v4, σ) =>
  bd (f_X10_sets 1 σ) fun r1 s2 =>
  if r1 ≤ v4 then
    some ((), s2)
  else
    bd (f_X3_isBought v4 v3 v2 s2) fun r4 s5 =>
    if r4 = 0 then
      f_X3_meetAnswers_119 K34 v1 v2 v3 v4 s5
    else
      bd (f_X2_goodAtEnd v1 v4 s5) fun r7 s8 =>
      gd (inb (v4 &&& v3) (ln 41)) <|
      gd (inb (v4 &&& v3) (ln 41)) <|
      bnd (sr s8 41 (v4 &&& v3).toNatClampNeg (if (gr s8 41 (v4 &&& v3).toNatClampNeg) < r7 then r7 else (gr s8 41 (v4 &&& v3).toNatClampNeg))) fun s12 =>
      gd (inb (v4 &&& (v3 ^^^ (-1 : Int32))) (ln 42)) <|
      gd (inb (v4 &&& (v3 ^^^ (-1 : Int32))) (ln 42)) <|
      bnd (sr s12 42 (v4 &&& (v3 ^^^ (-1 : Int32))).toNatClampNeg (if r7 < (gr s12 42 (v4 &&& (v3 ^^^ (-1 : Int32))).toNatClampNeg) then r7 else (gr s12 42 (v4 &&& (v3 ^^^ (-1 : Int32))).toNatClampNeg))) fun s15 =>
      f_X3_meetAnswers_119 K34 v1 v2 v3 v4 s15
theorem l_X3_meetAnswers_34 {Γ : CX} : ∀ (n : Nat) (v1 : Int32) (v2 : Int32) (v3 : Int32) (v4 : Int32) (σ : St), RR vU Γ (itr (g_X3_meetAnswers_34) n (v1, v2, v3, v4, σ)) → WW Γ cX3_meetAnswers 6 RX3 none rX3_meetAnswers σ 34 [(0, .ref (xd Γ 36)), (1, .int v1), (2, .int v2), (3, .int v3), (4, .int v4)] [] := by
  intro n
  induction n with
  | zero => intro v1 v2 v3 v4 σ h; exact RR.no h
  | succ n hK34 =>
  intro v1 v2 v3 v4 σ h
  have h : RR vU Γ (g_X3_meetAnswers_34 (itr (g_X3_meetAnswers_34) n) (v1, v2, v3, v4, σ)) := h
  generalize itr (g_X3_meetAnswers_34) n = K34 at h hK34
  unfold g_X3_meetAnswers_34 at h
  dsimp only at h
  refine w_iload 4 dX3_meetAnswers_34 rfl rfl ?_
  refine w_aload_n 0 dX3_meetAnswers_36 rfl rfl rfl ?_
  refine gf_RX3_32 dX3_meetAnswers_37 rfl ?_
  obtain ⟨r1, s2, h3, h⟩ := h.bd
  refine k_X10_sets ml_RX3_58 (Nat.le_of_ble_eq_true rfl) ⟨Nat.le_of_ble_eq_true rfl, Nat.le_of_ble_eq_true rfl⟩ dX3_meetAnswers_40 rfl h3 ?_
  refine w_icmp_ge (tgt := 125) dX3_meetAnswers_43 (by decide) rfl (fun q => ?_) (fun q => ?_)
  · have h := h.tt q
    exact w_return dX3_meetAnswers_125 h
  · have h := h.ff q
    refine w_aload_n 0 dX3_meetAnswers_46 rfl rfl rfl ?_
    refine w_iload 4 dX3_meetAnswers_47 rfl rfl ?_
    refine w_iload_n 3 dX3_meetAnswers_49 rfl rfl rfl ?_
    refine w_iload_n 2 dX3_meetAnswers_50 rfl rfl rfl ?_
    obtain ⟨r4, s5, h6, h⟩ := h.bd
    refine k_X3_isBought ml_RX3_110 (Nat.le_of_ble_eq_true rfl) ⟨Nat.le_of_ble_eq_true rfl, Nat.le_of_ble_eq_true rfl⟩ dX3_meetAnswers_51 rfl h6 ?_
    refine w_if_eq (tgt := 119) dX3_meetAnswers_54 (by decide) rfl (fun q => ?_) (fun q => ?_)
    · have h := h.tt q
      exact w_sub [0, 1, 2, 3, 4] rfl (b_X3_meetAnswers_119 K34 hK34 v1 v2 v3 v4 s5 h)
    · have h := h.ff q
      refine w_aload_n 0 dX3_meetAnswers_57 rfl rfl rfl ?_
      refine gf_RX3_36 dX3_meetAnswers_58 rfl ?_
      refine w_iload_n 1 dX3_meetAnswers_61 rfl rfl rfl ?_
      refine w_iload 4 dX3_meetAnswers_62 rfl rfl ?_
      obtain ⟨r7, s8, h9, h⟩ := h.bd
      refine k_X2_goodAtEnd ml_RX3_98 (Nat.le_of_ble_eq_true rfl) ⟨Nat.le_of_ble_eq_true rfl, Nat.le_of_ble_eq_true rfl⟩ dX3_meetAnswers_64 rfl h9 ?_
      refine w_istore [(5, .int r7), (0, .ref (xd Γ 36)), (1, .int v1), (2, .int v2), (3, .int v3), (4, .int v4)] dX3_meetAnswers_67 (by decide) rfl rfl ?_
      refine w_aload_n 1 dX3_meetAnswers_69 rfl rfl rfl ?_
      refine gf_RX3_26 dX3_meetAnswers_70 rfl ?_
      refine w_iload 5 dX3_meetAnswers_73 rfl rfl ?_
      refine w_iload_n 4 dX3_meetAnswers_75 rfl rfl rfl ?_
      refine w_iand dX3_meetAnswers_76 rfl ?_
      refine w_aload_n 1 dX3_meetAnswers_77 rfl rfl rfl ?_
      refine gf_RX3_26 dX3_meetAnswers_78 rfl ?_
      refine w_iload 5 dX3_meetAnswers_81 rfl rfl ?_
      refine w_iload_n 4 dX3_meetAnswers_83 rfl rfl rfl ?_
      refine w_iand dX3_meetAnswers_84 rfl ?_
      obtain ⟨hi10, h⟩ := h.gd
      refine w_iald (i := 41) (lt_lit (by decide)) rfl hi10 dX3_meetAnswers_85 rfl ?_
      refine w_iload 0 dX3_meetAnswers_86 rfl rfl ?_
      refine w_mmax ml_RX3_121 (Nat.le_of_ble_eq_true rfl) ⟨Nat.le_of_ble_eq_true rfl, Nat.le_of_ble_eq_true rfl⟩ dX3_meetAnswers_88 rfl ?_
      obtain ⟨hi11, h⟩ := h.gd
      refine w_iast (i := 41) (lt_lit (by decide)) rfl hi11 dX3_meetAnswers_91 rfl ?_
      obtain ⟨s12, es12⟩ : ∃ y : St, y = (sr s8 41 (v4 &&& v3).toNatClampNeg (if (gr s8 41 (v4 &&& v3).toNatClampNeg) < r7 then r7 else (gr s8 41 (v4 &&& v3).toNatClampNeg))) := ⟨_, rfl⟩
      rw [← es12]
      replace h := h.bnd es12
      clear es12
      refine w_aload_n 1 dX3_meetAnswers_92 rfl rfl rfl ?_
      refine gf_RX3_29 dX3_meetAnswers_93 rfl ?_
      refine w_iload 5 dX3_meetAnswers_96 rfl rfl ?_
      refine w_iload_n 4 dX3_meetAnswers_98 rfl rfl rfl ?_
      refine w_iconst (-1 : Int32) dX3_meetAnswers_99 ic_iconst_m1 rfl ?_
      refine w_ixor dX3_meetAnswers_100 rfl ?_
      refine w_iand dX3_meetAnswers_101 rfl ?_
      refine w_aload_n 1 dX3_meetAnswers_102 rfl rfl rfl ?_
      refine gf_RX3_29 dX3_meetAnswers_103 rfl ?_
      refine w_iload 5 dX3_meetAnswers_106 rfl rfl ?_
      refine w_iload_n 4 dX3_meetAnswers_108 rfl rfl rfl ?_
      refine w_iconst (-1 : Int32) dX3_meetAnswers_109 ic_iconst_m1 rfl ?_
      refine w_ixor dX3_meetAnswers_110 rfl ?_
      refine w_iand dX3_meetAnswers_111 rfl ?_
      obtain ⟨hi13, h⟩ := h.gd
      refine w_iald (i := 42) (lt_lit (by decide)) rfl hi13 dX3_meetAnswers_112 rfl ?_
      refine w_iload 0 dX3_meetAnswers_113 rfl rfl ?_
      refine w_mmin ml_RX3_105 (Nat.le_of_ble_eq_true rfl) ⟨Nat.le_of_ble_eq_true rfl, Nat.le_of_ble_eq_true rfl⟩ dX3_meetAnswers_115 rfl ?_
      obtain ⟨hi14, h⟩ := h.gd
      refine w_iast (i := 42) (lt_lit (by decide)) rfl hi14 dX3_meetAnswers_118 rfl ?_
      obtain ⟨s15, es15⟩ : ∃ y : St, y = (sr s12 42 (v4 &&& (v3 ^^^ (-1 : Int32))).toNatClampNeg (if r7 < (gr s12 42 (v4 &&& (v3 ^^^ (-1 : Int32))).toNatClampNeg) then r7 else (gr s12 42 (v4 &&& (v3 ^^^ (-1 : Int32))).toNatClampNeg))) := ⟨_, rfl⟩
      rw [← es15]
      replace h := h.bnd es15
      clear es15
      exact w_sub [1, 2, 3, 4, 5] rfl (b_X3_meetAnswers_119 K34 hK34 v1 v2 v3 v4 s15 h)
def f_X3_meetAnswers (p0 : Int32) (p1 : Int32) (σ : St) : Option (Unit × St) :=
  bd (f_X3_takePrices σ) fun _ s2 =>
  bd (f_J7_fill_53178 41 (-1000000 : Int32) s2) fun _ s5 =>
  bd (f_J7_fill_53178 42 (1000000 : Int32) s5) fun _ s8 =>
  bd (f_X10_trainsOf 1 p0 s8) fun r10 s11 =>
  itr (g_X3_meetAnswers_34) FU (p0, p1, r10, (0 : Int32), s11)
theorem e_X3_meetAnswers {Γ : CX} (p0 : Int32) (p1 : Int32) (σ : St) (h : RR vU Γ (f_X3_meetAnswers p0 p1 σ)) : WW Γ cX3_meetAnswers 6 RX3 none rX3_meetAnswers σ 0 [(0, .ref (xd Γ 36)), (1, .int p0), (2, .int p1)] [] := by
  unfold f_X3_meetAnswers at h
  refine w_aload_n 0 dX3_meetAnswers_0 rfl rfl rfl ?_
  obtain ⟨r1, s2, h3, h⟩ := h.bd
  refine k_X3_takePrices ml_RX3_67 (Nat.le_of_ble_eq_true rfl) ⟨Nat.le_of_ble_eq_true rfl, Nat.le_of_ble_eq_true rfl⟩ dX3_meetAnswers_1 rfl h3 ?_
  refine w_aload_n 0 dX3_meetAnswers_4 rfl rfl rfl ?_
  refine gf_RX3_26 dX3_meetAnswers_5 rfl ?_
  refine w_ldc (-1000000 : Int32) dX3_meetAnswers_8 cn_RX3_114 rfl ?_
  obtain ⟨r4, s5, h6, h⟩ := h.bd
  refine k_J7_fill_53178 ml_RX3_115 (Nat.le_of_ble_eq_true rfl) ⟨Nat.le_of_ble_eq_true rfl, Nat.le_of_ble_eq_true rfl⟩ dX3_meetAnswers_10 rfl h6 ?_
  refine w_aload_n 0 dX3_meetAnswers_13 rfl rfl rfl ?_
  refine gf_RX3_29 dX3_meetAnswers_14 rfl ?_
  refine w_ldc (1000000 : Int32) dX3_meetAnswers_17 cn_RX3_104 rfl ?_
  obtain ⟨r7, s8, h9, h⟩ := h.bd
  refine k_J7_fill_53178 ml_RX3_115 (Nat.le_of_ble_eq_true rfl) ⟨Nat.le_of_ble_eq_true rfl, Nat.le_of_ble_eq_true rfl⟩ dX3_meetAnswers_19 rfl h9 ?_
  refine w_aload_n 0 dX3_meetAnswers_22 rfl rfl rfl ?_
  refine gf_RX3_32 dX3_meetAnswers_23 rfl ?_
  refine w_iload_n 1 dX3_meetAnswers_26 rfl rfl rfl ?_
  obtain ⟨r10, s11, h12, h⟩ := h.bd
  refine k_X10_trainsOf ml_RX3_44 (Nat.le_of_ble_eq_true rfl) ⟨Nat.le_of_ble_eq_true rfl, Nat.le_of_ble_eq_true rfl⟩ dX3_meetAnswers_27 rfl h12 ?_
  refine w_istore_n [(3, .int r10), (0, .ref (xd Γ 36)), (1, .int p0), (2, .int p1)] dX3_meetAnswers_30 rfl (by decide) rfl rfl ?_
  refine w_iconst (0 : Int32) dX3_meetAnswers_31 ic_iconst_0 rfl ?_
  refine w_istore [(4, .int (0 : Int32)), (3, .int r10), (0, .ref (xd Γ 36)), (1, .int p0), (2, .int p1)] dX3_meetAnswers_32 (by decide) rfl rfl ?_
  exact w_sub [2, 3, 4, 1, 0] rfl (l_X3_meetAnswers_34 FU p0 p1 r10 (0 : Int32) s11 h)
theorem c_X3_meetAnswers {l : Launch} {D : va_G} {cy : Nat → ClassId} {ad : Nat → Nat} {p0 : Int32} {p1 : Int32} {σ σ' : St} {r : Unit} (hf : f_X3_meetAnswers p0 p1 σ = some (r, σ')) : CT l D cy ad yX3_meetAnswers cX3_meetAnswers 6 none rX3_meetAnswers [.ref (ad 36), .int p0, .int p1] σ none σ' :=
  ct_of (by decide) (Nat.le_of_ble_eq_true rfl) (fun p e s m args below meth c A => e_X3_meetAnswers (Γ := (p, l, e, rX3_meetAnswers, s, m, args, below, meth, c, D, cy, ad, A, 0, 0, MQ below (QC D cy ad none σ' A) args s 0 0 A)) p0 p1 σ ⟨_, hf, rfl⟩)
theorem k_X3_meetAnswers {Γ : CX} {cc : ByteArray} {nL : Nat} {own : String} {ret : Option FieldType} {rm : Room} {σ σ' : St} {pc pc' idx : Nat} {lv : List (Nat × Value)} {rest : List Value} {p0 : Int32} {p1 : Int32} {r : Unit} (hl : Cond.methodLink own idx yX3_meetAnswers ∈ TB) (hw : (rest.map fun v => v.category).sum ≤ 8) (hR : rX3_meetAnswers.frames + 1 ≤ rm.frames ∧ 8 + (6 + 11) + rX3_meetAnswers.locals ≤ rm.locals) (hd : decode cc pc = .ok (.invokevirtual idx, 3)) (hp : pc + 3 = pc') (hf : f_X3_meetAnswers p0 p1 σ = some (r, σ')) (h : WW Γ cc nL own ret rm σ' pc' lv (rest)) : WW Γ cc nL own ret rm σ pc lv (.int p1 :: .int p0 :: .ref (xd Γ 36) :: rest) :=
  w_callV (nn := 2) (i := 36) (As := [.int p0, .int p1]) (v := none) (T := TX3) (N := 8) (c_X3_meetAnswers hf) hl mw_X3_meetAnswers (by decide +kernel) ⟨rfl, rfl⟩ hR (lt_lit (by decide)) cel_36 rfl rfl hw hd rfl hp h
/-! WarByHours.Fares.takeParts (I)V -/
def rX3_takeParts : Room := { frames := 3, cells := 0, slots := 0, locals := 69 }
def f_X3_takeParts_89 (K9 : Int32 × Int32 × St → Option (Unit × St)) (v1 : Int32) (v2 : Int32) (k0 : Int32) (k1 : Int32) (σ : St) : Option (Unit × St) :=
  bd (f_X10_spread 38 k1 k0 σ) fun _ s2 =>
  bnd (v2 + (1 : Int32)) fun x4 =>
  K9 (v1, x4, s2)
theorem b_X3_takeParts_89 {Γ : CX} (K9 : Int32 × Int32 × St → Option (Unit × St)) (hK9 : ∀ (v1 : Int32) (v2 : Int32) (σ : St), RR vU Γ (K9 (v1, v2, σ)) → WW Γ cX3_takeParts 4 RX3 none rX3_takeParts σ 9 [(0, .ref (xd Γ 36)), (1, .int v1), (2, .int v2)] []) (v1 : Int32) (v2 : Int32) (k0 : Int32) (k1 : Int32) (σ : St) (h : RR vU Γ (f_X3_takeParts_89 K9 v1 v2 k0 k1 σ)) : WW Γ cX3_takeParts 4 RX3 none rX3_takeParts σ 89 [(0, .ref (xd Γ 36)), (1, .int v1), (2, .int v2)] [.int k0, .int k1, .ref (xd Γ 38)] := by
  unfold f_X3_takeParts_89 at h
  obtain ⟨r1, s2, h3, h⟩ := h.bd
  refine k_X10_spread ml_RX3_127 (Nat.le_of_ble_eq_true rfl) ⟨Nat.le_of_ble_eq_true rfl, Nat.le_of_ble_eq_true rfl⟩ dX3_takeParts_89 rfl h3 ?_
  obtain ⟨x4, ex4⟩ : ∃ y : Int32, y = (v2 + (1 : Int32)) := ⟨_, rfl⟩
  replace h := h.bnd ex4
  refine w_iinc 2 x4 [(2, .int x4), (0, .ref (xd Γ 36)), (1, .int v1)] dX3_takeParts_92 rfl (by rw [ex4, ic_iconst_1]) (by decide) rfl rfl ?_
  clear ex4
  refine w_goto (tgt := 9) dX3_takeParts_95 (by decide) ?_
  exact w_sub [1, 2, 0] rfl (hK9 v1 x4 s2 h)
def f_X3_takeParts_63 (K9 : Int32 × Int32 × St → Option (Unit × St)) (v1 : Int32) (v2 : Int32) (k0 : Int32) (σ : St) : Option (Unit × St) :=
  if k0 = 0 then
    f_X3_takeParts_89 K9 v1 v2 (0 : Int32) v2 σ
  else
    bd (f_X9_cell 3 v2 (1 : Int32) σ) fun r1 s2 =>
    f_X3_takeParts_89 K9 v1 v2 r1 v2 s2
theorem b_X3_takeParts_63 {Γ : CX} (K9 : Int32 × Int32 × St → Option (Unit × St)) (hK9 : ∀ (v1 : Int32) (v2 : Int32) (σ : St), RR vU Γ (K9 (v1, v2, σ)) → WW Γ cX3_takeParts 4 RX3 none rX3_takeParts σ 9 [(0, .ref (xd Γ 36)), (1, .int v1), (2, .int v2)] []) (v1 : Int32) (v2 : Int32) (k0 : Int32) (σ : St) (h : RR vU Γ (f_X3_takeParts_63 K9 v1 v2 k0 σ)) : WW Γ cX3_takeParts 4 RX3 none rX3_takeParts σ 63 [(0, .ref (xd Γ 36)), (1, .int v1), (2, .int v2)] [.int k0] := by
  unfold f_X3_takeParts_63 at h
  refine w_istore_n [(3, .int k0), (0, .ref (xd Γ 36)), (1, .int v1), (2, .int v2)] dX3_takeParts_63 rfl (by decide) rfl rfl ?_
  refine w_aload_n 1 dX3_takeParts_64 rfl rfl rfl ?_
  refine gf_RX3_15 dX3_takeParts_65 rfl ?_
  refine w_iload_n 3 dX3_takeParts_68 rfl rfl rfl ?_
  refine w_iload_n 0 dX3_takeParts_69 rfl rfl rfl ?_
  refine w_if_eq (tgt := 88) dX3_takeParts_70 (by decide) rfl (fun q => ?_) (fun q => ?_)
  · have h := h.tt q
    refine w_iconst (0 : Int32) dX3_takeParts_88 ic_iconst_0 rfl ?_
    exact w_sub [1, 2, 3] rfl (b_X3_takeParts_89 K9 hK9 v1 v2 (0 : Int32) v2 σ h)
  · have h := h.ff q
    refine w_aload_n 1 dX3_takeParts_73 rfl rfl rfl ?_
    refine gf_RX3_32 dX3_takeParts_74 rfl ?_
    refine gf_RX3_79 (i := 1) (isW_lit (by decide)) dX3_takeParts_77 rfl ?_
    refine w_iload_n 3 dX3_takeParts_80 rfl rfl rfl ?_
    refine w_iconst (1 : Int32) dX3_takeParts_81 ic_iconst_1 rfl ?_
    obtain ⟨r1, s2, h3, h⟩ := h.bd
    refine k_X9_cell ml_RX3_124 (Nat.le_of_ble_eq_true rfl) ⟨Nat.le_of_ble_eq_true rfl, Nat.le_of_ble_eq_true rfl⟩ dX3_takeParts_82 rfl h3 ?_
    refine w_goto (tgt := 89) dX3_takeParts_85 (by decide) ?_
    exact w_sub [1, 2, 3] rfl (b_X3_takeParts_89 K9 hK9 v1 v2 r1 v2 s2 h)
def f_X3_takeParts_62 (K9 : Int32 × Int32 × St → Option (Unit × St)) (v1 : Int32) (v2 : Int32) (σ : St) : Option (Unit × St) :=
  f_X3_takeParts_63 K9 v1 v2 (0 : Int32) σ
theorem b_X3_takeParts_62 {Γ : CX} (K9 : Int32 × Int32 × St → Option (Unit × St)) (hK9 : ∀ (v1 : Int32) (v2 : Int32) (σ : St), RR vU Γ (K9 (v1, v2, σ)) → WW Γ cX3_takeParts 4 RX3 none rX3_takeParts σ 9 [(0, .ref (xd Γ 36)), (1, .int v1), (2, .int v2)] []) (v1 : Int32) (v2 : Int32) (σ : St) (h : RR vU Γ (f_X3_takeParts_62 K9 v1 v2 σ)) : WW Γ cX3_takeParts 4 RX3 none rX3_takeParts σ 62 [(0, .ref (xd Γ 36)), (1, .int v1), (2, .int v2)] [] := by
  unfold f_X3_takeParts_62 at h
  refine w_iconst (0 : Int32) dX3_takeParts_62 ic_iconst_0 rfl ?_
  exact w_sub [0, 1, 2] rfl (b_X3_takeParts_63 K9 hK9 v1 v2 (0 : Int32) σ h)
def f_X3_takeParts_138 (K100 : Int32 × Int32 × St → Option (Unit × St)) (v1 : Int32) (v2 : Int32) (k0 : Int64) (k1 : Int32) (σ : St) : Option (Unit × St) :=
  gd (inb k1 (ln 39)) <|
  bnd (sj σ 39 k1.toNatClampNeg k0) fun s2 =>
  bnd (v2 + (1 : Int32)) fun x3 =>
  K100 (v1, x3, s2)
theorem b_X3_takeParts_138 {Γ : CX} (K100 : Int32 × Int32 × St → Option (Unit × St)) (hK100 : ∀ (v1 : Int32) (v2 : Int32) (σ : St), RR vU Γ (K100 (v1, v2, σ)) → WW Γ cX3_takeParts 4 RX3 none rX3_takeParts σ 100 [(0, .ref (xd Γ 36)), (1, .int v1), (2, .int v2)] []) (v1 : Int32) (v2 : Int32) (k0 : Int64) (k1 : Int32) (σ : St) (h : RR vU Γ (f_X3_takeParts_138 K100 v1 v2 k0 k1 σ)) : WW Γ cX3_takeParts 4 RX3 none rX3_takeParts σ 138 [(0, .ref (xd Γ 36)), (1, .int v1), (2, .int v2)] [.long k0, .int k1, .ref (xd Γ 39)] := by
  unfold f_X3_takeParts_138 at h
  obtain ⟨hi1, h⟩ := h.gd
  refine w_last (i := 39) (lt_lit (by decide)) rfl hi1 dX3_takeParts_138 rfl ?_
  obtain ⟨s2, es2⟩ : ∃ y : St, y = (sj σ 39 k1.toNatClampNeg k0) := ⟨_, rfl⟩
  rw [← es2]
  replace h := h.bnd es2
  clear es2
  obtain ⟨x3, ex3⟩ : ∃ y : Int32, y = (v2 + (1 : Int32)) := ⟨_, rfl⟩
  replace h := h.bnd ex3
  refine w_iinc 2 x3 [(2, .int x3), (0, .ref (xd Γ 36)), (1, .int v1)] dX3_takeParts_139 rfl (by rw [ex3, ic_iconst_1]) (by decide) rfl rfl ?_
  clear ex3
  refine w_goto (tgt := 100) dX3_takeParts_142 (by decide) ?_
  exact w_sub [1, 2, 0] rfl (hK100 v1 x3 s2 h)
def g_X3_takeParts_147 (K147 : Int32 × St → Option (Unit × St)) (x : Int32 × St) : Option (Unit × St) := match x with
  | (v2, σ) =>
  if (gf σ 3 3) ≤ v2 then
    some ((), σ)
  else
    bd (f_X3_mayBeLate v2 σ) fun _ s2 =>
    bnd (v2 + (1 : Int32)) fun x4 =>
    K147 (x4, s2)
theorem l_X3_takeParts_147 {Γ : CX} : ∀ (n : Nat) (v2 : Int32) (σ : St), RR vU Γ (itr (g_X3_takeParts_147) n (v2, σ)) → WW Γ cX3_takeParts 4 RX3 none rX3_takeParts σ 147 [(0, .ref (xd Γ 36)), (2, .int v2)] [] := by
  intro n
  induction n with
  | zero => intro v2 σ h; exact RR.no h
  | succ n hK147 =>
  intro v2 σ h
  have h : RR vU Γ (g_X3_takeParts_147 (itr (g_X3_takeParts_147) n) (v2, σ)) := h
  generalize itr (g_X3_takeParts_147) n = K147 at h hK147
  unfold g_X3_takeParts_147 at h
  dsimp only at h
  refine w_iload_n 1 dX3_takeParts_147 rfl rfl rfl ?_
  refine w_aload_n 0 dX3_takeParts_148 rfl rfl rfl ?_
  refine gf_RX3_32 dX3_takeParts_149 rfl ?_
  refine gf_RX3_79 (i := 1) (isW_lit (by decide)) dX3_takeParts_152 rfl ?_
  refine gf_RX3_83 (i := 3) (isT_lit (by decide)) dX3_takeParts_155 rfl ?_
  refine w_icmp_ge (tgt := 172) dX3_takeParts_158 (by decide) rfl (fun q => ?_) (fun q => ?_)
  · have h := h.tt q
    exact w_return dX3_takeParts_172 h
  · have h := h.ff q
    refine w_aload_n 0 dX3_takeParts_161 rfl rfl rfl ?_
    refine w_iload_n 1 dX3_takeParts_162 rfl rfl rfl ?_
    obtain ⟨r1, s2, h3, h⟩ := h.bd
    refine k_X3_mayBeLate ml_RX3_155 (Nat.le_of_ble_eq_true rfl) ⟨Nat.le_of_ble_eq_true rfl, Nat.le_of_ble_eq_true rfl⟩ dX3_takeParts_163 rfl h3 ?_
    obtain ⟨x4, ex4⟩ : ∃ y : Int32, y = (v2 + (1 : Int32)) := ⟨_, rfl⟩
    replace h := h.bnd ex4
    refine w_iinc 1 x4 [(2, .int x4), (0, .ref (xd Γ 36))] dX3_takeParts_166 rfl (by rw [ex4, ic_iconst_1]) (by decide) rfl rfl ?_
    clear ex4
    refine w_goto (tgt := 147) dX3_takeParts_169 (by decide) ?_
    exact w_sub [1, 0] rfl (hK147 x4 s2 h)
def g_X3_takeParts_100 (K100 : Int32 × Int32 × St → Option (Unit × St)) (x : Int32 × Int32 × St) : Option (Unit × St) := match x with
  | (v1, v2, σ) =>
  bd (f_X10_sets 1 σ) fun r1 s2 =>
  if r1 ≤ v2 then
    itr (g_X3_takeParts_147) FU ((0 : Int32), s2)
  else
    gd (inb v2 (ln 38)) <|
    bd (f_X10_needOf 1 v1 s2) fun r5 s6 =>
    if (gr s2 38 v2.toNatClampNeg) < r5 then
      f_X3_takeParts_138 K100 v1 v2 (0 : Int64) v2 s6
    else
      f_X3_takeParts_138 K100 v1 v2 (1 : Int64) v2 s6
theorem l_X3_takeParts_100 {Γ : CX} : ∀ (n : Nat) (v1 : Int32) (v2 : Int32) (σ : St), RR vU Γ (itr (g_X3_takeParts_100) n (v1, v2, σ)) → WW Γ cX3_takeParts 4 RX3 none rX3_takeParts σ 100 [(0, .ref (xd Γ 36)), (1, .int v1), (2, .int v2)] [] := by
  intro n
  induction n with
  | zero => intro v1 v2 σ h; exact RR.no h
  | succ n hK100 =>
  intro v1 v2 σ h
  have h : RR vU Γ (g_X3_takeParts_100 (itr (g_X3_takeParts_100) n) (v1, v2, σ)) := h
  generalize itr (g_X3_takeParts_100) n = K100 at h hK100
  unfold g_X3_takeParts_100 at h
  dsimp only at h
  refine w_iload_n 2 dX3_takeParts_100 rfl rfl rfl ?_
  refine w_aload_n 0 dX3_takeParts_101 rfl rfl rfl ?_
  refine gf_RX3_32 dX3_takeParts_102 rfl ?_
  obtain ⟨r1, s2, h3, h⟩ := h.bd
  refine k_X10_sets ml_RX3_58 (Nat.le_of_ble_eq_true rfl) ⟨Nat.le_of_ble_eq_true rfl, Nat.le_of_ble_eq_true rfl⟩ dX3_takeParts_105 rfl h3 ?_
  refine w_icmp_ge (tgt := 145) dX3_takeParts_108 (by decide) rfl (fun q => ?_) (fun q => ?_)
  · have h := h.tt q
    refine w_iconst (0 : Int32) dX3_takeParts_145 ic_iconst_0 rfl ?_
    refine w_istore_n [(2, .int (0 : Int32)), (0, .ref (xd Γ 36)), (1, .int v1)] dX3_takeParts_146 rfl (by decide) rfl rfl ?_
    exact w_sub [1, 0] rfl (l_X3_takeParts_147 FU (0 : Int32) s2 h)
  · have h := h.ff q
    refine w_aload_n 0 dX3_takeParts_111 rfl rfl rfl ?_
    refine gf_RX3_18 dX3_takeParts_112 rfl ?_
    refine w_iload_n 2 dX3_takeParts_115 rfl rfl rfl ?_
    refine w_aload_n 0 dX3_takeParts_116 rfl rfl rfl ?_
    refine gf_RX3_15 dX3_takeParts_117 rfl ?_
    refine w_iload_n 2 dX3_takeParts_120 rfl rfl rfl ?_
    obtain ⟨hi4, h⟩ := h.gd
    refine w_iald (i := 38) (lt_lit (by decide)) rfl hi4 dX3_takeParts_121 rfl ?_
    refine w_aload_n 0 dX3_takeParts_122 rfl rfl rfl ?_
    refine gf_RX3_32 dX3_takeParts_123 rfl ?_
    refine w_iload_n 1 dX3_takeParts_126 rfl rfl rfl ?_
    obtain ⟨r5, s6, h7, h⟩ := h.bd
    refine k_X10_needOf ml_RX3_141 (Nat.le_of_ble_eq_true rfl) ⟨Nat.le_of_ble_eq_true rfl, Nat.le_of_ble_eq_true rfl⟩ dX3_takeParts_127 rfl h7 ?_
    refine w_icmp_lt (tgt := 137) dX3_takeParts_130 (by decide) rfl (fun q => ?_) (fun q => ?_)
    · have h := h.tt q
      refine w_lconst (0 : Int64) dX3_takeParts_137 rfl rfl ?_
      exact w_sub [0, 1, 2] rfl (b_X3_takeParts_138 K100 hK100 v1 v2 (0 : Int64) v2 s6 h)
    · have h := h.ff q
      refine w_lconst (1 : Int64) dX3_takeParts_133 rfl rfl ?_
      refine w_goto (tgt := 138) dX3_takeParts_134 (by decide) ?_
      exact w_sub [0, 1, 2] rfl (b_X3_takeParts_138 K100 hK100 v1 v2 (1 : Int64) v2 s6 h)
def g_X3_takeParts_9 (K9 : Int32 × Int32 × St → Option (Unit × St)) (x : Int32 × Int32 × St) : Option (Unit × St) := match x with
  | (v1, v2, σ) =>
  if (gf σ 3 3) ≤ v2 then
    itr (g_X3_takeParts_100) FU (v1, (0 : Int32), σ)
  else
    bd (f_X9_cell 3 v2 (0 : Int32) σ) fun r1 s2 =>
    if r1 = v1 then
      bd (f_X10_arrival 1 v2 (0 : Int32) s2) fun r4 s5 =>
      if (gf s5 1 2) < r4 then
        f_X3_takeParts_62 K9 v1 v2 s5
      else
        f_X3_takeParts_63 K9 v1 v2 (1 : Int32) s5
    else
      f_X3_takeParts_62 K9 v1 v2 s2
theorem l_X3_takeParts_9 {Γ : CX} : ∀ (n : Nat) (v1 : Int32) (v2 : Int32) (σ : St), RR vU Γ (itr (g_X3_takeParts_9) n (v1, v2, σ)) → WW Γ cX3_takeParts 4 RX3 none rX3_takeParts σ 9 [(0, .ref (xd Γ 36)), (1, .int v1), (2, .int v2)] [] := by
  intro n
  induction n with
  | zero => intro v1 v2 σ h; exact RR.no h
  | succ n hK9 =>
  intro v1 v2 σ h
  have h : RR vU Γ (g_X3_takeParts_9 (itr (g_X3_takeParts_9) n) (v1, v2, σ)) := h
  generalize itr (g_X3_takeParts_9) n = K9 at h hK9
  unfold g_X3_takeParts_9 at h
  dsimp only at h
  refine w_iload_n 2 dX3_takeParts_9 rfl rfl rfl ?_
  refine w_aload_n 0 dX3_takeParts_10 rfl rfl rfl ?_
  refine gf_RX3_32 dX3_takeParts_11 rfl ?_
  refine gf_RX3_79 (i := 1) (isW_lit (by decide)) dX3_takeParts_14 rfl ?_
  refine gf_RX3_83 (i := 3) (isT_lit (by decide)) dX3_takeParts_17 rfl ?_
  refine w_icmp_ge (tgt := 98) dX3_takeParts_20 (by decide) rfl (fun q => ?_) (fun q => ?_)
  · have h := h.tt q
    refine w_iconst (0 : Int32) dX3_takeParts_98 ic_iconst_0 rfl ?_
    refine w_istore_n [(2, .int (0 : Int32)), (0, .ref (xd Γ 36)), (1, .int v1)] dX3_takeParts_99 rfl (by decide) rfl rfl ?_
    exact w_sub [1, 2, 0] rfl (l_X3_takeParts_100 FU v1 (0 : Int32) σ h)
  · have h := h.ff q
    refine w_aload_n 0 dX3_takeParts_23 rfl rfl rfl ?_
    refine gf_RX3_32 dX3_takeParts_24 rfl ?_
    refine gf_RX3_79 (i := 1) (isW_lit (by decide)) dX3_takeParts_27 rfl ?_
    refine w_iload_n 2 dX3_takeParts_30 rfl rfl rfl ?_
    refine w_iconst (0 : Int32) dX3_takeParts_31 ic_iconst_0 rfl ?_
    obtain ⟨r1, s2, h3, h⟩ := h.bd
    refine k_X9_cell ml_RX3_124 (Nat.le_of_ble_eq_true rfl) ⟨Nat.le_of_ble_eq_true rfl, Nat.le_of_ble_eq_true rfl⟩ dX3_takeParts_32 rfl h3 ?_
    refine w_iload_n 1 dX3_takeParts_35 rfl rfl rfl ?_
    refine w_icmp_ne (tgt := 62) dX3_takeParts_36 (by decide) rfl (fun q => ?_) (fun q => ?_)
    · have h := h.ff q
      exact w_sub [0, 1, 2] rfl (b_X3_takeParts_62 K9 hK9 v1 v2 s2 h)
    · have h := h.tt q
      refine w_aload_n 0 dX3_takeParts_39 rfl rfl rfl ?_
      refine gf_RX3_32 dX3_takeParts_40 rfl ?_
      refine w_iload_n 2 dX3_takeParts_43 rfl rfl rfl ?_
      refine w_iconst (0 : Int32) dX3_takeParts_44 ic_iconst_0 rfl ?_
      obtain ⟨r4, s5, h6, h⟩ := h.bd
      refine k_X10_arrival ml_RX3_152 (Nat.le_of_ble_eq_true rfl) ⟨Nat.le_of_ble_eq_true rfl, Nat.le_of_ble_eq_true rfl⟩ dX3_takeParts_45 rfl h6 ?_
      refine w_aload_n 0 dX3_takeParts_48 rfl rfl rfl ?_
      refine gf_RX3_32 dX3_takeParts_49 rfl ?_
      refine gf_RX3_131 (i := 1) (isW_lit (by decide)) dX3_takeParts_52 rfl ?_
      refine w_icmp_gt (tgt := 62) dX3_takeParts_55 (by decide) rfl (fun q => ?_) (fun q => ?_)
      · have h := h.tt q
        exact w_sub [0, 1, 2] rfl (b_X3_takeParts_62 K9 hK9 v1 v2 s5 h)
      · have h := h.ff q
        refine w_iconst (1 : Int32) dX3_takeParts_58 ic_iconst_1 rfl ?_
        refine w_goto (tgt := 63) dX3_takeParts_59 (by decide) ?_
        exact w_sub [0, 1, 2] rfl (b_X3_takeParts_63 K9 hK9 v1 v2 (1 : Int32) s5 h)
def f_X3_takeParts (p0 : Int32) (σ : St) : Option (Unit × St) :=
  gd (inb (0 : Int32) (ln 38)) <|
  bnd (sr σ 38 (0 : Int32).toNatClampNeg (0 : Int32)) fun s2 =>
  itr (g_X3_takeParts_9) FU (p0, (0 : Int32), s2)
theorem e_X3_takeParts {Γ : CX} (p0 : Int32) (σ : St) (h : RR vU Γ (f_X3_takeParts p0 σ)) : WW Γ cX3_takeParts 4 RX3 none rX3_takeParts σ 0 [(0, .ref (xd Γ 36)), (1, .int p0)] [] := by
  unfold f_X3_takeParts at h
  refine w_aload_n 0 dX3_takeParts_0 rfl rfl rfl ?_
  refine gf_RX3_15 dX3_takeParts_1 rfl ?_
  refine w_iconst (0 : Int32) dX3_takeParts_4 ic_iconst_0 rfl ?_
  refine w_iconst (0 : Int32) dX3_takeParts_5 ic_iconst_0 rfl ?_
  obtain ⟨hi1, h⟩ := h.gd
  refine w_iast (i := 38) (lt_lit (by decide)) rfl hi1 dX3_takeParts_6 rfl ?_
  obtain ⟨s2, es2⟩ : ∃ y : St, y = (sr σ 38 (0 : Int32).toNatClampNeg (0 : Int32)) := ⟨_, rfl⟩
  rw [← es2]
  replace h := h.bnd es2
  clear es2
  refine w_iconst (0 : Int32) dX3_takeParts_7 ic_iconst_0 rfl ?_
  refine w_istore_n [(2, .int (0 : Int32)), (0, .ref (xd Γ 36)), (1, .int p0)] dX3_takeParts_8 rfl (by decide) rfl rfl ?_
  exact w_sub [1, 2, 0] rfl (l_X3_takeParts_9 FU p0 (0 : Int32) s2 h)
theorem c_X3_takeParts {l : Launch} {D : va_G} {cy : Nat → ClassId} {ad : Nat → Nat} {p0 : Int32} {σ σ' : St} {r : Unit} (hf : f_X3_takeParts p0 σ = some (r, σ')) : CT l D cy ad yX3_takeParts cX3_takeParts 4 none rX3_takeParts [.ref (ad 36), .int p0] σ none σ' :=
  ct_of (by decide) (Nat.le_of_ble_eq_true rfl) (fun p e s m args below meth c A => e_X3_takeParts (Γ := (p, l, e, rX3_takeParts, s, m, args, below, meth, c, D, cy, ad, A, 0, 0, MQ below (QC D cy ad none σ' A) args s 0 0 A)) p0 σ ⟨_, hf, rfl⟩)
theorem k_X3_takeParts {Γ : CX} {cc : ByteArray} {nL : Nat} {own : String} {ret : Option FieldType} {rm : Room} {σ σ' : St} {pc pc' idx : Nat} {lv : List (Nat × Value)} {rest : List Value} {p0 : Int32} {r : Unit} (hl : Cond.methodLink own idx yX3_takeParts ∈ TB) (hw : (rest.map fun v => v.category).sum ≤ 8) (hR : rX3_takeParts.frames + 1 ≤ rm.frames ∧ 8 + (4 + 11) + rX3_takeParts.locals ≤ rm.locals) (hd : decode cc pc = .ok (.invokevirtual idx, 3)) (hp : pc + 3 = pc') (hf : f_X3_takeParts p0 σ = some (r, σ')) (h : WW Γ cc nL own ret rm σ' pc' lv (rest)) : WW Γ cc nL own ret rm σ pc lv (.int p0 :: .ref (xd Γ 36) :: rest) :=
  w_callV (nn := 1) (i := 36) (As := [.int p0]) (v := none) (T := TX3) (N := 8) (c_X3_takeParts hf) hl mw_X3_takeParts (by decide +kernel) ⟨rfl, rfl⟩ hR (lt_lit (by decide)) cel_36 rfl rfl hw hd rfl hp h
/-! WarByHours.Peace.countReadings (I)I -/
def rX4_countReadings : Room := { frames := 2, cells := 0, slots := 0, locals := 49 }
def f_X4_countReadings_24 (K4 : Int32 × Int32 × Int32 × St → Option (Int32 × St)) (v1 : Int32) (v2 : Int32) (v3 : Int32) (σ : St) : Option (Int32 × St) :=
  bnd (v3 + (1 : Int32)) fun x1 =>
  K4 (v1, v2, x1, σ)
theorem b_X4_countReadings_24 {Γ : CX} (K4 : Int32 × Int32 × Int32 × St → Option (Int32 × St)) (hK4 : ∀ (v1 : Int32) (v2 : Int32) (v3 : Int32) (σ : St), RR vI Γ (K4 (v1, v2, v3, σ)) → WW Γ cX4_countReadings 4 RX4 (some .int) rX4_countReadings σ 4 [(0, .ref (xd Γ 48)), (1, .int v1), (2, .int v2), (3, .int v3)] []) (v1 : Int32) (v2 : Int32) (v3 : Int32) (σ : St) (h : RR vI Γ (f_X4_countReadings_24 K4 v1 v2 v3 σ)) : WW Γ cX4_countReadings 4 RX4 (some .int) rX4_countReadings σ 24 [(0, .ref (xd Γ 48)), (1, .int v1), (2, .int v2), (3, .int v3)] [] := by
  unfold f_X4_countReadings_24 at h
  obtain ⟨x1, ex1⟩ : ∃ y : Int32, y = (v3 + (1 : Int32)) := ⟨_, rfl⟩
  replace h := h.bnd ex1
  refine w_iinc 3 x1 [(3, .int x1), (0, .ref (xd Γ 48)), (1, .int v1), (2, .int v2)] dX4_countReadings_24 rfl (by rw [ex1, ic_iconst_1]) (by decide) rfl rfl ?_
  clear ex1
  refine w_goto (tgt := 4) dX4_countReadings_27 (by decide) ?_
  exact w_sub [1, 2, 3, 0] rfl (hK4 v1 v2 x1 σ h)
def g_X4_countReadings_4 (K4 : Int32 × Int32 × Int32 × St → Option (Int32 × St)) (x : Int32 × Int32 × Int32 × St) : Option (Int32 × St) := match x with
  | (v1, v2, v3, σ) =>
  bd (f_X4_allReadings σ) fun r1 s2 =>
  if r1 ≤ v3 then
    some (v2, s2)
  else
    bd (f_X4_isHeld v1 v3 s2) fun r4 s5 =>
    if r4 = 0 then
      f_X4_countReadings_24 K4 v1 v2 v3 s5
    else
      bnd (v2 + (1 : Int32)) fun x7 =>
      f_X4_countReadings_24 K4 v1 x7 v3 s5
theorem l_X4_countReadings_4 {Γ : CX} : ∀ (n : Nat) (v1 : Int32) (v2 : Int32) (v3 : Int32) (σ : St), RR vI Γ (itr (g_X4_countReadings_4) n (v1, v2, v3, σ)) → WW Γ cX4_countReadings 4 RX4 (some .int) rX4_countReadings σ 4 [(0, .ref (xd Γ 48)), (1, .int v1), (2, .int v2), (3, .int v3)] [] := by
  intro n
  induction n with
  | zero => intro v1 v2 v3 σ h; exact RR.no h
  | succ n hK4 =>
  intro v1 v2 v3 σ h
  have h : RR vI Γ (g_X4_countReadings_4 (itr (g_X4_countReadings_4) n) (v1, v2, v3, σ)) := h
  generalize itr (g_X4_countReadings_4) n = K4 at h hK4
  unfold g_X4_countReadings_4 at h
  dsimp only at h
  refine w_iload_n 3 dX4_countReadings_4 rfl rfl rfl ?_
  refine w_aload_n 0 dX4_countReadings_5 rfl rfl rfl ?_
  obtain ⟨r1, s2, h3, h⟩ := h.bd
  refine k_X4_allReadings ml_RX4_15 (Nat.le_of_ble_eq_true rfl) ⟨Nat.le_of_ble_eq_true rfl, Nat.le_of_ble_eq_true rfl⟩ dX4_countReadings_6 rfl h3 ?_
  refine w_icmp_ge (tgt := 30) dX4_countReadings_9 (by decide) rfl (fun q => ?_) (fun q => ?_)
  · have h := h.tt q
    refine w_iload_n 2 dX4_countReadings_30 rfl rfl rfl ?_
    exact w_ireturn dX4_countReadings_31 h
  · have h := h.ff q
    refine w_aload_n 0 dX4_countReadings_12 rfl rfl rfl ?_
    refine w_iload_n 1 dX4_countReadings_13 rfl rfl rfl ?_
    refine w_iload_n 3 dX4_countReadings_14 rfl rfl rfl ?_
    obtain ⟨r4, s5, h6, h⟩ := h.bd
    refine k_X4_isHeld ml_RX4_19 (Nat.le_of_ble_eq_true rfl) ⟨Nat.le_of_ble_eq_true rfl, Nat.le_of_ble_eq_true rfl⟩ dX4_countReadings_15 rfl h6 ?_
    refine w_if_eq (tgt := 24) dX4_countReadings_18 (by decide) rfl (fun q => ?_) (fun q => ?_)
    · have h := h.tt q
      exact w_sub [0, 1, 2, 3] rfl (b_X4_countReadings_24 K4 hK4 v1 v2 v3 s5 h)
    · have h := h.ff q
      obtain ⟨x7, ex7⟩ : ∃ y : Int32, y = (v2 + (1 : Int32)) := ⟨_, rfl⟩
      replace h := h.bnd ex7
      refine w_iinc 2 x7 [(2, .int x7), (0, .ref (xd Γ 48)), (1, .int v1), (3, .int v3)] dX4_countReadings_21 rfl (by rw [ex7, ic_iconst_1]) (by decide) rfl rfl ?_
      clear ex7
      exact w_sub [1, 2, 0, 3] rfl (b_X4_countReadings_24 K4 hK4 v1 x7 v3 s5 h)
def f_X4_countReadings (p0 : Int32) (σ : St) : Option (Int32 × St) :=
  itr (g_X4_countReadings_4) FU (p0, (0 : Int32), (0 : Int32), σ)
theorem e_X4_countReadings {Γ : CX} (p0 : Int32) (σ : St) (h : RR vI Γ (f_X4_countReadings p0 σ)) : WW Γ cX4_countReadings 4 RX4 (some .int) rX4_countReadings σ 0 [(0, .ref (xd Γ 48)), (1, .int p0)] [] := by
  unfold f_X4_countReadings at h
  refine w_iconst (0 : Int32) dX4_countReadings_0 ic_iconst_0 rfl ?_
  refine w_istore_n [(2, .int (0 : Int32)), (0, .ref (xd Γ 48)), (1, .int p0)] dX4_countReadings_1 rfl (by decide) rfl rfl ?_
  refine w_iconst (0 : Int32) dX4_countReadings_2 ic_iconst_0 rfl ?_
  refine w_istore_n [(3, .int (0 : Int32)), (2, .int (0 : Int32)), (0, .ref (xd Γ 48)), (1, .int p0)] dX4_countReadings_3 rfl (by decide) rfl rfl ?_
  exact w_sub [2, 3, 1, 0] rfl (l_X4_countReadings_4 FU p0 (0 : Int32) (0 : Int32) σ h)
theorem c_X4_countReadings {l : Launch} {D : va_G} {cy : Nat → ClassId} {ad : Nat → Nat} {p0 : Int32} {σ σ' : St} {r : Int32} (hf : f_X4_countReadings p0 σ = some (r, σ')) : CT l D cy ad yX4_countReadings cX4_countReadings 4 (some .int) rX4_countReadings [.ref (ad 48), .int p0] σ (some (.int r)) σ' :=
  ct_of (by decide) (Nat.le_of_ble_eq_true rfl) (fun p e s m args below meth c A => e_X4_countReadings (Γ := (p, l, e, rX4_countReadings, s, m, args, below, meth, c, D, cy, ad, A, 0, 0, MQ below (QC D cy ad (some (.int r)) σ' A) args s 0 0 A)) p0 σ ⟨_, hf, rfl⟩)
theorem k_X4_countReadings {Γ : CX} {cc : ByteArray} {nL : Nat} {own : String} {ret : Option FieldType} {rm : Room} {σ σ' : St} {pc pc' idx : Nat} {lv : List (Nat × Value)} {rest : List Value} {p0 : Int32} {r : Int32} (hl : Cond.methodLink own idx yX4_countReadings ∈ TB) (hw : (rest.map fun v => v.category).sum ≤ 8) (hR : rX4_countReadings.frames + 1 ≤ rm.frames ∧ 8 + (4 + 11) + rX4_countReadings.locals ≤ rm.locals) (hd : decode cc pc = .ok (.invokevirtual idx, 3)) (hp : pc + 3 = pc') (hf : f_X4_countReadings p0 σ = some (r, σ')) (h : WW Γ cc nL own ret rm σ' pc' lv (.int r :: rest)) : WW Γ cc nL own ret rm σ pc lv (.int p0 :: .ref (xd Γ 48) :: rest) :=
  w_callV (nn := 1) (i := 48) (As := [.int p0]) (v := (some (.int r))) (T := TX4) (N := 1) (c_X4_countReadings hf) hl mw_X4_countReadings (by decide +kernel) ⟨rfl, rfl⟩ hR (lt_lit (by decide)) cel_48 rfl rfl hw hd rfl hp h
/-! WarByHours.Peace.loopholeMinutes ()J -/
def rX4_loopholeMinutes : Room := { frames := 2, cells := 0, slots := 0, locals := 49 }
def f_X4_loopholeMinutes_39 (K4 : Int64 × Int32 × St → Option (Int64 × St)) (v1 : Int64) (v3 : Int32) (σ : St) : Option (Int64 × St) :=
  bnd (v3 + (1 : Int32)) fun x1 =>
  K4 (v1, x1, σ)
theorem b_X4_loopholeMinutes_39 {Γ : CX} (K4 : Int64 × Int32 × St → Option (Int64 × St)) (hK4 : ∀ (v1 : Int64) (v3 : Int32) (σ : St), RR vL Γ (K4 (v1, v3, σ)) → WW Γ cX4_loopholeMinutes 4 RX4 (some .long) rX4_loopholeMinutes σ 4 [(0, .ref (xd Γ 48)), (1, .long v1), (3, .int v3)] []) (v1 : Int64) (v3 : Int32) (σ : St) (h : RR vL Γ (f_X4_loopholeMinutes_39 K4 v1 v3 σ)) : WW Γ cX4_loopholeMinutes 4 RX4 (some .long) rX4_loopholeMinutes σ 39 [(0, .ref (xd Γ 48)), (1, .long v1), (3, .int v3)] [] := by
  unfold f_X4_loopholeMinutes_39 at h
  obtain ⟨x1, ex1⟩ : ∃ y : Int32, y = (v3 + (1 : Int32)) := ⟨_, rfl⟩
  replace h := h.bnd ex1
  refine w_iinc 2 x1 [(3, .int x1), (0, .ref (xd Γ 48)), (1, .long v1)] dX4_loopholeMinutes_39 rfl (by rw [ex1, ic_iconst_1]) (by decide) rfl rfl ?_
  clear ex1
  refine w_goto (tgt := 4) dX4_loopholeMinutes_42 (by decide) ?_
  exact w_sub [1, 2, 0] rfl (hK4 v1 x1 σ h)
def g_X4_loopholeMinutes_4 (K4 : Int64 × Int32 × St → Option (Int64 × St)) (x : Int64 × Int32 × St) : Option (Int64 × St) := match x with
  | (v1, v3, σ) =>
  if (59 : Int32) < v3 then
    some (v1, σ)
  else
    bd (f_X4_isHeld v3 (0 : Int32) σ) fun r1 s2 =>
    if r1 = 0 then
      f_X4_loopholeMinutes_39 K4 v1 v3 s2
    else
      bd (f_X4_allReadings s2) fun r4 s5 =>
      bd (f_X4_isHeld v3 (r4 - (1 : Int32)) s5) fun r7 s8 =>
      if r7 = 0 then
        bnd ((v1 ||| ((1 : Int64) <<< (v3.toInt64 &&& 63)))) fun x10 =>
        f_X4_loopholeMinutes_39 K4 x10 v3 s8
      else
        f_X4_loopholeMinutes_39 K4 v1 v3 s8
theorem l_X4_loopholeMinutes_4 {Γ : CX} : ∀ (n : Nat) (v1 : Int64) (v3 : Int32) (σ : St), RR vL Γ (itr (g_X4_loopholeMinutes_4) n (v1, v3, σ)) → WW Γ cX4_loopholeMinutes 4 RX4 (some .long) rX4_loopholeMinutes σ 4 [(0, .ref (xd Γ 48)), (1, .long v1), (3, .int v3)] [] := by
  intro n
  induction n with
  | zero => intro v1 v3 σ h; exact RR.no h
  | succ n hK4 =>
  intro v1 v3 σ h
  have h : RR vL Γ (g_X4_loopholeMinutes_4 (itr (g_X4_loopholeMinutes_4) n) (v1, v3, σ)) := h
  generalize itr (g_X4_loopholeMinutes_4) n = K4 at h hK4
  unfold g_X4_loopholeMinutes_4 at h
  dsimp only at h
  refine w_iload_n 2 dX4_loopholeMinutes_4 rfl rfl rfl ?_
  refine w_bipush (59 : Int32) dX4_loopholeMinutes_5 ic_bipush_59 rfl ?_
  refine w_icmp_gt (tgt := 45) dX4_loopholeMinutes_7 (by decide) rfl (fun q => ?_) (fun q => ?_)
  · have h := h.tt q
    refine w_lload_n 1 dX4_loopholeMinutes_45 rfl rfl rfl ?_
    exact w_lreturn dX4_loopholeMinutes_46 h
  · have h := h.ff q
    refine w_aload_n 0 dX4_loopholeMinutes_10 rfl rfl rfl ?_
    refine w_iload_n 2 dX4_loopholeMinutes_11 rfl rfl rfl ?_
    refine w_iconst (0 : Int32) dX4_loopholeMinutes_12 ic_iconst_0 rfl ?_
    obtain ⟨r1, s2, h3, h⟩ := h.bd
    refine k_X4_isHeld ml_RX4_19 (Nat.le_of_ble_eq_true rfl) ⟨Nat.le_of_ble_eq_true rfl, Nat.le_of_ble_eq_true rfl⟩ dX4_loopholeMinutes_13 rfl h3 ?_
    refine w_if_eq (tgt := 39) dX4_loopholeMinutes_16 (by decide) rfl (fun q => ?_) (fun q => ?_)
    · have h := h.tt q
      exact w_sub [0, 1, 2] rfl (b_X4_loopholeMinutes_39 K4 hK4 v1 v3 s2 h)
    · have h := h.ff q
      refine w_aload_n 0 dX4_loopholeMinutes_19 rfl rfl rfl ?_
      refine w_iload_n 2 dX4_loopholeMinutes_20 rfl rfl rfl ?_
      refine w_aload_n 0 dX4_loopholeMinutes_21 rfl rfl rfl ?_
      obtain ⟨r4, s5, h6, h⟩ := h.bd
      refine k_X4_allReadings ml_RX4_15 (Nat.le_of_ble_eq_true rfl) ⟨Nat.le_of_ble_eq_true rfl, Nat.le_of_ble_eq_true rfl⟩ dX4_loopholeMinutes_22 rfl h6 ?_
      refine w_iconst (1 : Int32) dX4_loopholeMinutes_25 ic_iconst_1 rfl ?_
      refine w_isub dX4_loopholeMinutes_26 rfl ?_
      obtain ⟨r7, s8, h9, h⟩ := h.bd
      refine k_X4_isHeld ml_RX4_19 (Nat.le_of_ble_eq_true rfl) ⟨Nat.le_of_ble_eq_true rfl, Nat.le_of_ble_eq_true rfl⟩ dX4_loopholeMinutes_27 rfl h9 ?_
      refine w_if_ne (tgt := 39) dX4_loopholeMinutes_30 (by decide) rfl (fun q => ?_) (fun q => ?_)
      · have h := h.ff q
        exact w_sub [0, 1, 2] rfl (b_X4_loopholeMinutes_39 K4 hK4 v1 v3 s8 h)
      · have h := h.tt q
        refine w_lload_n 1 dX4_loopholeMinutes_33 rfl rfl rfl ?_
        refine w_lconst (1 : Int64) dX4_loopholeMinutes_34 rfl rfl ?_
        refine w_iload_n 2 dX4_loopholeMinutes_35 rfl rfl rfl ?_
        refine w_lshl dX4_loopholeMinutes_36 rfl ?_
        refine w_lor dX4_loopholeMinutes_37 rfl ?_
        refine w_nmL (fun x10 ex10 => ?_)
        replace h := h.bnd ex10
        clear ex10
        refine w_lstore_n [(1, .long x10), (0, .ref (xd Γ 48)), (3, .int v3)] dX4_loopholeMinutes_38 rfl (by decide) rfl rfl ?_
        exact w_sub [1, 0, 2] rfl (b_X4_loopholeMinutes_39 K4 hK4 x10 v3 s8 h)
def f_X4_loopholeMinutes (σ : St) : Option (Int64 × St) :=
  itr (g_X4_loopholeMinutes_4) FU ((0 : Int64), (0 : Int32), σ)
theorem e_X4_loopholeMinutes {Γ : CX} (σ : St) (h : RR vL Γ (f_X4_loopholeMinutes σ)) : WW Γ cX4_loopholeMinutes 4 RX4 (some .long) rX4_loopholeMinutes σ 0 [(0, .ref (xd Γ 48))] [] := by
  unfold f_X4_loopholeMinutes at h
  refine w_lconst (0 : Int64) dX4_loopholeMinutes_0 rfl rfl ?_
  refine w_lstore_n [(1, .long (0 : Int64)), (0, .ref (xd Γ 48))] dX4_loopholeMinutes_1 rfl (by decide) rfl rfl ?_
  refine w_iconst (0 : Int32) dX4_loopholeMinutes_2 ic_iconst_0 rfl ?_
  refine w_istore_n [(3, .int (0 : Int32)), (1, .long (0 : Int64)), (0, .ref (xd Γ 48))] dX4_loopholeMinutes_3 rfl (by decide) rfl rfl ?_
  exact w_sub [2, 1, 0] rfl (l_X4_loopholeMinutes_4 FU (0 : Int64) (0 : Int32) σ h)
theorem c_X4_loopholeMinutes {l : Launch} {D : va_G} {cy : Nat → ClassId} {ad : Nat → Nat}  {σ σ' : St} {r : Int64} (hf : f_X4_loopholeMinutes σ = some (r, σ')) : CT l D cy ad yX4_loopholeMinutes cX4_loopholeMinutes 4 (some .long) rX4_loopholeMinutes [.ref (ad 48)] σ (some (.long r)) σ' :=
  ct_of (by decide) (Nat.le_of_ble_eq_true rfl) (fun p e s m args below meth c A => e_X4_loopholeMinutes (Γ := (p, l, e, rX4_loopholeMinutes, s, m, args, below, meth, c, D, cy, ad, A, 0, 0, MQ below (QC D cy ad (some (.long r)) σ' A) args s 0 0 A)) σ ⟨_, hf, rfl⟩)
theorem k_X4_loopholeMinutes {Γ : CX} {cc : ByteArray} {nL : Nat} {own : String} {ret : Option FieldType} {rm : Room} {σ σ' : St} {pc pc' idx : Nat} {lv : List (Nat × Value)} {rest : List Value}  {r : Int64} (hl : Cond.methodLink own idx yX4_loopholeMinutes ∈ TB) (hw : (rest.map fun v => v.category).sum ≤ 8) (hR : rX4_loopholeMinutes.frames + 1 ≤ rm.frames ∧ 8 + (4 + 11) + rX4_loopholeMinutes.locals ≤ rm.locals) (hd : decode cc pc = .ok (.invokevirtual idx, 3)) (hp : pc + 3 = pc') (hf : f_X4_loopholeMinutes σ = some (r, σ')) (h : WW Γ cc nL own ret rm σ' pc' lv (.long r :: rest)) : WW Γ cc nL own ret rm σ pc lv (.ref (xd Γ 48) :: rest) :=
  w_callV (nn := 0) (i := 48) (As := []) (v := (some (.long r))) (T := TX4) (N := 1) (c_X4_loopholeMinutes hf) hl mw_X4_loopholeMinutes (by decide +kernel) ⟨rfl, rfl⟩ hR (lt_lit (by decide)) cel_48 rfl rfl hw hd rfl hp h
/-! WarByHours.Peace.firstSafeMinute ()I -/
def rX4_firstSafeMinute : Room := { frames := 2, cells := 0, slots := 0, locals := 49 }
def g_X4_firstSafeMinute_2 (K2 : Int32 × St → Option (Int32 × St)) (x : Int32 × St) : Option (Int32 × St) := match x with
  | (v1, σ) =>
  if (59 : Int32) < v1 then
    some ((-1 : Int32), σ)
  else
    bd (f_X4_allReadings σ) fun r1 s2 =>
    bd (f_X4_isHeld v1 (r1 - (1 : Int32)) s2) fun r4 s5 =>
    if r4 = 0 then
      bnd (v1 + (1 : Int32)) fun x7 =>
      K2 (x7, s5)
    else
      some (v1, s5)
theorem l_X4_firstSafeMinute_2 {Γ : CX} : ∀ (n : Nat) (v1 : Int32) (σ : St), RR vI Γ (itr (g_X4_firstSafeMinute_2) n (v1, σ)) → WW Γ cX4_firstSafeMinute 2 RX4 (some .int) rX4_firstSafeMinute σ 2 [(0, .ref (xd Γ 48)), (1, .int v1)] [] := by
  intro n
  induction n with
  | zero => intro v1 σ h; exact RR.no h
  | succ n hK2 =>
  intro v1 σ h
  have h : RR vI Γ (g_X4_firstSafeMinute_2 (itr (g_X4_firstSafeMinute_2) n) (v1, σ)) := h
  generalize itr (g_X4_firstSafeMinute_2) n = K2 at h hK2
  unfold g_X4_firstSafeMinute_2 at h
  dsimp only at h
  refine w_iload_n 1 dX4_firstSafeMinute_2 rfl rfl rfl ?_
  refine w_bipush (59 : Int32) dX4_firstSafeMinute_3 ic_bipush_59 rfl ?_
  refine w_icmp_gt (tgt := 30) dX4_firstSafeMinute_5 (by decide) rfl (fun q => ?_) (fun q => ?_)
  · have h := h.tt q
    refine w_iconst (-1 : Int32) dX4_firstSafeMinute_30 ic_iconst_m1 rfl ?_
    exact w_ireturn dX4_firstSafeMinute_31 h
  · have h := h.ff q
    refine w_aload_n 0 dX4_firstSafeMinute_8 rfl rfl rfl ?_
    refine w_iload_n 1 dX4_firstSafeMinute_9 rfl rfl rfl ?_
    refine w_aload_n 0 dX4_firstSafeMinute_10 rfl rfl rfl ?_
    obtain ⟨r1, s2, h3, h⟩ := h.bd
    refine k_X4_allReadings ml_RX4_15 (Nat.le_of_ble_eq_true rfl) ⟨Nat.le_of_ble_eq_true rfl, Nat.le_of_ble_eq_true rfl⟩ dX4_firstSafeMinute_11 rfl h3 ?_
    refine w_iconst (1 : Int32) dX4_firstSafeMinute_14 ic_iconst_1 rfl ?_
    refine w_isub dX4_firstSafeMinute_15 rfl ?_
    obtain ⟨r4, s5, h6, h⟩ := h.bd
    refine k_X4_isHeld ml_RX4_19 (Nat.le_of_ble_eq_true rfl) ⟨Nat.le_of_ble_eq_true rfl, Nat.le_of_ble_eq_true rfl⟩ dX4_firstSafeMinute_16 rfl h6 ?_
    refine w_if_eq (tgt := 24) dX4_firstSafeMinute_19 (by decide) rfl (fun q => ?_) (fun q => ?_)
    · have h := h.tt q
      obtain ⟨x7, ex7⟩ : ∃ y : Int32, y = (v1 + (1 : Int32)) := ⟨_, rfl⟩
      replace h := h.bnd ex7
      refine w_iinc 1 x7 [(1, .int x7), (0, .ref (xd Γ 48))] dX4_firstSafeMinute_24 rfl (by rw [ex7, ic_iconst_1]) (by decide) rfl rfl ?_
      clear ex7
      refine w_goto (tgt := 2) dX4_firstSafeMinute_27 (by decide) ?_
      exact w_sub [1, 0] rfl (hK2 x7 s5 h)
    · have h := h.ff q
      refine w_iload_n 1 dX4_firstSafeMinute_22 rfl rfl rfl ?_
      exact w_ireturn dX4_firstSafeMinute_23 h
def f_X4_firstSafeMinute (σ : St) : Option (Int32 × St) :=
  itr (g_X4_firstSafeMinute_2) FU ((0 : Int32), σ)
theorem e_X4_firstSafeMinute {Γ : CX} (σ : St) (h : RR vI Γ (f_X4_firstSafeMinute σ)) : WW Γ cX4_firstSafeMinute 2 RX4 (some .int) rX4_firstSafeMinute σ 0 [(0, .ref (xd Γ 48))] [] := by
  unfold f_X4_firstSafeMinute at h
  refine w_iconst (0 : Int32) dX4_firstSafeMinute_0 ic_iconst_0 rfl ?_
  refine w_istore_n [(1, .int (0 : Int32)), (0, .ref (xd Γ 48))] dX4_firstSafeMinute_1 rfl (by decide) rfl rfl ?_
  exact w_sub [1, 0] rfl (l_X4_firstSafeMinute_2 FU (0 : Int32) σ h)
theorem c_X4_firstSafeMinute {l : Launch} {D : va_G} {cy : Nat → ClassId} {ad : Nat → Nat}  {σ σ' : St} {r : Int32} (hf : f_X4_firstSafeMinute σ = some (r, σ')) : CT l D cy ad yX4_firstSafeMinute cX4_firstSafeMinute 2 (some .int) rX4_firstSafeMinute [.ref (ad 48)] σ (some (.int r)) σ' :=
  ct_of (by decide) (Nat.le_of_ble_eq_true rfl) (fun p e s m args below meth c A => e_X4_firstSafeMinute (Γ := (p, l, e, rX4_firstSafeMinute, s, m, args, below, meth, c, D, cy, ad, A, 0, 0, MQ below (QC D cy ad (some (.int r)) σ' A) args s 0 0 A)) σ ⟨_, hf, rfl⟩)
theorem k_X4_firstSafeMinute {Γ : CX} {cc : ByteArray} {nL : Nat} {own : String} {ret : Option FieldType} {rm : Room} {σ σ' : St} {pc pc' idx : Nat} {lv : List (Nat × Value)} {rest : List Value}  {r : Int32} (hl : Cond.methodLink own idx yX4_firstSafeMinute ∈ TB) (hw : (rest.map fun v => v.category).sum ≤ 8) (hR : rX4_firstSafeMinute.frames + 1 ≤ rm.frames ∧ 8 + (2 + 11) + rX4_firstSafeMinute.locals ≤ rm.locals) (hd : decode cc pc = .ok (.invokevirtual idx, 3)) (hp : pc + 3 = pc') (hf : f_X4_firstSafeMinute σ = some (r, σ')) (h : WW Γ cc nL own ret rm σ' pc' lv (.int r :: rest)) : WW Γ cc nL own ret rm σ pc lv (.ref (xd Γ 48) :: rest) :=
  w_callV (nn := 0) (i := 48) (As := []) (v := (some (.int r))) (T := TX4) (N := 1) (c_X4_firstSafeMinute hf) hl mw_X4_firstSafeMinute (by decide +kernel) ⟨rfl, rfl⟩ hR (lt_lit (by decide)) cel_48 rfl rfl hw hd rfl hp h
/-! WarByHours.Peace.closingBounds (I)I -/
def rX4_closingBounds : Room := { frames := 2, cells := 0, slots := 0, locals := 49 }
def f_X4_closingBounds_57 (K20 : Int32 × Int32 × Int32 × Int32 × St → Option (Int32 × St)) (v1 : Int32) (v2 : Int32) (v3 : Int32) (v4 : Int32) (σ : St) : Option (Int32 × St) :=
  bnd (v4 + (1 : Int32)) fun x1 =>
  K20 (v1, v2, v3, x1, σ)
theorem b_X4_closingBounds_57 {Γ : CX} (K20 : Int32 × Int32 × Int32 × Int32 × St → Option (Int32 × St)) (hK20 : ∀ (v1 : Int32) (v2 : Int32) (v3 : Int32) (v4 : Int32) (σ : St), RR vI Γ (K20 (v1, v2, v3, v4, σ)) → WW Γ cX4_closingBounds 5 RX4 (some .int) rX4_closingBounds σ 20 [(0, .ref (xd Γ 48)), (1, .int v1), (2, .int v2), (3, .int v3), (4, .int v4)] []) (v1 : Int32) (v2 : Int32) (v3 : Int32) (v4 : Int32) (σ : St) (h : RR vI Γ (f_X4_closingBounds_57 K20 v1 v2 v3 v4 σ)) : WW Γ cX4_closingBounds 5 RX4 (some .int) rX4_closingBounds σ 57 [(0, .ref (xd Γ 48)), (1, .int v1), (2, .int v2), (3, .int v3), (4, .int v4)] [] := by
  unfold f_X4_closingBounds_57 at h
  obtain ⟨x1, ex1⟩ : ∃ y : Int32, y = (v4 + (1 : Int32)) := ⟨_, rfl⟩
  replace h := h.bnd ex1
  refine w_iinc 4 x1 [(4, .int x1), (0, .ref (xd Γ 48)), (1, .int v1), (2, .int v2), (3, .int v3)] dX4_closingBounds_57 rfl (by rw [ex1, ic_iconst_1]) (by decide) rfl rfl ?_
  clear ex1
  refine w_goto (tgt := 20) dX4_closingBounds_60 (by decide) ?_
  exact w_sub [1, 2, 3, 4, 0] rfl (hK20 v1 v2 v3 x1 σ h)
def g_X4_closingBounds_20 (K20 : Int32 × Int32 × Int32 × Int32 × St → Option (Int32 × St)) (x : Int32 × Int32 × Int32 × Int32 × St) : Option (Int32 × St) := match x with
  | (v1, v2, v3, v4, σ) =>
  bd (f_X4_allReadings σ) fun r1 s2 =>
  if r1 ≤ v4 then
    some (v2, s2)
  else
    bd (f_J6_bitCount_0f7a4 v4 s2) fun r4 s5 =>
    if v3 ≤ r4 then
      f_X4_closingBounds_57 K20 v1 v2 v3 v4 s5
    else
      bd (f_X4_isHeld v1 v4 s5) fun r7 s8 =>
      if r7 = 0 then
        bd (f_J6_bitCount_0f7a4 v4 s8) fun r10 s11 =>
        f_X4_closingBounds_57 K20 v1 v4 r10 v4 s11
      else
        f_X4_closingBounds_57 K20 v1 v2 v3 v4 s8
theorem l_X4_closingBounds_20 {Γ : CX} : ∀ (n : Nat) (v1 : Int32) (v2 : Int32) (v3 : Int32) (v4 : Int32) (σ : St), RR vI Γ (itr (g_X4_closingBounds_20) n (v1, v2, v3, v4, σ)) → WW Γ cX4_closingBounds 5 RX4 (some .int) rX4_closingBounds σ 20 [(0, .ref (xd Γ 48)), (1, .int v1), (2, .int v2), (3, .int v3), (4, .int v4)] [] := by
  intro n
  induction n with
  | zero => intro v1 v2 v3 v4 σ h; exact RR.no h
  | succ n hK20 =>
  intro v1 v2 v3 v4 σ h
  have h : RR vI Γ (g_X4_closingBounds_20 (itr (g_X4_closingBounds_20) n) (v1, v2, v3, v4, σ)) := h
  generalize itr (g_X4_closingBounds_20) n = K20 at h hK20
  unfold g_X4_closingBounds_20 at h
  dsimp only at h
  refine w_iload 4 dX4_closingBounds_20 rfl rfl ?_
  refine w_aload_n 0 dX4_closingBounds_22 rfl rfl rfl ?_
  obtain ⟨r1, s2, h3, h⟩ := h.bd
  refine k_X4_allReadings ml_RX4_15 (Nat.le_of_ble_eq_true rfl) ⟨Nat.le_of_ble_eq_true rfl, Nat.le_of_ble_eq_true rfl⟩ dX4_closingBounds_23 rfl h3 ?_
  refine w_icmp_ge (tgt := 63) dX4_closingBounds_26 (by decide) rfl (fun q => ?_) (fun q => ?_)
  · have h := h.tt q
    refine w_iload_n 2 dX4_closingBounds_63 rfl rfl rfl ?_
    exact w_ireturn dX4_closingBounds_64 h
  · have h := h.ff q
    refine w_iload 4 dX4_closingBounds_29 rfl rfl ?_
    obtain ⟨r4, s5, h6, h⟩ := h.bd
    refine k_J6_bitCount_0f7a4 ml_RX4_35 (Nat.le_of_ble_eq_true rfl) ⟨Nat.le_of_ble_eq_true rfl, Nat.le_of_ble_eq_true rfl⟩ dX4_closingBounds_31 rfl h6 ?_
    refine w_iload_n 3 dX4_closingBounds_34 rfl rfl rfl ?_
    refine w_icmp_ge (tgt := 57) dX4_closingBounds_35 (by decide) rfl (fun q => ?_) (fun q => ?_)
    · have h := h.tt q
      exact w_sub [0, 1, 2, 3, 4] rfl (b_X4_closingBounds_57 K20 hK20 v1 v2 v3 v4 s5 h)
    · have h := h.ff q
      refine w_aload_n 0 dX4_closingBounds_38 rfl rfl rfl ?_
      refine w_iload_n 1 dX4_closingBounds_39 rfl rfl rfl ?_
      refine w_iload 4 dX4_closingBounds_40 rfl rfl ?_
      obtain ⟨r7, s8, h9, h⟩ := h.bd
      refine k_X4_isHeld ml_RX4_19 (Nat.le_of_ble_eq_true rfl) ⟨Nat.le_of_ble_eq_true rfl, Nat.le_of_ble_eq_true rfl⟩ dX4_closingBounds_42 rfl h9 ?_
      refine w_if_ne (tgt := 57) dX4_closingBounds_45 (by decide) rfl (fun q => ?_) (fun q => ?_)
      · have h := h.ff q
        exact w_sub [0, 1, 2, 3, 4] rfl (b_X4_closingBounds_57 K20 hK20 v1 v2 v3 v4 s8 h)
      · have h := h.tt q
        refine w_iload 4 dX4_closingBounds_48 rfl rfl ?_
        refine w_istore_n [(2, .int v4), (0, .ref (xd Γ 48)), (1, .int v1), (3, .int v3), (4, .int v4)] dX4_closingBounds_50 rfl (by decide) rfl rfl ?_
        refine w_iload 4 dX4_closingBounds_51 rfl rfl ?_
        obtain ⟨r10, s11, h12, h⟩ := h.bd
        refine k_J6_bitCount_0f7a4 ml_RX4_35 (Nat.le_of_ble_eq_true rfl) ⟨Nat.le_of_ble_eq_true rfl, Nat.le_of_ble_eq_true rfl⟩ dX4_closingBounds_53 rfl h12 ?_
        refine w_istore_n [(3, .int r10), (2, .int v4), (0, .ref (xd Γ 48)), (1, .int v1), (4, .int v4)] dX4_closingBounds_56 rfl (by decide) rfl rfl ?_
        exact w_sub [2, 3, 1, 0, 4] rfl (b_X4_closingBounds_57 K20 hK20 v1 v4 r10 v4 s11 h)
def f_X4_closingBounds (p0 : Int32) (σ : St) : Option (Int32 × St) :=
  bnd ((((2 : Int32) * (gf σ 9 3)) + (1 : Int32))) fun x1 =>
  itr (g_X4_closingBounds_20) FU (p0, (-1 : Int32), x1, (0 : Int32), σ)
theorem e_X4_closingBounds {Γ : CX} (p0 : Int32) (σ : St) (h : RR vI Γ (f_X4_closingBounds p0 σ)) : WW Γ cX4_closingBounds 5 RX4 (some .int) rX4_closingBounds σ 0 [(0, .ref (xd Γ 48)), (1, .int p0)] [] := by
  unfold f_X4_closingBounds at h
  refine w_iconst (-1 : Int32) dX4_closingBounds_0 ic_iconst_m1 rfl ?_
  refine w_istore_n [(2, .int (-1 : Int32)), (0, .ref (xd Γ 48)), (1, .int p0)] dX4_closingBounds_1 rfl (by decide) rfl rfl ?_
  refine w_iconst (2 : Int32) dX4_closingBounds_2 ic_iconst_2 rfl ?_
  refine w_aload_n 1 dX4_closingBounds_3 rfl rfl rfl ?_
  refine gf_RX4_9 dX4_closingBounds_4 rfl ?_
  refine gf_RX4_23 (i := 1) (isW_lit (by decide)) dX4_closingBounds_7 rfl ?_
  refine gf_RX4_29 (i := 9) (isT_lit (by decide)) dX4_closingBounds_10 rfl ?_
  refine w_imul dX4_closingBounds_13 rfl ?_
  refine w_iconst (1 : Int32) dX4_closingBounds_14 ic_iconst_1 rfl ?_
  refine w_iadd dX4_closingBounds_15 rfl ?_
  refine w_nmI (fun x1 ex1 => ?_)
  replace h := h.bnd ex1
  clear ex1
  refine w_istore_n [(3, .int x1), (2, .int (-1 : Int32)), (0, .ref (xd Γ 48)), (1, .int p0)] dX4_closingBounds_16 rfl (by decide) rfl rfl ?_
  refine w_iconst (0 : Int32) dX4_closingBounds_17 ic_iconst_0 rfl ?_
  refine w_istore [(4, .int (0 : Int32)), (3, .int x1), (2, .int (-1 : Int32)), (0, .ref (xd Γ 48)), (1, .int p0)] dX4_closingBounds_18 (by decide) rfl rfl ?_
  exact w_sub [3, 4, 2, 1, 0] rfl (l_X4_closingBounds_20 FU p0 (-1 : Int32) x1 (0 : Int32) σ h)
theorem c_X4_closingBounds {l : Launch} {D : va_G} {cy : Nat → ClassId} {ad : Nat → Nat} {p0 : Int32} {σ σ' : St} {r : Int32} (hf : f_X4_closingBounds p0 σ = some (r, σ')) : CT l D cy ad yX4_closingBounds cX4_closingBounds 5 (some .int) rX4_closingBounds [.ref (ad 48), .int p0] σ (some (.int r)) σ' :=
  ct_of (by decide) (Nat.le_of_ble_eq_true rfl) (fun p e s m args below meth c A => e_X4_closingBounds (Γ := (p, l, e, rX4_closingBounds, s, m, args, below, meth, c, D, cy, ad, A, 0, 0, MQ below (QC D cy ad (some (.int r)) σ' A) args s 0 0 A)) p0 σ ⟨_, hf, rfl⟩)
theorem k_X4_closingBounds {Γ : CX} {cc : ByteArray} {nL : Nat} {own : String} {ret : Option FieldType} {rm : Room} {σ σ' : St} {pc pc' idx : Nat} {lv : List (Nat × Value)} {rest : List Value} {p0 : Int32} {r : Int32} (hl : Cond.methodLink own idx yX4_closingBounds ∈ TB) (hw : (rest.map fun v => v.category).sum ≤ 8) (hR : rX4_closingBounds.frames + 1 ≤ rm.frames ∧ 8 + (5 + 11) + rX4_closingBounds.locals ≤ rm.locals) (hd : decode cc pc = .ok (.invokevirtual idx, 3)) (hp : pc + 3 = pc') (hf : f_X4_closingBounds p0 σ = some (r, σ')) (h : WW Γ cc nL own ret rm σ' pc' lv (.int r :: rest)) : WW Γ cc nL own ret rm σ pc lv (.int p0 :: .ref (xd Γ 48) :: rest) :=
  w_callV (nn := 1) (i := 48) (As := [.int p0]) (v := (some (.int r))) (T := TX4) (N := 1) (c_X4_closingBounds hf) hl mw_X4_closingBounds (by decide +kernel) ⟨rfl, rfl⟩ hR (lt_lit (by decide)) cel_48 rfl rfl hw hd rfl hp h
/-! WarByHours.Places.settle (II)V -/
def rX5_settle : Room := { frames := 2, cells := 0, slots := 0, locals := 50 }
def f_X5_settle_88 (K8 : Int32 × Int32 × Int32 × St → Option (Unit × St)) (K16 : Int32 × Int32 × Int32 × Int32 × St → Option (Unit × St)) (v1 : Int32) (v2 : Int32) (v3 : Int32) (v4 : Int32) (σ : St) : Option (Unit × St) :=
  bnd (v4 + (1 : Int32)) fun x1 =>
  K16 (v1, v2, v3, x1, σ)
theorem b_X5_settle_88 {Γ : CX} (K8 : Int32 × Int32 × Int32 × St → Option (Unit × St)) (K16 : Int32 × Int32 × Int32 × Int32 × St → Option (Unit × St)) (hK8 : ∀ (v1 : Int32) (v2 : Int32) (v3 : Int32) (σ : St), RR vU Γ (K8 (v1, v2, v3, σ)) → WW Γ cX5_settle 6 RX5 none rX5_settle σ 8 [(0, .ref (xd Γ 43)), (1, .int v1), (2, .int v2), (3, .int v3)] []) (hK16 : ∀ (v1 : Int32) (v2 : Int32) (v3 : Int32) (v4 : Int32) (σ : St), RR vU Γ (K16 (v1, v2, v3, v4, σ)) → WW Γ cX5_settle 6 RX5 none rX5_settle σ 16 [(0, .ref (xd Γ 43)), (1, .int v1), (2, .int v2), (3, .int v3), (4, .int v4)] []) (v1 : Int32) (v2 : Int32) (v3 : Int32) (v4 : Int32) (σ : St) (h : RR vU Γ (f_X5_settle_88 K8 K16 v1 v2 v3 v4 σ)) : WW Γ cX5_settle 6 RX5 none rX5_settle σ 88 [(0, .ref (xd Γ 43)), (1, .int v1), (2, .int v2), (3, .int v3), (4, .int v4)] [] := by
  unfold f_X5_settle_88 at h
  obtain ⟨x1, ex1⟩ : ∃ y : Int32, y = (v4 + (1 : Int32)) := ⟨_, rfl⟩
  replace h := h.bnd ex1
  refine w_iinc 4 x1 [(4, .int x1), (0, .ref (xd Γ 43)), (1, .int v1), (2, .int v2), (3, .int v3)] dX5_settle_88 rfl (by rw [ex1, ic_iconst_1]) (by decide) rfl rfl ?_
  clear ex1
  refine w_goto (tgt := 16) dX5_settle_91 (by decide) ?_
  exact w_sub [1, 2, 3, 4, 0] rfl (hK16 v1 v2 v3 x1 σ h)
def g_X5_settle_16 (K8 : Int32 × Int32 × Int32 × St → Option (Unit × St)) (K16 : Int32 × Int32 × Int32 × Int32 × St → Option (Unit × St)) (x : Int32 × Int32 × Int32 × Int32 × St) : Option (Unit × St) := match x with
  | (v1, v2, v3, v4, σ) =>
  if v1 < (v3 + v4) then
    bnd (v3 + (1 : Int32)) fun x1 =>
    K8 (v1, v2, x1, σ)
  else
    bd (f_X5_put 46 v3 v4 v1 σ) fun _ s3 =>
    bd (f_X5_meet v2 s3) fun r5 s6 =>
    if r5 ≤ (gf s6 43 0) then
      f_X5_settle_88 K8 K16 v1 v2 v3 v4 s6
    else
      bnd (sf s6 43 0 r5) fun s8 =>
      bd (f_X5_put 44 v3 v4 v1 s8) fun _ s10 =>
      gd (inb (0 : Int32) (ln 47)) <|
      gd (inb (1 : Int32) (ln 47)) <|
      bd (f_X5_put 45 (gr s10 47 (0 : Int32).toNatClampNeg) (gr s10 47 (1 : Int32).toNatClampNeg) v2 s10) fun _ s15 =>
      f_X5_settle_88 K8 K16 v1 v2 v3 v4 s15
theorem l_X5_settle_16 {Γ : CX} (K8 : Int32 × Int32 × Int32 × St → Option (Unit × St)) (hK8 : ∀ (v1 : Int32) (v2 : Int32) (v3 : Int32) (σ : St), RR vU Γ (K8 (v1, v2, v3, σ)) → WW Γ cX5_settle 6 RX5 none rX5_settle σ 8 [(0, .ref (xd Γ 43)), (1, .int v1), (2, .int v2), (3, .int v3)] []) : ∀ (n : Nat) (v1 : Int32) (v2 : Int32) (v3 : Int32) (v4 : Int32) (σ : St), RR vU Γ (itr (g_X5_settle_16 K8) n (v1, v2, v3, v4, σ)) → WW Γ cX5_settle 6 RX5 none rX5_settle σ 16 [(0, .ref (xd Γ 43)), (1, .int v1), (2, .int v2), (3, .int v3), (4, .int v4)] [] := by
  intro n
  induction n with
  | zero => intro v1 v2 v3 v4 σ h; exact RR.no h
  | succ n hK16 =>
  intro v1 v2 v3 v4 σ h
  have h : RR vU Γ (g_X5_settle_16 K8 (itr (g_X5_settle_16 K8) n) (v1, v2, v3, v4, σ)) := h
  generalize itr (g_X5_settle_16 K8) n = K16 at h hK16
  unfold g_X5_settle_16 at h
  dsimp only at h
  refine w_iload_n 3 dX5_settle_16 rfl rfl rfl ?_
  refine w_iload 4 dX5_settle_17 rfl rfl ?_
  refine w_iadd dX5_settle_19 rfl ?_
  refine w_iload_n 1 dX5_settle_20 rfl rfl rfl ?_
  refine w_icmp_gt (tgt := 94) dX5_settle_21 (by decide) rfl (fun q => ?_) (fun q => ?_)
  · have h := h.tt q
    obtain ⟨x1, ex1⟩ : ∃ y : Int32, y = (v3 + (1 : Int32)) := ⟨_, rfl⟩
    replace h := h.bnd ex1
    refine w_iinc 3 x1 [(3, .int x1), (0, .ref (xd Γ 43)), (1, .int v1), (2, .int v2), (4, .int v4)] dX5_settle_94 rfl (by rw [ex1, ic_iconst_1]) (by decide) rfl rfl ?_
    clear ex1
    refine w_goto (tgt := 8) dX5_settle_97 (by decide) ?_
    exact w_sub [1, 2, 3, 0] rfl (hK8 v1 v2 x1 σ h)
  · have h := h.ff q
    refine w_aload_n 0 dX5_settle_24 rfl rfl rfl ?_
    refine gf_RX5_16 dX5_settle_25 rfl ?_
    refine w_iload_n 3 dX5_settle_28 rfl rfl rfl ?_
    refine w_iload 4 dX5_settle_29 rfl rfl ?_
    refine w_iload_n 1 dX5_settle_31 rfl rfl rfl ?_
    obtain ⟨r2, s3, h4, h⟩ := h.bd
    refine k_X5_put ml_RX5_26 (Nat.le_of_ble_eq_true rfl) ⟨Nat.le_of_ble_eq_true rfl, Nat.le_of_ble_eq_true rfl⟩ dX5_settle_32 rfl h4 ?_
    refine w_aload_n 0 dX5_settle_35 rfl rfl rfl ?_
    refine w_iload_n 2 dX5_settle_36 rfl rfl rfl ?_
    obtain ⟨r5, s6, h7, h⟩ := h.bd
    refine k_X5_meet ml_RX5_30 (Nat.le_of_ble_eq_true rfl) ⟨Nat.le_of_ble_eq_true rfl, Nat.le_of_ble_eq_true rfl⟩ dX5_settle_37 rfl h7 ?_
    refine w_istore [(5, .int r5), (0, .ref (xd Γ 43)), (1, .int v1), (2, .int v2), (3, .int v3), (4, .int v4)] dX5_settle_40 (by decide) rfl rfl ?_
    refine w_iload 0 dX5_settle_42 rfl rfl ?_
    refine w_aload_n 1 dX5_settle_44 rfl rfl rfl ?_
    refine gf_RX5_22 dX5_settle_45 rfl ?_
    refine w_icmp_le (tgt := 88) dX5_settle_48 (by decide) rfl (fun q => ?_) (fun q => ?_)
    · have h := h.tt q
      exact w_sub [1, 2, 3, 4, 5] rfl (b_X5_settle_88 K8 K16 hK8 hK16 v1 v2 v3 v4 s6 h)
    · have h := h.ff q
      refine w_aload_n 1 dX5_settle_51 rfl rfl rfl ?_
      refine w_iload 0 dX5_settle_52 rfl rfl ?_
      refine pf_RX5_22 dX5_settle_54 rfl ?_
      obtain ⟨s8, es8⟩ : ∃ y : St, y = (sf s6 43 0 r5) := ⟨_, rfl⟩
      rw [← es8]
      replace h := h.bnd es8
      clear es8
      refine w_aload_n 1 dX5_settle_57 rfl rfl rfl ?_
      refine gf_RX5_9 dX5_settle_58 rfl ?_
      refine w_iload_n 4 dX5_settle_61 rfl rfl rfl ?_
      refine w_iload 5 dX5_settle_62 rfl rfl ?_
      refine w_iload_n 2 dX5_settle_64 rfl rfl rfl ?_
      obtain ⟨r9, s10, h11, h⟩ := h.bd
      refine k_X5_put ml_RX5_26 (Nat.le_of_ble_eq_true rfl) ⟨Nat.le_of_ble_eq_true rfl, Nat.le_of_ble_eq_true rfl⟩ dX5_settle_65 rfl h11 ?_
      refine w_aload_n 1 dX5_settle_68 rfl rfl rfl ?_
      refine gf_RX5_13 dX5_settle_69 rfl ?_
      refine w_aload_n 1 dX5_settle_72 rfl rfl rfl ?_
      refine gf_RX5_19 dX5_settle_73 rfl ?_
      refine w_iconst (0 : Int32) dX5_settle_76 ic_iconst_0 rfl ?_
      obtain ⟨hi12, h⟩ := h.gd
      refine w_iald (i := 47) (lt_lit (by decide)) rfl hi12 dX5_settle_77 rfl ?_
      refine w_aload_n 1 dX5_settle_78 rfl rfl rfl ?_
      refine gf_RX5_19 dX5_settle_79 rfl ?_
      refine w_iconst (1 : Int32) dX5_settle_82 ic_iconst_1 rfl ?_
      obtain ⟨hi13, h⟩ := h.gd
      refine w_iald (i := 47) (lt_lit (by decide)) rfl hi13 dX5_settle_83 rfl ?_
      refine w_iload_n 3 dX5_settle_84 rfl rfl rfl ?_
      obtain ⟨r14, s15, h16, h⟩ := h.bd
      refine k_X5_put ml_RX5_26 (Nat.le_of_ble_eq_true rfl) ⟨Nat.le_of_ble_eq_true rfl, Nat.le_of_ble_eq_true rfl⟩ dX5_settle_85 rfl h16 ?_
      exact w_sub [1, 2, 3, 4, 5] rfl (b_X5_settle_88 K8 K16 hK8 hK16 v1 v2 v3 v4 s15 h)
def g_X5_settle_8 (K8 : Int32 × Int32 × Int32 × St → Option (Unit × St)) (x : Int32 × Int32 × Int32 × St) : Option (Unit × St) := match x with
  | (v1, v2, v3, σ) =>
  if v1 < v3 then
    some ((), σ)
  else
    itr (g_X5_settle_16 K8) FU (v1, v2, v3, (0 : Int32), σ)
theorem l_X5_settle_8 {Γ : CX} : ∀ (n : Nat) (v1 : Int32) (v2 : Int32) (v3 : Int32) (σ : St), RR vU Γ (itr (g_X5_settle_8) n (v1, v2, v3, σ)) → WW Γ cX5_settle 6 RX5 none rX5_settle σ 8 [(0, .ref (xd Γ 43)), (1, .int v1), (2, .int v2), (3, .int v3)] [] := by
  intro n
  induction n with
  | zero => intro v1 v2 v3 σ h; exact RR.no h
  | succ n hK8 =>
  intro v1 v2 v3 σ h
  have h : RR vU Γ (g_X5_settle_8 (itr (g_X5_settle_8) n) (v1, v2, v3, σ)) := h
  generalize itr (g_X5_settle_8) n = K8 at h hK8
  unfold g_X5_settle_8 at h
  dsimp only at h
  refine w_iload_n 3 dX5_settle_8 rfl rfl rfl ?_
  refine w_iload_n 1 dX5_settle_9 rfl rfl rfl ?_
  refine w_icmp_gt (tgt := 100) dX5_settle_10 (by decide) rfl (fun q => ?_) (fun q => ?_)
  · have h := h.tt q
    exact w_return dX5_settle_100 h
  · have h := h.ff q
    refine w_iconst (0 : Int32) dX5_settle_13 ic_iconst_0 rfl ?_
    refine w_istore [(4, .int (0 : Int32)), (0, .ref (xd Γ 43)), (1, .int v1), (2, .int v2), (3, .int v3)] dX5_settle_14 (by decide) rfl rfl ?_
    exact w_sub [1, 2, 3, 4, 0] rfl (l_X5_settle_16 K8 hK8 FU v1 v2 v3 (0 : Int32) σ h)
def f_X5_settle (p0 : Int32) (p1 : Int32) (σ : St) : Option (Unit × St) :=
  bnd (sf σ 43 0 (-4 : Int32)) fun s1 =>
  itr (g_X5_settle_8) FU (p0, p1, (0 : Int32), s1)
theorem e_X5_settle {Γ : CX} (p0 : Int32) (p1 : Int32) (σ : St) (h : RR vU Γ (f_X5_settle p0 p1 σ)) : WW Γ cX5_settle 6 RX5 none rX5_settle σ 0 [(0, .ref (xd Γ 43)), (1, .int p0), (2, .int p1)] [] := by
  unfold f_X5_settle at h
  refine w_aload_n 0 dX5_settle_0 rfl rfl rfl ?_
  refine w_bipush (-4 : Int32) dX5_settle_1 ic_bipush_m4 rfl ?_
  refine pf_RX5_22 dX5_settle_3 rfl ?_
  obtain ⟨s1, es1⟩ : ∃ y : St, y = (sf σ 43 0 (-4 : Int32)) := ⟨_, rfl⟩
  rw [← es1]
  replace h := h.bnd es1
  clear es1
  refine w_iconst (0 : Int32) dX5_settle_6 ic_iconst_0 rfl ?_
  refine w_istore_n [(3, .int (0 : Int32)), (0, .ref (xd Γ 43)), (1, .int p0), (2, .int p1)] dX5_settle_7 rfl (by decide) rfl rfl ?_
  exact w_sub [1, 2, 3, 0] rfl (l_X5_settle_8 FU p0 p1 (0 : Int32) s1 h)
theorem c_X5_settle {l : Launch} {D : va_G} {cy : Nat → ClassId} {ad : Nat → Nat} {p0 : Int32} {p1 : Int32} {σ σ' : St} {r : Unit} (hf : f_X5_settle p0 p1 σ = some (r, σ')) : CT l D cy ad yX5_settle cX5_settle 6 none rX5_settle [.ref (ad 43), .int p0, .int p1] σ none σ' :=
  ct_of (by decide) (Nat.le_of_ble_eq_true rfl) (fun p e s m args below meth c A => e_X5_settle (Γ := (p, l, e, rX5_settle, s, m, args, below, meth, c, D, cy, ad, A, 0, 0, MQ below (QC D cy ad none σ' A) args s 0 0 A)) p0 p1 σ ⟨_, hf, rfl⟩)
theorem k_X5_settle {Γ : CX} {cc : ByteArray} {nL : Nat} {own : String} {ret : Option FieldType} {rm : Room} {σ σ' : St} {pc pc' idx : Nat} {lv : List (Nat × Value)} {rest : List Value} {p0 : Int32} {p1 : Int32} {r : Unit} (hl : Cond.methodLink own idx yX5_settle ∈ TB) (hw : (rest.map fun v => v.category).sum ≤ 8) (hR : rX5_settle.frames + 1 ≤ rm.frames ∧ 8 + (6 + 11) + rX5_settle.locals ≤ rm.locals) (hd : decode cc pc = .ok (.invokevirtual idx, 3)) (hp : pc + 3 = pc') (hf : f_X5_settle p0 p1 σ = some (r, σ')) (h : WW Γ cc nL own ret rm σ' pc' lv (rest)) : WW Γ cc nL own ret rm σ pc lv (.int p1 :: .int p0 :: .ref (xd Γ 43) :: rest) :=
  w_callV (nn := 2) (i := 43) (As := [.int p0, .int p1]) (v := none) (T := TX5) (N := 5) (c_X5_settle hf) hl mw_X5_settle (by decide +kernel) ⟨rfl, rfl⟩ hR (lt_lit (by decide)) cel_43 rfl rfl hw hd rfl hp h
/-! WarByHours.Reader.begin (LWarByHours$Table;)V -/
def rX6_begin : Room := { frames := 2, cells := 0, slots := 0, locals := 43 }
def f_X6_begin (u0 : Nat) (σ : St) : Option (Unit × St) :=
  gd (isT σ u0) <|
  bd (f_X9_isFull u0 σ) fun r1 s2 =>
  if r1 = 0 then
    bd (f_X9_add u0 s2) fun _ s5 =>
    bd (f_X6_advance s5) fun _ s8 =>
    some ((), s8)
  else
    bd (f_X6_blame (3 : Int32) s2) fun _ s11 =>
    some ((), s11)
theorem e_X6_begin {Γ : CX} (u0 : Nat) (σ : St) (h : RR vU Γ (f_X6_begin u0 σ)) : WW Γ cX6_begin 2 RX6 none rX6_begin σ 0 [(0, .ref (xd Γ 29)), (1, .ref (xd Γ u0))] [] := by
  unfold f_X6_begin at h
  obtain ⟨hg_u0_σ, h⟩ := h.gd
  refine w_aload_n 1 dX6_begin_0 rfl rfl rfl ?_
  obtain ⟨r1, s2, h3, h⟩ := h.bd
  refine k_X9_isFull ml_RX6_176 (Nat.le_of_ble_eq_true rfl) ⟨Nat.le_of_ble_eq_true rfl, Nat.le_of_ble_eq_true rfl⟩ dX6_begin_1 rfl h3 ?_
  refine w_if_eq (tgt := 13) dX6_begin_4 (by decide) rfl (fun q => ?_) (fun q => ?_)
  · have h := h.tt q
    refine w_aload_n 1 dX6_begin_13 rfl rfl rfl ?_
    obtain ⟨r4, s5, h6, h⟩ := h.bd
    refine k_X9_add ml_RX6_180 (Nat.le_of_ble_eq_true rfl) ⟨Nat.le_of_ble_eq_true rfl, Nat.le_of_ble_eq_true rfl⟩ dX6_begin_14 rfl h6 ?_
    refine w_aload_n 0 dX6_begin_17 rfl rfl rfl ?_
    obtain ⟨r7, s8, h9, h⟩ := h.bd
    refine k_X6_advance ml_RX6_37 (Nat.le_of_ble_eq_true rfl) ⟨Nat.le_of_ble_eq_true rfl, Nat.le_of_ble_eq_true rfl⟩ dX6_begin_18 rfl h9 ?_
    exact w_return dX6_begin_21 h
  · have h := h.ff q
    refine w_aload_n 0 dX6_begin_7 rfl rfl rfl ?_
    refine w_iconst (3 : Int32) dX6_begin_8 ic_iconst_3 rfl ?_
    obtain ⟨r10, s11, h12, h⟩ := h.bd
    refine k_X6_blame ml_RX6_94 (Nat.le_of_ble_eq_true rfl) ⟨Nat.le_of_ble_eq_true rfl, Nat.le_of_ble_eq_true rfl⟩ dX6_begin_9 rfl h12 ?_
    exact w_return dX6_begin_12 h
theorem c_X6_begin {l : Launch} {D : va_G} {cy : Nat → ClassId} {ad : Nat → Nat} {u0 : Nat} {σ σ' : St} {r : Unit} (hf : f_X6_begin u0 σ = some (r, σ')) : CT l D cy ad yX6_begin cX6_begin 2 none rX6_begin [.ref (ad 29), .ref (ad u0)] σ none σ' :=
  ct_of (by decide) (Nat.le_of_ble_eq_true rfl) (fun p e s m args below meth c A => e_X6_begin (Γ := (p, l, e, rX6_begin, s, m, args, below, meth, c, D, cy, ad, A, 0, 0, MQ below (QC D cy ad none σ' A) args s 0 0 A)) u0 σ ⟨_, hf, rfl⟩)
theorem k_X6_begin {Γ : CX} {cc : ByteArray} {nL : Nat} {own : String} {ret : Option FieldType} {rm : Room} {σ σ' : St} {pc pc' idx : Nat} {lv : List (Nat × Value)} {rest : List Value} {u0 : Nat} {r : Unit} (hl : Cond.methodLink own idx yX6_begin ∈ TB) (hw : (rest.map fun v => v.category).sum ≤ 8) (hR : rX6_begin.frames + 1 ≤ rm.frames ∧ 8 + (2 + 11) + rX6_begin.locals ≤ rm.locals) (hd : decode cc pc = .ok (.invokevirtual idx, 3)) (hp : pc + 3 = pc') (hf : f_X6_begin u0 σ = some (r, σ')) (h : WW Γ cc nL own ret rm σ' pc' lv (rest)) : WW Γ cc nL own ret rm σ pc lv (.ref (xd Γ u0) :: .ref (xd Γ 29) :: rest) :=
  w_callV (nn := 1) (i := 29) (As := [.ref (xd Γ u0)]) (v := none) (T := TX6) (N := 9) (c_X6_begin hf) hl mw_X6_begin (by decide +kernel) ⟨rfl, rfl⟩ hR (lt_lit (by decide)) cel_29 rfl rfl hw hd rfl hp h
/-! WarByHours.Reader.number (II)I -/
def rX6_number : Room := { frames := 2, cells := 0, slots := 0, locals := 43 }
def f_X6_number_30 (σ : St) : Option (Int32 × St) :=
  bd (f_X6_blame (2 : Int32) σ) fun _ s2 =>
  some ((0 : Int32), s2)
theorem b_X6_number_30 {Γ : CX} (σ : St) (h : RR vI Γ (f_X6_number_30 σ)) : WW Γ cX6_number 4 RX6 (some .int) rX6_number σ 30 [(0, .ref (xd Γ 29))] [] := by
  unfold f_X6_number_30 at h
  refine w_aload_n 0 dX6_number_30 rfl rfl rfl ?_
  refine w_iconst (2 : Int32) dX6_number_31 ic_iconst_2 rfl ?_
  obtain ⟨r1, s2, h3, h⟩ := h.bd
  refine k_X6_blame ml_RX6_94 (Nat.le_of_ble_eq_true rfl) ⟨Nat.le_of_ble_eq_true rfl, Nat.le_of_ble_eq_true rfl⟩ dX6_number_32 rfl h3 ?_
  refine w_iconst (0 : Int32) dX6_number_35 ic_iconst_0 rfl ?_
  exact w_ireturn dX6_number_36 h
def f_X6_number (p0 : Int32) (p1 : Int32) (σ : St) : Option (Int32 × St) :=
  if (gf σ 29 7) = (3 : Int32) then
    bnd ((gf σ 29 8)) fun x1 =>
    if x1 < p0 then
      f_X6_number_30 σ
    else
      if x1 ≤ p1 then
        bd (f_X6_advance σ) fun _ s3 =>
        some (x1, s3)
      else
        f_X6_number_30 σ
  else
    bd (f_X6_blame (1 : Int32) σ) fun _ s6 =>
    some ((0 : Int32), s6)
theorem e_X6_number {Γ : CX} (p0 : Int32) (p1 : Int32) (σ : St) (h : RR vI Γ (f_X6_number p0 p1 σ)) : WW Γ cX6_number 4 RX6 (some .int) rX6_number σ 0 [(0, .ref (xd Γ 29)), (1, .int p0), (2, .int p1)] [] := by
  unfold f_X6_number at h
  refine w_aload_n 0 dX6_number_0 rfl rfl rfl ?_
  refine gf_RX6_40 dX6_number_1 rfl ?_
  refine w_iconst (3 : Int32) dX6_number_4 ic_iconst_3 rfl ?_
  refine w_icmp_eq (tgt := 15) dX6_number_5 (by decide) rfl (fun q => ?_) (fun q => ?_)
  · have h := h.tt q
    refine w_aload_n 0 dX6_number_15 rfl rfl rfl ?_
    refine gf_RX6_183 dX6_number_16 rfl ?_
    refine w_nmI (fun x1 ex1 => ?_)
    replace h := h.bnd ex1
    clear ex1
    refine w_istore_n [(3, .int x1), (0, .ref (xd Γ 29)), (1, .int p0), (2, .int p1)] dX6_number_19 rfl (by decide) rfl rfl ?_
    refine w_iload_n 0 dX6_number_20 rfl rfl rfl ?_
    refine w_iload_n 2 dX6_number_21 rfl rfl rfl ?_
    refine w_icmp_lt (tgt := 30) dX6_number_22 (by decide) rfl (fun q => ?_) (fun q => ?_)
    · have h := h.tt q
      exact w_sub [1] rfl (b_X6_number_30 σ h)
    · have h := h.ff q
      refine w_iload_n 0 dX6_number_25 rfl rfl rfl ?_
      refine w_iload_n 3 dX6_number_26 rfl rfl rfl ?_
      refine w_icmp_le (tgt := 37) dX6_number_27 (by decide) rfl (fun q => ?_) (fun q => ?_)
      · have h := h.tt q
        refine w_aload_n 1 dX6_number_37 rfl rfl rfl ?_
        obtain ⟨r2, s3, h4, h⟩ := h.bd
        refine k_X6_advance ml_RX6_37 (Nat.le_of_ble_eq_true rfl) ⟨Nat.le_of_ble_eq_true rfl, Nat.le_of_ble_eq_true rfl⟩ dX6_number_38 rfl h4 ?_
        refine w_iload_n 0 dX6_number_41 rfl rfl rfl ?_
        exact w_ireturn dX6_number_42 h
      · have h := h.ff q
        exact w_sub [1] rfl (b_X6_number_30 σ h)
  · have h := h.ff q
    refine w_aload_n 0 dX6_number_8 rfl rfl rfl ?_
    refine w_iconst (1 : Int32) dX6_number_9 ic_iconst_1 rfl ?_
    obtain ⟨r5, s6, h7, h⟩ := h.bd
    refine k_X6_blame ml_RX6_94 (Nat.le_of_ble_eq_true rfl) ⟨Nat.le_of_ble_eq_true rfl, Nat.le_of_ble_eq_true rfl⟩ dX6_number_10 rfl h7 ?_
    refine w_iconst (0 : Int32) dX6_number_13 ic_iconst_0 rfl ?_
    exact w_ireturn dX6_number_14 h
theorem c_X6_number {l : Launch} {D : va_G} {cy : Nat → ClassId} {ad : Nat → Nat} {p0 : Int32} {p1 : Int32} {σ σ' : St} {r : Int32} (hf : f_X6_number p0 p1 σ = some (r, σ')) : CT l D cy ad yX6_number cX6_number 4 (some .int) rX6_number [.ref (ad 29), .int p0, .int p1] σ (some (.int r)) σ' :=
  ct_of (by decide) (Nat.le_of_ble_eq_true rfl) (fun p e s m args below meth c A => e_X6_number (Γ := (p, l, e, rX6_number, s, m, args, below, meth, c, D, cy, ad, A, 0, 0, MQ below (QC D cy ad (some (.int r)) σ' A) args s 0 0 A)) p0 p1 σ ⟨_, hf, rfl⟩)
theorem k_X6_number {Γ : CX} {cc : ByteArray} {nL : Nat} {own : String} {ret : Option FieldType} {rm : Room} {σ σ' : St} {pc pc' idx : Nat} {lv : List (Nat × Value)} {rest : List Value} {p0 : Int32} {p1 : Int32} {r : Int32} (hl : Cond.methodLink own idx yX6_number ∈ TB) (hw : (rest.map fun v => v.category).sum ≤ 8) (hR : rX6_number.frames + 1 ≤ rm.frames ∧ 8 + (4 + 11) + rX6_number.locals ≤ rm.locals) (hd : decode cc pc = .ok (.invokevirtual idx, 3)) (hp : pc + 3 = pc') (hf : f_X6_number p0 p1 σ = some (r, σ')) (h : WW Γ cc nL own ret rm σ' pc' lv (.int r :: rest)) : WW Γ cc nL own ret rm σ pc lv (.int p1 :: .int p0 :: .ref (xd Γ 29) :: rest) :=
  w_callV (nn := 2) (i := 29) (As := [.int p0, .int p1]) (v := (some (.int r))) (T := TX6) (N := 9) (c_X6_number hf) hl mw_X6_number (by decide +kernel) ⟨rfl, rfl⟩ hR (lt_lit (by decide)) cel_29 rfl rfl hw hd rfl hp h
/-! WarByHours.Reader.sign ()V -/
def rX6_sign : Room := { frames := 2, cells := 0, slots := 0, locals := 43 }
def f_X6_sign (σ : St) : Option (Unit × St) :=
  if (gf σ 29 7) = (4 : Int32) then
    bd (f_X6_advance σ) fun _ s2 =>
    some ((), s2)
  else
    bd (f_X6_blame (1 : Int32) σ) fun _ s5 =>
    some ((), s5)
theorem e_X6_sign {Γ : CX} (σ : St) (h : RR vU Γ (f_X6_sign σ)) : WW Γ cX6_sign 1 RX6 none rX6_sign σ 0 [(0, .ref (xd Γ 29))] [] := by
  unfold f_X6_sign at h
  refine w_aload_n 0 dX6_sign_0 rfl rfl rfl ?_
  refine gf_RX6_40 dX6_sign_1 rfl ?_
  refine w_iconst (4 : Int32) dX6_sign_4 ic_iconst_4 rfl ?_
  refine w_icmp_eq (tgt := 14) dX6_sign_5 (by decide) rfl (fun q => ?_) (fun q => ?_)
  · have h := h.tt q
    refine w_aload_n 0 dX6_sign_14 rfl rfl rfl ?_
    obtain ⟨r1, s2, h3, h⟩ := h.bd
    refine k_X6_advance ml_RX6_37 (Nat.le_of_ble_eq_true rfl) ⟨Nat.le_of_ble_eq_true rfl, Nat.le_of_ble_eq_true rfl⟩ dX6_sign_15 rfl h3 ?_
    exact w_return dX6_sign_18 h
  · have h := h.ff q
    refine w_aload_n 0 dX6_sign_8 rfl rfl rfl ?_
    refine w_iconst (1 : Int32) dX6_sign_9 ic_iconst_1 rfl ?_
    obtain ⟨r4, s5, h6, h⟩ := h.bd
    refine k_X6_blame ml_RX6_94 (Nat.le_of_ble_eq_true rfl) ⟨Nat.le_of_ble_eq_true rfl, Nat.le_of_ble_eq_true rfl⟩ dX6_sign_10 rfl h6 ?_
    exact w_return dX6_sign_13 h
theorem c_X6_sign {l : Launch} {D : va_G} {cy : Nat → ClassId} {ad : Nat → Nat}  {σ σ' : St} {r : Unit} (hf : f_X6_sign σ = some (r, σ')) : CT l D cy ad yX6_sign cX6_sign 1 none rX6_sign [.ref (ad 29)] σ none σ' :=
  ct_of (by decide) (Nat.le_of_ble_eq_true rfl) (fun p e s m args below meth c A => e_X6_sign (Γ := (p, l, e, rX6_sign, s, m, args, below, meth, c, D, cy, ad, A, 0, 0, MQ below (QC D cy ad none σ' A) args s 0 0 A)) σ ⟨_, hf, rfl⟩)
theorem k_X6_sign {Γ : CX} {cc : ByteArray} {nL : Nat} {own : String} {ret : Option FieldType} {rm : Room} {σ σ' : St} {pc pc' idx : Nat} {lv : List (Nat × Value)} {rest : List Value}  {r : Unit} (hl : Cond.methodLink own idx yX6_sign ∈ TB) (hw : (rest.map fun v => v.category).sum ≤ 8) (hR : rX6_sign.frames + 1 ≤ rm.frames ∧ 8 + (1 + 11) + rX6_sign.locals ≤ rm.locals) (hd : decode cc pc = .ok (.invokevirtual idx, 3)) (hp : pc + 3 = pc') (hf : f_X6_sign σ = some (r, σ')) (h : WW Γ cc nL own ret rm σ' pc' lv (rest)) : WW Γ cc nL own ret rm σ pc lv (.ref (xd Γ 29) :: rest) :=
  w_callV (nn := 0) (i := 29) (As := []) (v := none) (T := TX6) (N := 9) (c_X6_sign hf) hl mw_X6_sign (by decide +kernel) ⟨rfl, rfl⟩ hR (lt_lit (by decide)) cel_29 rfl rfl hw hd rfl hp h
/-! WarByHours.Reader.sees (Ljava/lang/String;)Z -/
def rX6_sees : Room := { frames := 4, cells := 0, slots := 0, locals := 85 }
def f_X6_sees_24 (z0 : Nat) (σ : St) : Option (Int32 × St) :=
  gd (bz (0 : Int32)) <| some ((0 : Int32), σ)
theorem b_X6_sees_24 {Γ : CX} (z0 : Nat) (σ : St) (h : RR vI Γ (f_X6_sees_24 z0 σ)) : WW Γ cX6_sees 3 RX6 (some .boolean) rX6_sees σ 24 [] [] := by
  unfold f_X6_sees_24 at h
  refine w_iconst (0 : Int32) dX6_sees_24 ic_iconst_0 rfl ?_
  obtain ⟨hb, h⟩ := h.gd
  exact w_zreturn dX6_sees_25 hb h
def g_X6_sees_28 (z0 : Nat) (K28 : Int32 × St → Option (Int32 × St)) (x : Int32 × St) : Option (Int32 × St) := match x with
  | (v2, σ) =>
  bd (f_J0_length_8abf5 z0 σ) fun r1 s2 =>
  if r1 ≤ v2 then
    gd (bz (1 : Int32)) <| some ((1 : Int32), s2)
  else
    bd (f_X6_byteAt ((gf s2 29 5) + v2) s2) fun r4 s5 =>
    bd (f_J0_charAt_5068e z0 v2 s5) fun r7 s8 =>
    if r4 = r7 then
      bnd (v2 + (1 : Int32)) fun x10 =>
      K28 (x10, s8)
    else
      gd (bz (0 : Int32)) <| some ((0 : Int32), s8)
theorem l_X6_sees_28 {Γ : CX} (z0 : Nat) : ∀ (n : Nat) (v2 : Int32) (σ : St), RR vI Γ (itr (g_X6_sees_28 z0) n (v2, σ)) → WW Γ cX6_sees 3 RX6 (some .boolean) rX6_sees σ 28 [(0, .ref (xd Γ 29)), (1, .ref (xd Γ (z0 + 1000))), (2, .int v2)] [] := by
  intro n
  induction n with
  | zero => intro v2 σ h; exact RR.no h
  | succ n hK28 =>
  intro v2 σ h
  have h : RR vI Γ (g_X6_sees_28 z0 (itr (g_X6_sees_28 z0) n) (v2, σ)) := h
  generalize itr (g_X6_sees_28 z0) n = K28 at h hK28
  unfold g_X6_sees_28 at h
  dsimp only at h
  refine w_iload_n 2 dX6_sees_28 rfl rfl rfl ?_
  refine w_aload_n 1 dX6_sees_29 rfl rfl rfl ?_
  obtain ⟨r1, s2, h3, h⟩ := h.bd
  refine k_J0_length_8abf5 ml_RX6_189 (Nat.le_of_ble_eq_true rfl) ⟨Nat.le_of_ble_eq_true rfl, Nat.le_of_ble_eq_true rfl⟩ dX6_sees_30 rfl h3 ?_
  refine w_icmp_ge (tgt := 62) dX6_sees_33 (by decide) rfl (fun q => ?_) (fun q => ?_)
  · have h := h.tt q
    refine w_iconst (1 : Int32) dX6_sees_62 ic_iconst_1 rfl ?_
    obtain ⟨hb, h⟩ := h.gd
    exact w_zreturn dX6_sees_63 hb h
  · have h := h.ff q
    refine w_aload_n 0 dX6_sees_36 rfl rfl rfl ?_
    refine w_aload_n 0 dX6_sees_37 rfl rfl rfl ?_
    refine gf_RX6_186 dX6_sees_38 rfl ?_
    refine w_iload_n 2 dX6_sees_41 rfl rfl rfl ?_
    refine w_iadd dX6_sees_42 rfl ?_
    obtain ⟨r4, s5, h6, h⟩ := h.bd
    refine k_X6_byteAt ml_RX6_194 (Nat.le_of_ble_eq_true rfl) ⟨Nat.le_of_ble_eq_true rfl, Nat.le_of_ble_eq_true rfl⟩ dX6_sees_43 rfl h6 ?_
    refine w_aload_n 1 dX6_sees_46 rfl rfl rfl ?_
    refine w_iload_n 2 dX6_sees_47 rfl rfl rfl ?_
    obtain ⟨r7, s8, h9, h⟩ := h.bd
    refine k_J0_charAt_5068e ml_RX6_198 (Nat.le_of_ble_eq_true rfl) ⟨Nat.le_of_ble_eq_true rfl, Nat.le_of_ble_eq_true rfl⟩ dX6_sees_48 rfl h9 ?_
    refine w_icmp_eq (tgt := 56) dX6_sees_51 (by decide) rfl (fun q => ?_) (fun q => ?_)
    · have h := h.tt q
      obtain ⟨x10, ex10⟩ : ∃ y : Int32, y = (v2 + (1 : Int32)) := ⟨_, rfl⟩
      replace h := h.bnd ex10
      refine w_iinc 2 x10 [(2, .int x10), (0, .ref (xd Γ 29)), (1, .ref (xd Γ (z0 + 1000)))] dX6_sees_56 rfl (by rw [ex10, ic_iconst_1]) (by decide) rfl rfl ?_
      clear ex10
      refine w_goto (tgt := 28) dX6_sees_59 (by decide) ?_
      exact w_sub [1, 2, 0] rfl (hK28 x10 s8 h)
    · have h := h.ff q
      refine w_iconst (0 : Int32) dX6_sees_54 ic_iconst_0 rfl ?_
      obtain ⟨hb, h⟩ := h.gd
      exact w_zreturn dX6_sees_55 hb h
def f_X6_sees (z0 : Nat) (σ : St) : Option (Int32 × St) :=
  gd (isS σ z0) <|
  if (gf σ 29 7) = (2 : Int32) then
    bd (f_J0_length_8abf5 z0 σ) fun r1 s2 =>
    if ((gf σ 29 6) - (gf σ 29 5)) = r1 then
      itr (g_X6_sees_28 z0) FU ((0 : Int32), s2)
    else
      f_X6_sees_24 z0 s2
  else
    f_X6_sees_24 z0 σ
theorem e_X6_sees {Γ : CX} (z0 : Nat) (σ : St) (h : RR vI Γ (f_X6_sees z0 σ)) : WW Γ cX6_sees 3 RX6 (some .boolean) rX6_sees σ 0 [(0, .ref (xd Γ 29)), (1, .ref (xd Γ (z0 + 1000)))] [] := by
  unfold f_X6_sees at h
  obtain ⟨hg_z0_σ, h⟩ := h.gd
  refine w_aload_n 0 dX6_sees_0 rfl rfl rfl ?_
  refine gf_RX6_40 dX6_sees_1 rfl ?_
  refine w_iconst (2 : Int32) dX6_sees_4 ic_iconst_2 rfl ?_
  refine w_icmp_ne (tgt := 24) dX6_sees_5 (by decide) rfl (fun q => ?_) (fun q => ?_)
  · have h := h.ff q
    exact w_sub [] rfl (b_X6_sees_24 z0 σ h)
  · have h := h.tt q
    refine w_aload_n 0 dX6_sees_8 rfl rfl rfl ?_
    refine gf_RX6_34 dX6_sees_9 rfl ?_
    refine w_aload_n 0 dX6_sees_12 rfl rfl rfl ?_
    refine gf_RX6_186 dX6_sees_13 rfl ?_
    refine w_isub dX6_sees_16 rfl ?_
    refine w_aload_n 1 dX6_sees_17 rfl rfl rfl ?_
    obtain ⟨r1, s2, h3, h⟩ := h.bd
    refine k_J0_length_8abf5 ml_RX6_189 (Nat.le_of_ble_eq_true rfl) ⟨Nat.le_of_ble_eq_true rfl, Nat.le_of_ble_eq_true rfl⟩ dX6_sees_18 rfl h3 ?_
    refine w_icmp_eq (tgt := 26) dX6_sees_21 (by decide) rfl (fun q => ?_) (fun q => ?_)
    · have h := h.tt q
      refine w_iconst (0 : Int32) dX6_sees_26 ic_iconst_0 rfl ?_
      refine w_istore_n [(2, .int (0 : Int32)), (0, .ref (xd Γ 29)), (1, .ref (xd Γ (z0 + 1000)))] dX6_sees_27 rfl (by decide) rfl rfl ?_
      exact w_sub [1, 2, 0] rfl (l_X6_sees_28 z0 FU (0 : Int32) s2 h)
    · have h := h.ff q
      exact w_sub [] rfl (b_X6_sees_24 z0 s2 h)
theorem c_X6_sees {l : Launch} {D : va_G} {cy : Nat → ClassId} {ad : Nat → Nat} {z0 : Nat} {σ σ' : St} {r : Int32} (hf : f_X6_sees z0 σ = some (r, σ')) : CT l D cy ad yX6_sees cX6_sees 3 (some .boolean) rX6_sees [.ref (ad 29), .ref (ad (z0 + 1000))] σ (some (.int r)) σ' :=
  ct_of (by decide) (Nat.le_of_ble_eq_true rfl) (fun p e s m args below meth c A => e_X6_sees (Γ := (p, l, e, rX6_sees, s, m, args, below, meth, c, D, cy, ad, A, 0, 0, MQ below (QC D cy ad (some (.int r)) σ' A) args s 0 0 A)) z0 σ ⟨_, hf, rfl⟩)
theorem k_X6_sees {Γ : CX} {cc : ByteArray} {nL : Nat} {own : String} {ret : Option FieldType} {rm : Room} {σ σ' : St} {pc pc' idx : Nat} {lv : List (Nat × Value)} {rest : List Value} {z0 : Nat} {r : Int32} (hl : Cond.methodLink own idx yX6_sees ∈ TB) (hw : (rest.map fun v => v.category).sum ≤ 8) (hR : rX6_sees.frames + 1 ≤ rm.frames ∧ 8 + (3 + 11) + rX6_sees.locals ≤ rm.locals) (hd : decode cc pc = .ok (.invokevirtual idx, 3)) (hp : pc + 3 = pc') (hf : f_X6_sees z0 σ = some (r, σ')) (h : WW Γ cc nL own ret rm σ' pc' lv (.int r :: rest)) : WW Γ cc nL own ret rm σ pc lv (.ref (xd Γ (z0 + 1000)) :: .ref (xd Γ 29) :: rest) :=
  w_callV (nn := 1) (i := 29) (As := [.ref (xd Γ (z0 + 1000))]) (v := (some (.int r))) (T := TX6) (N := 9) (c_X6_sees hf) hl mw_X6_sees (by decide +kernel) ⟨rfl, rfl⟩ hR (lt_lit (by decide)) cel_29 rfl rfl hw hd rfl hp h
/-! WarByHours.Suspects.fitting (I)I -/
def rX8_fitting : Room := { frames := 2, cells := 0, slots := 0, locals := 43 }
def f_X8_fitting_36 (K4 : Int32 × Int32 × Int32 × St → Option (Int32 × St)) (v1 : Int32) (v2 : Int32) (v3 : Int32) (σ : St) : Option (Int32 × St) :=
  bnd (v3 + (1 : Int32)) fun x1 =>
  K4 (v1, v2, x1, σ)
theorem b_X8_fitting_36 {Γ : CX} (K4 : Int32 × Int32 × Int32 × St → Option (Int32 × St)) (hK4 : ∀ (v1 : Int32) (v2 : Int32) (v3 : Int32) (σ : St), RR vI Γ (K4 (v1, v2, v3, σ)) → WW Γ cX8_fitting 4 RX8 (some .int) rX8_fitting σ 4 [(0, .ref (xd Γ 49)), (1, .int v1), (2, .int v2), (3, .int v3)] []) (v1 : Int32) (v2 : Int32) (v3 : Int32) (σ : St) (h : RR vI Γ (f_X8_fitting_36 K4 v1 v2 v3 σ)) : WW Γ cX8_fitting 4 RX8 (some .int) rX8_fitting σ 36 [(0, .ref (xd Γ 49)), (1, .int v1), (2, .int v2), (3, .int v3)] [] := by
  unfold f_X8_fitting_36 at h
  obtain ⟨x1, ex1⟩ : ∃ y : Int32, y = (v3 + (1 : Int32)) := ⟨_, rfl⟩
  replace h := h.bnd ex1
  refine w_iinc 3 x1 [(3, .int x1), (0, .ref (xd Γ 49)), (1, .int v1), (2, .int v2)] dX8_fitting_36 rfl (by rw [ex1, ic_iconst_1]) (by decide) rfl rfl ?_
  clear ex1
  refine w_goto (tgt := 4) dX8_fitting_39 (by decide) ?_
  exact w_sub [1, 2, 3, 0] rfl (hK4 v1 v2 x1 σ h)
def g_X8_fitting_4 (K4 : Int32 × Int32 × Int32 × St → Option (Int32 × St)) (x : Int32 × Int32 × Int32 × St) : Option (Int32 × St) := match x with
  | (v1, v2, v3, σ) =>
  if (gf σ 11 3) ≤ v3 then
    some (v2, σ)
  else
    bd (f_X8_knownTo v3 σ) fun r1 s2 =>
    if (v1 &&& (r1 ^^^ (-1 : Int32))) = 0 then
      bnd ((v2 ||| ((1 : Int32) <<< (v3 &&& 31)))) fun x4 =>
      f_X8_fitting_36 K4 v1 x4 v3 s2
    else
      f_X8_fitting_36 K4 v1 v2 v3 s2
theorem l_X8_fitting_4 {Γ : CX} : ∀ (n : Nat) (v1 : Int32) (v2 : Int32) (v3 : Int32) (σ : St), RR vI Γ (itr (g_X8_fitting_4) n (v1, v2, v3, σ)) → WW Γ cX8_fitting 4 RX8 (some .int) rX8_fitting σ 4 [(0, .ref (xd Γ 49)), (1, .int v1), (2, .int v2), (3, .int v3)] [] := by
  intro n
  induction n with
  | zero => intro v1 v2 v3 σ h; exact RR.no h
  | succ n hK4 =>
  intro v1 v2 v3 σ h
  have h : RR vI Γ (g_X8_fitting_4 (itr (g_X8_fitting_4) n) (v1, v2, v3, σ)) := h
  generalize itr (g_X8_fitting_4) n = K4 at h hK4
  unfold g_X8_fitting_4 at h
  dsimp only at h
  refine w_iload_n 3 dX8_fitting_4 rfl rfl rfl ?_
  refine w_aload_n 0 dX8_fitting_5 rfl rfl rfl ?_
  refine gf_RX8_9 dX8_fitting_6 rfl ?_
  refine gf_RX8_15 (i := 1) (isW_lit (by decide)) dX8_fitting_9 rfl ?_
  refine gf_RX8_21 (i := 11) (isT_lit (by decide)) dX8_fitting_12 rfl ?_
  refine w_icmp_ge (tgt := 42) dX8_fitting_15 (by decide) rfl (fun q => ?_) (fun q => ?_)
  · have h := h.tt q
    refine w_iload_n 2 dX8_fitting_42 rfl rfl rfl ?_
    exact w_ireturn dX8_fitting_43 h
  · have h := h.ff q
    refine w_iload_n 1 dX8_fitting_18 rfl rfl rfl ?_
    refine w_aload_n 0 dX8_fitting_19 rfl rfl rfl ?_
    refine w_iload_n 3 dX8_fitting_20 rfl rfl rfl ?_
    obtain ⟨r1, s2, h3, h⟩ := h.bd
    refine k_X8_knownTo ml_RX8_27 (Nat.le_of_ble_eq_true rfl) ⟨Nat.le_of_ble_eq_true rfl, Nat.le_of_ble_eq_true rfl⟩ dX8_fitting_21 rfl h3 ?_
    refine w_iconst (-1 : Int32) dX8_fitting_24 ic_iconst_m1 rfl ?_
    refine w_ixor dX8_fitting_25 rfl ?_
    refine w_iand dX8_fitting_26 rfl ?_
    refine w_if_ne (tgt := 36) dX8_fitting_27 (by decide) rfl (fun q => ?_) (fun q => ?_)
    · have h := h.ff q
      exact w_sub [0, 1, 2, 3] rfl (b_X8_fitting_36 K4 hK4 v1 v2 v3 s2 h)
    · have h := h.tt q
      refine w_iload_n 2 dX8_fitting_30 rfl rfl rfl ?_
      refine w_iconst (1 : Int32) dX8_fitting_31 ic_iconst_1 rfl ?_
      refine w_iload_n 3 dX8_fitting_32 rfl rfl rfl ?_
      refine w_ishl dX8_fitting_33 rfl ?_
      refine w_ior dX8_fitting_34 rfl ?_
      refine w_nmI (fun x4 ex4 => ?_)
      replace h := h.bnd ex4
      clear ex4
      refine w_istore_n [(2, .int x4), (0, .ref (xd Γ 49)), (1, .int v1), (3, .int v3)] dX8_fitting_35 rfl (by decide) rfl rfl ?_
      exact w_sub [1, 2, 0, 3] rfl (b_X8_fitting_36 K4 hK4 v1 x4 v3 s2 h)
def f_X8_fitting (p0 : Int32) (σ : St) : Option (Int32 × St) :=
  itr (g_X8_fitting_4) FU (p0, (0 : Int32), (0 : Int32), σ)
theorem e_X8_fitting {Γ : CX} (p0 : Int32) (σ : St) (h : RR vI Γ (f_X8_fitting p0 σ)) : WW Γ cX8_fitting 4 RX8 (some .int) rX8_fitting σ 0 [(0, .ref (xd Γ 49)), (1, .int p0)] [] := by
  unfold f_X8_fitting at h
  refine w_iconst (0 : Int32) dX8_fitting_0 ic_iconst_0 rfl ?_
  refine w_istore_n [(2, .int (0 : Int32)), (0, .ref (xd Γ 49)), (1, .int p0)] dX8_fitting_1 rfl (by decide) rfl rfl ?_
  refine w_iconst (0 : Int32) dX8_fitting_2 ic_iconst_0 rfl ?_
  refine w_istore_n [(3, .int (0 : Int32)), (2, .int (0 : Int32)), (0, .ref (xd Γ 49)), (1, .int p0)] dX8_fitting_3 rfl (by decide) rfl rfl ?_
  exact w_sub [2, 3, 1, 0] rfl (l_X8_fitting_4 FU p0 (0 : Int32) (0 : Int32) σ h)
theorem c_X8_fitting {l : Launch} {D : va_G} {cy : Nat → ClassId} {ad : Nat → Nat} {p0 : Int32} {σ σ' : St} {r : Int32} (hf : f_X8_fitting p0 σ = some (r, σ')) : CT l D cy ad yX8_fitting cX8_fitting 4 (some .int) rX8_fitting [.ref (ad 49), .int p0] σ (some (.int r)) σ' :=
  ct_of (by decide) (Nat.le_of_ble_eq_true rfl) (fun p e s m args below meth c A => e_X8_fitting (Γ := (p, l, e, rX8_fitting, s, m, args, below, meth, c, D, cy, ad, A, 0, 0, MQ below (QC D cy ad (some (.int r)) σ' A) args s 0 0 A)) p0 σ ⟨_, hf, rfl⟩)
theorem k_X8_fitting {Γ : CX} {cc : ByteArray} {nL : Nat} {own : String} {ret : Option FieldType} {rm : Room} {σ σ' : St} {pc pc' idx : Nat} {lv : List (Nat × Value)} {rest : List Value} {p0 : Int32} {r : Int32} (hl : Cond.methodLink own idx yX8_fitting ∈ TB) (hw : (rest.map fun v => v.category).sum ≤ 8) (hR : rX8_fitting.frames + 1 ≤ rm.frames ∧ 8 + (4 + 11) + rX8_fitting.locals ≤ rm.locals) (hd : decode cc pc = .ok (.invokevirtual idx, 3)) (hp : pc + 3 = pc') (hf : f_X8_fitting p0 σ = some (r, σ')) (h : WW Γ cc nL own ret rm σ' pc' lv (.int r :: rest)) : WW Γ cc nL own ret rm σ pc lv (.int p0 :: .ref (xd Γ 49) :: rest) :=
  w_callV (nn := 1) (i := 49) (As := [.int p0]) (v := (some (.int r))) (T := TX8) (N := 1) (c_X8_fitting hf) hl mw_X8_fitting (by decide +kernel) ⟨rfl, rfl⟩ hR (lt_lit (by decide)) cel_49 rfl rfl hw hd rfl hp h
/-! WarByHours.Suspects.leftAtWorst (II)I -/
def rX8_leftAtWorst : Room := { frames := 3, cells := 0, slots := 0, locals := 66 }
def f_X8_leftAtWorst (p0 : Int32) (p1 : Int32) (σ : St) : Option (Int32 × St) :=
  bd (f_X8_fitting p0 σ) fun r1 s2 =>
  bd (f_J6_bitCount_0f7a4 r1 s2) fun r4 s5 =>
  if p1 = (-1 : Int32) then
    some (r4, s5)
  else
    bd (f_X8_fitting (p0 ||| ((1 : Int32) <<< (p1 &&& 31))) s5) fun r7 s8 =>
    bd (f_J6_bitCount_0f7a4 r7 s8) fun r10 s11 =>
    some ((if r10 < (r4 - r10) then (r4 - r10) else r10), s11)
theorem e_X8_leftAtWorst {Γ : CX} (p0 : Int32) (p1 : Int32) (σ : St) (h : RR vI Γ (f_X8_leftAtWorst p0 p1 σ)) : WW Γ cX8_leftAtWorst 5 RX8 (some .int) rX8_leftAtWorst σ 0 [(0, .ref (xd Γ 49)), (1, .int p0), (2, .int p1)] [] := by
  unfold f_X8_leftAtWorst at h
  refine w_aload_n 0 dX8_leftAtWorst_0 rfl rfl rfl ?_
  refine w_iload_n 1 dX8_leftAtWorst_1 rfl rfl rfl ?_
  obtain ⟨r1, s2, h3, h⟩ := h.bd
  refine k_X8_fitting ml_RX8_31 (Nat.le_of_ble_eq_true rfl) ⟨Nat.le_of_ble_eq_true rfl, Nat.le_of_ble_eq_true rfl⟩ dX8_leftAtWorst_2 rfl h3 ?_
  obtain ⟨r4, s5, h6, h⟩ := h.bd
  refine k_J6_bitCount_0f7a4 ml_RX8_34 (Nat.le_of_ble_eq_true rfl) ⟨Nat.le_of_ble_eq_true rfl, Nat.le_of_ble_eq_true rfl⟩ dX8_leftAtWorst_5 rfl h6 ?_
  refine w_istore_n [(3, .int r4), (0, .ref (xd Γ 49)), (1, .int p0), (2, .int p1)] dX8_leftAtWorst_8 rfl (by decide) rfl rfl ?_
  refine w_iload_n 3 dX8_leftAtWorst_9 rfl rfl rfl ?_
  refine w_iconst (-1 : Int32) dX8_leftAtWorst_10 ic_iconst_m1 rfl ?_
  refine w_icmp_ne (tgt := 16) dX8_leftAtWorst_11 (by decide) rfl (fun q => ?_) (fun q => ?_)
  · have h := h.ff q
    refine w_aload_n 1 dX8_leftAtWorst_16 rfl rfl rfl ?_
    refine w_iload_n 2 dX8_leftAtWorst_17 rfl rfl rfl ?_
    refine w_iconst (1 : Int32) dX8_leftAtWorst_18 ic_iconst_1 rfl ?_
    refine w_iload_n 3 dX8_leftAtWorst_19 rfl rfl rfl ?_
    refine w_ishl dX8_leftAtWorst_20 rfl ?_
    refine w_ior dX8_leftAtWorst_21 rfl ?_
    obtain ⟨r7, s8, h9, h⟩ := h.bd
    refine k_X8_fitting ml_RX8_31 (Nat.le_of_ble_eq_true rfl) ⟨Nat.le_of_ble_eq_true rfl, Nat.le_of_ble_eq_true rfl⟩ dX8_leftAtWorst_22 rfl h9 ?_
    obtain ⟨r10, s11, h12, h⟩ := h.bd
    refine k_J6_bitCount_0f7a4 ml_RX8_34 (Nat.le_of_ble_eq_true rfl) ⟨Nat.le_of_ble_eq_true rfl, Nat.le_of_ble_eq_true rfl⟩ dX8_leftAtWorst_25 rfl h12 ?_
    refine w_istore [(4, .int r10), (3, .int r4), (0, .ref (xd Γ 49)), (1, .int p0), (2, .int p1)] dX8_leftAtWorst_28 (by decide) rfl rfl ?_
    refine w_iload 0 dX8_leftAtWorst_30 rfl rfl ?_
    refine w_iload_n 1 dX8_leftAtWorst_32 rfl rfl rfl ?_
    refine w_iload 0 dX8_leftAtWorst_33 rfl rfl ?_
    refine w_isub dX8_leftAtWorst_35 rfl ?_
    refine w_mmax ml_RX8_50 (Nat.le_of_ble_eq_true rfl) ⟨Nat.le_of_ble_eq_true rfl, Nat.le_of_ble_eq_true rfl⟩ dX8_leftAtWorst_36 rfl ?_
    exact w_ireturn dX8_leftAtWorst_39 h
  · have h := h.tt q
    refine w_iload_n 0 dX8_leftAtWorst_14 rfl rfl rfl ?_
    exact w_ireturn dX8_leftAtWorst_15 h
theorem c_X8_leftAtWorst {l : Launch} {D : va_G} {cy : Nat → ClassId} {ad : Nat → Nat} {p0 : Int32} {p1 : Int32} {σ σ' : St} {r : Int32} (hf : f_X8_leftAtWorst p0 p1 σ = some (r, σ')) : CT l D cy ad yX8_leftAtWorst cX8_leftAtWorst 5 (some .int) rX8_leftAtWorst [.ref (ad 49), .int p0, .int p1] σ (some (.int r)) σ' :=
  ct_of (by decide) (Nat.le_of_ble_eq_true rfl) (fun p e s m args below meth c A => e_X8_leftAtWorst (Γ := (p, l, e, rX8_leftAtWorst, s, m, args, below, meth, c, D, cy, ad, A, 0, 0, MQ below (QC D cy ad (some (.int r)) σ' A) args s 0 0 A)) p0 p1 σ ⟨_, hf, rfl⟩)
theorem k_X8_leftAtWorst {Γ : CX} {cc : ByteArray} {nL : Nat} {own : String} {ret : Option FieldType} {rm : Room} {σ σ' : St} {pc pc' idx : Nat} {lv : List (Nat × Value)} {rest : List Value} {p0 : Int32} {p1 : Int32} {r : Int32} (hl : Cond.methodLink own idx yX8_leftAtWorst ∈ TB) (hw : (rest.map fun v => v.category).sum ≤ 8) (hR : rX8_leftAtWorst.frames + 1 ≤ rm.frames ∧ 8 + (5 + 11) + rX8_leftAtWorst.locals ≤ rm.locals) (hd : decode cc pc = .ok (.invokevirtual idx, 3)) (hp : pc + 3 = pc') (hf : f_X8_leftAtWorst p0 p1 σ = some (r, σ')) (h : WW Γ cc nL own ret rm σ' pc' lv (.int r :: rest)) : WW Γ cc nL own ret rm σ pc lv (.int p1 :: .int p0 :: .ref (xd Γ 49) :: rest) :=
  w_callV (nn := 2) (i := 49) (As := [.int p0, .int p1]) (v := (some (.int r))) (T := TX8) (N := 1) (c_X8_leftAtWorst hf) hl mw_X8_leftAtWorst (by decide +kernel) ⟨rfl, rfl⟩ hR (lt_lit (by decide)) cel_49 rfl rfl hw hd rfl hp h
/-! WarByHours.Suspects.knownToAll (I)I -/
def rX8_knownToAll : Room := { frames := 3, cells := 0, slots := 0, locals := 66 }
def f_X8_knownToAll_60 (K27 : Int32 × Int32 × Int32 × St → Option (Int32 × St)) (v2 : Int32) (v3 : Int32) (v4 : Int32) (σ : St) : Option (Int32 × St) :=
  bnd (v4 + (1 : Int32)) fun x1 =>
  K27 (v2, v3, x1, σ)
theorem b_X8_knownToAll_60 {Γ : CX} (K27 : Int32 × Int32 × Int32 × St → Option (Int32 × St)) (hK27 : ∀ (v2 : Int32) (v3 : Int32) (v4 : Int32) (σ : St), RR vI Γ (K27 (v2, v3, v4, σ)) → WW Γ cX8_knownToAll 5 RX8 (some .int) rX8_knownToAll σ 27 [(0, .ref (xd Γ 49)), (2, .int v2), (3, .int v3), (4, .int v4)] []) (v2 : Int32) (v3 : Int32) (v4 : Int32) (σ : St) (h : RR vI Γ (f_X8_knownToAll_60 K27 v2 v3 v4 σ)) : WW Γ cX8_knownToAll 5 RX8 (some .int) rX8_knownToAll σ 60 [(0, .ref (xd Γ 49)), (2, .int v2), (3, .int v3), (4, .int v4)] [] := by
  unfold f_X8_knownToAll_60 at h
  obtain ⟨x1, ex1⟩ : ∃ y : Int32, y = (v4 + (1 : Int32)) := ⟨_, rfl⟩
  replace h := h.bnd ex1
  refine w_iinc 3 x1 [(4, .int x1), (0, .ref (xd Γ 49)), (2, .int v2), (3, .int v3)] dX8_knownToAll_60 rfl (by rw [ex1, ic_iconst_1]) (by decide) rfl rfl ?_
  clear ex1
  refine w_goto (tgt := 27) dX8_knownToAll_63 (by decide) ?_
  exact w_sub [1, 2, 3, 0] rfl (hK27 v2 v3 x1 σ h)
def g_X8_knownToAll_27 (K27 : Int32 × Int32 × Int32 × St → Option (Int32 × St)) (x : Int32 × Int32 × Int32 × St) : Option (Int32 × St) := match x with
  | (v2, v3, v4, σ) =>
  if (gf σ 11 3) ≤ v4 then
    some (v3, σ)
  else
    bd (f_X10_isIn v2 v4 σ) fun r1 s2 =>
    if r1 = 0 then
      f_X8_knownToAll_60 K27 v2 v3 v4 s2
    else
      bd (f_X8_knownTo v4 s2) fun r4 s5 =>
      bnd ((v3 &&& r4)) fun x7 =>
      f_X8_knownToAll_60 K27 v2 x7 v4 s5
theorem l_X8_knownToAll_27 {Γ : CX} : ∀ (n : Nat) (v2 : Int32) (v3 : Int32) (v4 : Int32) (σ : St), RR vI Γ (itr (g_X8_knownToAll_27) n (v2, v3, v4, σ)) → WW Γ cX8_knownToAll 5 RX8 (some .int) rX8_knownToAll σ 27 [(0, .ref (xd Γ 49)), (2, .int v2), (3, .int v3), (4, .int v4)] [] := by
  intro n
  induction n with
  | zero => intro v2 v3 v4 σ h; exact RR.no h
  | succ n hK27 =>
  intro v2 v3 v4 σ h
  have h : RR vI Γ (g_X8_knownToAll_27 (itr (g_X8_knownToAll_27) n) (v2, v3, v4, σ)) := h
  generalize itr (g_X8_knownToAll_27) n = K27 at h hK27
  unfold g_X8_knownToAll_27 at h
  dsimp only at h
  refine w_iload 3 dX8_knownToAll_27 rfl rfl ?_
  refine w_aload_n 0 dX8_knownToAll_29 rfl rfl rfl ?_
  refine gf_RX8_9 dX8_knownToAll_30 rfl ?_
  refine gf_RX8_15 (i := 1) (isW_lit (by decide)) dX8_knownToAll_33 rfl ?_
  refine gf_RX8_21 (i := 11) (isT_lit (by decide)) dX8_knownToAll_36 rfl ?_
  refine w_icmp_ge (tgt := 66) dX8_knownToAll_39 (by decide) rfl (fun q => ?_) (fun q => ?_)
  · have h := h.tt q
    refine w_iload_n 2 dX8_knownToAll_66 rfl rfl rfl ?_
    exact w_ireturn dX8_knownToAll_67 h
  · have h := h.ff q
    refine w_iload_n 1 dX8_knownToAll_42 rfl rfl rfl ?_
    refine w_iload 3 dX8_knownToAll_43 rfl rfl ?_
    obtain ⟨r1, s2, h3, h⟩ := h.bd
    refine k_X10_isIn ml_RX8_46 (Nat.le_of_ble_eq_true rfl) ⟨Nat.le_of_ble_eq_true rfl, Nat.le_of_ble_eq_true rfl⟩ dX8_knownToAll_45 rfl h3 ?_
    refine w_if_eq (tgt := 60) dX8_knownToAll_48 (by decide) rfl (fun q => ?_) (fun q => ?_)
    · have h := h.tt q
      exact w_sub [0, 1, 2, 3] rfl (b_X8_knownToAll_60 K27 hK27 v2 v3 v4 s2 h)
    · have h := h.ff q
      refine w_iload_n 2 dX8_knownToAll_51 rfl rfl rfl ?_
      refine w_aload_n 0 dX8_knownToAll_52 rfl rfl rfl ?_
      refine w_iload 3 dX8_knownToAll_53 rfl rfl ?_
      obtain ⟨r4, s5, h6, h⟩ := h.bd
      refine k_X8_knownTo ml_RX8_27 (Nat.le_of_ble_eq_true rfl) ⟨Nat.le_of_ble_eq_true rfl, Nat.le_of_ble_eq_true rfl⟩ dX8_knownToAll_55 rfl h6 ?_
      refine w_iand dX8_knownToAll_58 rfl ?_
      refine w_nmI (fun x7 ex7 => ?_)
      replace h := h.bnd ex7
      clear ex7
      refine w_istore_n [(3, .int x7), (0, .ref (xd Γ 49)), (2, .int v2), (4, .int v4)] dX8_knownToAll_59 rfl (by decide) rfl rfl ?_
      exact w_sub [1, 2, 0, 3] rfl (b_X8_knownToAll_60 K27 hK27 v2 x7 v4 s5 h)
def f_X8_knownToAll_23 (v2 : Int32) (k0 : Int32) (σ : St) : Option (Int32 × St) :=
  itr (g_X8_knownToAll_27) FU (v2, k0, (0 : Int32), σ)
theorem b_X8_knownToAll_23 {Γ : CX} (v2 : Int32) (k0 : Int32) (σ : St) (h : RR vI Γ (f_X8_knownToAll_23 v2 k0 σ)) : WW Γ cX8_knownToAll 5 RX8 (some .int) rX8_knownToAll σ 23 [(0, .ref (xd Γ 49)), (2, .int v2)] [.int k0] := by
  unfold f_X8_knownToAll_23 at h
  refine w_istore_n [(3, .int k0), (0, .ref (xd Γ 49)), (2, .int v2)] dX8_knownToAll_23 rfl (by decide) rfl rfl ?_
  refine w_iconst (0 : Int32) dX8_knownToAll_24 ic_iconst_0 rfl ?_
  refine w_istore [(4, .int (0 : Int32)), (3, .int k0), (0, .ref (xd Γ 49)), (2, .int v2)] dX8_knownToAll_25 (by decide) rfl rfl ?_
  exact w_sub [2, 3, 1, 0] rfl (l_X8_knownToAll_27 FU v2 k0 (0 : Int32) σ h)
def f_X8_knownToAll (p0 : Int32) (σ : St) : Option (Int32 × St) :=
  bd (f_X8_fitting p0 σ) fun r1 s2 =>
  if r1 = 0 then
    f_X8_knownToAll_23 r1 (0 : Int32) s2
  else
    bd (f_X10_sets 1 s2) fun r4 s5 =>
    f_X8_knownToAll_23 r1 (r4 - (1 : Int32)) s5
theorem e_X8_knownToAll {Γ : CX} (p0 : Int32) (σ : St) (h : RR vI Γ (f_X8_knownToAll p0 σ)) : WW Γ cX8_knownToAll 5 RX8 (some .int) rX8_knownToAll σ 0 [(0, .ref (xd Γ 49)), (1, .int p0)] [] := by
  unfold f_X8_knownToAll at h
  refine w_aload_n 0 dX8_knownToAll_0 rfl rfl rfl ?_
  refine w_iload_n 1 dX8_knownToAll_1 rfl rfl rfl ?_
  obtain ⟨r1, s2, h3, h⟩ := h.bd
  refine k_X8_fitting ml_RX8_31 (Nat.le_of_ble_eq_true rfl) ⟨Nat.le_of_ble_eq_true rfl, Nat.le_of_ble_eq_true rfl⟩ dX8_knownToAll_2 rfl h3 ?_
  refine w_istore_n [(2, .int r1), (0, .ref (xd Γ 49)), (1, .int p0)] dX8_knownToAll_5 rfl (by decide) rfl rfl ?_
  refine w_iload_n 0 dX8_knownToAll_6 rfl rfl rfl ?_
  refine w_if_ne (tgt := 14) dX8_knownToAll_7 (by decide) rfl (fun q => ?_) (fun q => ?_)
  · have h := h.ff q
    refine w_aload_n 1 dX8_knownToAll_14 rfl rfl rfl ?_
    refine gf_RX8_9 dX8_knownToAll_15 rfl ?_
    obtain ⟨r4, s5, h6, h⟩ := h.bd
    refine k_X10_sets ml_RX8_55 (Nat.le_of_ble_eq_true rfl) ⟨Nat.le_of_ble_eq_true rfl, Nat.le_of_ble_eq_true rfl⟩ dX8_knownToAll_18 rfl h6 ?_
    refine w_iconst (1 : Int32) dX8_knownToAll_21 ic_iconst_1 rfl ?_
    refine w_isub dX8_knownToAll_22 rfl ?_
    exact w_sub [1, 0] rfl (b_X8_knownToAll_23 r1 (r4 - (1 : Int32)) s5 h)
  · have h := h.tt q
    refine w_iconst (0 : Int32) dX8_knownToAll_10 ic_iconst_0 rfl ?_
    refine w_goto (tgt := 23) dX8_knownToAll_11 (by decide) ?_
    exact w_sub [1, 0] rfl (b_X8_knownToAll_23 r1 (0 : Int32) s2 h)
theorem c_X8_knownToAll {l : Launch} {D : va_G} {cy : Nat → ClassId} {ad : Nat → Nat} {p0 : Int32} {σ σ' : St} {r : Int32} (hf : f_X8_knownToAll p0 σ = some (r, σ')) : CT l D cy ad yX8_knownToAll cX8_knownToAll 5 (some .int) rX8_knownToAll [.ref (ad 49), .int p0] σ (some (.int r)) σ' :=
  ct_of (by decide) (Nat.le_of_ble_eq_true rfl) (fun p e s m args below meth c A => e_X8_knownToAll (Γ := (p, l, e, rX8_knownToAll, s, m, args, below, meth, c, D, cy, ad, A, 0, 0, MQ below (QC D cy ad (some (.int r)) σ' A) args s 0 0 A)) p0 σ ⟨_, hf, rfl⟩)
theorem k_X8_knownToAll {Γ : CX} {cc : ByteArray} {nL : Nat} {own : String} {ret : Option FieldType} {rm : Room} {σ σ' : St} {pc pc' idx : Nat} {lv : List (Nat × Value)} {rest : List Value} {p0 : Int32} {r : Int32} (hl : Cond.methodLink own idx yX8_knownToAll ∈ TB) (hw : (rest.map fun v => v.category).sum ≤ 8) (hR : rX8_knownToAll.frames + 1 ≤ rm.frames ∧ 8 + (5 + 11) + rX8_knownToAll.locals ≤ rm.locals) (hd : decode cc pc = .ok (.invokevirtual idx, 3)) (hp : pc + 3 = pc') (hf : f_X8_knownToAll p0 σ = some (r, σ')) (h : WW Γ cc nL own ret rm σ' pc' lv (.int r :: rest)) : WW Γ cc nL own ret rm σ pc lv (.int p0 :: .ref (xd Γ 49) :: rest) :=
  w_callV (nn := 1) (i := 49) (As := [.int p0]) (v := (some (.int r))) (T := TX8) (N := 1) (c_X8_knownToAll hf) hl mw_X8_knownToAll (by decide +kernel) ⟨rfl, rfl⟩ hR (lt_lit (by decide)) cel_49 rfl rfl hw hd rfl hp h
/-! WarByHours.Suspects.knownToSome (I)I -/
def rX8_knownToSome : Room := { frames := 3, cells := 0, slots := 0, locals := 66 }
def f_X8_knownToSome_44 (K11 : Int32 × Int32 × Int32 × St → Option (Int32 × St)) (v2 : Int32) (v3 : Int32) (v4 : Int32) (σ : St) : Option (Int32 × St) :=
  bnd (v4 + (1 : Int32)) fun x1 =>
  K11 (v2, v3, x1, σ)
theorem b_X8_knownToSome_44 {Γ : CX} (K11 : Int32 × Int32 × Int32 × St → Option (Int32 × St)) (hK11 : ∀ (v2 : Int32) (v3 : Int32) (v4 : Int32) (σ : St), RR vI Γ (K11 (v2, v3, v4, σ)) → WW Γ cX8_knownToSome 5 RX8 (some .int) rX8_knownToSome σ 11 [(0, .ref (xd Γ 49)), (2, .int v2), (3, .int v3), (4, .int v4)] []) (v2 : Int32) (v3 : Int32) (v4 : Int32) (σ : St) (h : RR vI Γ (f_X8_knownToSome_44 K11 v2 v3 v4 σ)) : WW Γ cX8_knownToSome 5 RX8 (some .int) rX8_knownToSome σ 44 [(0, .ref (xd Γ 49)), (2, .int v2), (3, .int v3), (4, .int v4)] [] := by
  unfold f_X8_knownToSome_44 at h
  obtain ⟨x1, ex1⟩ : ∃ y : Int32, y = (v4 + (1 : Int32)) := ⟨_, rfl⟩
  replace h := h.bnd ex1
  refine w_iinc 3 x1 [(4, .int x1), (0, .ref (xd Γ 49)), (2, .int v2), (3, .int v3)] dX8_knownToSome_44 rfl (by rw [ex1, ic_iconst_1]) (by decide) rfl rfl ?_
  clear ex1
  refine w_goto (tgt := 11) dX8_knownToSome_47 (by decide) ?_
  exact w_sub [1, 2, 3, 0] rfl (hK11 v2 v3 x1 σ h)
def g_X8_knownToSome_11 (K11 : Int32 × Int32 × Int32 × St → Option (Int32 × St)) (x : Int32 × Int32 × Int32 × St) : Option (Int32 × St) := match x with
  | (v2, v3, v4, σ) =>
  if (gf σ 11 3) ≤ v4 then
    some (v3, σ)
  else
    bd (f_X10_isIn v2 v4 σ) fun r1 s2 =>
    if r1 = 0 then
      f_X8_knownToSome_44 K11 v2 v3 v4 s2
    else
      bd (f_X8_knownTo v4 s2) fun r4 s5 =>
      bnd ((v3 ||| r4)) fun x7 =>
      f_X8_knownToSome_44 K11 v2 x7 v4 s5
theorem l_X8_knownToSome_11 {Γ : CX} : ∀ (n : Nat) (v2 : Int32) (v3 : Int32) (v4 : Int32) (σ : St), RR vI Γ (itr (g_X8_knownToSome_11) n (v2, v3, v4, σ)) → WW Γ cX8_knownToSome 5 RX8 (some .int) rX8_knownToSome σ 11 [(0, .ref (xd Γ 49)), (2, .int v2), (3, .int v3), (4, .int v4)] [] := by
  intro n
  induction n with
  | zero => intro v2 v3 v4 σ h; exact RR.no h
  | succ n hK11 =>
  intro v2 v3 v4 σ h
  have h : RR vI Γ (g_X8_knownToSome_11 (itr (g_X8_knownToSome_11) n) (v2, v3, v4, σ)) := h
  generalize itr (g_X8_knownToSome_11) n = K11 at h hK11
  unfold g_X8_knownToSome_11 at h
  dsimp only at h
  refine w_iload 3 dX8_knownToSome_11 rfl rfl ?_
  refine w_aload_n 0 dX8_knownToSome_13 rfl rfl rfl ?_
  refine gf_RX8_9 dX8_knownToSome_14 rfl ?_
  refine gf_RX8_15 (i := 1) (isW_lit (by decide)) dX8_knownToSome_17 rfl ?_
  refine gf_RX8_21 (i := 11) (isT_lit (by decide)) dX8_knownToSome_20 rfl ?_
  refine w_icmp_ge (tgt := 50) dX8_knownToSome_23 (by decide) rfl (fun q => ?_) (fun q => ?_)
  · have h := h.tt q
    refine w_iload_n 2 dX8_knownToSome_50 rfl rfl rfl ?_
    exact w_ireturn dX8_knownToSome_51 h
  · have h := h.ff q
    refine w_iload_n 1 dX8_knownToSome_26 rfl rfl rfl ?_
    refine w_iload 3 dX8_knownToSome_27 rfl rfl ?_
    obtain ⟨r1, s2, h3, h⟩ := h.bd
    refine k_X10_isIn ml_RX8_46 (Nat.le_of_ble_eq_true rfl) ⟨Nat.le_of_ble_eq_true rfl, Nat.le_of_ble_eq_true rfl⟩ dX8_knownToSome_29 rfl h3 ?_
    refine w_if_eq (tgt := 44) dX8_knownToSome_32 (by decide) rfl (fun q => ?_) (fun q => ?_)
    · have h := h.tt q
      exact w_sub [0, 1, 2, 3] rfl (b_X8_knownToSome_44 K11 hK11 v2 v3 v4 s2 h)
    · have h := h.ff q
      refine w_iload_n 2 dX8_knownToSome_35 rfl rfl rfl ?_
      refine w_aload_n 0 dX8_knownToSome_36 rfl rfl rfl ?_
      refine w_iload 3 dX8_knownToSome_37 rfl rfl ?_
      obtain ⟨r4, s5, h6, h⟩ := h.bd
      refine k_X8_knownTo ml_RX8_27 (Nat.le_of_ble_eq_true rfl) ⟨Nat.le_of_ble_eq_true rfl, Nat.le_of_ble_eq_true rfl⟩ dX8_knownToSome_39 rfl h6 ?_
      refine w_ior dX8_knownToSome_42 rfl ?_
      refine w_nmI (fun x7 ex7 => ?_)
      replace h := h.bnd ex7
      clear ex7
      refine w_istore_n [(3, .int x7), (0, .ref (xd Γ 49)), (2, .int v2), (4, .int v4)] dX8_knownToSome_43 rfl (by decide) rfl rfl ?_
      exact w_sub [1, 2, 0, 3] rfl (b_X8_knownToSome_44 K11 hK11 v2 x7 v4 s5 h)
def f_X8_knownToSome (p0 : Int32) (σ : St) : Option (Int32 × St) :=
  bd (f_X8_fitting p0 σ) fun r1 s2 =>
  itr (g_X8_knownToSome_11) FU (r1, (0 : Int32), (0 : Int32), s2)
theorem e_X8_knownToSome {Γ : CX} (p0 : Int32) (σ : St) (h : RR vI Γ (f_X8_knownToSome p0 σ)) : WW Γ cX8_knownToSome 5 RX8 (some .int) rX8_knownToSome σ 0 [(0, .ref (xd Γ 49)), (1, .int p0)] [] := by
  unfold f_X8_knownToSome at h
  refine w_aload_n 0 dX8_knownToSome_0 rfl rfl rfl ?_
  refine w_iload_n 1 dX8_knownToSome_1 rfl rfl rfl ?_
  obtain ⟨r1, s2, h3, h⟩ := h.bd
  refine k_X8_fitting ml_RX8_31 (Nat.le_of_ble_eq_true rfl) ⟨Nat.le_of_ble_eq_true rfl, Nat.le_of_ble_eq_true rfl⟩ dX8_knownToSome_2 rfl h3 ?_
  refine w_istore_n [(2, .int r1), (0, .ref (xd Γ 49)), (1, .int p0)] dX8_knownToSome_5 rfl (by decide) rfl rfl ?_
  refine w_iconst (0 : Int32) dX8_knownToSome_6 ic_iconst_0 rfl ?_
  refine w_istore_n [(3, .int (0 : Int32)), (2, .int r1), (0, .ref (xd Γ 49)), (1, .int p0)] dX8_knownToSome_7 rfl (by decide) rfl rfl ?_
  refine w_iconst (0 : Int32) dX8_knownToSome_8 ic_iconst_0 rfl ?_
  refine w_istore [(4, .int (0 : Int32)), (3, .int (0 : Int32)), (2, .int r1), (0, .ref (xd Γ 49)), (1, .int p0)] dX8_knownToSome_9 (by decide) rfl rfl ?_
  exact w_sub [3, 2, 1, 0] rfl (l_X8_knownToSome_11 FU r1 (0 : Int32) (0 : Int32) s2 h)
theorem c_X8_knownToSome {l : Launch} {D : va_G} {cy : Nat → ClassId} {ad : Nat → Nat} {p0 : Int32} {σ σ' : St} {r : Int32} (hf : f_X8_knownToSome p0 σ = some (r, σ')) : CT l D cy ad yX8_knownToSome cX8_knownToSome 5 (some .int) rX8_knownToSome [.ref (ad 49), .int p0] σ (some (.int r)) σ' :=
  ct_of (by decide) (Nat.le_of_ble_eq_true rfl) (fun p e s m args below meth c A => e_X8_knownToSome (Γ := (p, l, e, rX8_knownToSome, s, m, args, below, meth, c, D, cy, ad, A, 0, 0, MQ below (QC D cy ad (some (.int r)) σ' A) args s 0 0 A)) p0 σ ⟨_, hf, rfl⟩)
theorem k_X8_knownToSome {Γ : CX} {cc : ByteArray} {nL : Nat} {own : String} {ret : Option FieldType} {rm : Room} {σ σ' : St} {pc pc' idx : Nat} {lv : List (Nat × Value)} {rest : List Value} {p0 : Int32} {r : Int32} (hl : Cond.methodLink own idx yX8_knownToSome ∈ TB) (hw : (rest.map fun v => v.category).sum ≤ 8) (hR : rX8_knownToSome.frames + 1 ≤ rm.frames ∧ 8 + (5 + 11) + rX8_knownToSome.locals ≤ rm.locals) (hd : decode cc pc = .ok (.invokevirtual idx, 3)) (hp : pc + 3 = pc') (hf : f_X8_knownToSome p0 σ = some (r, σ')) (h : WW Γ cc nL own ret rm σ' pc' lv (.int r :: rest)) : WW Γ cc nL own ret rm σ pc lv (.int p0 :: .ref (xd Γ 49) :: rest) :=
  w_callV (nn := 1) (i := 49) (As := [.int p0]) (v := (some (.int r))) (T := TX8) (N := 1) (c_X8_knownToSome hf) hl mw_X8_knownToSome (by decide +kernel) ⟨rfl, rfl⟩ hR (lt_lit (by decide)) cel_49 rfl rfl hw hd rfl hp h
/-! WarByHours.bribe (I)I -/
def rX11_bribe : Room := { frames := 5, cells := 0, slots := 0, locals := 115 }
def f_X11_bribe_32 (k0 : Int32) (σ : St) : Option (Int32 × St) :=
  some (k0, σ)
theorem b_X11_bribe_32 {Γ : CX} (k0 : Int32) (σ : St) (h : RR vI Γ (f_X11_bribe_32 k0 σ)) : WW Γ cX11_bribe 2 RX11 (some .int) rX11_bribe σ 32 [] [.int k0] := by
  unfold f_X11_bribe_32 at h
  exact w_ireturn dX11_bribe_32 h
def f_X11_bribe (p0 : Int32) (σ : St) : Option (Int32 × St) :=
  bd (f_X10_hasSide 1 p0 σ) fun r1 s2 =>
  if r1 = 0 then
    f_X11_bribe_32 (-2 : Int32) s2
  else
    bd (f_X3_bribedSet p0 (-1 : Int32) s2) fun r4 s5 =>
    bd (f_X10_priceOf 1 r4 s5) fun r7 s8 =>
    f_X11_bribe_32 r7 s8
theorem e_X11_bribe {Γ : CX} (p0 : Int32) (σ : St) (h : RR vI Γ (f_X11_bribe p0 σ)) : WW Γ cX11_bribe 2 RX11 (some .int) rX11_bribe σ 0 [(0, .ref (xd Γ 0)), (1, .int p0)] [] := by
  unfold f_X11_bribe at h
  refine w_aload_n 0 dX11_bribe_0 rfl rfl rfl ?_
  refine gf_RX11_10 dX11_bribe_1 rfl ?_
  refine w_iload_n 1 dX11_bribe_4 rfl rfl rfl ?_
  obtain ⟨r1, s2, h3, h⟩ := h.bd
  refine k_X10_hasSide ml_RX11_126 (Nat.le_of_ble_eq_true rfl) ⟨Nat.le_of_ble_eq_true rfl, Nat.le_of_ble_eq_true rfl⟩ dX11_bribe_5 rfl h3 ?_
  refine w_if_eq (tgt := 30) dX11_bribe_8 (by decide) rfl (fun q => ?_) (fun q => ?_)
  · have h := h.tt q
    refine w_bipush (-2 : Int32) dX11_bribe_30 ic_bipush_m2 rfl ?_
    exact w_sub [] rfl (b_X11_bribe_32 (-2 : Int32) s2 h)
  · have h := h.ff q
    refine w_aload_n 0 dX11_bribe_11 rfl rfl rfl ?_
    refine gf_RX11_10 dX11_bribe_12 rfl ?_
    refine w_aload_n 0 dX11_bribe_15 rfl rfl rfl ?_
    refine gf_RX11_40 dX11_bribe_16 rfl ?_
    refine w_iload_n 1 dX11_bribe_19 rfl rfl rfl ?_
    refine w_iconst (-1 : Int32) dX11_bribe_20 ic_iconst_m1 rfl ?_
    obtain ⟨r4, s5, h6, h⟩ := h.bd
    refine k_X3_bribedSet ml_RX11_241 (Nat.le_of_ble_eq_true rfl) ⟨Nat.le_of_ble_eq_true rfl, Nat.le_of_ble_eq_true rfl⟩ dX11_bribe_21 rfl h6 ?_
    obtain ⟨r7, s8, h9, h⟩ := h.bd
    refine k_X10_priceOf ml_RX11_228 (Nat.le_of_ble_eq_true rfl) ⟨Nat.le_of_ble_eq_true rfl, Nat.le_of_ble_eq_true rfl⟩ dX11_bribe_24 rfl h9 ?_
    refine w_goto (tgt := 32) dX11_bribe_27 (by decide) ?_
    exact w_sub [] rfl (b_X11_bribe_32 r7 s8 h)
theorem c_X11_bribe {l : Launch} {D : va_G} {cy : Nat → ClassId} {ad : Nat → Nat} {p0 : Int32} {σ σ' : St} {r : Int32} (hf : f_X11_bribe p0 σ = some (r, σ')) : CT l D cy ad yX11_bribe cX11_bribe 2 (some .int) rX11_bribe [.ref (ad 0), .int p0] σ (some (.int r)) σ' :=
  ct_of (by decide) (Nat.le_of_ble_eq_true rfl) (fun p e s m args below meth c A => e_X11_bribe (Γ := (p, l, e, rX11_bribe, s, m, args, below, meth, c, D, cy, ad, A, 0, 0, MQ below (QC D cy ad (some (.int r)) σ' A) args s 0 0 A)) p0 σ ⟨_, hf, rfl⟩)
theorem k_X11_bribe {Γ : CX} {cc : ByteArray} {nL : Nat} {own : String} {ret : Option FieldType} {rm : Room} {σ σ' : St} {pc pc' idx : Nat} {lv : List (Nat × Value)} {rest : List Value} {p0 : Int32} {r : Int32} (hl : Cond.methodLink own idx yX11_bribe ∈ TB) (hw : (rest.map fun v => v.category).sum ≤ 8) (hR : rX11_bribe.frames + 1 ≤ rm.frames ∧ 8 + (2 + 11) + rX11_bribe.locals ≤ rm.locals) (hd : decode cc pc = .ok (.invokevirtual idx, 3)) (hp : pc + 3 = pc') (hf : f_X11_bribe p0 σ = some (r, σ')) (h : WW Γ cc nL own ret rm σ' pc' lv (.int r :: rest)) : WW Γ cc nL own ret rm σ pc lv (.int p0 :: .ref (xd Γ 0) :: rest) :=
  w_callV (nn := 1) (i := 0) (As := [.int p0]) (v := (some (.int r))) (T := TX11) (N := 11) (c_X11_bribe hf) hl mw_X11_bribe (by decide +kernel) ⟨rfl, rfl⟩ hR (lt_lit (by decide)) cel_0 rfl rfl hw hd rfl hp h
/-! WarByHours.bribed (I)I -/
def rX11_bribed : Room := { frames := 5, cells := 0, slots := 0, locals := 115 }
def f_X11_bribed_25 (k0 : Int32) (σ : St) : Option (Int32 × St) :=
  some (k0, σ)
theorem b_X11_bribed_25 {Γ : CX} (k0 : Int32) (σ : St) (h : RR vI Γ (f_X11_bribed_25 k0 σ)) : WW Γ cX11_bribed 2 RX11 (some .int) rX11_bribed σ 25 [] [.int k0] := by
  unfold f_X11_bribed_25 at h
  exact w_ireturn dX11_bribed_25 h
def f_X11_bribed (p0 : Int32) (σ : St) : Option (Int32 × St) :=
  bd (f_X10_hasSide 1 p0 σ) fun r1 s2 =>
  if r1 = 0 then
    f_X11_bribed_25 (-2 : Int32) s2
  else
    bd (f_X3_bribedSet p0 (-1 : Int32) s2) fun r4 s5 =>
    f_X11_bribed_25 r4 s5
theorem e_X11_bribed {Γ : CX} (p0 : Int32) (σ : St) (h : RR vI Γ (f_X11_bribed p0 σ)) : WW Γ cX11_bribed 2 RX11 (some .int) rX11_bribed σ 0 [(0, .ref (xd Γ 0)), (1, .int p0)] [] := by
  unfold f_X11_bribed at h
  refine w_aload_n 0 dX11_bribed_0 rfl rfl rfl ?_
  refine gf_RX11_10 dX11_bribed_1 rfl ?_
  refine w_iload_n 1 dX11_bribed_4 rfl rfl rfl ?_
  obtain ⟨r1, s2, h3, h⟩ := h.bd
  refine k_X10_hasSide ml_RX11_126 (Nat.le_of_ble_eq_true rfl) ⟨Nat.le_of_ble_eq_true rfl, Nat.le_of_ble_eq_true rfl⟩ dX11_bribed_5 rfl h3 ?_
  refine w_if_eq (tgt := 23) dX11_bribed_8 (by decide) rfl (fun q => ?_) (fun q => ?_)
  · have h := h.tt q
    refine w_bipush (-2 : Int32) dX11_bribed_23 ic_bipush_m2 rfl ?_
    exact w_sub [] rfl (b_X11_bribed_25 (-2 : Int32) s2 h)
  · have h := h.ff q
    refine w_aload_n 0 dX11_bribed_11 rfl rfl rfl ?_
    refine gf_RX11_40 dX11_bribed_12 rfl ?_
    refine w_iload_n 1 dX11_bribed_15 rfl rfl rfl ?_
    refine w_iconst (-1 : Int32) dX11_bribed_16 ic_iconst_m1 rfl ?_
    obtain ⟨r4, s5, h6, h⟩ := h.bd
    refine k_X3_bribedSet ml_RX11_241 (Nat.le_of_ble_eq_true rfl) ⟨Nat.le_of_ble_eq_true rfl, Nat.le_of_ble_eq_true rfl⟩ dX11_bribed_17 rfl h6 ?_
    refine w_goto (tgt := 25) dX11_bribed_20 (by decide) ?_
    exact w_sub [] rfl (b_X11_bribed_25 r4 s5 h)
theorem c_X11_bribed {l : Launch} {D : va_G} {cy : Nat → ClassId} {ad : Nat → Nat} {p0 : Int32} {σ σ' : St} {r : Int32} (hf : f_X11_bribed p0 σ = some (r, σ')) : CT l D cy ad yX11_bribed cX11_bribed 2 (some .int) rX11_bribed [.ref (ad 0), .int p0] σ (some (.int r)) σ' :=
  ct_of (by decide) (Nat.le_of_ble_eq_true rfl) (fun p e s m args below meth c A => e_X11_bribed (Γ := (p, l, e, rX11_bribed, s, m, args, below, meth, c, D, cy, ad, A, 0, 0, MQ below (QC D cy ad (some (.int r)) σ' A) args s 0 0 A)) p0 σ ⟨_, hf, rfl⟩)
theorem k_X11_bribed {Γ : CX} {cc : ByteArray} {nL : Nat} {own : String} {ret : Option FieldType} {rm : Room} {σ σ' : St} {pc pc' idx : Nat} {lv : List (Nat × Value)} {rest : List Value} {p0 : Int32} {r : Int32} (hl : Cond.methodLink own idx yX11_bribed ∈ TB) (hw : (rest.map fun v => v.category).sum ≤ 8) (hR : rX11_bribed.frames + 1 ≤ rm.frames ∧ 8 + (2 + 11) + rX11_bribed.locals ≤ rm.locals) (hd : decode cc pc = .ok (.invokevirtual idx, 3)) (hp : pc + 3 = pc') (hf : f_X11_bribed p0 σ = some (r, σ')) (h : WW Γ cc nL own ret rm σ' pc' lv (.int r :: rest)) : WW Γ cc nL own ret rm σ pc lv (.int p0 :: .ref (xd Γ 0) :: rest) :=
  w_callV (nn := 1) (i := 0) (As := [.int p0]) (v := (some (.int r))) (T := TX11) (N := 11) (c_X11_bribed hf) hl mw_X11_bribed (by decide +kernel) ⟨rfl, rfl⟩ hR (lt_lit (by decide)) cel_0 rfl rfl hw hd rfl hp h
/-! WarByHours.guard (I)I -/
def rX11_guard : Room := { frames := 5, cells := 0, slots := 0, locals := 118 }
def f_X11_guard_24 (k0 : Int32) (σ : St) : Option (Int32 × St) :=
  some (k0, σ)
theorem b_X11_guard_24 {Γ : CX} (k0 : Int32) (σ : St) (h : RR vI Γ (f_X11_guard_24 k0 σ)) : WW Γ cX11_guard 2 RX11 (some .int) rX11_guard σ 24 [] [.int k0] := by
  unfold f_X11_guard_24 at h
  exact w_ireturn dX11_guard_24 h
def f_X11_guard (p0 : Int32) (σ : St) : Option (Int32 × St) :=
  bd (f_X10_hasSide 1 p0 σ) fun r1 s2 =>
  if r1 = 0 then
    f_X11_guard_24 (-2 : Int32) s2
  else
    bd (f_X3_guardedTrain p0 s2) fun r4 s5 =>
    f_X11_guard_24 r4 s5
theorem e_X11_guard {Γ : CX} (p0 : Int32) (σ : St) (h : RR vI Γ (f_X11_guard p0 σ)) : WW Γ cX11_guard 2 RX11 (some .int) rX11_guard σ 0 [(0, .ref (xd Γ 0)), (1, .int p0)] [] := by
  unfold f_X11_guard at h
  refine w_aload_n 0 dX11_guard_0 rfl rfl rfl ?_
  refine gf_RX11_10 dX11_guard_1 rfl ?_
  refine w_iload_n 1 dX11_guard_4 rfl rfl rfl ?_
  obtain ⟨r1, s2, h3, h⟩ := h.bd
  refine k_X10_hasSide ml_RX11_126 (Nat.le_of_ble_eq_true rfl) ⟨Nat.le_of_ble_eq_true rfl, Nat.le_of_ble_eq_true rfl⟩ dX11_guard_5 rfl h3 ?_
  refine w_if_eq (tgt := 22) dX11_guard_8 (by decide) rfl (fun q => ?_) (fun q => ?_)
  · have h := h.tt q
    refine w_bipush (-2 : Int32) dX11_guard_22 ic_bipush_m2 rfl ?_
    exact w_sub [] rfl (b_X11_guard_24 (-2 : Int32) s2 h)
  · have h := h.ff q
    refine w_aload_n 0 dX11_guard_11 rfl rfl rfl ?_
    refine gf_RX11_40 dX11_guard_12 rfl ?_
    refine w_iload_n 1 dX11_guard_15 rfl rfl rfl ?_
    obtain ⟨r4, s5, h6, h⟩ := h.bd
    refine k_X3_guardedTrain ml_RX11_244 (Nat.le_of_ble_eq_true rfl) ⟨Nat.le_of_ble_eq_true rfl, Nat.le_of_ble_eq_true rfl⟩ dX11_guard_16 rfl h6 ?_
    refine w_goto (tgt := 24) dX11_guard_19 (by decide) ?_
    exact w_sub [] rfl (b_X11_guard_24 r4 s5 h)
theorem c_X11_guard {l : Launch} {D : va_G} {cy : Nat → ClassId} {ad : Nat → Nat} {p0 : Int32} {σ σ' : St} {r : Int32} (hf : f_X11_guard p0 σ = some (r, σ')) : CT l D cy ad yX11_guard cX11_guard 2 (some .int) rX11_guard [.ref (ad 0), .int p0] σ (some (.int r)) σ' :=
  ct_of (by decide) (Nat.le_of_ble_eq_true rfl) (fun p e s m args below meth c A => e_X11_guard (Γ := (p, l, e, rX11_guard, s, m, args, below, meth, c, D, cy, ad, A, 0, 0, MQ below (QC D cy ad (some (.int r)) σ' A) args s 0 0 A)) p0 σ ⟨_, hf, rfl⟩)
theorem k_X11_guard {Γ : CX} {cc : ByteArray} {nL : Nat} {own : String} {ret : Option FieldType} {rm : Room} {σ σ' : St} {pc pc' idx : Nat} {lv : List (Nat × Value)} {rest : List Value} {p0 : Int32} {r : Int32} (hl : Cond.methodLink own idx yX11_guard ∈ TB) (hw : (rest.map fun v => v.category).sum ≤ 8) (hR : rX11_guard.frames + 1 ≤ rm.frames ∧ 8 + (2 + 11) + rX11_guard.locals ≤ rm.locals) (hd : decode cc pc = .ok (.invokevirtual idx, 3)) (hp : pc + 3 = pc') (hf : f_X11_guard p0 σ = some (r, σ')) (h : WW Γ cc nL own ret rm σ' pc' lv (.int r :: rest)) : WW Γ cc nL own ret rm σ pc lv (.int p0 :: .ref (xd Γ 0) :: rest) :=
  w_callV (nn := 1) (i := 0) (As := [.int p0]) (v := (some (.int r))) (T := TX11) (N := 11) (c_X11_guard hf) hl mw_X11_guard (by decide +kernel) ⟨rfl, rfl⟩ hR (lt_lit (by decide)) cel_0 rfl rfl hw hd rfl hp h
/-! WarByHours.guarded (I)I -/
def rX11_guarded : Room := { frames := 5, cells := 0, slots := 0, locals := 118 }
def f_X11_guarded_50 (k0 : Int32) (σ : St) : Option (Int32 × St) :=
  some (k0, σ)
theorem b_X11_guarded_50 {Γ : CX} (k0 : Int32) (σ : St) (h : RR vI Γ (f_X11_guarded_50 k0 σ)) : WW Γ cX11_guarded 3 RX11 (some .int) rX11_guarded σ 50 [] [.int k0] := by
  unfold f_X11_guarded_50 at h
  exact w_ireturn dX11_guarded_50 h
def f_X11_guarded_23 (v1 : Int32) (k0 : Int32) (σ : St) : Option (Int32 × St) :=
  if k0 = (-1 : Int32) then
    f_X11_guarded_50 (-2 : Int32) σ
  else
    bd (f_X3_bribedSet v1 k0 σ) fun r1 s2 =>
    bd (f_X10_priceOf 1 r1 s2) fun r4 s5 =>
    f_X11_guarded_50 r4 s5
theorem b_X11_guarded_23 {Γ : CX} (v1 : Int32) (k0 : Int32) (σ : St) (h : RR vI Γ (f_X11_guarded_23 v1 k0 σ)) : WW Γ cX11_guarded 3 RX11 (some .int) rX11_guarded σ 23 [(0, .ref (xd Γ 0)), (1, .int v1)] [.int k0] := by
  unfold f_X11_guarded_23 at h
  refine w_istore_n [(2, .int k0), (0, .ref (xd Γ 0)), (1, .int v1)] dX11_guarded_23 rfl (by decide) rfl rfl ?_
  refine w_iload_n 0 dX11_guarded_24 rfl rfl rfl ?_
  refine w_iconst (-1 : Int32) dX11_guarded_25 ic_iconst_m1 rfl ?_
  refine w_icmp_ne (tgt := 34) dX11_guarded_26 (by decide) rfl (fun q => ?_) (fun q => ?_)
  · have h := h.ff q
    refine w_aload_n 1 dX11_guarded_34 rfl rfl rfl ?_
    refine gf_RX11_10 dX11_guarded_35 rfl ?_
    refine w_aload_n 1 dX11_guarded_38 rfl rfl rfl ?_
    refine gf_RX11_40 dX11_guarded_39 rfl ?_
    refine w_iload_n 2 dX11_guarded_42 rfl rfl rfl ?_
    refine w_iload_n 0 dX11_guarded_43 rfl rfl rfl ?_
    obtain ⟨r1, s2, h3, h⟩ := h.bd
    refine k_X3_bribedSet ml_RX11_241 (Nat.le_of_ble_eq_true rfl) ⟨Nat.le_of_ble_eq_true rfl, Nat.le_of_ble_eq_true rfl⟩ dX11_guarded_44 rfl h3 ?_
    obtain ⟨r4, s5, h6, h⟩ := h.bd
    refine k_X10_priceOf ml_RX11_228 (Nat.le_of_ble_eq_true rfl) ⟨Nat.le_of_ble_eq_true rfl, Nat.le_of_ble_eq_true rfl⟩ dX11_guarded_47 rfl h6 ?_
    exact w_sub [] rfl (b_X11_guarded_50 r4 s5 h)
  · have h := h.tt q
    refine w_bipush (-2 : Int32) dX11_guarded_29 ic_bipush_m2 rfl ?_
    refine w_goto (tgt := 50) dX11_guarded_31 (by decide) ?_
    exact w_sub [] rfl (b_X11_guarded_50 (-2 : Int32) σ h)
def f_X11_guarded (p0 : Int32) (σ : St) : Option (Int32 × St) :=
  bd (f_X10_hasSide 1 p0 σ) fun r1 s2 =>
  if r1 = 0 then
    f_X11_guarded_23 p0 (-1 : Int32) s2
  else
    bd (f_X3_guardedTrain p0 s2) fun r4 s5 =>
    f_X11_guarded_23 p0 r4 s5
theorem e_X11_guarded {Γ : CX} (p0 : Int32) (σ : St) (h : RR vI Γ (f_X11_guarded p0 σ)) : WW Γ cX11_guarded 3 RX11 (some .int) rX11_guarded σ 0 [(0, .ref (xd Γ 0)), (1, .int p0)] [] := by
  unfold f_X11_guarded at h
  refine w_aload_n 0 dX11_guarded_0 rfl rfl rfl ?_
  refine gf_RX11_10 dX11_guarded_1 rfl ?_
  refine w_iload_n 1 dX11_guarded_4 rfl rfl rfl ?_
  obtain ⟨r1, s2, h3, h⟩ := h.bd
  refine k_X10_hasSide ml_RX11_126 (Nat.le_of_ble_eq_true rfl) ⟨Nat.le_of_ble_eq_true rfl, Nat.le_of_ble_eq_true rfl⟩ dX11_guarded_5 rfl h3 ?_
  refine w_if_eq (tgt := 22) dX11_guarded_8 (by decide) rfl (fun q => ?_) (fun q => ?_)
  · have h := h.tt q
    refine w_iconst (-1 : Int32) dX11_guarded_22 ic_iconst_m1 rfl ?_
    exact w_sub [0, 1] rfl (b_X11_guarded_23 p0 (-1 : Int32) s2 h)
  · have h := h.ff q
    refine w_aload_n 0 dX11_guarded_11 rfl rfl rfl ?_
    refine gf_RX11_40 dX11_guarded_12 rfl ?_
    refine w_iload_n 1 dX11_guarded_15 rfl rfl rfl ?_
    obtain ⟨r4, s5, h6, h⟩ := h.bd
    refine k_X3_guardedTrain ml_RX11_244 (Nat.le_of_ble_eq_true rfl) ⟨Nat.le_of_ble_eq_true rfl, Nat.le_of_ble_eq_true rfl⟩ dX11_guarded_16 rfl h6 ?_
    refine w_goto (tgt := 23) dX11_guarded_19 (by decide) ?_
    exact w_sub [0, 1] rfl (b_X11_guarded_23 p0 r4 s5 h)
theorem c_X11_guarded {l : Launch} {D : va_G} {cy : Nat → ClassId} {ad : Nat → Nat} {p0 : Int32} {σ σ' : St} {r : Int32} (hf : f_X11_guarded p0 σ = some (r, σ')) : CT l D cy ad yX11_guarded cX11_guarded 3 (some .int) rX11_guarded [.ref (ad 0), .int p0] σ (some (.int r)) σ' :=
  ct_of (by decide) (Nat.le_of_ble_eq_true rfl) (fun p e s m args below meth c A => e_X11_guarded (Γ := (p, l, e, rX11_guarded, s, m, args, below, meth, c, D, cy, ad, A, 0, 0, MQ below (QC D cy ad (some (.int r)) σ' A) args s 0 0 A)) p0 σ ⟨_, hf, rfl⟩)
theorem k_X11_guarded {Γ : CX} {cc : ByteArray} {nL : Nat} {own : String} {ret : Option FieldType} {rm : Room} {σ σ' : St} {pc pc' idx : Nat} {lv : List (Nat × Value)} {rest : List Value} {p0 : Int32} {r : Int32} (hl : Cond.methodLink own idx yX11_guarded ∈ TB) (hw : (rest.map fun v => v.category).sum ≤ 8) (hR : rX11_guarded.frames + 1 ≤ rm.frames ∧ 8 + (3 + 11) + rX11_guarded.locals ≤ rm.locals) (hd : decode cc pc = .ok (.invokevirtual idx, 3)) (hp : pc + 3 = pc') (hf : f_X11_guarded p0 σ = some (r, σ')) (h : WW Γ cc nL own ret rm σ' pc' lv (.int r :: rest)) : WW Γ cc nL own ret rm σ pc lv (.int p0 :: .ref (xd Γ 0) :: rest) :=
  w_callV (nn := 1) (i := 0) (As := [.int p0]) (v := (some (.int r))) (T := TX11) (N := 11) (c_X11_guarded hf) hl mw_X11_guarded (by decide +kernel) ⟨rfl, rfl⟩ hR (lt_lit (by decide)) cel_0 rfl rfl hw hd rfl hp h
/-! WarByHours.spoil (II)I -/
def rX11_spoil : Room := { frames := 7, cells := 0, slots := 0, locals := 163 }
def f_X11_spoil_32 (k0 : Int32) (σ : St) : Option (Int32 × St) :=
  some (k0, σ)
theorem b_X11_spoil_32 {Γ : CX} (k0 : Int32) (σ : St) (h : RR vI Γ (f_X11_spoil_32 k0 σ)) : WW Γ cX11_spoil 3 RX11 (some .int) rX11_spoil σ 32 [] [.int k0] := by
  unfold f_X11_spoil_32 at h
  exact w_ireturn dX11_spoil_32 h
def f_X11_spoil (p0 : Int32) (p1 : Int32) (σ : St) : Option (Int32 × St) :=
  bd (f_X11_isPurse p0 p1 σ) fun r1 s2 =>
  if r1 = 0 then
    f_X11_spoil_32 (-1000 : Int32) s2
  else
    bd (f_X3_spoiledSet p0 p1 s2) fun r4 s5 =>
    bd (f_X2_goodAtEnd p0 r4 s5) fun r7 s8 =>
    f_X11_spoil_32 r7 s8
theorem e_X11_spoil {Γ : CX} (p0 : Int32) (p1 : Int32) (σ : St) (h : RR vI Γ (f_X11_spoil p0 p1 σ)) : WW Γ cX11_spoil 3 RX11 (some .int) rX11_spoil σ 0 [(0, .ref (xd Γ 0)), (1, .int p0), (2, .int p1)] [] := by
  unfold f_X11_spoil at h
  refine w_aload_n 0 dX11_spoil_0 rfl rfl rfl ?_
  refine w_iload_n 1 dX11_spoil_1 rfl rfl rfl ?_
  refine w_iload_n 2 dX11_spoil_2 rfl rfl rfl ?_
  obtain ⟨r1, s2, h3, h⟩ := h.bd
  refine k_X11_isPurse ml_RX11_247 (Nat.le_of_ble_eq_true rfl) ⟨Nat.le_of_ble_eq_true rfl, Nat.le_of_ble_eq_true rfl⟩ dX11_spoil_3 rfl h3 ?_
  refine w_if_eq (tgt := 29) dX11_spoil_6 (by decide) rfl (fun q => ?_) (fun q => ?_)
  · have h := h.tt q
    refine w_sipush (-1000 : Int32) dX11_spoil_29 ic_sipush_m1000 rfl ?_
    exact w_sub [] rfl (b_X11_spoil_32 (-1000 : Int32) s2 h)
  · have h := h.ff q
    refine w_aload_n 0 dX11_spoil_9 rfl rfl rfl ?_
    refine gf_RX11_31 dX11_spoil_10 rfl ?_
    refine w_iload_n 1 dX11_spoil_13 rfl rfl rfl ?_
    refine w_aload_n 0 dX11_spoil_14 rfl rfl rfl ?_
    refine gf_RX11_40 dX11_spoil_15 rfl ?_
    refine w_iload_n 1 dX11_spoil_18 rfl rfl rfl ?_
    refine w_iload_n 2 dX11_spoil_19 rfl rfl rfl ?_
    obtain ⟨r4, s5, h6, h⟩ := h.bd
    refine k_X3_spoiledSet ml_RX11_250 (Nat.le_of_ble_eq_true rfl) ⟨Nat.le_of_ble_eq_true rfl, Nat.le_of_ble_eq_true rfl⟩ dX11_spoil_20 rfl h6 ?_
    obtain ⟨r7, s8, h9, h⟩ := h.bd
    refine k_X2_goodAtEnd ml_RX11_184 (Nat.le_of_ble_eq_true rfl) ⟨Nat.le_of_ble_eq_true rfl, Nat.le_of_ble_eq_true rfl⟩ dX11_spoil_23 rfl h9 ?_
    refine w_goto (tgt := 32) dX11_spoil_26 (by decide) ?_
    exact w_sub [] rfl (b_X11_spoil_32 r7 s8 h)
theorem c_X11_spoil {l : Launch} {D : va_G} {cy : Nat → ClassId} {ad : Nat → Nat} {p0 : Int32} {p1 : Int32} {σ σ' : St} {r : Int32} (hf : f_X11_spoil p0 p1 σ = some (r, σ')) : CT l D cy ad yX11_spoil cX11_spoil 3 (some .int) rX11_spoil [.ref (ad 0), .int p0, .int p1] σ (some (.int r)) σ' :=
  ct_of (by decide) (Nat.le_of_ble_eq_true rfl) (fun p e s m args below meth c A => e_X11_spoil (Γ := (p, l, e, rX11_spoil, s, m, args, below, meth, c, D, cy, ad, A, 0, 0, MQ below (QC D cy ad (some (.int r)) σ' A) args s 0 0 A)) p0 p1 σ ⟨_, hf, rfl⟩)
theorem k_X11_spoil {Γ : CX} {cc : ByteArray} {nL : Nat} {own : String} {ret : Option FieldType} {rm : Room} {σ σ' : St} {pc pc' idx : Nat} {lv : List (Nat × Value)} {rest : List Value} {p0 : Int32} {p1 : Int32} {r : Int32} (hl : Cond.methodLink own idx yX11_spoil ∈ TB) (hw : (rest.map fun v => v.category).sum ≤ 8) (hR : rX11_spoil.frames + 1 ≤ rm.frames ∧ 8 + (3 + 11) + rX11_spoil.locals ≤ rm.locals) (hd : decode cc pc = .ok (.invokevirtual idx, 3)) (hp : pc + 3 = pc') (hf : f_X11_spoil p0 p1 σ = some (r, σ')) (h : WW Γ cc nL own ret rm σ' pc' lv (.int r :: rest)) : WW Γ cc nL own ret rm σ pc lv (.int p1 :: .int p0 :: .ref (xd Γ 0) :: rest) :=
  w_callV (nn := 2) (i := 0) (As := [.int p0, .int p1]) (v := (some (.int r))) (T := TX11) (N := 11) (c_X11_spoil hf) hl mw_X11_spoil (by decide +kernel) ⟨rfl, rfl⟩ hR (lt_lit (by decide)) cel_0 rfl rfl hw hd rfl hp h
