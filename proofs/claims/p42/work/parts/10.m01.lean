/-! WarByHours.train (II)I -/
def rX11_train : Room := { frames := 1, cells := 0, slots := 0, locals := 22 }
def f_X11_train (p0 : Int32) (p1 : Int32) (σ : St) : Option (Int32 × St) :=
  bd (f_X9_cell 3 p0 p1 σ) fun r1 s2 =>
  some (r1, s2)
theorem e_X11_train {Γ : CX} (p0 : Int32) (p1 : Int32) (σ : St) (h : RR vI Γ (f_X11_train p0 p1 σ)) : WW Γ cX11_train 3 RX11 (some .int) rX11_train σ 0 [(0, .ref (xd Γ 0)), (1, .int p0), (2, .int p1)] [] := by
  unfold f_X11_train at h
  refine w_aload_n 0 dX11_train_0 rfl rfl rfl ?_
  refine gf_RX11_10 dX11_train_1 rfl ?_
  refine gf_RX11_116 (i := 1) (isW_lit (by decide)) dX11_train_4 rfl ?_
  refine w_iload_n 1 dX11_train_7 rfl rfl rfl ?_
  refine w_iload_n 2 dX11_train_8 rfl rfl rfl ?_
  obtain ⟨r1, s2, h3, h⟩ := h.bd
  refine k_X9_cell ml_RX11_120 (Nat.le_of_ble_eq_true rfl) ⟨Nat.le_of_ble_eq_true rfl, Nat.le_of_ble_eq_true rfl⟩ dX11_train_9 rfl h3 ?_
  exact w_ireturn dX11_train_12 h
theorem c_X11_train {l : Launch} {D : va_G} {cy : Nat → ClassId} {ad : Nat → Nat} {p0 : Int32} {p1 : Int32} {σ σ' : St} {r : Int32} (hf : f_X11_train p0 p1 σ = some (r, σ')) : CT l D cy ad yX11_train cX11_train 3 (some .int) rX11_train [.ref (ad 0), .int p0, .int p1] σ (some (.int r)) σ' :=
  ct_of (by decide) (Nat.le_of_ble_eq_true rfl) (fun p e s m args below meth c A => e_X11_train (Γ := (p, l, e, rX11_train, s, m, args, below, meth, c, D, cy, ad, A, 0, 0, MQ below (QC D cy ad (some (.int r)) σ' A) args s 0 0 A)) p0 p1 σ ⟨_, hf, rfl⟩)
theorem k_X11_train {Γ : CX} {cc : ByteArray} {nL : Nat} {own : String} {ret : Option FieldType} {rm : Room} {σ σ' : St} {pc pc' idx : Nat} {lv : List (Nat × Value)} {rest : List Value} {p0 : Int32} {p1 : Int32} {r : Int32} (hl : Cond.methodLink own idx yX11_train ∈ TB) (hw : (rest.map fun v => v.category).sum ≤ 8) (hR : rX11_train.frames + 1 ≤ rm.frames ∧ 8 + (3 + 11) + rX11_train.locals ≤ rm.locals) (hd : decode cc pc = .ok (.invokevirtual idx, 3)) (hp : pc + 3 = pc') (hf : f_X11_train p0 p1 σ = some (r, σ')) (h : WW Γ cc nL own ret rm σ' pc' lv (.int r :: rest)) : WW Γ cc nL own ret rm σ pc lv (.int p1 :: .int p0 :: .ref (xd Γ 0) :: rest) :=
  w_callV (nn := 2) (i := 0) (As := [.int p0, .int p1]) (v := (some (.int r))) (T := TX11) (N := 11) (c_X11_train hf) hl mw_X11_train (by decide +kernel) ⟨rfl, rfl⟩ hR (lt_lit (by decide)) cel_0 rfl rfl hw hd rfl hp h
/-! WarByHours.need (I)I -/
def rX11_need : Room := { frames := 2, cells := 0, slots := 0, locals := 41 }
def f_X11_need_24 (k0 : Int32) (σ : St) : Option (Int32 × St) :=
  some (k0, σ)
theorem b_X11_need_24 {Γ : CX} (k0 : Int32) (σ : St) (h : RR vI Γ (f_X11_need_24 k0 σ)) : WW Γ cX11_need 2 RX11 (some .int) rX11_need σ 24 [] [.int k0] := by
  unfold f_X11_need_24 at h
  exact w_ireturn dX11_need_24 h
def f_X11_need (p0 : Int32) (σ : St) : Option (Int32 × St) :=
  bd (f_X10_hasSide 1 p0 σ) fun r1 s2 =>
  if r1 = 0 then
    f_X11_need_24 (-2 : Int32) s2
  else
    bd (f_X10_needOf 1 p0 s2) fun r4 s5 =>
    f_X11_need_24 r4 s5
theorem e_X11_need {Γ : CX} (p0 : Int32) (σ : St) (h : RR vI Γ (f_X11_need p0 σ)) : WW Γ cX11_need 2 RX11 (some .int) rX11_need σ 0 [(0, .ref (xd Γ 0)), (1, .int p0)] [] := by
  unfold f_X11_need at h
  refine w_aload_n 0 dX11_need_0 rfl rfl rfl ?_
  refine gf_RX11_10 dX11_need_1 rfl ?_
  refine w_iload_n 1 dX11_need_4 rfl rfl rfl ?_
  obtain ⟨r1, s2, h3, h⟩ := h.bd
  refine k_X10_hasSide ml_RX11_126 (Nat.le_of_ble_eq_true rfl) ⟨Nat.le_of_ble_eq_true rfl, Nat.le_of_ble_eq_true rfl⟩ dX11_need_5 rfl h3 ?_
  refine w_if_eq (tgt := 22) dX11_need_8 (by decide) rfl (fun q => ?_) (fun q => ?_)
  · have h := h.tt q
    refine w_bipush (-2 : Int32) dX11_need_22 ic_bipush_m2 rfl ?_
    exact w_sub [] rfl (b_X11_need_24 (-2 : Int32) s2 h)
  · have h := h.ff q
    refine w_aload_n 0 dX11_need_11 rfl rfl rfl ?_
    refine gf_RX11_10 dX11_need_12 rfl ?_
    refine w_iload_n 1 dX11_need_15 rfl rfl rfl ?_
    obtain ⟨r4, s5, h6, h⟩ := h.bd
    refine k_X10_needOf ml_RX11_129 (Nat.le_of_ble_eq_true rfl) ⟨Nat.le_of_ble_eq_true rfl, Nat.le_of_ble_eq_true rfl⟩ dX11_need_16 rfl h6 ?_
    refine w_goto (tgt := 24) dX11_need_19 (by decide) ?_
    exact w_sub [] rfl (b_X11_need_24 r4 s5 h)
theorem c_X11_need {l : Launch} {D : va_G} {cy : Nat → ClassId} {ad : Nat → Nat} {p0 : Int32} {σ σ' : St} {r : Int32} (hf : f_X11_need p0 σ = some (r, σ')) : CT l D cy ad yX11_need cX11_need 2 (some .int) rX11_need [.ref (ad 0), .int p0] σ (some (.int r)) σ' :=
  ct_of (by decide) (Nat.le_of_ble_eq_true rfl) (fun p e s m args below meth c A => e_X11_need (Γ := (p, l, e, rX11_need, s, m, args, below, meth, c, D, cy, ad, A, 0, 0, MQ below (QC D cy ad (some (.int r)) σ' A) args s 0 0 A)) p0 σ ⟨_, hf, rfl⟩)
theorem k_X11_need {Γ : CX} {cc : ByteArray} {nL : Nat} {own : String} {ret : Option FieldType} {rm : Room} {σ σ' : St} {pc pc' idx : Nat} {lv : List (Nat × Value)} {rest : List Value} {p0 : Int32} {r : Int32} (hl : Cond.methodLink own idx yX11_need ∈ TB) (hw : (rest.map fun v => v.category).sum ≤ 8) (hR : rX11_need.frames + 1 ≤ rm.frames ∧ 8 + (2 + 11) + rX11_need.locals ≤ rm.locals) (hd : decode cc pc = .ok (.invokevirtual idx, 3)) (hp : pc + 3 = pc') (hf : f_X11_need p0 σ = some (r, σ')) (h : WW Γ cc nL own ret rm σ' pc' lv (.int r :: rest)) : WW Γ cc nL own ret rm σ pc lv (.int p0 :: .ref (xd Γ 0) :: rest) :=
  w_callV (nn := 1) (i := 0) (As := [.int p0]) (v := (some (.int r))) (T := TX11) (N := 11) (c_X11_need hf) hl mw_X11_need (by decide +kernel) ⟨rfl, rfl⟩ hR (lt_lit (by decide)) cel_0 rfl rfl hw hd rfl hp h
/-! WarByHours.tea (I)I -/
def rX11_tea : Room := { frames := 2, cells := 0, slots := 0, locals := 44 }
def f_X11_tea_25 (σ : St) : Option (Int32 × St) :=
  some ((-2 : Int32), σ)
theorem b_X11_tea_25 {Γ : CX} (σ : St) (h : RR vI Γ (f_X11_tea_25 σ)) : WW Γ cX11_tea 2 RX11 (some .int) rX11_tea σ 25 [] [] := by
  unfold f_X11_tea_25 at h
  refine w_bipush (-2 : Int32) dX11_tea_25 ic_bipush_m2 rfl ?_
  exact w_ireturn dX11_tea_27 h
def f_X11_tea_44 (k0 : Int32) (σ : St) : Option (Int32 × St) :=
  some (k0, σ)
theorem b_X11_tea_44 {Γ : CX} (k0 : Int32) (σ : St) (h : RR vI Γ (f_X11_tea_44 k0 σ)) : WW Γ cX11_tea 2 RX11 (some .int) rX11_tea σ 44 [] [.int k0] := by
  unfold f_X11_tea_44 at h
  exact w_ireturn dX11_tea_44 h
def f_X11_tea (p0 : Int32) (σ : St) : Option (Int32 × St) :=
  bd (f_X10_isTold 1 σ) fun r1 s2 =>
  if r1 = 0 then
    f_X11_tea_25 s2
  else
    if p0 < 0 then
      f_X11_tea_25 s2
    else
      if p0 < (gf s2 1 1) then
        bd (f_X10_isTea 1 p0 s2) fun r4 s5 =>
        if r4 = 0 then
          f_X11_tea_44 (0 : Int32) s5
        else
          f_X11_tea_44 (1 : Int32) s5
      else
        f_X11_tea_25 s2
theorem e_X11_tea {Γ : CX} (p0 : Int32) (σ : St) (h : RR vI Γ (f_X11_tea p0 σ)) : WW Γ cX11_tea 2 RX11 (some .int) rX11_tea σ 0 [(0, .ref (xd Γ 0)), (1, .int p0)] [] := by
  unfold f_X11_tea at h
  refine w_aload_n 0 dX11_tea_0 rfl rfl rfl ?_
  refine gf_RX11_10 dX11_tea_1 rfl ?_
  obtain ⟨r1, s2, h3, h⟩ := h.bd
  refine k_X10_isTold ml_RX11_133 (Nat.le_of_ble_eq_true rfl) ⟨Nat.le_of_ble_eq_true rfl, Nat.le_of_ble_eq_true rfl⟩ dX11_tea_4 rfl h3 ?_
  refine w_if_eq (tgt := 25) dX11_tea_7 (by decide) rfl (fun q => ?_) (fun q => ?_)
  · have h := h.tt q
    exact w_sub [] rfl (b_X11_tea_25 s2 h)
  · have h := h.ff q
    refine w_iload_n 1 dX11_tea_10 rfl rfl rfl ?_
    refine w_if_lt (tgt := 25) dX11_tea_11 (by decide) rfl (fun q => ?_) (fun q => ?_)
    · have h := h.tt q
      exact w_sub [] rfl (b_X11_tea_25 s2 h)
    · have h := h.ff q
      refine w_iload_n 1 dX11_tea_14 rfl rfl rfl ?_
      refine w_aload_n 0 dX11_tea_15 rfl rfl rfl ?_
      refine gf_RX11_10 dX11_tea_16 rfl ?_
      refine gf_RX11_137 (i := 1) (isW_lit (by decide)) dX11_tea_19 rfl ?_
      refine w_icmp_lt (tgt := 28) dX11_tea_22 (by decide) rfl (fun q => ?_) (fun q => ?_)
      · have h := h.tt q
        refine w_aload_n 0 dX11_tea_28 rfl rfl rfl ?_
        refine gf_RX11_10 dX11_tea_29 rfl ?_
        refine w_iload_n 1 dX11_tea_32 rfl rfl rfl ?_
        obtain ⟨r4, s5, h6, h⟩ := h.bd
        refine k_X10_isTea ml_RX11_140 (Nat.le_of_ble_eq_true rfl) ⟨Nat.le_of_ble_eq_true rfl, Nat.le_of_ble_eq_true rfl⟩ dX11_tea_33 rfl h6 ?_
        refine w_if_eq (tgt := 43) dX11_tea_36 (by decide) rfl (fun q => ?_) (fun q => ?_)
        · have h := h.tt q
          refine w_iconst (0 : Int32) dX11_tea_43 ic_iconst_0 rfl ?_
          exact w_sub [] rfl (b_X11_tea_44 (0 : Int32) s5 h)
        · have h := h.ff q
          refine w_iconst (1 : Int32) dX11_tea_39 ic_iconst_1 rfl ?_
          refine w_goto (tgt := 44) dX11_tea_40 (by decide) ?_
          exact w_sub [] rfl (b_X11_tea_44 (1 : Int32) s5 h)
      · have h := h.ff q
        exact w_sub [] rfl (b_X11_tea_25 s2 h)
theorem c_X11_tea {l : Launch} {D : va_G} {cy : Nat → ClassId} {ad : Nat → Nat} {p0 : Int32} {σ σ' : St} {r : Int32} (hf : f_X11_tea p0 σ = some (r, σ')) : CT l D cy ad yX11_tea cX11_tea 2 (some .int) rX11_tea [.ref (ad 0), .int p0] σ (some (.int r)) σ' :=
  ct_of (by decide) (Nat.le_of_ble_eq_true rfl) (fun p e s m args below meth c A => e_X11_tea (Γ := (p, l, e, rX11_tea, s, m, args, below, meth, c, D, cy, ad, A, 0, 0, MQ below (QC D cy ad (some (.int r)) σ' A) args s 0 0 A)) p0 σ ⟨_, hf, rfl⟩)
theorem k_X11_tea {Γ : CX} {cc : ByteArray} {nL : Nat} {own : String} {ret : Option FieldType} {rm : Room} {σ σ' : St} {pc pc' idx : Nat} {lv : List (Nat × Value)} {rest : List Value} {p0 : Int32} {r : Int32} (hl : Cond.methodLink own idx yX11_tea ∈ TB) (hw : (rest.map fun v => v.category).sum ≤ 8) (hR : rX11_tea.frames + 1 ≤ rm.frames ∧ 8 + (2 + 11) + rX11_tea.locals ≤ rm.locals) (hd : decode cc pc = .ok (.invokevirtual idx, 3)) (hp : pc + 3 = pc') (hf : f_X11_tea p0 σ = some (r, σ')) (h : WW Γ cc nL own ret rm σ' pc' lv (.int r :: rest)) : WW Γ cc nL own ret rm σ pc lv (.int p0 :: .ref (xd Γ 0) :: rest) :=
  w_callV (nn := 1) (i := 0) (As := [.int p0]) (v := (some (.int r))) (T := TX11) (N := 11) (c_X11_tea hf) hl mw_X11_tea (by decide +kernel) ⟨rfl, rfl⟩ hR (lt_lit (by decide)) cel_0 rfl rfl hw hd rfl hp h
/-! WarByHours.cannon (II)I -/
def rX11_cannon : Room := { frames := 1, cells := 0, slots := 0, locals := 22 }
def f_X11_cannon (p0 : Int32) (p1 : Int32) (σ : St) : Option (Int32 × St) :=
  bd (f_X9_cell 7 p0 p1 σ) fun r1 s2 =>
  some (r1, s2)
theorem e_X11_cannon {Γ : CX} (p0 : Int32) (p1 : Int32) (σ : St) (h : RR vI Γ (f_X11_cannon p0 p1 σ)) : WW Γ cX11_cannon 3 RX11 (some .int) rX11_cannon σ 0 [(0, .ref (xd Γ 0)), (1, .int p0), (2, .int p1)] [] := by
  unfold f_X11_cannon at h
  refine w_aload_n 0 dX11_cannon_0 rfl rfl rfl ?_
  refine gf_RX11_10 dX11_cannon_1 rfl ?_
  refine gf_RX11_143 (i := 1) (isW_lit (by decide)) dX11_cannon_4 rfl ?_
  refine w_iload_n 1 dX11_cannon_7 rfl rfl rfl ?_
  refine w_iload_n 2 dX11_cannon_8 rfl rfl rfl ?_
  obtain ⟨r1, s2, h3, h⟩ := h.bd
  refine k_X9_cell ml_RX11_120 (Nat.le_of_ble_eq_true rfl) ⟨Nat.le_of_ble_eq_true rfl, Nat.le_of_ble_eq_true rfl⟩ dX11_cannon_9 rfl h3 ?_
  exact w_ireturn dX11_cannon_12 h
theorem c_X11_cannon {l : Launch} {D : va_G} {cy : Nat → ClassId} {ad : Nat → Nat} {p0 : Int32} {p1 : Int32} {σ σ' : St} {r : Int32} (hf : f_X11_cannon p0 p1 σ = some (r, σ')) : CT l D cy ad yX11_cannon cX11_cannon 3 (some .int) rX11_cannon [.ref (ad 0), .int p0, .int p1] σ (some (.int r)) σ' :=
  ct_of (by decide) (Nat.le_of_ble_eq_true rfl) (fun p e s m args below meth c A => e_X11_cannon (Γ := (p, l, e, rX11_cannon, s, m, args, below, meth, c, D, cy, ad, A, 0, 0, MQ below (QC D cy ad (some (.int r)) σ' A) args s 0 0 A)) p0 p1 σ ⟨_, hf, rfl⟩)
theorem k_X11_cannon {Γ : CX} {cc : ByteArray} {nL : Nat} {own : String} {ret : Option FieldType} {rm : Room} {σ σ' : St} {pc pc' idx : Nat} {lv : List (Nat × Value)} {rest : List Value} {p0 : Int32} {p1 : Int32} {r : Int32} (hl : Cond.methodLink own idx yX11_cannon ∈ TB) (hw : (rest.map fun v => v.category).sum ≤ 8) (hR : rX11_cannon.frames + 1 ≤ rm.frames ∧ 8 + (3 + 11) + rX11_cannon.locals ≤ rm.locals) (hd : decode cc pc = .ok (.invokevirtual idx, 3)) (hp : pc + 3 = pc') (hf : f_X11_cannon p0 p1 σ = some (r, σ')) (h : WW Γ cc nL own ret rm σ' pc' lv (.int r :: rest)) : WW Γ cc nL own ret rm σ pc lv (.int p1 :: .int p0 :: .ref (xd Γ 0) :: rest) :=
  w_callV (nn := 2) (i := 0) (As := [.int p0, .int p1]) (v := (some (.int r))) (T := TX11) (N := 11) (c_X11_cannon hf) hl mw_X11_cannon (by decide +kernel) ⟨rfl, rfl⟩ hR (lt_lit (by decide)) cel_0 rfl rfl hw hd rfl hp h
/-! WarByHours.rule (II)I -/
def rX11_rule : Room := { frames := 1, cells := 0, slots := 0, locals := 22 }
def f_X11_rule (p0 : Int32) (p1 : Int32) (σ : St) : Option (Int32 × St) :=
  bd (f_X9_cell 9 p0 p1 σ) fun r1 s2 =>
  some (r1, s2)
theorem e_X11_rule {Γ : CX} (p0 : Int32) (p1 : Int32) (σ : St) (h : RR vI Γ (f_X11_rule p0 p1 σ)) : WW Γ cX11_rule 3 RX11 (some .int) rX11_rule σ 0 [(0, .ref (xd Γ 0)), (1, .int p0), (2, .int p1)] [] := by
  unfold f_X11_rule at h
  refine w_aload_n 0 dX11_rule_0 rfl rfl rfl ?_
  refine gf_RX11_10 dX11_rule_1 rfl ?_
  refine gf_RX11_146 (i := 1) (isW_lit (by decide)) dX11_rule_4 rfl ?_
  refine w_iload_n 1 dX11_rule_7 rfl rfl rfl ?_
  refine w_iload_n 2 dX11_rule_8 rfl rfl rfl ?_
  obtain ⟨r1, s2, h3, h⟩ := h.bd
  refine k_X9_cell ml_RX11_120 (Nat.le_of_ble_eq_true rfl) ⟨Nat.le_of_ble_eq_true rfl, Nat.le_of_ble_eq_true rfl⟩ dX11_rule_9 rfl h3 ?_
  exact w_ireturn dX11_rule_12 h
theorem c_X11_rule {l : Launch} {D : va_G} {cy : Nat → ClassId} {ad : Nat → Nat} {p0 : Int32} {p1 : Int32} {σ σ' : St} {r : Int32} (hf : f_X11_rule p0 p1 σ = some (r, σ')) : CT l D cy ad yX11_rule cX11_rule 3 (some .int) rX11_rule [.ref (ad 0), .int p0, .int p1] σ (some (.int r)) σ' :=
  ct_of (by decide) (Nat.le_of_ble_eq_true rfl) (fun p e s m args below meth c A => e_X11_rule (Γ := (p, l, e, rX11_rule, s, m, args, below, meth, c, D, cy, ad, A, 0, 0, MQ below (QC D cy ad (some (.int r)) σ' A) args s 0 0 A)) p0 p1 σ ⟨_, hf, rfl⟩)
theorem k_X11_rule {Γ : CX} {cc : ByteArray} {nL : Nat} {own : String} {ret : Option FieldType} {rm : Room} {σ σ' : St} {pc pc' idx : Nat} {lv : List (Nat × Value)} {rest : List Value} {p0 : Int32} {p1 : Int32} {r : Int32} (hl : Cond.methodLink own idx yX11_rule ∈ TB) (hw : (rest.map fun v => v.category).sum ≤ 8) (hR : rX11_rule.frames + 1 ≤ rm.frames ∧ 8 + (3 + 11) + rX11_rule.locals ≤ rm.locals) (hd : decode cc pc = .ok (.invokevirtual idx, 3)) (hp : pc + 3 = pc') (hf : f_X11_rule p0 p1 σ = some (r, σ')) (h : WW Γ cc nL own ret rm σ' pc' lv (.int r :: rest)) : WW Γ cc nL own ret rm σ pc lv (.int p1 :: .int p0 :: .ref (xd Γ 0) :: rest) :=
  w_callV (nn := 2) (i := 0) (As := [.int p0, .int p1]) (v := (some (.int r))) (T := TX11) (N := 11) (c_X11_rule hf) hl mw_X11_rule (by decide +kernel) ⟨rfl, rfl⟩ hR (lt_lit (by decide)) cel_0 rfl rfl hw hd rfl hp h
/-! WarByHours.spy (I)I -/
def rX11_spy : Room := { frames := 1, cells := 0, slots := 0, locals := 22 }
def f_X11_spy (p0 : Int32) (σ : St) : Option (Int32 × St) :=
  bd (f_X9_cell 11 p0 (0 : Int32) σ) fun r1 s2 =>
  some (r1, s2)
theorem e_X11_spy {Γ : CX} (p0 : Int32) (σ : St) (h : RR vI Γ (f_X11_spy p0 σ)) : WW Γ cX11_spy 2 RX11 (some .int) rX11_spy σ 0 [(0, .ref (xd Γ 0)), (1, .int p0)] [] := by
  unfold f_X11_spy at h
  refine w_aload_n 0 dX11_spy_0 rfl rfl rfl ?_
  refine gf_RX11_10 dX11_spy_1 rfl ?_
  refine gf_RX11_149 (i := 1) (isW_lit (by decide)) dX11_spy_4 rfl ?_
  refine w_iload_n 1 dX11_spy_7 rfl rfl rfl ?_
  refine w_iconst (0 : Int32) dX11_spy_8 ic_iconst_0 rfl ?_
  obtain ⟨r1, s2, h3, h⟩ := h.bd
  refine k_X9_cell ml_RX11_120 (Nat.le_of_ble_eq_true rfl) ⟨Nat.le_of_ble_eq_true rfl, Nat.le_of_ble_eq_true rfl⟩ dX11_spy_9 rfl h3 ?_
  exact w_ireturn dX11_spy_12 h
theorem c_X11_spy {l : Launch} {D : va_G} {cy : Nat → ClassId} {ad : Nat → Nat} {p0 : Int32} {σ σ' : St} {r : Int32} (hf : f_X11_spy p0 σ = some (r, σ')) : CT l D cy ad yX11_spy cX11_spy 2 (some .int) rX11_spy [.ref (ad 0), .int p0] σ (some (.int r)) σ' :=
  ct_of (by decide) (Nat.le_of_ble_eq_true rfl) (fun p e s m args below meth c A => e_X11_spy (Γ := (p, l, e, rX11_spy, s, m, args, below, meth, c, D, cy, ad, A, 0, 0, MQ below (QC D cy ad (some (.int r)) σ' A) args s 0 0 A)) p0 σ ⟨_, hf, rfl⟩)
theorem k_X11_spy {Γ : CX} {cc : ByteArray} {nL : Nat} {own : String} {ret : Option FieldType} {rm : Room} {σ σ' : St} {pc pc' idx : Nat} {lv : List (Nat × Value)} {rest : List Value} {p0 : Int32} {r : Int32} (hl : Cond.methodLink own idx yX11_spy ∈ TB) (hw : (rest.map fun v => v.category).sum ≤ 8) (hR : rX11_spy.frames + 1 ≤ rm.frames ∧ 8 + (2 + 11) + rX11_spy.locals ≤ rm.locals) (hd : decode cc pc = .ok (.invokevirtual idx, 3)) (hp : pc + 3 = pc') (hf : f_X11_spy p0 σ = some (r, σ')) (h : WW Γ cc nL own ret rm σ' pc' lv (.int r :: rest)) : WW Γ cc nL own ret rm σ pc lv (.int p0 :: .ref (xd Γ 0) :: rest) :=
  w_callV (nn := 1) (i := 0) (As := [.int p0]) (v := (some (.int r))) (T := TX11) (N := 11) (c_X11_spy hf) hl mw_X11_spy (by decide +kernel) ⟨rfl, rfl⟩ hR (lt_lit (by decide)) cel_0 rfl rfl hw hd rfl hp h
/-! WarByHours.count (I)I -/
def rX11_count : Room := { frames := 1, cells := 0, slots := 0, locals := 22 }
def f_X11_count (p0 : Int32) (σ : St) : Option (Int32 × St) :=
  if p0 = (0 : Int32) then
    some ((gf σ 1 1), σ)
  else
  if p0 = (1 : Int32) then
    some ((gf σ 1 2), σ)
  else
  if p0 = (2 : Int32) then
    some ((gf σ 1 3), σ)
  else
  if p0 = (3 : Int32) then
    some ((gf σ 1 4), σ)
  else
  if p0 = (4 : Int32) then
    some ((gf σ 3 3), σ)
  else
  if p0 = (5 : Int32) then
    some ((gf σ 5 3), σ)
  else
  if p0 = (6 : Int32) then
    some ((gf σ 7 3), σ)
  else
  if p0 = (7 : Int32) then
    some ((gf σ 9 3), σ)
  else
  if p0 = (8 : Int32) then
    some ((gf σ 11 3), σ)
  else
  if p0 = (9 : Int32) then
    some ((gf σ 1 0), σ)
  else
  if p0 = (10 : Int32) then
    some ((gf σ 29 1), σ)
  else
  if p0 = (11 : Int32) then
    some ((gf σ 13 3), σ)
  else
  if p0 = (12 : Int32) then
    bd (f_X7_countRows σ) fun r1 s2 =>
    some (r1, s2)
  else
    some ((-1 : Int32), σ)
theorem e_X11_count {Γ : CX} (p0 : Int32) (σ : St) (h : RR vI Γ (f_X11_count p0 σ)) : WW Γ cX11_count 2 RX11 (some .int) rX11_count σ 0 [(0, .ref (xd Γ 0)), (1, .int p0)] [] := by
  unfold f_X11_count at h
  refine w_iload_n 1 dX11_count_0 rfl rfl rfl ?_
  by_cases q0 : p0 = (0 : Int32)
  · have h := h.tt q0
    refine w_tsw (0 : Int32) q0 (tgt := 68) dX11_count_1 (by decide) (by decide) rfl (by decide) ?_
    refine w_aload_n 0 dX11_count_68 rfl rfl rfl ?_
    refine gf_RX11_10 dX11_count_69 rfl ?_
    refine gf_RX11_137 (i := 1) (isW_lit (by decide)) dX11_count_72 rfl ?_
    exact w_ireturn dX11_count_75 h
  have h := h.ff q0
  by_cases q1 : p0 = (1 : Int32)
  · have h := h.tt q1
    refine w_tsw (1 : Int32) q1 (tgt := 76) dX11_count_1 (by decide) (by decide) rfl (by decide) ?_
    refine w_aload_n 0 dX11_count_76 rfl rfl rfl ?_
    refine gf_RX11_10 dX11_count_77 rfl ?_
    refine gf_RX11_361 (i := 1) (isW_lit (by decide)) dX11_count_80 rfl ?_
    exact w_ireturn dX11_count_83 h
  have h := h.ff q1
  by_cases q2 : p0 = (2 : Int32)
  · have h := h.tt q2
    refine w_tsw (2 : Int32) q2 (tgt := 84) dX11_count_1 (by decide) (by decide) rfl (by decide) ?_
    refine w_aload_n 0 dX11_count_84 rfl rfl rfl ?_
    refine gf_RX11_10 dX11_count_85 rfl ?_
    refine gf_RX11_364 (i := 1) (isW_lit (by decide)) dX11_count_88 rfl ?_
    exact w_ireturn dX11_count_91 h
  have h := h.ff q2
  by_cases q3 : p0 = (3 : Int32)
  · have h := h.tt q3
    refine w_tsw (3 : Int32) q3 (tgt := 92) dX11_count_1 (by decide) (by decide) rfl (by decide) ?_
    refine w_aload_n 0 dX11_count_92 rfl rfl rfl ?_
    refine gf_RX11_10 dX11_count_93 rfl ?_
    refine gf_RX11_329 (i := 1) (isW_lit (by decide)) dX11_count_96 rfl ?_
    exact w_ireturn dX11_count_99 h
  have h := h.ff q3
  by_cases q4 : p0 = (4 : Int32)
  · have h := h.tt q4
    refine w_tsw (4 : Int32) q4 (tgt := 100) dX11_count_1 (by decide) (by decide) rfl (by decide) ?_
    refine w_aload_n 0 dX11_count_100 rfl rfl rfl ?_
    refine gf_RX11_10 dX11_count_101 rfl ?_
    refine gf_RX11_116 (i := 1) (isW_lit (by decide)) dX11_count_104 rfl ?_
    refine gf_RX11_222 (i := 3) (isT_lit (by decide)) dX11_count_107 rfl ?_
    exact w_ireturn dX11_count_110 h
  have h := h.ff q4
  by_cases q5 : p0 = (5 : Int32)
  · have h := h.tt q5
    refine w_tsw (5 : Int32) q5 (tgt := 111) dX11_count_1 (by decide) (by decide) rfl (by decide) ?_
    refine w_aload_n 0 dX11_count_111 rfl rfl rfl ?_
    refine gf_RX11_10 dX11_count_112 rfl ?_
    refine gf_RX11_367 (i := 1) (isW_lit (by decide)) dX11_count_115 rfl ?_
    refine gf_RX11_222 (i := 5) (isT_lit (by decide)) dX11_count_118 rfl ?_
    exact w_ireturn dX11_count_121 h
  have h := h.ff q5
  by_cases q6 : p0 = (6 : Int32)
  · have h := h.tt q6
    refine w_tsw (6 : Int32) q6 (tgt := 122) dX11_count_1 (by decide) (by decide) rfl (by decide) ?_
    refine w_aload_n 0 dX11_count_122 rfl rfl rfl ?_
    refine gf_RX11_10 dX11_count_123 rfl ?_
    refine gf_RX11_143 (i := 1) (isW_lit (by decide)) dX11_count_126 rfl ?_
    refine gf_RX11_222 (i := 7) (isT_lit (by decide)) dX11_count_129 rfl ?_
    exact w_ireturn dX11_count_132 h
  have h := h.ff q6
  by_cases q7 : p0 = (7 : Int32)
  · have h := h.tt q7
    refine w_tsw (7 : Int32) q7 (tgt := 133) dX11_count_1 (by decide) (by decide) rfl (by decide) ?_
    refine w_aload_n 0 dX11_count_133 rfl rfl rfl ?_
    refine gf_RX11_10 dX11_count_134 rfl ?_
    refine gf_RX11_146 (i := 1) (isW_lit (by decide)) dX11_count_137 rfl ?_
    refine gf_RX11_222 (i := 9) (isT_lit (by decide)) dX11_count_140 rfl ?_
    exact w_ireturn dX11_count_143 h
  have h := h.ff q7
  by_cases q8 : p0 = (8 : Int32)
  · have h := h.tt q8
    refine w_tsw (8 : Int32) q8 (tgt := 144) dX11_count_1 (by decide) (by decide) rfl (by decide) ?_
    refine w_aload_n 0 dX11_count_144 rfl rfl rfl ?_
    refine gf_RX11_10 dX11_count_145 rfl ?_
    refine gf_RX11_149 (i := 1) (isW_lit (by decide)) dX11_count_148 rfl ?_
    refine gf_RX11_222 (i := 11) (isT_lit (by decide)) dX11_count_151 rfl ?_
    exact w_ireturn dX11_count_154 h
  have h := h.ff q8
  by_cases q9 : p0 = (9 : Int32)
  · have h := h.tt q9
    refine w_tsw (9 : Int32) q9 (tgt := 155) dX11_count_1 (by decide) (by decide) rfl (by decide) ?_
    refine w_aload_n 0 dX11_count_155 rfl rfl rfl ?_
    refine gf_RX11_10 dX11_count_156 rfl ?_
    refine gf_RX11_110 (i := 1) (isW_lit (by decide)) dX11_count_159 rfl ?_
    exact w_ireturn dX11_count_162 h
  have h := h.ff q9
  by_cases q10 : p0 = (10 : Int32)
  · have h := h.tt q10
    refine w_tsw (10 : Int32) q10 (tgt := 163) dX11_count_1 (by decide) (by decide) rfl (by decide) ?_
    refine w_aload_n 0 dX11_count_163 rfl rfl rfl ?_
    refine gf_RX11_24 dX11_count_164 rfl ?_
    refine gf_RX11_91 dX11_count_167 rfl ?_
    exact w_ireturn dX11_count_170 h
  have h := h.ff q10
  by_cases q11 : p0 = (11 : Int32)
  · have h := h.tt q11
    refine w_tsw (11 : Int32) q11 (tgt := 171) dX11_count_1 (by decide) (by decide) rfl (by decide) ?_
    refine w_aload_n 0 dX11_count_171 rfl rfl rfl ?_
    refine gf_RX11_10 dX11_count_172 rfl ?_
    refine gf_RX11_370 (i := 1) (isW_lit (by decide)) dX11_count_175 rfl ?_
    refine gf_RX11_222 (i := 13) (isT_lit (by decide)) dX11_count_178 rfl ?_
    exact w_ireturn dX11_count_181 h
  have h := h.ff q11
  by_cases q12 : p0 = (12 : Int32)
  · have h := h.tt q12
    refine w_tsw (12 : Int32) q12 (tgt := 182) dX11_count_1 (by decide) (by decide) rfl (by decide) ?_
    refine w_aload_n 0 dX11_count_182 rfl rfl rfl ?_
    refine gf_RX11_75 dX11_count_183 rfl ?_
    obtain ⟨r1, s2, h3, h⟩ := h.bd
    refine k_X7_countRows ml_RX11_373 (Nat.le_of_ble_eq_true rfl) ⟨Nat.le_of_ble_eq_true rfl, Nat.le_of_ble_eq_true rfl⟩ dX11_count_186 rfl h3 ?_
    exact w_ireturn dX11_count_189 h
  have h := h.ff q12
  refine w_tableOut (tgt := 190) dX11_count_1 (by have z0 := i32_ne q0 (z := 0) rfl; have z1 := i32_ne q1 (z := 1) rfl; have z2 := i32_ne q2 (z := 2) rfl; have z3 := i32_ne q3 (z := 3) rfl; have z4 := i32_ne q4 (z := 4) rfl; have z5 := i32_ne q5 (z := 5) rfl; have z6 := i32_ne q6 (z := 6) rfl; have z7 := i32_ne q7 (z := 7) rfl; have z8 := i32_ne q8 (z := 8) rfl; have z9 := i32_ne q9 (z := 9) rfl; have z10 := i32_ne q10 (z := 10) rfl; have z11 := i32_ne q11 (z := 11) rfl; have z12 := i32_ne q12 (z := 12) rfl; omega) (by decide) ?_
  refine w_iconst (-1 : Int32) dX11_count_190 ic_iconst_m1 rfl ?_
  exact w_ireturn dX11_count_191 h
theorem c_X11_count {l : Launch} {D : va_G} {cy : Nat → ClassId} {ad : Nat → Nat} {p0 : Int32} {σ σ' : St} {r : Int32} (hf : f_X11_count p0 σ = some (r, σ')) : CT l D cy ad yX11_count cX11_count 2 (some .int) rX11_count [.ref (ad 0), .int p0] σ (some (.int r)) σ' :=
  ct_of (by decide) (Nat.le_of_ble_eq_true rfl) (fun p e s m args below meth c A => e_X11_count (Γ := (p, l, e, rX11_count, s, m, args, below, meth, c, D, cy, ad, A, 0, 0, MQ below (QC D cy ad (some (.int r)) σ' A) args s 0 0 A)) p0 σ ⟨_, hf, rfl⟩)
theorem k_X11_count {Γ : CX} {cc : ByteArray} {nL : Nat} {own : String} {ret : Option FieldType} {rm : Room} {σ σ' : St} {pc pc' idx : Nat} {lv : List (Nat × Value)} {rest : List Value} {p0 : Int32} {r : Int32} (hl : Cond.methodLink own idx yX11_count ∈ TB) (hw : (rest.map fun v => v.category).sum ≤ 8) (hR : rX11_count.frames + 1 ≤ rm.frames ∧ 8 + (2 + 11) + rX11_count.locals ≤ rm.locals) (hd : decode cc pc = .ok (.invokevirtual idx, 3)) (hp : pc + 3 = pc') (hf : f_X11_count p0 σ = some (r, σ')) (h : WW Γ cc nL own ret rm σ' pc' lv (.int r :: rest)) : WW Γ cc nL own ret rm σ pc lv (.int p0 :: .ref (xd Γ 0) :: rest) :=
  w_callV (nn := 1) (i := 0) (As := [.int p0]) (v := (some (.int r))) (T := TX11) (N := 11) (c_X11_count hf) hl mw_X11_count (by decide +kernel) ⟨rfl, rfl⟩ hR (lt_lit (by decide)) cel_0 rfl rfl hw hd rfl hp h
/-! WarByHours.isMinute (I)Z -/
def rX11_isMinute : Room := { frames := 0, cells := 0, slots := 0, locals := 0 }
def f_X11_isMinute_15 (k0 : Int32) (σ : St) : Option (Int32 × St) :=
  gd (bz k0) <| some (k0, σ)
theorem b_X11_isMinute_15 {Γ : CX} (k0 : Int32) (σ : St) (h : RR vI Γ (f_X11_isMinute_15 k0 σ)) : WW Γ cX11_isMinute 1 RX11 (some .boolean) rX11_isMinute σ 15 [] [.int k0] := by
  unfold f_X11_isMinute_15 at h
  obtain ⟨hb, h⟩ := h.gd
  exact w_zreturn dX11_isMinute_15 hb h
def f_X11_isMinute_14 (σ : St) : Option (Int32 × St) :=
  f_X11_isMinute_15 (0 : Int32) σ
theorem b_X11_isMinute_14 {Γ : CX} (σ : St) (h : RR vI Γ (f_X11_isMinute_14 σ)) : WW Γ cX11_isMinute 1 RX11 (some .boolean) rX11_isMinute σ 14 [] [] := by
  unfold f_X11_isMinute_14 at h
  refine w_iconst (0 : Int32) dX11_isMinute_14 ic_iconst_0 rfl ?_
  exact w_sub [] rfl (b_X11_isMinute_15 (0 : Int32) σ h)
def f_X11_isMinute (p0 : Int32) (σ : St) : Option (Int32 × St) :=
  if p0 < 0 then
    f_X11_isMinute_14 σ
  else
    if (99 : Int32) < p0 then
      f_X11_isMinute_14 σ
    else
      f_X11_isMinute_15 (1 : Int32) σ
theorem e_X11_isMinute {Γ : CX} (p0 : Int32) (σ : St) (h : RR vI Γ (f_X11_isMinute p0 σ)) : WW Γ cX11_isMinute 1 RX11 (some .boolean) rX11_isMinute σ 0 [(0, .int p0)] [] := by
  unfold f_X11_isMinute at h
  refine w_iload_n 0 dX11_isMinute_0 rfl rfl rfl ?_
  refine w_if_lt (tgt := 14) dX11_isMinute_1 (by decide) rfl (fun q => ?_) (fun q => ?_)
  · have h := h.tt q
    exact w_sub [] rfl (b_X11_isMinute_14 σ h)
  · have h := h.ff q
    refine w_iload_n 0 dX11_isMinute_4 rfl rfl rfl ?_
    refine w_bipush (99 : Int32) dX11_isMinute_5 ic_bipush_99 rfl ?_
    refine w_icmp_gt (tgt := 14) dX11_isMinute_7 (by decide) rfl (fun q => ?_) (fun q => ?_)
    · have h := h.tt q
      exact w_sub [] rfl (b_X11_isMinute_14 σ h)
    · have h := h.ff q
      refine w_iconst (1 : Int32) dX11_isMinute_10 ic_iconst_1 rfl ?_
      refine w_goto (tgt := 15) dX11_isMinute_11 (by decide) ?_
      exact w_sub [] rfl (b_X11_isMinute_15 (1 : Int32) σ h)
theorem c_X11_isMinute {l : Launch} {D : va_G} {cy : Nat → ClassId} {ad : Nat → Nat} {p0 : Int32} {σ σ' : St} {r : Int32} (hf : f_X11_isMinute p0 σ = some (r, σ')) : CT l D cy ad yX11_isMinute cX11_isMinute 1 (some .boolean) rX11_isMinute [.int p0] σ (some (.int r)) σ' :=
  ct_of (by decide) (Nat.le_of_ble_eq_true rfl) (fun p e s m args below meth c A => e_X11_isMinute (Γ := (p, l, e, rX11_isMinute, s, m, args, below, meth, c, D, cy, ad, A, 0, 0, MQ below (QC D cy ad (some (.int r)) σ' A) args s 0 0 A)) p0 σ ⟨_, hf, rfl⟩)
theorem k_X11_isMinute {Γ : CX} {cc : ByteArray} {nL : Nat} {own : String} {ret : Option FieldType} {rm : Room} {σ σ' : St} {pc pc' idx : Nat} {lv : List (Nat × Value)} {rest : List Value} {p0 : Int32} {r : Int32} (hl : Cond.methodLink own idx yX11_isMinute ∈ TB) (hw : (rest.map fun v => v.category).sum ≤ 8) (hR : rX11_isMinute.frames + 1 ≤ rm.frames ∧ 8 + (1 + 11) + rX11_isMinute.locals ≤ rm.locals) (hd : decode cc pc = .ok (.invokestatic idx, 3)) (hp : pc + 3 = pc') (hf : f_X11_isMinute p0 σ = some (r, σ')) (h : WW Γ cc nL own ret rm σ' pc' lv (.int r :: rest)) : WW Γ cc nL own ret rm σ pc lv (.int p0 :: rest) :=
  w_callS (nn := 1) (As := [.int p0]) (v := (some (.int r))) (c_X11_isMinute hf) hl mw_X11_isMinute (by decide +kernel) ⟨rfl, rfl⟩ hR rfl hw hd rfl hp h
/-! WarByHours.isPeaceMinute (I)Z -/
def rX11_isPeaceMinute : Room := { frames := 1, cells := 0, slots := 0, locals := 20 }
def f_X11_isPeaceMinute_25 (k0 : Int32) (σ : St) : Option (Int32 × St) :=
  gd (bz k0) <| some (k0, σ)
theorem b_X11_isPeaceMinute_25 {Γ : CX} (k0 : Int32) (σ : St) (h : RR vI Γ (f_X11_isPeaceMinute_25 k0 σ)) : WW Γ cX11_isPeaceMinute 2 RX11 (some .boolean) rX11_isPeaceMinute σ 25 [] [.int k0] := by
  unfold f_X11_isPeaceMinute_25 at h
  obtain ⟨hb, h⟩ := h.gd
  exact w_zreturn dX11_isPeaceMinute_25 hb h
def f_X11_isPeaceMinute_24 (σ : St) : Option (Int32 × St) :=
  f_X11_isPeaceMinute_25 (0 : Int32) σ
theorem b_X11_isPeaceMinute_24 {Γ : CX} (σ : St) (h : RR vI Γ (f_X11_isPeaceMinute_24 σ)) : WW Γ cX11_isPeaceMinute 2 RX11 (some .boolean) rX11_isPeaceMinute σ 24 [] [] := by
  unfold f_X11_isPeaceMinute_24 at h
  refine w_iconst (0 : Int32) dX11_isPeaceMinute_24 ic_iconst_0 rfl ?_
  exact w_sub [] rfl (b_X11_isPeaceMinute_25 (0 : Int32) σ h)
def f_X11_isPeaceMinute (p0 : Int32) (σ : St) : Option (Int32 × St) :=
  bd (f_X10_isTold 1 σ) fun r1 s2 =>
  if r1 = 0 then
    f_X11_isPeaceMinute_24 s2
  else
    if p0 < 0 then
      f_X11_isPeaceMinute_24 s2
    else
      if (59 : Int32) < p0 then
        f_X11_isPeaceMinute_24 s2
      else
        f_X11_isPeaceMinute_25 (1 : Int32) s2
theorem e_X11_isPeaceMinute {Γ : CX} (p0 : Int32) (σ : St) (h : RR vI Γ (f_X11_isPeaceMinute p0 σ)) : WW Γ cX11_isPeaceMinute 2 RX11 (some .boolean) rX11_isPeaceMinute σ 0 [(0, .ref (xd Γ 0)), (1, .int p0)] [] := by
  unfold f_X11_isPeaceMinute at h
  refine w_aload_n 0 dX11_isPeaceMinute_0 rfl rfl rfl ?_
  refine gf_RX11_10 dX11_isPeaceMinute_1 rfl ?_
  obtain ⟨r1, s2, h3, h⟩ := h.bd
  refine k_X10_isTold ml_RX11_133 (Nat.le_of_ble_eq_true rfl) ⟨Nat.le_of_ble_eq_true rfl, Nat.le_of_ble_eq_true rfl⟩ dX11_isPeaceMinute_4 rfl h3 ?_
  refine w_if_eq (tgt := 24) dX11_isPeaceMinute_7 (by decide) rfl (fun q => ?_) (fun q => ?_)
  · have h := h.tt q
    exact w_sub [] rfl (b_X11_isPeaceMinute_24 s2 h)
  · have h := h.ff q
    refine w_iload_n 1 dX11_isPeaceMinute_10 rfl rfl rfl ?_
    refine w_if_lt (tgt := 24) dX11_isPeaceMinute_11 (by decide) rfl (fun q => ?_) (fun q => ?_)
    · have h := h.tt q
      exact w_sub [] rfl (b_X11_isPeaceMinute_24 s2 h)
    · have h := h.ff q
      refine w_iload_n 1 dX11_isPeaceMinute_14 rfl rfl rfl ?_
      refine w_bipush (59 : Int32) dX11_isPeaceMinute_15 ic_bipush_59 rfl ?_
      refine w_icmp_gt (tgt := 24) dX11_isPeaceMinute_17 (by decide) rfl (fun q => ?_) (fun q => ?_)
      · have h := h.tt q
        exact w_sub [] rfl (b_X11_isPeaceMinute_24 s2 h)
      · have h := h.ff q
        refine w_iconst (1 : Int32) dX11_isPeaceMinute_20 ic_iconst_1 rfl ?_
        refine w_goto (tgt := 25) dX11_isPeaceMinute_21 (by decide) ?_
        exact w_sub [] rfl (b_X11_isPeaceMinute_25 (1 : Int32) s2 h)
theorem c_X11_isPeaceMinute {l : Launch} {D : va_G} {cy : Nat → ClassId} {ad : Nat → Nat} {p0 : Int32} {σ σ' : St} {r : Int32} (hf : f_X11_isPeaceMinute p0 σ = some (r, σ')) : CT l D cy ad yX11_isPeaceMinute cX11_isPeaceMinute 2 (some .boolean) rX11_isPeaceMinute [.ref (ad 0), .int p0] σ (some (.int r)) σ' :=
  ct_of (by decide) (Nat.le_of_ble_eq_true rfl) (fun p e s m args below meth c A => e_X11_isPeaceMinute (Γ := (p, l, e, rX11_isPeaceMinute, s, m, args, below, meth, c, D, cy, ad, A, 0, 0, MQ below (QC D cy ad (some (.int r)) σ' A) args s 0 0 A)) p0 σ ⟨_, hf, rfl⟩)
theorem k_X11_isPeaceMinute {Γ : CX} {cc : ByteArray} {nL : Nat} {own : String} {ret : Option FieldType} {rm : Room} {σ σ' : St} {pc pc' idx : Nat} {lv : List (Nat × Value)} {rest : List Value} {p0 : Int32} {r : Int32} (hl : Cond.methodLink own idx yX11_isPeaceMinute ∈ TB) (hw : (rest.map fun v => v.category).sum ≤ 8) (hR : rX11_isPeaceMinute.frames + 1 ≤ rm.frames ∧ 8 + (2 + 11) + rX11_isPeaceMinute.locals ≤ rm.locals) (hd : decode cc pc = .ok (.invokevirtual idx, 3)) (hp : pc + 3 = pc') (hf : f_X11_isPeaceMinute p0 σ = some (r, σ')) (h : WW Γ cc nL own ret rm σ' pc' lv (.int r :: rest)) : WW Γ cc nL own ret rm σ pc lv (.int p0 :: .ref (xd Γ 0) :: rest) :=
  w_callV (nn := 1) (i := 0) (As := [.int p0]) (v := (some (.int r))) (T := TX11) (N := 11) (c_X11_isPeaceMinute hf) hl mw_X11_isPeaceMinute (by decide +kernel) ⟨rfl, rfl⟩ hR (lt_lit (by decide)) cel_0 rfl rfl hw hd rfl hp h
/-! WarByHours.isPart (I)Z -/
def rX11_isPart : Room := { frames := 0, cells := 0, slots := 0, locals := 0 }
def f_X11_isPart_14 (k0 : Int32) (σ : St) : Option (Int32 × St) :=
  gd (bz k0) <| some (k0, σ)
theorem b_X11_isPart_14 {Γ : CX} (k0 : Int32) (σ : St) (h : RR vI Γ (f_X11_isPart_14 k0 σ)) : WW Γ cX11_isPart 1 RX11 (some .boolean) rX11_isPart σ 14 [] [.int k0] := by
  unfold f_X11_isPart_14 at h
  obtain ⟨hb, h⟩ := h.gd
  exact w_zreturn dX11_isPart_14 hb h
def f_X11_isPart_9 (σ : St) : Option (Int32 × St) :=
  f_X11_isPart_14 (1 : Int32) σ
theorem b_X11_isPart_9 {Γ : CX} (σ : St) (h : RR vI Γ (f_X11_isPart_9 σ)) : WW Γ cX11_isPart 1 RX11 (some .boolean) rX11_isPart σ 9 [] [] := by
  unfold f_X11_isPart_9 at h
  refine w_iconst (1 : Int32) dX11_isPart_9 ic_iconst_1 rfl ?_
  refine w_goto (tgt := 14) dX11_isPart_10 (by decide) ?_
  exact w_sub [] rfl (b_X11_isPart_14 (1 : Int32) σ h)
def f_X11_isPart (p0 : Int32) (σ : St) : Option (Int32 × St) :=
  if p0 = 0 then
    f_X11_isPart_9 σ
  else
    if p0 = (1 : Int32) then
      f_X11_isPart_9 σ
    else
      f_X11_isPart_14 (0 : Int32) σ
theorem e_X11_isPart {Γ : CX} (p0 : Int32) (σ : St) (h : RR vI Γ (f_X11_isPart p0 σ)) : WW Γ cX11_isPart 1 RX11 (some .boolean) rX11_isPart σ 0 [(0, .int p0)] [] := by
  unfold f_X11_isPart at h
  refine w_iload_n 0 dX11_isPart_0 rfl rfl rfl ?_
  refine w_if_eq (tgt := 9) dX11_isPart_1 (by decide) rfl (fun q => ?_) (fun q => ?_)
  · have h := h.tt q
    exact w_sub [] rfl (b_X11_isPart_9 σ h)
  · have h := h.ff q
    refine w_iload_n 0 dX11_isPart_4 rfl rfl rfl ?_
    refine w_iconst (1 : Int32) dX11_isPart_5 ic_iconst_1 rfl ?_
    refine w_icmp_ne (tgt := 13) dX11_isPart_6 (by decide) rfl (fun q => ?_) (fun q => ?_)
    · have h := h.ff q
      refine w_iconst (0 : Int32) dX11_isPart_13 ic_iconst_0 rfl ?_
      exact w_sub [] rfl (b_X11_isPart_14 (0 : Int32) σ h)
    · have h := h.tt q
      exact w_sub [] rfl (b_X11_isPart_9 σ h)
theorem c_X11_isPart {l : Launch} {D : va_G} {cy : Nat → ClassId} {ad : Nat → Nat} {p0 : Int32} {σ σ' : St} {r : Int32} (hf : f_X11_isPart p0 σ = some (r, σ')) : CT l D cy ad yX11_isPart cX11_isPart 1 (some .boolean) rX11_isPart [.int p0] σ (some (.int r)) σ' :=
  ct_of (by decide) (Nat.le_of_ble_eq_true rfl) (fun p e s m args below meth c A => e_X11_isPart (Γ := (p, l, e, rX11_isPart, s, m, args, below, meth, c, D, cy, ad, A, 0, 0, MQ below (QC D cy ad (some (.int r)) σ' A) args s 0 0 A)) p0 σ ⟨_, hf, rfl⟩)
theorem k_X11_isPart {Γ : CX} {cc : ByteArray} {nL : Nat} {own : String} {ret : Option FieldType} {rm : Room} {σ σ' : St} {pc pc' idx : Nat} {lv : List (Nat × Value)} {rest : List Value} {p0 : Int32} {r : Int32} (hl : Cond.methodLink own idx yX11_isPart ∈ TB) (hw : (rest.map fun v => v.category).sum ≤ 8) (hR : rX11_isPart.frames + 1 ≤ rm.frames ∧ 8 + (1 + 11) + rX11_isPart.locals ≤ rm.locals) (hd : decode cc pc = .ok (.invokestatic idx, 3)) (hp : pc + 3 = pc') (hf : f_X11_isPart p0 σ = some (r, σ')) (h : WW Γ cc nL own ret rm σ' pc' lv (.int r :: rest)) : WW Γ cc nL own ret rm σ pc lv (.int p0 :: rest) :=
  w_callS (nn := 1) (As := [.int p0]) (v := (some (.int r))) (c_X11_isPart hf) hl mw_X11_isPart (by decide +kernel) ⟨rfl, rfl⟩ hR rfl hw hd rfl hp h
/-! WarByHours.isPercent (I)Z -/
def rX11_isPercent : Room := { frames := 0, cells := 0, slots := 0, locals := 0 }
def f_X11_isPercent_15 (k0 : Int32) (σ : St) : Option (Int32 × St) :=
  gd (bz k0) <| some (k0, σ)
theorem b_X11_isPercent_15 {Γ : CX} (k0 : Int32) (σ : St) (h : RR vI Γ (f_X11_isPercent_15 k0 σ)) : WW Γ cX11_isPercent 1 RX11 (some .boolean) rX11_isPercent σ 15 [] [.int k0] := by
  unfold f_X11_isPercent_15 at h
  obtain ⟨hb, h⟩ := h.gd
  exact w_zreturn dX11_isPercent_15 hb h
def f_X11_isPercent_14 (σ : St) : Option (Int32 × St) :=
  f_X11_isPercent_15 (0 : Int32) σ
theorem b_X11_isPercent_14 {Γ : CX} (σ : St) (h : RR vI Γ (f_X11_isPercent_14 σ)) : WW Γ cX11_isPercent 1 RX11 (some .boolean) rX11_isPercent σ 14 [] [] := by
  unfold f_X11_isPercent_14 at h
  refine w_iconst (0 : Int32) dX11_isPercent_14 ic_iconst_0 rfl ?_
  exact w_sub [] rfl (b_X11_isPercent_15 (0 : Int32) σ h)
def f_X11_isPercent (p0 : Int32) (σ : St) : Option (Int32 × St) :=
  if p0 < 0 then
    f_X11_isPercent_14 σ
  else
    if (100 : Int32) < p0 then
      f_X11_isPercent_14 σ
    else
      f_X11_isPercent_15 (1 : Int32) σ
theorem e_X11_isPercent {Γ : CX} (p0 : Int32) (σ : St) (h : RR vI Γ (f_X11_isPercent p0 σ)) : WW Γ cX11_isPercent 1 RX11 (some .boolean) rX11_isPercent σ 0 [(0, .int p0)] [] := by
  unfold f_X11_isPercent at h
  refine w_iload_n 0 dX11_isPercent_0 rfl rfl rfl ?_
  refine w_if_lt (tgt := 14) dX11_isPercent_1 (by decide) rfl (fun q => ?_) (fun q => ?_)
  · have h := h.tt q
    exact w_sub [] rfl (b_X11_isPercent_14 σ h)
  · have h := h.ff q
    refine w_iload_n 0 dX11_isPercent_4 rfl rfl rfl ?_
    refine w_bipush (100 : Int32) dX11_isPercent_5 ic_bipush_100 rfl ?_
    refine w_icmp_gt (tgt := 14) dX11_isPercent_7 (by decide) rfl (fun q => ?_) (fun q => ?_)
    · have h := h.tt q
      exact w_sub [] rfl (b_X11_isPercent_14 σ h)
    · have h := h.ff q
      refine w_iconst (1 : Int32) dX11_isPercent_10 ic_iconst_1 rfl ?_
      refine w_goto (tgt := 15) dX11_isPercent_11 (by decide) ?_
      exact w_sub [] rfl (b_X11_isPercent_15 (1 : Int32) σ h)
theorem c_X11_isPercent {l : Launch} {D : va_G} {cy : Nat → ClassId} {ad : Nat → Nat} {p0 : Int32} {σ σ' : St} {r : Int32} (hf : f_X11_isPercent p0 σ = some (r, σ')) : CT l D cy ad yX11_isPercent cX11_isPercent 1 (some .boolean) rX11_isPercent [.int p0] σ (some (.int r)) σ' :=
  ct_of (by decide) (Nat.le_of_ble_eq_true rfl) (fun p e s m args below meth c A => e_X11_isPercent (Γ := (p, l, e, rX11_isPercent, s, m, args, below, meth, c, D, cy, ad, A, 0, 0, MQ below (QC D cy ad (some (.int r)) σ' A) args s 0 0 A)) p0 σ ⟨_, hf, rfl⟩)
theorem k_X11_isPercent {Γ : CX} {cc : ByteArray} {nL : Nat} {own : String} {ret : Option FieldType} {rm : Room} {σ σ' : St} {pc pc' idx : Nat} {lv : List (Nat × Value)} {rest : List Value} {p0 : Int32} {r : Int32} (hl : Cond.methodLink own idx yX11_isPercent ∈ TB) (hw : (rest.map fun v => v.category).sum ≤ 8) (hR : rX11_isPercent.frames + 1 ≤ rm.frames ∧ 8 + (1 + 11) + rX11_isPercent.locals ≤ rm.locals) (hd : decode cc pc = .ok (.invokestatic idx, 3)) (hp : pc + 3 = pc') (hf : f_X11_isPercent p0 σ = some (r, σ')) (h : WW Γ cc nL own ret rm σ' pc' lv (.int r :: rest)) : WW Γ cc nL own ret rm σ pc lv (.int p0 :: rest) :=
  w_callS (nn := 1) (As := [.int p0]) (v := (some (.int r))) (c_X11_isPercent hf) hl mw_X11_isPercent (by decide +kernel) ⟨rfl, rfl⟩ hR rfl hw hd rfl hp h
/-! WarByHours.isRisk (II)Z -/
def rX11_isRisk : Room := { frames := 2, cells := 0, slots := 0, locals := 41 }
def f_X11_isRisk_23 (k0 : Int32) (σ : St) : Option (Int32 × St) :=
  gd (bz k0) <| some (k0, σ)
theorem b_X11_isRisk_23 {Γ : CX} (k0 : Int32) (σ : St) (h : RR vI Γ (f_X11_isRisk_23 k0 σ)) : WW Γ cX11_isRisk 3 RX11 (some .boolean) rX11_isRisk σ 23 [] [.int k0] := by
  unfold f_X11_isRisk_23 at h
  obtain ⟨hb, h⟩ := h.gd
  exact w_zreturn dX11_isRisk_23 hb h
def f_X11_isRisk_22 (σ : St) : Option (Int32 × St) :=
  f_X11_isRisk_23 (0 : Int32) σ
theorem b_X11_isRisk_22 {Γ : CX} (σ : St) (h : RR vI Γ (f_X11_isRisk_22 σ)) : WW Γ cX11_isRisk 3 RX11 (some .boolean) rX11_isRisk σ 22 [] [] := by
  unfold f_X11_isRisk_22 at h
  refine w_iconst (0 : Int32) dX11_isRisk_22 ic_iconst_0 rfl ?_
  exact w_sub [] rfl (b_X11_isRisk_23 (0 : Int32) σ h)
def f_X11_isRisk (p0 : Int32) (p1 : Int32) (σ : St) : Option (Int32 × St) :=
  bd (f_X10_hasSide 1 p0 σ) fun r1 s2 =>
  if r1 = 0 then
    f_X11_isRisk_22 s2
  else
    bd (f_X11_isPercent p1 s2) fun r4 s5 =>
    if r4 = 0 then
      f_X11_isRisk_22 s5
    else
      f_X11_isRisk_23 (1 : Int32) s5
theorem e_X11_isRisk {Γ : CX} (p0 : Int32) (p1 : Int32) (σ : St) (h : RR vI Γ (f_X11_isRisk p0 p1 σ)) : WW Γ cX11_isRisk 3 RX11 (some .boolean) rX11_isRisk σ 0 [(0, .ref (xd Γ 0)), (1, .int p0), (2, .int p1)] [] := by
  unfold f_X11_isRisk at h
  refine w_aload_n 0 dX11_isRisk_0 rfl rfl rfl ?_
  refine gf_RX11_10 dX11_isRisk_1 rfl ?_
  refine w_iload_n 1 dX11_isRisk_4 rfl rfl rfl ?_
  obtain ⟨r1, s2, h3, h⟩ := h.bd
  refine k_X10_hasSide ml_RX11_126 (Nat.le_of_ble_eq_true rfl) ⟨Nat.le_of_ble_eq_true rfl, Nat.le_of_ble_eq_true rfl⟩ dX11_isRisk_5 rfl h3 ?_
  refine w_if_eq (tgt := 22) dX11_isRisk_8 (by decide) rfl (fun q => ?_) (fun q => ?_)
  · have h := h.tt q
    exact w_sub [] rfl (b_X11_isRisk_22 s2 h)
  · have h := h.ff q
    refine w_iload_n 2 dX11_isRisk_11 rfl rfl rfl ?_
    obtain ⟨r4, s5, h6, h⟩ := h.bd
    refine k_X11_isPercent ml_RX11_336 (Nat.le_of_ble_eq_true rfl) ⟨Nat.le_of_ble_eq_true rfl, Nat.le_of_ble_eq_true rfl⟩ dX11_isRisk_12 rfl h6 ?_
    refine w_if_eq (tgt := 22) dX11_isRisk_15 (by decide) rfl (fun q => ?_) (fun q => ?_)
    · have h := h.tt q
      exact w_sub [] rfl (b_X11_isRisk_22 s5 h)
    · have h := h.ff q
      refine w_iconst (1 : Int32) dX11_isRisk_18 ic_iconst_1 rfl ?_
      refine w_goto (tgt := 23) dX11_isRisk_19 (by decide) ?_
      exact w_sub [] rfl (b_X11_isRisk_23 (1 : Int32) s5 h)
theorem c_X11_isRisk {l : Launch} {D : va_G} {cy : Nat → ClassId} {ad : Nat → Nat} {p0 : Int32} {p1 : Int32} {σ σ' : St} {r : Int32} (hf : f_X11_isRisk p0 p1 σ = some (r, σ')) : CT l D cy ad yX11_isRisk cX11_isRisk 3 (some .boolean) rX11_isRisk [.ref (ad 0), .int p0, .int p1] σ (some (.int r)) σ' :=
  ct_of (by decide) (Nat.le_of_ble_eq_true rfl) (fun p e s m args below meth c A => e_X11_isRisk (Γ := (p, l, e, rX11_isRisk, s, m, args, below, meth, c, D, cy, ad, A, 0, 0, MQ below (QC D cy ad (some (.int r)) σ' A) args s 0 0 A)) p0 p1 σ ⟨_, hf, rfl⟩)
theorem k_X11_isRisk {Γ : CX} {cc : ByteArray} {nL : Nat} {own : String} {ret : Option FieldType} {rm : Room} {σ σ' : St} {pc pc' idx : Nat} {lv : List (Nat × Value)} {rest : List Value} {p0 : Int32} {p1 : Int32} {r : Int32} (hl : Cond.methodLink own idx yX11_isRisk ∈ TB) (hw : (rest.map fun v => v.category).sum ≤ 8) (hR : rX11_isRisk.frames + 1 ≤ rm.frames ∧ 8 + (3 + 11) + rX11_isRisk.locals ≤ rm.locals) (hd : decode cc pc = .ok (.invokevirtual idx, 3)) (hp : pc + 3 = pc') (hf : f_X11_isRisk p0 p1 σ = some (r, σ')) (h : WW Γ cc nL own ret rm σ' pc' lv (.int r :: rest)) : WW Γ cc nL own ret rm σ pc lv (.int p1 :: .int p0 :: .ref (xd Γ 0) :: rest) :=
  w_callV (nn := 2) (i := 0) (As := [.int p0, .int p1]) (v := (some (.int r))) (T := TX11) (N := 11) (c_X11_isRisk hf) hl mw_X11_isRisk (by decide +kernel) ⟨rfl, rfl⟩ hR (lt_lit (by decide)) cel_0 rfl rfl hw hd rfl hp h
/-! WarByHours.isPurse (II)Z -/
def rX11_isPurse : Room := { frames := 2, cells := 0, slots := 0, locals := 41 }
def f_X11_isPurse_27 (k0 : Int32) (σ : St) : Option (Int32 × St) :=
  gd (bz k0) <| some (k0, σ)
theorem b_X11_isPurse_27 {Γ : CX} (k0 : Int32) (σ : St) (h : RR vI Γ (f_X11_isPurse_27 k0 σ)) : WW Γ cX11_isPurse 3 RX11 (some .boolean) rX11_isPurse σ 27 [] [.int k0] := by
  unfold f_X11_isPurse_27 at h
  obtain ⟨hb, h⟩ := h.gd
  exact w_zreturn dX11_isPurse_27 hb h
def f_X11_isPurse_26 (σ : St) : Option (Int32 × St) :=
  f_X11_isPurse_27 (0 : Int32) σ
theorem b_X11_isPurse_26 {Γ : CX} (σ : St) (h : RR vI Γ (f_X11_isPurse_26 σ)) : WW Γ cX11_isPurse 3 RX11 (some .boolean) rX11_isPurse σ 26 [] [] := by
  unfold f_X11_isPurse_26 at h
  refine w_iconst (0 : Int32) dX11_isPurse_26 ic_iconst_0 rfl ?_
  exact w_sub [] rfl (b_X11_isPurse_27 (0 : Int32) σ h)
def f_X11_isPurse (p0 : Int32) (p1 : Int32) (σ : St) : Option (Int32 × St) :=
  bd (f_X10_hasSide 1 p0 σ) fun r1 s2 =>
  if r1 = 0 then
    f_X11_isPurse_26 s2
  else
    if p1 < 0 then
      f_X11_isPurse_26 s2
    else
      if (999 : Int32) < p1 then
        f_X11_isPurse_26 s2
      else
        f_X11_isPurse_27 (1 : Int32) s2
theorem e_X11_isPurse {Γ : CX} (p0 : Int32) (p1 : Int32) (σ : St) (h : RR vI Γ (f_X11_isPurse p0 p1 σ)) : WW Γ cX11_isPurse 3 RX11 (some .boolean) rX11_isPurse σ 0 [(0, .ref (xd Γ 0)), (1, .int p0), (2, .int p1)] [] := by
  unfold f_X11_isPurse at h
  refine w_aload_n 0 dX11_isPurse_0 rfl rfl rfl ?_
  refine gf_RX11_10 dX11_isPurse_1 rfl ?_
  refine w_iload_n 1 dX11_isPurse_4 rfl rfl rfl ?_
  obtain ⟨r1, s2, h3, h⟩ := h.bd
  refine k_X10_hasSide ml_RX11_126 (Nat.le_of_ble_eq_true rfl) ⟨Nat.le_of_ble_eq_true rfl, Nat.le_of_ble_eq_true rfl⟩ dX11_isPurse_5 rfl h3 ?_
  refine w_if_eq (tgt := 26) dX11_isPurse_8 (by decide) rfl (fun q => ?_) (fun q => ?_)
  · have h := h.tt q
    exact w_sub [] rfl (b_X11_isPurse_26 s2 h)
  · have h := h.ff q
    refine w_iload_n 2 dX11_isPurse_11 rfl rfl rfl ?_
    refine w_if_lt (tgt := 26) dX11_isPurse_12 (by decide) rfl (fun q => ?_) (fun q => ?_)
    · have h := h.tt q
      exact w_sub [] rfl (b_X11_isPurse_26 s2 h)
    · have h := h.ff q
      refine w_iload_n 2 dX11_isPurse_15 rfl rfl rfl ?_
      refine w_sipush (999 : Int32) dX11_isPurse_16 ic_sipush_999 rfl ?_
      refine w_icmp_gt (tgt := 26) dX11_isPurse_19 (by decide) rfl (fun q => ?_) (fun q => ?_)
      · have h := h.tt q
        exact w_sub [] rfl (b_X11_isPurse_26 s2 h)
      · have h := h.ff q
        refine w_iconst (1 : Int32) dX11_isPurse_22 ic_iconst_1 rfl ?_
        refine w_goto (tgt := 27) dX11_isPurse_23 (by decide) ?_
        exact w_sub [] rfl (b_X11_isPurse_27 (1 : Int32) s2 h)
theorem c_X11_isPurse {l : Launch} {D : va_G} {cy : Nat → ClassId} {ad : Nat → Nat} {p0 : Int32} {p1 : Int32} {σ σ' : St} {r : Int32} (hf : f_X11_isPurse p0 p1 σ = some (r, σ')) : CT l D cy ad yX11_isPurse cX11_isPurse 3 (some .boolean) rX11_isPurse [.ref (ad 0), .int p0, .int p1] σ (some (.int r)) σ' :=
  ct_of (by decide) (Nat.le_of_ble_eq_true rfl) (fun p e s m args below meth c A => e_X11_isPurse (Γ := (p, l, e, rX11_isPurse, s, m, args, below, meth, c, D, cy, ad, A, 0, 0, MQ below (QC D cy ad (some (.int r)) σ' A) args s 0 0 A)) p0 p1 σ ⟨_, hf, rfl⟩)
theorem k_X11_isPurse {Γ : CX} {cc : ByteArray} {nL : Nat} {own : String} {ret : Option FieldType} {rm : Room} {σ σ' : St} {pc pc' idx : Nat} {lv : List (Nat × Value)} {rest : List Value} {p0 : Int32} {p1 : Int32} {r : Int32} (hl : Cond.methodLink own idx yX11_isPurse ∈ TB) (hw : (rest.map fun v => v.category).sum ≤ 8) (hR : rX11_isPurse.frames + 1 ≤ rm.frames ∧ 8 + (3 + 11) + rX11_isPurse.locals ≤ rm.locals) (hd : decode cc pc = .ok (.invokevirtual idx, 3)) (hp : pc + 3 = pc') (hf : f_X11_isPurse p0 p1 σ = some (r, σ')) (h : WW Γ cc nL own ret rm σ' pc' lv (.int r :: rest)) : WW Γ cc nL own ret rm σ pc lv (.int p1 :: .int p0 :: .ref (xd Γ 0) :: rest) :=
  w_callV (nn := 2) (i := 0) (As := [.int p0, .int p1]) (v := (some (.int r))) (T := TX11) (N := 11) (c_X11_isPurse hf) hl mw_X11_isPurse (by decide +kernel) ⟨rfl, rfl⟩ hR (lt_lit (by decide)) cel_0 rfl rfl hw hd rfl hp h
/-! WarByHours.isHost (I)Z -/
def rX11_isHost : Room := { frames := 0, cells := 0, slots := 0, locals := 0 }
def f_X11_isHost_15 (k0 : Int32) (σ : St) : Option (Int32 × St) :=
  gd (bz k0) <| some (k0, σ)
theorem b_X11_isHost_15 {Γ : CX} (k0 : Int32) (σ : St) (h : RR vI Γ (f_X11_isHost_15 k0 σ)) : WW Γ cX11_isHost 1 RX11 (some .boolean) rX11_isHost σ 15 [] [.int k0] := by
  unfold f_X11_isHost_15 at h
  obtain ⟨hb, h⟩ := h.gd
  exact w_zreturn dX11_isHost_15 hb h
def f_X11_isHost_14 (σ : St) : Option (Int32 × St) :=
  f_X11_isHost_15 (0 : Int32) σ
theorem b_X11_isHost_14 {Γ : CX} (σ : St) (h : RR vI Γ (f_X11_isHost_14 σ)) : WW Γ cX11_isHost 1 RX11 (some .boolean) rX11_isHost σ 14 [] [] := by
  unfold f_X11_isHost_14 at h
  refine w_iconst (0 : Int32) dX11_isHost_14 ic_iconst_0 rfl ?_
  exact w_sub [] rfl (b_X11_isHost_15 (0 : Int32) σ h)
def f_X11_isHost (p0 : Int32) (σ : St) : Option (Int32 × St) :=
  if p0 < 0 then
    f_X11_isHost_14 σ
  else
    if (9 : Int32) < p0 then
      f_X11_isHost_14 σ
    else
      f_X11_isHost_15 (1 : Int32) σ
theorem e_X11_isHost {Γ : CX} (p0 : Int32) (σ : St) (h : RR vI Γ (f_X11_isHost p0 σ)) : WW Γ cX11_isHost 1 RX11 (some .boolean) rX11_isHost σ 0 [(0, .int p0)] [] := by
  unfold f_X11_isHost at h
  refine w_iload_n 0 dX11_isHost_0 rfl rfl rfl ?_
  refine w_if_lt (tgt := 14) dX11_isHost_1 (by decide) rfl (fun q => ?_) (fun q => ?_)
  · have h := h.tt q
    exact w_sub [] rfl (b_X11_isHost_14 σ h)
  · have h := h.ff q
    refine w_iload_n 0 dX11_isHost_4 rfl rfl rfl ?_
    refine w_bipush (9 : Int32) dX11_isHost_5 ic_bipush_9 rfl ?_
    refine w_icmp_gt (tgt := 14) dX11_isHost_7 (by decide) rfl (fun q => ?_) (fun q => ?_)
    · have h := h.tt q
      exact w_sub [] rfl (b_X11_isHost_14 σ h)
    · have h := h.ff q
      refine w_iconst (1 : Int32) dX11_isHost_10 ic_iconst_1 rfl ?_
      refine w_goto (tgt := 15) dX11_isHost_11 (by decide) ?_
      exact w_sub [] rfl (b_X11_isHost_15 (1 : Int32) σ h)
theorem c_X11_isHost {l : Launch} {D : va_G} {cy : Nat → ClassId} {ad : Nat → Nat} {p0 : Int32} {σ σ' : St} {r : Int32} (hf : f_X11_isHost p0 σ = some (r, σ')) : CT l D cy ad yX11_isHost cX11_isHost 1 (some .boolean) rX11_isHost [.int p0] σ (some (.int r)) σ' :=
  ct_of (by decide) (Nat.le_of_ble_eq_true rfl) (fun p e s m args below meth c A => e_X11_isHost (Γ := (p, l, e, rX11_isHost, s, m, args, below, meth, c, D, cy, ad, A, 0, 0, MQ below (QC D cy ad (some (.int r)) σ' A) args s 0 0 A)) p0 σ ⟨_, hf, rfl⟩)
theorem k_X11_isHost {Γ : CX} {cc : ByteArray} {nL : Nat} {own : String} {ret : Option FieldType} {rm : Room} {σ σ' : St} {pc pc' idx : Nat} {lv : List (Nat × Value)} {rest : List Value} {p0 : Int32} {r : Int32} (hl : Cond.methodLink own idx yX11_isHost ∈ TB) (hw : (rest.map fun v => v.category).sum ≤ 8) (hR : rX11_isHost.frames + 1 ≤ rm.frames ∧ 8 + (1 + 11) + rX11_isHost.locals ≤ rm.locals) (hd : decode cc pc = .ok (.invokestatic idx, 3)) (hp : pc + 3 = pc') (hf : f_X11_isHost p0 σ = some (r, σ')) (h : WW Γ cc nL own ret rm σ' pc' lv (.int r :: rest)) : WW Γ cc nL own ret rm σ pc lv (.int p0 :: rest) :=
  w_callS (nn := 1) (As := [.int p0]) (v := (some (.int r))) (c_X11_isHost hf) hl mw_X11_isHost (by decide +kernel) ⟨rfl, rfl⟩ hR rfl hw hd rfl hp h
/-! WarByHours.isPlace (I)Z -/
def rX11_isPlace : Room := { frames := 0, cells := 0, slots := 0, locals := 0 }
def f_X11_isPlace_14 (k0 : Int32) (σ : St) : Option (Int32 × St) :=
  gd (bz k0) <| some (k0, σ)
theorem b_X11_isPlace_14 {Γ : CX} (k0 : Int32) (σ : St) (h : RR vI Γ (f_X11_isPlace_14 k0 σ)) : WW Γ cX11_isPlace 1 RX11 (some .boolean) rX11_isPlace σ 14 [] [.int k0] := by
  unfold f_X11_isPlace_14 at h
  obtain ⟨hb, h⟩ := h.gd
  exact w_zreturn dX11_isPlace_14 hb h
def f_X11_isPlace_13 (σ : St) : Option (Int32 × St) :=
  f_X11_isPlace_14 (0 : Int32) σ
theorem b_X11_isPlace_13 {Γ : CX} (σ : St) (h : RR vI Γ (f_X11_isPlace_13 σ)) : WW Γ cX11_isPlace 1 RX11 (some .boolean) rX11_isPlace σ 13 [] [] := by
  unfold f_X11_isPlace_13 at h
  refine w_iconst (0 : Int32) dX11_isPlace_13 ic_iconst_0 rfl ?_
  exact w_sub [] rfl (b_X11_isPlace_14 (0 : Int32) σ h)
def f_X11_isPlace (p0 : Int32) (σ : St) : Option (Int32 × St) :=
  if p0 < 0 then
    f_X11_isPlace_13 σ
  else
    if (3 : Int32) ≤ p0 then
      f_X11_isPlace_13 σ
    else
      f_X11_isPlace_14 (1 : Int32) σ
theorem e_X11_isPlace {Γ : CX} (p0 : Int32) (σ : St) (h : RR vI Γ (f_X11_isPlace p0 σ)) : WW Γ cX11_isPlace 1 RX11 (some .boolean) rX11_isPlace σ 0 [(0, .int p0)] [] := by
  unfold f_X11_isPlace at h
  refine w_iload_n 0 dX11_isPlace_0 rfl rfl rfl ?_
  refine w_if_lt (tgt := 13) dX11_isPlace_1 (by decide) rfl (fun q => ?_) (fun q => ?_)
  · have h := h.tt q
    exact w_sub [] rfl (b_X11_isPlace_13 σ h)
  · have h := h.ff q
    refine w_iload_n 0 dX11_isPlace_4 rfl rfl rfl ?_
    refine w_iconst (3 : Int32) dX11_isPlace_5 ic_iconst_3 rfl ?_
    refine w_icmp_ge (tgt := 13) dX11_isPlace_6 (by decide) rfl (fun q => ?_) (fun q => ?_)
    · have h := h.tt q
      exact w_sub [] rfl (b_X11_isPlace_13 σ h)
    · have h := h.ff q
      refine w_iconst (1 : Int32) dX11_isPlace_9 ic_iconst_1 rfl ?_
      refine w_goto (tgt := 14) dX11_isPlace_10 (by decide) ?_
      exact w_sub [] rfl (b_X11_isPlace_14 (1 : Int32) σ h)
theorem c_X11_isPlace {l : Launch} {D : va_G} {cy : Nat → ClassId} {ad : Nat → Nat} {p0 : Int32} {σ σ' : St} {r : Int32} (hf : f_X11_isPlace p0 σ = some (r, σ')) : CT l D cy ad yX11_isPlace cX11_isPlace 1 (some .boolean) rX11_isPlace [.int p0] σ (some (.int r)) σ' :=
  ct_of (by decide) (Nat.le_of_ble_eq_true rfl) (fun p e s m args below meth c A => e_X11_isPlace (Γ := (p, l, e, rX11_isPlace, s, m, args, below, meth, c, D, cy, ad, A, 0, 0, MQ below (QC D cy ad (some (.int r)) σ' A) args s 0 0 A)) p0 σ ⟨_, hf, rfl⟩)
theorem k_X11_isPlace {Γ : CX} {cc : ByteArray} {nL : Nat} {own : String} {ret : Option FieldType} {rm : Room} {σ σ' : St} {pc pc' idx : Nat} {lv : List (Nat × Value)} {rest : List Value} {p0 : Int32} {r : Int32} (hl : Cond.methodLink own idx yX11_isPlace ∈ TB) (hw : (rest.map fun v => v.category).sum ≤ 8) (hR : rX11_isPlace.frames + 1 ≤ rm.frames ∧ 8 + (1 + 11) + rX11_isPlace.locals ≤ rm.locals) (hd : decode cc pc = .ok (.invokestatic idx, 3)) (hp : pc + 3 = pc') (hf : f_X11_isPlace p0 σ = some (r, σ')) (h : WW Γ cc nL own ret rm σ' pc' lv (.int r :: rest)) : WW Γ cc nL own ret rm σ pc lv (.int p0 :: rest) :=
  w_callS (nn := 1) (As := [.int p0]) (v := (some (.int r))) (c_X11_isPlace hf) hl mw_X11_isPlace (by decide +kernel) ⟨rfl, rfl⟩ hR rfl hw hd rfl hp h
/-! WarByHours.isSeed (I)Z -/
def rX11_isSeed : Room := { frames := 1, cells := 0, slots := 0, locals := 20 }
def f_X11_isSeed_26 (k0 : Int32) (σ : St) : Option (Int32 × St) :=
  gd (bz k0) <| some (k0, σ)
theorem b_X11_isSeed_26 {Γ : CX} (k0 : Int32) (σ : St) (h : RR vI Γ (f_X11_isSeed_26 k0 σ)) : WW Γ cX11_isSeed 2 RX11 (some .boolean) rX11_isSeed σ 26 [] [.int k0] := by
  unfold f_X11_isSeed_26 at h
  obtain ⟨hb, h⟩ := h.gd
  exact w_zreturn dX11_isSeed_26 hb h
def f_X11_isSeed_25 (σ : St) : Option (Int32 × St) :=
  f_X11_isSeed_26 (0 : Int32) σ
theorem b_X11_isSeed_25 {Γ : CX} (σ : St) (h : RR vI Γ (f_X11_isSeed_25 σ)) : WW Γ cX11_isSeed 2 RX11 (some .boolean) rX11_isSeed σ 25 [] [] := by
  unfold f_X11_isSeed_25 at h
  refine w_iconst (0 : Int32) dX11_isSeed_25 ic_iconst_0 rfl ?_
  exact w_sub [] rfl (b_X11_isSeed_26 (0 : Int32) σ h)
def f_X11_isSeed (p0 : Int32) (σ : St) : Option (Int32 × St) :=
  bd (f_X10_isTold 1 σ) fun r1 s2 =>
  if r1 = 0 then
    f_X11_isSeed_25 s2
  else
    if p0 < 0 then
      f_X11_isSeed_25 s2
    else
      if (2000000000 : Int32) < p0 then
        f_X11_isSeed_25 s2
      else
        f_X11_isSeed_26 (1 : Int32) s2
theorem e_X11_isSeed {Γ : CX} (p0 : Int32) (σ : St) (h : RR vI Γ (f_X11_isSeed p0 σ)) : WW Γ cX11_isSeed 2 RX11 (some .boolean) rX11_isSeed σ 0 [(0, .ref (xd Γ 0)), (1, .int p0)] [] := by
  unfold f_X11_isSeed at h
  refine w_aload_n 0 dX11_isSeed_0 rfl rfl rfl ?_
  refine gf_RX11_10 dX11_isSeed_1 rfl ?_
  obtain ⟨r1, s2, h3, h⟩ := h.bd
  refine k_X10_isTold ml_RX11_133 (Nat.le_of_ble_eq_true rfl) ⟨Nat.le_of_ble_eq_true rfl, Nat.le_of_ble_eq_true rfl⟩ dX11_isSeed_4 rfl h3 ?_
  refine w_if_eq (tgt := 25) dX11_isSeed_7 (by decide) rfl (fun q => ?_) (fun q => ?_)
  · have h := h.tt q
    exact w_sub [] rfl (b_X11_isSeed_25 s2 h)
  · have h := h.ff q
    refine w_iload_n 1 dX11_isSeed_10 rfl rfl rfl ?_
    refine w_if_lt (tgt := 25) dX11_isSeed_11 (by decide) rfl (fun q => ?_) (fun q => ?_)
    · have h := h.tt q
      exact w_sub [] rfl (b_X11_isSeed_25 s2 h)
    · have h := h.ff q
      refine w_iload_n 1 dX11_isSeed_14 rfl rfl rfl ?_
      refine w_ldc_w (2000000000 : Int32) dX11_isSeed_15 cn_RX11_390 rfl ?_
      refine w_icmp_gt (tgt := 25) dX11_isSeed_18 (by decide) rfl (fun q => ?_) (fun q => ?_)
      · have h := h.tt q
        exact w_sub [] rfl (b_X11_isSeed_25 s2 h)
      · have h := h.ff q
        refine w_iconst (1 : Int32) dX11_isSeed_21 ic_iconst_1 rfl ?_
        refine w_goto (tgt := 26) dX11_isSeed_22 (by decide) ?_
        exact w_sub [] rfl (b_X11_isSeed_26 (1 : Int32) s2 h)
theorem c_X11_isSeed {l : Launch} {D : va_G} {cy : Nat → ClassId} {ad : Nat → Nat} {p0 : Int32} {σ σ' : St} {r : Int32} (hf : f_X11_isSeed p0 σ = some (r, σ')) : CT l D cy ad yX11_isSeed cX11_isSeed 2 (some .boolean) rX11_isSeed [.ref (ad 0), .int p0] σ (some (.int r)) σ' :=
  ct_of (by decide) (Nat.le_of_ble_eq_true rfl) (fun p e s m args below meth c A => e_X11_isSeed (Γ := (p, l, e, rX11_isSeed, s, m, args, below, meth, c, D, cy, ad, A, 0, 0, MQ below (QC D cy ad (some (.int r)) σ' A) args s 0 0 A)) p0 σ ⟨_, hf, rfl⟩)
theorem k_X11_isSeed {Γ : CX} {cc : ByteArray} {nL : Nat} {own : String} {ret : Option FieldType} {rm : Room} {σ σ' : St} {pc pc' idx : Nat} {lv : List (Nat × Value)} {rest : List Value} {p0 : Int32} {r : Int32} (hl : Cond.methodLink own idx yX11_isSeed ∈ TB) (hw : (rest.map fun v => v.category).sum ≤ 8) (hR : rX11_isSeed.frames + 1 ≤ rm.frames ∧ 8 + (2 + 11) + rX11_isSeed.locals ≤ rm.locals) (hd : decode cc pc = .ok (.invokevirtual idx, 3)) (hp : pc + 3 = pc') (hf : f_X11_isSeed p0 σ = some (r, σ')) (h : WW Γ cc nL own ret rm σ' pc' lv (.int r :: rest)) : WW Γ cc nL own ret rm σ pc lv (.int p0 :: .ref (xd Γ 0) :: rest) :=
  w_callV (nn := 1) (i := 0) (As := [.int p0]) (v := (some (.int r))) (T := TX11) (N := 11) (c_X11_isSeed hf) hl mw_X11_isSeed (by decide +kernel) ⟨rfl, rfl⟩ hR (lt_lit (by decide)) cel_0 rfl rfl hw hd rfl hp h
/-! WarByHours.isImage (I)Z -/
def rX11_isImage : Room := { frames := 0, cells := 0, slots := 0, locals := 0 }
def f_X11_isImage_14 (k0 : Int32) (σ : St) : Option (Int32 × St) :=
  gd (bz k0) <| some (k0, σ)
theorem b_X11_isImage_14 {Γ : CX} (k0 : Int32) (σ : St) (h : RR vI Γ (f_X11_isImage_14 k0 σ)) : WW Γ cX11_isImage 1 RX11 (some .boolean) rX11_isImage σ 14 [] [.int k0] := by
  unfold f_X11_isImage_14 at h
  obtain ⟨hb, h⟩ := h.gd
  exact w_zreturn dX11_isImage_14 hb h
def f_X11_isImage_13 (σ : St) : Option (Int32 × St) :=
  f_X11_isImage_14 (0 : Int32) σ
theorem b_X11_isImage_13 {Γ : CX} (σ : St) (h : RR vI Γ (f_X11_isImage_13 σ)) : WW Γ cX11_isImage 1 RX11 (some .boolean) rX11_isImage σ 13 [] [] := by
  unfold f_X11_isImage_13 at h
  refine w_iconst (0 : Int32) dX11_isImage_13 ic_iconst_0 rfl ?_
  exact w_sub [] rfl (b_X11_isImage_14 (0 : Int32) σ h)
def f_X11_isImage (p0 : Int32) (σ : St) : Option (Int32 × St) :=
  if p0 < 0 then
    f_X11_isImage_13 σ
  else
    if (3 : Int32) ≤ p0 then
      f_X11_isImage_13 σ
    else
      f_X11_isImage_14 (1 : Int32) σ
theorem e_X11_isImage {Γ : CX} (p0 : Int32) (σ : St) (h : RR vI Γ (f_X11_isImage p0 σ)) : WW Γ cX11_isImage 1 RX11 (some .boolean) rX11_isImage σ 0 [(0, .int p0)] [] := by
  unfold f_X11_isImage at h
  refine w_iload_n 0 dX11_isImage_0 rfl rfl rfl ?_
  refine w_if_lt (tgt := 13) dX11_isImage_1 (by decide) rfl (fun q => ?_) (fun q => ?_)
  · have h := h.tt q
    exact w_sub [] rfl (b_X11_isImage_13 σ h)
  · have h := h.ff q
    refine w_iload_n 0 dX11_isImage_4 rfl rfl rfl ?_
    refine w_iconst (3 : Int32) dX11_isImage_5 ic_iconst_3 rfl ?_
    refine w_icmp_ge (tgt := 13) dX11_isImage_6 (by decide) rfl (fun q => ?_) (fun q => ?_)
    · have h := h.tt q
      exact w_sub [] rfl (b_X11_isImage_13 σ h)
    · have h := h.ff q
      refine w_iconst (1 : Int32) dX11_isImage_9 ic_iconst_1 rfl ?_
      refine w_goto (tgt := 14) dX11_isImage_10 (by decide) ?_
      exact w_sub [] rfl (b_X11_isImage_14 (1 : Int32) σ h)
theorem c_X11_isImage {l : Launch} {D : va_G} {cy : Nat → ClassId} {ad : Nat → Nat} {p0 : Int32} {σ σ' : St} {r : Int32} (hf : f_X11_isImage p0 σ = some (r, σ')) : CT l D cy ad yX11_isImage cX11_isImage 1 (some .boolean) rX11_isImage [.int p0] σ (some (.int r)) σ' :=
  ct_of (by decide) (Nat.le_of_ble_eq_true rfl) (fun p e s m args below meth c A => e_X11_isImage (Γ := (p, l, e, rX11_isImage, s, m, args, below, meth, c, D, cy, ad, A, 0, 0, MQ below (QC D cy ad (some (.int r)) σ' A) args s 0 0 A)) p0 σ ⟨_, hf, rfl⟩)
theorem k_X11_isImage {Γ : CX} {cc : ByteArray} {nL : Nat} {own : String} {ret : Option FieldType} {rm : Room} {σ σ' : St} {pc pc' idx : Nat} {lv : List (Nat × Value)} {rest : List Value} {p0 : Int32} {r : Int32} (hl : Cond.methodLink own idx yX11_isImage ∈ TB) (hw : (rest.map fun v => v.category).sum ≤ 8) (hR : rX11_isImage.frames + 1 ≤ rm.frames ∧ 8 + (1 + 11) + rX11_isImage.locals ≤ rm.locals) (hd : decode cc pc = .ok (.invokestatic idx, 3)) (hp : pc + 3 = pc') (hf : f_X11_isImage p0 σ = some (r, σ')) (h : WW Γ cc nL own ret rm σ' pc' lv (.int r :: rest)) : WW Γ cc nL own ret rm σ pc lv (.int p0 :: rest) :=
  w_callS (nn := 1) (As := [.int p0]) (v := (some (.int r))) (c_X11_isImage hf) hl mw_X11_isImage (by decide +kernel) ⟨rfl, rfl⟩ hR rfl hw hd rfl hp h
/-! WarByHoursModel.in (JJJ)Z -/
def rX12_in : Room := { frames := 0, cells := 0, slots := 0, locals := 0 }
def f_X12_in_18 (k0 : Int32) (σ : St) : Option (Int32 × St) :=
  gd (bz k0) <| some (k0, σ)
theorem b_X12_in_18 {Γ : CX} (k0 : Int32) (σ : St) (h : RR vI Γ (f_X12_in_18 k0 σ)) : WW Γ cX12_in 6 RX12 (some .boolean) rX12_in σ 18 [] [.int k0] := by
  unfold f_X12_in_18 at h
  obtain ⟨hb, h⟩ := h.gd
  exact w_zreturn dX12_in_18 hb h
def f_X12_in_17 (σ : St) : Option (Int32 × St) :=
  f_X12_in_18 (0 : Int32) σ
theorem b_X12_in_17 {Γ : CX} (σ : St) (h : RR vI Γ (f_X12_in_17 σ)) : WW Γ cX12_in 6 RX12 (some .boolean) rX12_in σ 17 [] [] := by
  unfold f_X12_in_17 at h
  refine w_iconst (0 : Int32) dX12_in_17 ic_iconst_0 rfl ?_
  exact w_sub [] rfl (b_X12_in_18 (0 : Int32) σ h)
def f_X12_in (p0 : Int64) (p1 : Int64) (p2 : Int64) (σ : St) : Option (Int32 × St) :=
  if (lg_cmp p0 p1) < 0 then
    f_X12_in_17 σ
  else
    if 0 < (lg_cmp p0 p2) then
      f_X12_in_17 σ
    else
      f_X12_in_18 (1 : Int32) σ
theorem e_X12_in {Γ : CX} (p0 : Int64) (p1 : Int64) (p2 : Int64) (σ : St) (h : RR vI Γ (f_X12_in p0 p1 p2 σ)) : WW Γ cX12_in 6 RX12 (some .boolean) rX12_in σ 0 [(0, .long p0), (2, .long p1), (4, .long p2)] [] := by
  unfold f_X12_in at h
  refine w_lload_n 0 dX12_in_0 rfl rfl rfl ?_
  refine w_lload_n 1 dX12_in_1 rfl rfl rfl ?_
  refine w_lcmp dX12_in_2 rfl ?_
  refine w_if_lt (tgt := 17) dX12_in_3 (by decide) rfl (fun q => ?_) (fun q => ?_)
  · have h := h.tt q
    exact w_sub [] rfl (b_X12_in_17 σ h)
  · have h := h.ff q
    refine w_lload_n 0 dX12_in_6 rfl rfl rfl ?_
    refine w_lload 2 dX12_in_7 rfl rfl ?_
    refine w_lcmp dX12_in_9 rfl ?_
    refine w_if_gt (tgt := 17) dX12_in_10 (by decide) rfl (fun q => ?_) (fun q => ?_)
    · have h := h.tt q
      exact w_sub [] rfl (b_X12_in_17 σ h)
    · have h := h.ff q
      refine w_iconst (1 : Int32) dX12_in_13 ic_iconst_1 rfl ?_
      refine w_goto (tgt := 18) dX12_in_14 (by decide) ?_
      exact w_sub [] rfl (b_X12_in_18 (1 : Int32) σ h)
theorem c_X12_in {l : Launch} {D : va_G} {cy : Nat → ClassId} {ad : Nat → Nat} {p0 : Int64} {p1 : Int64} {p2 : Int64} {σ σ' : St} {r : Int32} (hf : f_X12_in p0 p1 p2 σ = some (r, σ')) : CT l D cy ad yX12_in cX12_in 6 (some .boolean) rX12_in [.long p0, .long p1, .long p2] σ (some (.int r)) σ' :=
  ct_of (by decide) (Nat.le_of_ble_eq_true rfl) (fun p e s m args below meth c A => e_X12_in (Γ := (p, l, e, rX12_in, s, m, args, below, meth, c, D, cy, ad, A, 0, 0, MQ below (QC D cy ad (some (.int r)) σ' A) args s 0 0 A)) p0 p1 p2 σ ⟨_, hf, rfl⟩)
theorem k_X12_in {Γ : CX} {cc : ByteArray} {nL : Nat} {own : String} {ret : Option FieldType} {rm : Room} {σ σ' : St} {pc pc' idx : Nat} {lv : List (Nat × Value)} {rest : List Value} {p0 : Int64} {p1 : Int64} {p2 : Int64} {r : Int32} (hl : Cond.methodLink own idx yX12_in ∈ TB) (hw : (rest.map fun v => v.category).sum ≤ 8) (hR : rX12_in.frames + 1 ≤ rm.frames ∧ 8 + (6 + 11) + rX12_in.locals ≤ rm.locals) (hd : decode cc pc = .ok (.invokestatic idx, 3)) (hp : pc + 3 = pc') (hf : f_X12_in p0 p1 p2 σ = some (r, σ')) (h : WW Γ cc nL own ret rm σ' pc' lv (.int r :: rest)) : WW Γ cc nL own ret rm σ pc lv (.long p2 :: .long p1 :: .long p0 :: rest) :=
  w_callS (nn := 3) (As := [.long p0, .long p1, .long p2]) (v := (some (.int r))) (c_X12_in hf) hl mw_X12_in (by decide +kernel) ⟨rfl, rfl⟩ hR rfl hw hd rfl hp h
/-! WarByHoursModel.bits (I)I -/
def rX12_bits : Room := { frames := 0, cells := 0, slots := 0, locals := 0 }
def g_X12_bits_4 (K4 : Int32 × Int32 × Int32 × St → Option (Int32 × St)) (x : Int32 × Int32 × Int32 × St) : Option (Int32 × St) := match x with
  | (v0, v1, v2, σ) =>
  if (12 : Int32) ≤ v2 then
    some (v1, σ)
  else
    bnd ((v1 + ((v0 >>> (v2 &&& 31)) &&& (1 : Int32)))) fun x1 =>
    bnd (v2 + (1 : Int32)) fun x2 =>
    K4 (v0, x1, x2, σ)
theorem l_X12_bits_4 {Γ : CX} : ∀ (n : Nat) (v0 : Int32) (v1 : Int32) (v2 : Int32) (σ : St), RR vI Γ (itr (g_X12_bits_4) n (v0, v1, v2, σ)) → WW Γ cX12_bits 3 RX12 (some .int) rX12_bits σ 4 [(0, .int v0), (1, .int v1), (2, .int v2)] [] := by
  intro n
  induction n with
  | zero => intro v0 v1 v2 σ h; exact RR.no h
  | succ n hK4 =>
  intro v0 v1 v2 σ h
  have h : RR vI Γ (g_X12_bits_4 (itr (g_X12_bits_4) n) (v0, v1, v2, σ)) := h
  generalize itr (g_X12_bits_4) n = K4 at h hK4
  unfold g_X12_bits_4 at h
  dsimp only at h
  refine w_iload_n 2 dX12_bits_4 rfl rfl rfl ?_
  refine w_bipush (12 : Int32) dX12_bits_5 ic_bipush_12 rfl ?_
  refine w_icmp_ge (tgt := 24) dX12_bits_7 (by decide) rfl (fun q => ?_) (fun q => ?_)
  · have h := h.tt q
    refine w_iload_n 1 dX12_bits_24 rfl rfl rfl ?_
    exact w_ireturn dX12_bits_25 h
  · have h := h.ff q
    refine w_iload_n 1 dX12_bits_10 rfl rfl rfl ?_
    refine w_iload_n 0 dX12_bits_11 rfl rfl rfl ?_
    refine w_iload_n 2 dX12_bits_12 rfl rfl rfl ?_
    refine w_ishr dX12_bits_13 rfl ?_
    refine w_iconst (1 : Int32) dX12_bits_14 ic_iconst_1 rfl ?_
    refine w_iand dX12_bits_15 rfl ?_
    refine w_iadd dX12_bits_16 rfl ?_
    refine w_nmI (fun x1 ex1 => ?_)
    replace h := h.bnd ex1
    clear ex1
    refine w_istore_n [(1, .int x1), (0, .int v0), (2, .int v2)] dX12_bits_17 rfl (by decide) rfl rfl ?_
    obtain ⟨x2, ex2⟩ : ∃ y : Int32, y = (v2 + (1 : Int32)) := ⟨_, rfl⟩
    replace h := h.bnd ex2
    refine w_iinc 2 x2 [(2, .int x2), (1, .int x1), (0, .int v0)] dX12_bits_18 rfl (by rw [ex2, ic_iconst_1]) (by decide) rfl rfl ?_
    clear ex2
    refine w_goto (tgt := 4) dX12_bits_21 (by decide) ?_
    exact w_sub [2, 1, 0] rfl (hK4 v0 x1 x2 σ h)
def f_X12_bits (p0 : Int32) (σ : St) : Option (Int32 × St) :=
  itr (g_X12_bits_4) FU (p0, (0 : Int32), (0 : Int32), σ)
theorem e_X12_bits {Γ : CX} (p0 : Int32) (σ : St) (h : RR vI Γ (f_X12_bits p0 σ)) : WW Γ cX12_bits 3 RX12 (some .int) rX12_bits σ 0 [(0, .int p0)] [] := by
  unfold f_X12_bits at h
  refine w_iconst (0 : Int32) dX12_bits_0 ic_iconst_0 rfl ?_
  refine w_istore_n [(1, .int (0 : Int32)), (0, .int p0)] dX12_bits_1 rfl (by decide) rfl rfl ?_
  refine w_iconst (0 : Int32) dX12_bits_2 ic_iconst_0 rfl ?_
  refine w_istore_n [(2, .int (0 : Int32)), (1, .int (0 : Int32)), (0, .int p0)] dX12_bits_3 rfl (by decide) rfl rfl ?_
  exact w_sub [2, 1, 0] rfl (l_X12_bits_4 FU p0 (0 : Int32) (0 : Int32) σ h)
theorem c_X12_bits {l : Launch} {D : va_G} {cy : Nat → ClassId} {ad : Nat → Nat} {p0 : Int32} {σ σ' : St} {r : Int32} (hf : f_X12_bits p0 σ = some (r, σ')) : CT l D cy ad yX12_bits cX12_bits 3 (some .int) rX12_bits [.int p0] σ (some (.int r)) σ' :=
  ct_of (by decide) (Nat.le_of_ble_eq_true rfl) (fun p e s m args below meth c A => e_X12_bits (Γ := (p, l, e, rX12_bits, s, m, args, below, meth, c, D, cy, ad, A, 0, 0, MQ below (QC D cy ad (some (.int r)) σ' A) args s 0 0 A)) p0 σ ⟨_, hf, rfl⟩)
theorem k_X12_bits {Γ : CX} {cc : ByteArray} {nL : Nat} {own : String} {ret : Option FieldType} {rm : Room} {σ σ' : St} {pc pc' idx : Nat} {lv : List (Nat × Value)} {rest : List Value} {p0 : Int32} {r : Int32} (hl : Cond.methodLink own idx yX12_bits ∈ TB) (hw : (rest.map fun v => v.category).sum ≤ 8) (hR : rX12_bits.frames + 1 ≤ rm.frames ∧ 8 + (3 + 11) + rX12_bits.locals ≤ rm.locals) (hd : decode cc pc = .ok (.invokestatic idx, 3)) (hp : pc + 3 = pc') (hf : f_X12_bits p0 σ = some (r, σ')) (h : WW Γ cc nL own ret rm σ' pc' lv (.int r :: rest)) : WW Γ cc nL own ret rm σ pc lv (.int p0 :: rest) :=
  w_callS (nn := 1) (As := [.int p0]) (v := (some (.int r))) (c_X12_bits hf) hl mw_X12_bits (by decide +kernel) ⟨rfl, rfl⟩ hR rfl hw hd rfl hp h
/-! WarByHoursModel.bit (II)I -/
def rX12_bit : Room := { frames := 0, cells := 0, slots := 0, locals := 0 }
def f_X12_bit (p0 : Int32) (p1 : Int32) (σ : St) : Option (Int32 × St) :=
  some (((p0 >>> (p1 &&& 31)) &&& (1 : Int32)), σ)
theorem e_X12_bit {Γ : CX} (p0 : Int32) (p1 : Int32) (σ : St) (h : RR vI Γ (f_X12_bit p0 p1 σ)) : WW Γ cX12_bit 2 RX12 (some .int) rX12_bit σ 0 [(0, .int p0), (1, .int p1)] [] := by
  unfold f_X12_bit at h
  refine w_iload_n 0 dX12_bit_0 rfl rfl rfl ?_
  refine w_iload_n 1 dX12_bit_1 rfl rfl rfl ?_
  refine w_ishr dX12_bit_2 rfl ?_
  refine w_iconst (1 : Int32) dX12_bit_3 ic_iconst_1 rfl ?_
  refine w_iand dX12_bit_4 rfl ?_
  exact w_ireturn dX12_bit_5 h
theorem c_X12_bit {l : Launch} {D : va_G} {cy : Nat → ClassId} {ad : Nat → Nat} {p0 : Int32} {p1 : Int32} {σ σ' : St} {r : Int32} (hf : f_X12_bit p0 p1 σ = some (r, σ')) : CT l D cy ad yX12_bit cX12_bit 2 (some .int) rX12_bit [.int p0, .int p1] σ (some (.int r)) σ' :=
  ct_of (by decide) (Nat.le_of_ble_eq_true rfl) (fun p e s m args below meth c A => e_X12_bit (Γ := (p, l, e, rX12_bit, s, m, args, below, meth, c, D, cy, ad, A, 0, 0, MQ below (QC D cy ad (some (.int r)) σ' A) args s 0 0 A)) p0 p1 σ ⟨_, hf, rfl⟩)
theorem k_X12_bit {Γ : CX} {cc : ByteArray} {nL : Nat} {own : String} {ret : Option FieldType} {rm : Room} {σ σ' : St} {pc pc' idx : Nat} {lv : List (Nat × Value)} {rest : List Value} {p0 : Int32} {p1 : Int32} {r : Int32} (hl : Cond.methodLink own idx yX12_bit ∈ TB) (hw : (rest.map fun v => v.category).sum ≤ 8) (hR : rX12_bit.frames + 1 ≤ rm.frames ∧ 8 + (2 + 11) + rX12_bit.locals ≤ rm.locals) (hd : decode cc pc = .ok (.invokestatic idx, 3)) (hp : pc + 3 = pc') (hf : f_X12_bit p0 p1 σ = some (r, σ')) (h : WW Γ cc nL own ret rm σ' pc' lv (.int r :: rest)) : WW Γ cc nL own ret rm σ pc lv (.int p1 :: .int p0 :: rest) :=
  w_callS (nn := 2) (As := [.int p0, .int p1]) (v := (some (.int r))) (c_X12_bit hf) hl mw_X12_bit (by decide +kernel) ⟨rfl, rfl⟩ hR rfl hw hd rfl hp h
/-! WarByHoursModel.image (I)I -/
def rX12_image : Room := { frames := 1, cells := 0, slots := 0, locals := 25 }
def g_X12_image_17 (K17 : Int32 × Int32 × St → Option (Int32 × St)) (x : Int32 × Int32 × St) : Option (Int32 × St) := match x with
  | (v1, v2, σ) =>
  if (240 : Int32) ≤ v2 then
    gd (inb v1 (ln 61)) <|
    bnd (sr σ 61 v1.toNatClampNeg (vp_nar .boolean (1 : Int32))) fun s2 =>
    some ((0 : Int32), s2)
  else
    gd (inb v2 (ln 59)) <|
    gd (inb (((240 : Int32) * v1) + v2) (ln 60)) <|
    bnd (sr σ 60 (((240 : Int32) * v1) + v2).toNatClampNeg (gr σ 59 v2.toNatClampNeg)) fun s5 =>
    bnd (v2 + (1 : Int32)) fun x6 =>
    K17 (v1, x6, s5)
theorem l_X12_image_17 {Γ : CX} : ∀ (n : Nat) (v1 : Int32) (v2 : Int32) (σ : St), RR vI Γ (itr (g_X12_image_17) n (v1, v2, σ)) → WW Γ cX12_image 3 RX12 (some .int) rX12_image σ 17 [(0, .ref (xd Γ 58)), (1, .int v1), (2, .int v2)] [] := by
  intro n
  induction n with
  | zero => intro v1 v2 σ h; exact RR.no h
  | succ n hK17 =>
  intro v1 v2 σ h
  have h : RR vI Γ (g_X12_image_17 (itr (g_X12_image_17) n) (v1, v2, σ)) := h
  generalize itr (g_X12_image_17) n = K17 at h hK17
  unfold g_X12_image_17 at h
  dsimp only at h
  refine w_iload_n 2 dX12_image_17 rfl rfl rfl ?_
  refine w_sipush (240 : Int32) dX12_image_18 ic_sipush_240 rfl ?_
  refine w_icmp_ge (tgt := 48) dX12_image_21 (by decide) rfl (fun q => ?_) (fun q => ?_)
  · have h := h.tt q
    refine w_aload_n 0 dX12_image_48 rfl rfl rfl ?_
    refine gf_RX12_16 dX12_image_49 rfl ?_
    refine w_iload_n 1 dX12_image_52 rfl rfl rfl ?_
    refine w_iconst (1 : Int32) dX12_image_53 ic_iconst_1 rfl ?_
    obtain ⟨hi1, h⟩ := h.gd
    refine w_zast (i := 61) (lt_lit (by decide)) rfl hi1 dX12_image_54 rfl ?_
    obtain ⟨s2, es2⟩ : ∃ y : St, y = (sr σ 61 v1.toNatClampNeg (vp_nar .boolean (1 : Int32))) := ⟨_, rfl⟩
    rw [← es2]
    replace h := h.bnd es2
    clear es2
    refine w_iconst (0 : Int32) dX12_image_55 ic_iconst_0 rfl ?_
    exact w_ireturn dX12_image_56 h
  · have h := h.ff q
    refine w_aload_n 0 dX12_image_24 rfl rfl rfl ?_
    refine gf_RX12_13 dX12_image_25 rfl ?_
    refine w_sipush (240 : Int32) dX12_image_28 ic_sipush_240 rfl ?_
    refine w_iload_n 1 dX12_image_31 rfl rfl rfl ?_
    refine w_imul dX12_image_32 rfl ?_
    refine w_iload_n 2 dX12_image_33 rfl rfl rfl ?_
    refine w_iadd dX12_image_34 rfl ?_
    refine w_aload_n 0 dX12_image_35 rfl rfl rfl ?_
    refine gf_RX12_9 dX12_image_36 rfl ?_
    refine w_iload_n 2 dX12_image_39 rfl rfl rfl ?_
    obtain ⟨hi3, h⟩ := h.gd
    refine w_iald (i := 59) (lt_lit (by decide)) rfl hi3 dX12_image_40 rfl ?_
    obtain ⟨hi4, h⟩ := h.gd
    refine w_iast (i := 60) (lt_lit (by decide)) rfl hi4 dX12_image_41 rfl ?_
    obtain ⟨s5, es5⟩ : ∃ y : St, y = (sr σ 60 (((240 : Int32) * v1) + v2).toNatClampNeg (gr σ 59 v2.toNatClampNeg)) := ⟨_, rfl⟩
    rw [← es5]
    replace h := h.bnd es5
    clear es5
    obtain ⟨x6, ex6⟩ : ∃ y : Int32, y = (v2 + (1 : Int32)) := ⟨_, rfl⟩
    replace h := h.bnd ex6
    refine w_iinc 2 x6 [(2, .int x6), (0, .ref (xd Γ 58)), (1, .int v1)] dX12_image_42 rfl (by rw [ex6, ic_iconst_1]) (by decide) rfl rfl ?_
    clear ex6
    refine w_goto (tgt := 17) dX12_image_45 (by decide) ?_
    exact w_sub [1, 2, 0] rfl (hK17 v1 x6 s5 h)
def f_X12_image (p0 : Int32) (σ : St) : Option (Int32 × St) :=
  bd (f_X12_in p0.toInt64 (0 : Int64) (2 : Int64) σ) fun r1 s2 =>
  if r1 = 0 then
    some ((-2 : Int32), s2)
  else
    itr (g_X12_image_17) FU (p0, (0 : Int32), s2)
theorem e_X12_image {Γ : CX} (p0 : Int32) (σ : St) (h : RR vI Γ (f_X12_image p0 σ)) : WW Γ cX12_image 3 RX12 (some .int) rX12_image σ 0 [(0, .ref (xd Γ 58)), (1, .int p0)] [] := by
  unfold f_X12_image at h
  refine w_iload_n 1 dX12_image_0 rfl rfl rfl ?_
  refine w_i2l dX12_image_1 rfl ?_
  refine w_lconst (0 : Int64) dX12_image_2 rfl rfl ?_
  refine w_ldc2_w (2 : Int64) dX12_image_3 cl_RX12_68 rfl ?_
  obtain ⟨r1, s2, h3, h⟩ := h.bd
  refine k_X12_in ml_RX12_70 (Nat.le_of_ble_eq_true rfl) ⟨Nat.le_of_ble_eq_true rfl, Nat.le_of_ble_eq_true rfl⟩ dX12_image_6 rfl h3 ?_
  refine w_if_ne (tgt := 15) dX12_image_9 (by decide) rfl (fun q => ?_) (fun q => ?_)
  · have h := h.ff q
    refine w_iconst (0 : Int32) dX12_image_15 ic_iconst_0 rfl ?_
    refine w_istore_n [(2, .int (0 : Int32)), (0, .ref (xd Γ 58)), (1, .int p0)] dX12_image_16 rfl (by decide) rfl rfl ?_
    exact w_sub [1, 2, 0] rfl (l_X12_image_17 FU p0 (0 : Int32) s2 h)
  · have h := h.tt q
    refine w_bipush (-2 : Int32) dX12_image_12 ic_bipush_m2 rfl ?_
    exact w_ireturn dX12_image_14 h
theorem c_X12_image {l : Launch} {D : va_G} {cy : Nat → ClassId} {ad : Nat → Nat} {p0 : Int32} {σ σ' : St} {r : Int32} (hf : f_X12_image p0 σ = some (r, σ')) : CT l D cy ad yX12_image cX12_image 3 (some .int) rX12_image [.ref (ad 58), .int p0] σ (some (.int r)) σ' :=
  ct_of (by decide) (Nat.le_of_ble_eq_true rfl) (fun p e s m args below meth c A => e_X12_image (Γ := (p, l, e, rX12_image, s, m, args, below, meth, c, D, cy, ad, A, 0, 0, MQ below (QC D cy ad (some (.int r)) σ' A) args s 0 0 A)) p0 σ ⟨_, hf, rfl⟩)
theorem k_X12_image {Γ : CX} {cc : ByteArray} {nL : Nat} {own : String} {ret : Option FieldType} {rm : Room} {σ σ' : St} {pc pc' idx : Nat} {lv : List (Nat × Value)} {rest : List Value} {p0 : Int32} {r : Int32} (hl : Cond.methodLink own idx yX12_image ∈ TB) (hw : (rest.map fun v => v.category).sum ≤ 8) (hR : rX12_image.frames + 1 ≤ rm.frames ∧ 8 + (3 + 11) + rX12_image.locals ≤ rm.locals) (hd : decode cc pc = .ok (.invokevirtual idx, 3)) (hp : pc + 3 = pc') (hf : f_X12_image p0 σ = some (r, σ')) (h : WW Γ cc nL own ret rm σ' pc' lv (.int r :: rest)) : WW Γ cc nL own ret rm σ pc lv (.int p0 :: .ref (xd Γ 58) :: rest) :=
  w_callV (nn := 1) (i := 58) (As := [.int p0]) (v := (some (.int r))) (T := TX12) (N := 32) (c_X12_image hf) hl mw_X12_image (by decide +kernel) ⟨rfl, rfl⟩ hR (lt_lit (by decide)) cel_58 rfl rfl hw hd rfl hp h
/-! WarByHoursModel.back (I)I -/
def rX12_back : Room := { frames := 1, cells := 0, slots := 0, locals := 25 }
def g_X12_back_29 (K29 : Int32 × Int32 × St → Option (Int32 × St)) (x : Int32 × Int32 × St) : Option (Int32 × St) := match x with
  | (v1, v2, σ) =>
  if (240 : Int32) ≤ v2 then
    some ((0 : Int32), σ)
  else
    gd (inb (((240 : Int32) * v1) + v2) (ln 60)) <|
    gd (inb v2 (ln 59)) <|
    bnd (sr σ 59 v2.toNatClampNeg (gr σ 60 (((240 : Int32) * v1) + v2).toNatClampNeg)) fun s3 =>
    bnd (v2 + (1 : Int32)) fun x4 =>
    K29 (v1, x4, s3)
theorem l_X12_back_29 {Γ : CX} : ∀ (n : Nat) (v1 : Int32) (v2 : Int32) (σ : St), RR vI Γ (itr (g_X12_back_29) n (v1, v2, σ)) → WW Γ cX12_back 3 RX12 (some .int) rX12_back σ 29 [(0, .ref (xd Γ 58)), (1, .int v1), (2, .int v2)] [] := by
  intro n
  induction n with
  | zero => intro v1 v2 σ h; exact RR.no h
  | succ n hK29 =>
  intro v1 v2 σ h
  have h : RR vI Γ (g_X12_back_29 (itr (g_X12_back_29) n) (v1, v2, σ)) := h
  generalize itr (g_X12_back_29) n = K29 at h hK29
  unfold g_X12_back_29 at h
  dsimp only at h
  refine w_iload_n 2 dX12_back_29 rfl rfl rfl ?_
  refine w_sipush (240 : Int32) dX12_back_30 ic_sipush_240 rfl ?_
  refine w_icmp_ge (tgt := 60) dX12_back_33 (by decide) rfl (fun q => ?_) (fun q => ?_)
  · have h := h.tt q
    refine w_iconst (0 : Int32) dX12_back_60 ic_iconst_0 rfl ?_
    exact w_ireturn dX12_back_61 h
  · have h := h.ff q
    refine w_aload_n 0 dX12_back_36 rfl rfl rfl ?_
    refine gf_RX12_9 dX12_back_37 rfl ?_
    refine w_iload_n 2 dX12_back_40 rfl rfl rfl ?_
    refine w_aload_n 0 dX12_back_41 rfl rfl rfl ?_
    refine gf_RX12_13 dX12_back_42 rfl ?_
    refine w_sipush (240 : Int32) dX12_back_45 ic_sipush_240 rfl ?_
    refine w_iload_n 1 dX12_back_48 rfl rfl rfl ?_
    refine w_imul dX12_back_49 rfl ?_
    refine w_iload_n 2 dX12_back_50 rfl rfl rfl ?_
    refine w_iadd dX12_back_51 rfl ?_
    obtain ⟨hi1, h⟩ := h.gd
    refine w_iald (i := 60) (lt_lit (by decide)) rfl hi1 dX12_back_52 rfl ?_
    obtain ⟨hi2, h⟩ := h.gd
    refine w_iast (i := 59) (lt_lit (by decide)) rfl hi2 dX12_back_53 rfl ?_
    obtain ⟨s3, es3⟩ : ∃ y : St, y = (sr σ 59 v2.toNatClampNeg (gr σ 60 (((240 : Int32) * v1) + v2).toNatClampNeg)) := ⟨_, rfl⟩
    rw [← es3]
    replace h := h.bnd es3
    clear es3
    obtain ⟨x4, ex4⟩ : ∃ y : Int32, y = (v2 + (1 : Int32)) := ⟨_, rfl⟩
    replace h := h.bnd ex4
    refine w_iinc 2 x4 [(2, .int x4), (0, .ref (xd Γ 58)), (1, .int v1)] dX12_back_54 rfl (by rw [ex4, ic_iconst_1]) (by decide) rfl rfl ?_
    clear ex4
    refine w_goto (tgt := 29) dX12_back_57 (by decide) ?_
    exact w_sub [1, 2, 0] rfl (hK29 v1 x4 s3 h)
def f_X12_back (p0 : Int32) (σ : St) : Option (Int32 × St) :=
  bd (f_X12_in p0.toInt64 (0 : Int64) (2 : Int64) σ) fun r1 s2 =>
  if r1 = 0 then
    some ((-2 : Int32), s2)
  else
    gd (inb p0 (ln 61)) <|
    if (gr s2 61 p0.toNatClampNeg) = 0 then
      some ((-6 : Int32), s2)
    else
      itr (g_X12_back_29) FU (p0, (0 : Int32), s2)
theorem e_X12_back {Γ : CX} (p0 : Int32) (σ : St) (h : RR vI Γ (f_X12_back p0 σ)) : WW Γ cX12_back 3 RX12 (some .int) rX12_back σ 0 [(0, .ref (xd Γ 58)), (1, .int p0)] [] := by
  unfold f_X12_back at h
  refine w_iload_n 1 dX12_back_0 rfl rfl rfl ?_
  refine w_i2l dX12_back_1 rfl ?_
  refine w_lconst (0 : Int64) dX12_back_2 rfl rfl ?_
  refine w_ldc2_w (2 : Int64) dX12_back_3 cl_RX12_68 rfl ?_
  obtain ⟨r1, s2, h3, h⟩ := h.bd
  refine k_X12_in ml_RX12_70 (Nat.le_of_ble_eq_true rfl) ⟨Nat.le_of_ble_eq_true rfl, Nat.le_of_ble_eq_true rfl⟩ dX12_back_6 rfl h3 ?_
  refine w_if_ne (tgt := 15) dX12_back_9 (by decide) rfl (fun q => ?_) (fun q => ?_)
  · have h := h.ff q
    refine w_aload_n 0 dX12_back_15 rfl rfl rfl ?_
    refine gf_RX12_16 dX12_back_16 rfl ?_
    refine w_iload_n 1 dX12_back_19 rfl rfl rfl ?_
    obtain ⟨hi4, h⟩ := h.gd
    refine w_zald (i := 61) (lt_lit (by decide)) rfl hi4 dX12_back_20 rfl ?_
    refine w_if_ne (tgt := 27) dX12_back_21 (by decide) rfl (fun q => ?_) (fun q => ?_)
    · have h := h.ff q
      refine w_iconst (0 : Int32) dX12_back_27 ic_iconst_0 rfl ?_
      refine w_istore_n [(2, .int (0 : Int32)), (0, .ref (xd Γ 58)), (1, .int p0)] dX12_back_28 rfl (by decide) rfl rfl ?_
      exact w_sub [1, 2, 0] rfl (l_X12_back_29 FU p0 (0 : Int32) s2 h)
    · have h := h.tt q
      refine w_bipush (-6 : Int32) dX12_back_24 ic_bipush_m6 rfl ?_
      exact w_ireturn dX12_back_26 h
  · have h := h.tt q
    refine w_bipush (-2 : Int32) dX12_back_12 ic_bipush_m2 rfl ?_
    exact w_ireturn dX12_back_14 h
theorem c_X12_back {l : Launch} {D : va_G} {cy : Nat → ClassId} {ad : Nat → Nat} {p0 : Int32} {σ σ' : St} {r : Int32} (hf : f_X12_back p0 σ = some (r, σ')) : CT l D cy ad yX12_back cX12_back 3 (some .int) rX12_back [.ref (ad 58), .int p0] σ (some (.int r)) σ' :=
  ct_of (by decide) (Nat.le_of_ble_eq_true rfl) (fun p e s m args below meth c A => e_X12_back (Γ := (p, l, e, rX12_back, s, m, args, below, meth, c, D, cy, ad, A, 0, 0, MQ below (QC D cy ad (some (.int r)) σ' A) args s 0 0 A)) p0 σ ⟨_, hf, rfl⟩)
theorem k_X12_back {Γ : CX} {cc : ByteArray} {nL : Nat} {own : String} {ret : Option FieldType} {rm : Room} {σ σ' : St} {pc pc' idx : Nat} {lv : List (Nat × Value)} {rest : List Value} {p0 : Int32} {r : Int32} (hl : Cond.methodLink own idx yX12_back ∈ TB) (hw : (rest.map fun v => v.category).sum ≤ 8) (hR : rX12_back.frames + 1 ≤ rm.frames ∧ 8 + (3 + 11) + rX12_back.locals ≤ rm.locals) (hd : decode cc pc = .ok (.invokevirtual idx, 3)) (hp : pc + 3 = pc') (hf : f_X12_back p0 σ = some (r, σ')) (h : WW Γ cc nL own ret rm σ' pc' lv (.int r :: rest)) : WW Γ cc nL own ret rm σ pc lv (.int p0 :: .ref (xd Γ 58) :: rest) :=
  w_callV (nn := 1) (i := 58) (As := [.int p0]) (v := (some (.int r))) (T := TX12) (N := 32) (c_X12_back hf) hl mw_X12_back (by decide +kernel) ⟨rfl, rfl⟩ hR (lt_lit (by decide)) cel_58 rfl rfl hw hd rfl hp h
/-! WarByHoursModel.isWar ()Z -/
def rX12_isWar : Room := { frames := 0, cells := 0, slots := 0, locals := 0 }
def f_X12_isWar_15 (k0 : Int32) (σ : St) : Option (Int32 × St) :=
  gd (bz k0) <| some (k0, σ)
theorem b_X12_isWar_15 {Γ : CX} (k0 : Int32) (σ : St) (h : RR vI Γ (f_X12_isWar_15 k0 σ)) : WW Γ cX12_isWar 1 RX12 (some .boolean) rX12_isWar σ 15 [] [.int k0] := by
  unfold f_X12_isWar_15 at h
  obtain ⟨hb, h⟩ := h.gd
  exact w_zreturn dX12_isWar_15 hb h
def f_X12_isWar (σ : St) : Option (Int32 × St) :=
  gd (inb (9 : Int32) (ln 59)) <|
  if (gr σ 59 (9 : Int32).toNatClampNeg) ≤ 0 then
    f_X12_isWar_15 (0 : Int32) σ
  else
    f_X12_isWar_15 (1 : Int32) σ
theorem e_X12_isWar {Γ : CX} (σ : St) (h : RR vI Γ (f_X12_isWar σ)) : WW Γ cX12_isWar 1 RX12 (some .boolean) rX12_isWar σ 0 [(0, .ref (xd Γ 58))] [] := by
  unfold f_X12_isWar at h
  refine w_aload_n 0 dX12_isWar_0 rfl rfl rfl ?_
  refine gf_RX12_9 dX12_isWar_1 rfl ?_
  refine w_bipush (9 : Int32) dX12_isWar_4 ic_bipush_9 rfl ?_
  obtain ⟨hi1, h⟩ := h.gd
  refine w_iald (i := 59) (lt_lit (by decide)) rfl hi1 dX12_isWar_6 rfl ?_
  refine w_if_le (tgt := 14) dX12_isWar_7 (by decide) rfl (fun q => ?_) (fun q => ?_)
  · have h := h.tt q
    refine w_iconst (0 : Int32) dX12_isWar_14 ic_iconst_0 rfl ?_
    exact w_sub [] rfl (b_X12_isWar_15 (0 : Int32) σ h)
  · have h := h.ff q
    refine w_iconst (1 : Int32) dX12_isWar_10 ic_iconst_1 rfl ?_
    refine w_goto (tgt := 15) dX12_isWar_11 (by decide) ?_
    exact w_sub [] rfl (b_X12_isWar_15 (1 : Int32) σ h)
theorem c_X12_isWar {l : Launch} {D : va_G} {cy : Nat → ClassId} {ad : Nat → Nat}  {σ σ' : St} {r : Int32} (hf : f_X12_isWar σ = some (r, σ')) : CT l D cy ad yX12_isWar cX12_isWar 1 (some .boolean) rX12_isWar [.ref (ad 58)] σ (some (.int r)) σ' :=
  ct_of (by decide) (Nat.le_of_ble_eq_true rfl) (fun p e s m args below meth c A => e_X12_isWar (Γ := (p, l, e, rX12_isWar, s, m, args, below, meth, c, D, cy, ad, A, 0, 0, MQ below (QC D cy ad (some (.int r)) σ' A) args s 0 0 A)) σ ⟨_, hf, rfl⟩)
theorem k_X12_isWar {Γ : CX} {cc : ByteArray} {nL : Nat} {own : String} {ret : Option FieldType} {rm : Room} {σ σ' : St} {pc pc' idx : Nat} {lv : List (Nat × Value)} {rest : List Value}  {r : Int32} (hl : Cond.methodLink own idx yX12_isWar ∈ TB) (hw : (rest.map fun v => v.category).sum ≤ 8) (hR : rX12_isWar.frames + 1 ≤ rm.frames ∧ 8 + (1 + 11) + rX12_isWar.locals ≤ rm.locals) (hd : decode cc pc = .ok (.invokevirtual idx, 3)) (hp : pc + 3 = pc') (hf : f_X12_isWar σ = some (r, σ')) (h : WW Γ cc nL own ret rm σ' pc' lv (.int r :: rest)) : WW Γ cc nL own ret rm σ pc lv (.ref (xd Γ 58) :: rest) :=
  w_callV (nn := 0) (i := 58) (As := []) (v := (some (.int r))) (T := TX12) (N := 32) (c_X12_isWar hf) hl mw_X12_isWar (by decide +kernel) ⟨rfl, rfl⟩ hR (lt_lit (by decide)) cel_58 rfl rfl hw hd rfl hp h
/-! WarByHoursModel.isSide (I)Z -/
def rX12_isSide : Room := { frames := 1, cells := 0, slots := 0, locals := 25 }
def f_X12_isSide_22 (k0 : Int32) (σ : St) : Option (Int32 × St) :=
  gd (bz k0) <| some (k0, σ)
theorem b_X12_isSide_22 {Γ : CX} (k0 : Int32) (σ : St) (h : RR vI Γ (f_X12_isSide_22 k0 σ)) : WW Γ cX12_isSide 2 RX12 (some .boolean) rX12_isSide σ 22 [] [.int k0] := by
  unfold f_X12_isSide_22 at h
  obtain ⟨hb, h⟩ := h.gd
  exact w_zreturn dX12_isSide_22 hb h
def f_X12_isSide_21 (σ : St) : Option (Int32 × St) :=
  f_X12_isSide_22 (0 : Int32) σ
theorem b_X12_isSide_21 {Γ : CX} (σ : St) (h : RR vI Γ (f_X12_isSide_21 σ)) : WW Γ cX12_isSide 2 RX12 (some .boolean) rX12_isSide σ 21 [] [] := by
  unfold f_X12_isSide_21 at h
  refine w_iconst (0 : Int32) dX12_isSide_21 ic_iconst_0 rfl ?_
  exact w_sub [] rfl (b_X12_isSide_22 (0 : Int32) σ h)
def f_X12_isSide (p0 : Int32) (σ : St) : Option (Int32 × St) :=
  bd (f_X12_isWar σ) fun r1 s2 =>
  if r1 = 0 then
    f_X12_isSide_21 s2
  else
    bd (f_X12_in p0.toInt64 (0 : Int64) (1 : Int64) s2) fun r4 s5 =>
    if r4 = 0 then
      f_X12_isSide_21 s5
    else
      f_X12_isSide_22 (1 : Int32) s5
theorem e_X12_isSide {Γ : CX} (p0 : Int32) (σ : St) (h : RR vI Γ (f_X12_isSide p0 σ)) : WW Γ cX12_isSide 2 RX12 (some .boolean) rX12_isSide σ 0 [(0, .ref (xd Γ 58)), (1, .int p0)] [] := by
  unfold f_X12_isSide at h
  refine w_aload_n 0 dX12_isSide_0 rfl rfl rfl ?_
  obtain ⟨r1, s2, h3, h⟩ := h.bd
  refine k_X12_isWar ml_RX12_74 (Nat.le_of_ble_eq_true rfl) ⟨Nat.le_of_ble_eq_true rfl, Nat.le_of_ble_eq_true rfl⟩ dX12_isSide_1 rfl h3 ?_
  refine w_if_eq (tgt := 21) dX12_isSide_4 (by decide) rfl (fun q => ?_) (fun q => ?_)
  · have h := h.tt q
    exact w_sub [] rfl (b_X12_isSide_21 s2 h)
  · have h := h.ff q
    refine w_iload_n 1 dX12_isSide_7 rfl rfl rfl ?_
    refine w_i2l dX12_isSide_8 rfl ?_
    refine w_lconst (0 : Int64) dX12_isSide_9 rfl rfl ?_
    refine w_lconst (1 : Int64) dX12_isSide_10 rfl rfl ?_
    obtain ⟨r4, s5, h6, h⟩ := h.bd
    refine k_X12_in ml_RX12_70 (Nat.le_of_ble_eq_true rfl) ⟨Nat.le_of_ble_eq_true rfl, Nat.le_of_ble_eq_true rfl⟩ dX12_isSide_11 rfl h6 ?_
    refine w_if_eq (tgt := 21) dX12_isSide_14 (by decide) rfl (fun q => ?_) (fun q => ?_)
    · have h := h.tt q
      exact w_sub [] rfl (b_X12_isSide_21 s5 h)
    · have h := h.ff q
      refine w_iconst (1 : Int32) dX12_isSide_17 ic_iconst_1 rfl ?_
      refine w_goto (tgt := 22) dX12_isSide_18 (by decide) ?_
      exact w_sub [] rfl (b_X12_isSide_22 (1 : Int32) s5 h)
theorem c_X12_isSide {l : Launch} {D : va_G} {cy : Nat → ClassId} {ad : Nat → Nat} {p0 : Int32} {σ σ' : St} {r : Int32} (hf : f_X12_isSide p0 σ = some (r, σ')) : CT l D cy ad yX12_isSide cX12_isSide 2 (some .boolean) rX12_isSide [.ref (ad 58), .int p0] σ (some (.int r)) σ' :=
  ct_of (by decide) (Nat.le_of_ble_eq_true rfl) (fun p e s m args below meth c A => e_X12_isSide (Γ := (p, l, e, rX12_isSide, s, m, args, below, meth, c, D, cy, ad, A, 0, 0, MQ below (QC D cy ad (some (.int r)) σ' A) args s 0 0 A)) p0 σ ⟨_, hf, rfl⟩)
theorem k_X12_isSide {Γ : CX} {cc : ByteArray} {nL : Nat} {own : String} {ret : Option FieldType} {rm : Room} {σ σ' : St} {pc pc' idx : Nat} {lv : List (Nat × Value)} {rest : List Value} {p0 : Int32} {r : Int32} (hl : Cond.methodLink own idx yX12_isSide ∈ TB) (hw : (rest.map fun v => v.category).sum ≤ 8) (hR : rX12_isSide.frames + 1 ≤ rm.frames ∧ 8 + (2 + 11) + rX12_isSide.locals ≤ rm.locals) (hd : decode cc pc = .ok (.invokevirtual idx, 3)) (hp : pc + 3 = pc') (hf : f_X12_isSide p0 σ = some (r, σ')) (h : WW Γ cc nL own ret rm σ' pc' lv (.int r :: rest)) : WW Γ cc nL own ret rm σ pc lv (.int p0 :: .ref (xd Γ 58) :: rest) :=
  w_callV (nn := 1) (i := 58) (As := [.int p0]) (v := (some (.int r))) (T := TX12) (N := 32) (c_X12_isSide hf) hl mw_X12_isSide (by decide +kernel) ⟨rfl, rfl⟩ hR (lt_lit (by decide)) cel_58 rfl rfl hw hd rfl hp h
/-! WarByHoursModel.isTrain (I)Z -/
def rX12_isTrain : Room := { frames := 1, cells := 0, slots := 0, locals := 25 }
def f_X12_isTrain (p0 : Int32) (σ : St) : Option (Int32 × St) :=
  gd (inb (4 : Int32) (ln 59)) <|
  bd (f_X12_in p0.toInt64 (0 : Int64) ((gr σ 59 (4 : Int32).toNatClampNeg) - (1 : Int32)).toInt64 σ) fun r2 s3 =>
  gd (bz r2) <| some (r2, s3)
theorem e_X12_isTrain {Γ : CX} (p0 : Int32) (σ : St) (h : RR vI Γ (f_X12_isTrain p0 σ)) : WW Γ cX12_isTrain 2 RX12 (some .boolean) rX12_isTrain σ 0 [(0, .ref (xd Γ 58)), (1, .int p0)] [] := by
  unfold f_X12_isTrain at h
  refine w_iload_n 1 dX12_isTrain_0 rfl rfl rfl ?_
  refine w_i2l dX12_isTrain_1 rfl ?_
  refine w_lconst (0 : Int64) dX12_isTrain_2 rfl rfl ?_
  refine w_aload_n 0 dX12_isTrain_3 rfl rfl rfl ?_
  refine gf_RX12_9 dX12_isTrain_4 rfl ?_
  refine w_iconst (4 : Int32) dX12_isTrain_7 ic_iconst_4 rfl ?_
  obtain ⟨hi1, h⟩ := h.gd
  refine w_iald (i := 59) (lt_lit (by decide)) rfl hi1 dX12_isTrain_8 rfl ?_
  refine w_iconst (1 : Int32) dX12_isTrain_9 ic_iconst_1 rfl ?_
  refine w_isub dX12_isTrain_10 rfl ?_
  refine w_i2l dX12_isTrain_11 rfl ?_
  obtain ⟨r2, s3, h4, h⟩ := h.bd
  refine k_X12_in ml_RX12_70 (Nat.le_of_ble_eq_true rfl) ⟨Nat.le_of_ble_eq_true rfl, Nat.le_of_ble_eq_true rfl⟩ dX12_isTrain_12 rfl h4 ?_
  obtain ⟨hb, h⟩ := h.gd
  exact w_zreturn dX12_isTrain_15 hb h
theorem c_X12_isTrain {l : Launch} {D : va_G} {cy : Nat → ClassId} {ad : Nat → Nat} {p0 : Int32} {σ σ' : St} {r : Int32} (hf : f_X12_isTrain p0 σ = some (r, σ')) : CT l D cy ad yX12_isTrain cX12_isTrain 2 (some .boolean) rX12_isTrain [.ref (ad 58), .int p0] σ (some (.int r)) σ' :=
  ct_of (by decide) (Nat.le_of_ble_eq_true rfl) (fun p e s m args below meth c A => e_X12_isTrain (Γ := (p, l, e, rX12_isTrain, s, m, args, below, meth, c, D, cy, ad, A, 0, 0, MQ below (QC D cy ad (some (.int r)) σ' A) args s 0 0 A)) p0 σ ⟨_, hf, rfl⟩)
theorem k_X12_isTrain {Γ : CX} {cc : ByteArray} {nL : Nat} {own : String} {ret : Option FieldType} {rm : Room} {σ σ' : St} {pc pc' idx : Nat} {lv : List (Nat × Value)} {rest : List Value} {p0 : Int32} {r : Int32} (hl : Cond.methodLink own idx yX12_isTrain ∈ TB) (hw : (rest.map fun v => v.category).sum ≤ 8) (hR : rX12_isTrain.frames + 1 ≤ rm.frames ∧ 8 + (2 + 11) + rX12_isTrain.locals ≤ rm.locals) (hd : decode cc pc = .ok (.invokevirtual idx, 3)) (hp : pc + 3 = pc') (hf : f_X12_isTrain p0 σ = some (r, σ')) (h : WW Γ cc nL own ret rm σ' pc' lv (.int r :: rest)) : WW Γ cc nL own ret rm σ pc lv (.int p0 :: .ref (xd Γ 58) :: rest) :=
  w_callV (nn := 1) (i := 58) (As := [.int p0]) (v := (some (.int r))) (T := TX12) (N := 32) (c_X12_isTrain hf) hl mw_X12_isTrain (by decide +kernel) ⟨rfl, rfl⟩ hR (lt_lit (by decide)) cel_58 rfl rfl hw hd rfl hp h
/-! WarByHoursModel.allTrains ()I -/
def rX12_allTrains : Room := { frames := 0, cells := 0, slots := 0, locals := 0 }
def f_X12_allTrains (σ : St) : Option (Int32 × St) :=
  gd (inb (4 : Int32) (ln 59)) <|
  some ((((1 : Int32) <<< ((gr σ 59 (4 : Int32).toNatClampNeg) &&& 31)) - (1 : Int32)), σ)
theorem e_X12_allTrains {Γ : CX} (σ : St) (h : RR vI Γ (f_X12_allTrains σ)) : WW Γ cX12_allTrains 1 RX12 (some .int) rX12_allTrains σ 0 [(0, .ref (xd Γ 58))] [] := by
  unfold f_X12_allTrains at h
  refine w_iconst (1 : Int32) dX12_allTrains_0 ic_iconst_1 rfl ?_
  refine w_aload_n 0 dX12_allTrains_1 rfl rfl rfl ?_
  refine gf_RX12_9 dX12_allTrains_2 rfl ?_
  refine w_iconst (4 : Int32) dX12_allTrains_5 ic_iconst_4 rfl ?_
  obtain ⟨hi1, h⟩ := h.gd
  refine w_iald (i := 59) (lt_lit (by decide)) rfl hi1 dX12_allTrains_6 rfl ?_
  refine w_ishl dX12_allTrains_7 rfl ?_
  refine w_iconst (1 : Int32) dX12_allTrains_8 ic_iconst_1 rfl ?_
  refine w_isub dX12_allTrains_9 rfl ?_
  exact w_ireturn dX12_allTrains_10 h
theorem c_X12_allTrains {l : Launch} {D : va_G} {cy : Nat → ClassId} {ad : Nat → Nat}  {σ σ' : St} {r : Int32} (hf : f_X12_allTrains σ = some (r, σ')) : CT l D cy ad yX12_allTrains cX12_allTrains 1 (some .int) rX12_allTrains [.ref (ad 58)] σ (some (.int r)) σ' :=
  ct_of (by decide) (Nat.le_of_ble_eq_true rfl) (fun p e s m args below meth c A => e_X12_allTrains (Γ := (p, l, e, rX12_allTrains, s, m, args, below, meth, c, D, cy, ad, A, 0, 0, MQ below (QC D cy ad (some (.int r)) σ' A) args s 0 0 A)) σ ⟨_, hf, rfl⟩)
theorem k_X12_allTrains {Γ : CX} {cc : ByteArray} {nL : Nat} {own : String} {ret : Option FieldType} {rm : Room} {σ σ' : St} {pc pc' idx : Nat} {lv : List (Nat × Value)} {rest : List Value}  {r : Int32} (hl : Cond.methodLink own idx yX12_allTrains ∈ TB) (hw : (rest.map fun v => v.category).sum ≤ 8) (hR : rX12_allTrains.frames + 1 ≤ rm.frames ∧ 8 + (1 + 11) + rX12_allTrains.locals ≤ rm.locals) (hd : decode cc pc = .ok (.invokevirtual idx, 3)) (hp : pc + 3 = pc') (hf : f_X12_allTrains σ = some (r, σ')) (h : WW Γ cc nL own ret rm σ' pc' lv (.int r :: rest)) : WW Γ cc nL own ret rm σ pc lv (.ref (xd Γ 58) :: rest) :=
  w_callV (nn := 0) (i := 58) (As := []) (v := (some (.int r))) (T := TX12) (N := 32) (c_X12_allTrains hf) hl mw_X12_allTrains (by decide +kernel) ⟨rfl, rfl⟩ hR (lt_lit (by decide)) cel_58 rfl rfl hw hd rfl hp h
/-! WarByHoursModel.areTrains (I)Z -/
def rX12_areTrains : Room := { frames := 1, cells := 0, slots := 0, locals := 25 }
def f_X12_areTrains_26 (k0 : Int32) (σ : St) : Option (Int32 × St) :=
  gd (bz k0) <| some (k0, σ)
theorem b_X12_areTrains_26 {Γ : CX} (k0 : Int32) (σ : St) (h : RR vI Γ (f_X12_areTrains_26 k0 σ)) : WW Γ cX12_areTrains 2 RX12 (some .boolean) rX12_areTrains σ 26 [] [.int k0] := by
  unfold f_X12_areTrains_26 at h
  obtain ⟨hb, h⟩ := h.gd
  exact w_zreturn dX12_areTrains_26 hb h
def f_X12_areTrains_25 (σ : St) : Option (Int32 × St) :=
  f_X12_areTrains_26 (0 : Int32) σ
theorem b_X12_areTrains_25 {Γ : CX} (σ : St) (h : RR vI Γ (f_X12_areTrains_25 σ)) : WW Γ cX12_areTrains 2 RX12 (some .boolean) rX12_areTrains σ 25 [] [] := by
  unfold f_X12_areTrains_25 at h
  refine w_iconst (0 : Int32) dX12_areTrains_25 ic_iconst_0 rfl ?_
  exact w_sub [] rfl (b_X12_areTrains_26 (0 : Int32) σ h)
def f_X12_areTrains (p0 : Int32) (σ : St) : Option (Int32 × St) :=
  bd (f_X12_isWar σ) fun r1 s2 =>
  if r1 = 0 then
    f_X12_areTrains_25 s2
  else
    bd (f_X12_allTrains s2) fun r4 s5 =>
    bd (f_X12_in p0.toInt64 (0 : Int64) r4.toInt64 s5) fun r7 s8 =>
    if r7 = 0 then
      f_X12_areTrains_25 s8
    else
      f_X12_areTrains_26 (1 : Int32) s8
theorem e_X12_areTrains {Γ : CX} (p0 : Int32) (σ : St) (h : RR vI Γ (f_X12_areTrains p0 σ)) : WW Γ cX12_areTrains 2 RX12 (some .boolean) rX12_areTrains σ 0 [(0, .ref (xd Γ 58)), (1, .int p0)] [] := by
  unfold f_X12_areTrains at h
  refine w_aload_n 0 dX12_areTrains_0 rfl rfl rfl ?_
  obtain ⟨r1, s2, h3, h⟩ := h.bd
  refine k_X12_isWar ml_RX12_74 (Nat.le_of_ble_eq_true rfl) ⟨Nat.le_of_ble_eq_true rfl, Nat.le_of_ble_eq_true rfl⟩ dX12_areTrains_1 rfl h3 ?_
  refine w_if_eq (tgt := 25) dX12_areTrains_4 (by decide) rfl (fun q => ?_) (fun q => ?_)
  · have h := h.tt q
    exact w_sub [] rfl (b_X12_areTrains_25 s2 h)
  · have h := h.ff q
    refine w_iload_n 1 dX12_areTrains_7 rfl rfl rfl ?_
    refine w_i2l dX12_areTrains_8 rfl ?_
    refine w_lconst (0 : Int64) dX12_areTrains_9 rfl rfl ?_
    refine w_aload_n 0 dX12_areTrains_10 rfl rfl rfl ?_
    obtain ⟨r4, s5, h6, h⟩ := h.bd
    refine k_X12_allTrains ml_RX12_78 (Nat.le_of_ble_eq_true rfl) ⟨Nat.le_of_ble_eq_true rfl, Nat.le_of_ble_eq_true rfl⟩ dX12_areTrains_11 rfl h6 ?_
    refine w_i2l dX12_areTrains_14 rfl ?_
    obtain ⟨r7, s8, h9, h⟩ := h.bd
    refine k_X12_in ml_RX12_70 (Nat.le_of_ble_eq_true rfl) ⟨Nat.le_of_ble_eq_true rfl, Nat.le_of_ble_eq_true rfl⟩ dX12_areTrains_15 rfl h9 ?_
    refine w_if_eq (tgt := 25) dX12_areTrains_18 (by decide) rfl (fun q => ?_) (fun q => ?_)
    · have h := h.tt q
      exact w_sub [] rfl (b_X12_areTrains_25 s8 h)
    · have h := h.ff q
      refine w_iconst (1 : Int32) dX12_areTrains_21 ic_iconst_1 rfl ?_
      refine w_goto (tgt := 26) dX12_areTrains_22 (by decide) ?_
      exact w_sub [] rfl (b_X12_areTrains_26 (1 : Int32) s8 h)
theorem c_X12_areTrains {l : Launch} {D : va_G} {cy : Nat → ClassId} {ad : Nat → Nat} {p0 : Int32} {σ σ' : St} {r : Int32} (hf : f_X12_areTrains p0 σ = some (r, σ')) : CT l D cy ad yX12_areTrains cX12_areTrains 2 (some .boolean) rX12_areTrains [.ref (ad 58), .int p0] σ (some (.int r)) σ' :=
  ct_of (by decide) (Nat.le_of_ble_eq_true rfl) (fun p e s m args below meth c A => e_X12_areTrains (Γ := (p, l, e, rX12_areTrains, s, m, args, below, meth, c, D, cy, ad, A, 0, 0, MQ below (QC D cy ad (some (.int r)) σ' A) args s 0 0 A)) p0 σ ⟨_, hf, rfl⟩)
theorem k_X12_areTrains {Γ : CX} {cc : ByteArray} {nL : Nat} {own : String} {ret : Option FieldType} {rm : Room} {σ σ' : St} {pc pc' idx : Nat} {lv : List (Nat × Value)} {rest : List Value} {p0 : Int32} {r : Int32} (hl : Cond.methodLink own idx yX12_areTrains ∈ TB) (hw : (rest.map fun v => v.category).sum ≤ 8) (hR : rX12_areTrains.frames + 1 ≤ rm.frames ∧ 8 + (2 + 11) + rX12_areTrains.locals ≤ rm.locals) (hd : decode cc pc = .ok (.invokevirtual idx, 3)) (hp : pc + 3 = pc') (hf : f_X12_areTrains p0 σ = some (r, σ')) (h : WW Γ cc nL own ret rm σ' pc' lv (.int r :: rest)) : WW Γ cc nL own ret rm σ pc lv (.int p0 :: .ref (xd Γ 58) :: rest) :=
  w_callV (nn := 1) (i := 58) (As := [.int p0]) (v := (some (.int r))) (T := TX12) (N := 32) (c_X12_areTrains hf) hl mw_X12_areTrains (by decide +kernel) ⟨rfl, rfl⟩ hR (lt_lit (by decide)) cel_58 rfl rfl hw hd rfl hp h
/-! WarByHoursModel.of (II)I -/
def rX12_of : Room := { frames := 0, cells := 0, slots := 0, locals := 0 }
def f_X12_of (p0 : Int32) (p1 : Int32) (σ : St) : Option (Int32 × St) :=
  gd (inb (((13 : Int32) + ((6 : Int32) * p0)) + p1) (ln 59)) <|
  some ((gr σ 59 (((13 : Int32) + ((6 : Int32) * p0)) + p1).toNatClampNeg), σ)
theorem e_X12_of {Γ : CX} (p0 : Int32) (p1 : Int32) (σ : St) (h : RR vI Γ (f_X12_of p0 p1 σ)) : WW Γ cX12_of 3 RX12 (some .int) rX12_of σ 0 [(0, .ref (xd Γ 58)), (1, .int p0), (2, .int p1)] [] := by
  unfold f_X12_of at h
  refine w_aload_n 0 dX12_of_0 rfl rfl rfl ?_
  refine gf_RX12_9 dX12_of_1 rfl ?_
  refine w_bipush (13 : Int32) dX12_of_4 ic_bipush_13 rfl ?_
  refine w_bipush (6 : Int32) dX12_of_6 ic_bipush_6 rfl ?_
  refine w_iload_n 1 dX12_of_8 rfl rfl rfl ?_
  refine w_imul dX12_of_9 rfl ?_
  refine w_iadd dX12_of_10 rfl ?_
  refine w_iload_n 2 dX12_of_11 rfl rfl rfl ?_
  refine w_iadd dX12_of_12 rfl ?_
  obtain ⟨hi1, h⟩ := h.gd
  refine w_iald (i := 59) (lt_lit (by decide)) rfl hi1 dX12_of_13 rfl ?_
  exact w_ireturn dX12_of_14 h
theorem c_X12_of {l : Launch} {D : va_G} {cy : Nat → ClassId} {ad : Nat → Nat} {p0 : Int32} {p1 : Int32} {σ σ' : St} {r : Int32} (hf : f_X12_of p0 p1 σ = some (r, σ')) : CT l D cy ad yX12_of cX12_of 3 (some .int) rX12_of [.ref (ad 58), .int p0, .int p1] σ (some (.int r)) σ' :=
  ct_of (by decide) (Nat.le_of_ble_eq_true rfl) (fun p e s m args below meth c A => e_X12_of (Γ := (p, l, e, rX12_of, s, m, args, below, meth, c, D, cy, ad, A, 0, 0, MQ below (QC D cy ad (some (.int r)) σ' A) args s 0 0 A)) p0 p1 σ ⟨_, hf, rfl⟩)
theorem k_X12_of {Γ : CX} {cc : ByteArray} {nL : Nat} {own : String} {ret : Option FieldType} {rm : Room} {σ σ' : St} {pc pc' idx : Nat} {lv : List (Nat × Value)} {rest : List Value} {p0 : Int32} {p1 : Int32} {r : Int32} (hl : Cond.methodLink own idx yX12_of ∈ TB) (hw : (rest.map fun v => v.category).sum ≤ 8) (hR : rX12_of.frames + 1 ≤ rm.frames ∧ 8 + (3 + 11) + rX12_of.locals ≤ rm.locals) (hd : decode cc pc = .ok (.invokevirtual idx, 3)) (hp : pc + 3 = pc') (hf : f_X12_of p0 p1 σ = some (r, σ')) (h : WW Γ cc nL own ret rm σ' pc' lv (.int r :: rest)) : WW Γ cc nL own ret rm σ pc lv (.int p1 :: .int p0 :: .ref (xd Γ 58) :: rest) :=
  w_callV (nn := 2) (i := 58) (As := [.int p0, .int p1]) (v := (some (.int r))) (T := TX12) (N := 32) (c_X12_of hf) hl mw_X12_of (by decide +kernel) ⟨rfl, rfl⟩ hR (lt_lit (by decide)) cel_58 rfl rfl hw hd rfl hp h
/-! WarByHoursModel.trainsOf (I)I -/
def rX12_trainsOf : Room := { frames := 1, cells := 0, slots := 0, locals := 22 }
def f_X12_trainsOf_32 (K4 : Int32 × Int32 × Int32 × St → Option (Int32 × St)) (v1 : Int32) (v3 : Int32) (k0 : Int32) (k1 : Int32) (σ : St) : Option (Int32 × St) :=
  bnd ((k1 ||| k0)) fun x1 =>
  bnd (v3 + (1 : Int32)) fun x2 =>
  K4 (v1, x1, x2, σ)
theorem b_X12_trainsOf_32 {Γ : CX} (K4 : Int32 × Int32 × Int32 × St → Option (Int32 × St)) (hK4 : ∀ (v1 : Int32) (v2 : Int32) (v3 : Int32) (σ : St), RR vI Γ (K4 (v1, v2, v3, σ)) → WW Γ cX12_trainsOf 4 RX12 (some .int) rX12_trainsOf σ 4 [(0, .ref (xd Γ 58)), (1, .int v1), (2, .int v2), (3, .int v3)] []) (v1 : Int32) (v3 : Int32) (k0 : Int32) (k1 : Int32) (σ : St) (h : RR vI Γ (f_X12_trainsOf_32 K4 v1 v3 k0 k1 σ)) : WW Γ cX12_trainsOf 4 RX12 (some .int) rX12_trainsOf σ 32 [(0, .ref (xd Γ 58)), (1, .int v1), (3, .int v3)] [.int k0, .int k1] := by
  unfold f_X12_trainsOf_32 at h
  refine w_ior dX12_trainsOf_32 rfl ?_
  refine w_nmI (fun x1 ex1 => ?_)
  replace h := h.bnd ex1
  clear ex1
  refine w_istore_n [(2, .int x1), (0, .ref (xd Γ 58)), (1, .int v1), (3, .int v3)] dX12_trainsOf_33 rfl (by decide) rfl rfl ?_
  obtain ⟨x2, ex2⟩ : ∃ y : Int32, y = (v3 + (1 : Int32)) := ⟨_, rfl⟩
  replace h := h.bnd ex2
  refine w_iinc 3 x2 [(3, .int x2), (2, .int x1), (0, .ref (xd Γ 58)), (1, .int v1)] dX12_trainsOf_34 rfl (by rw [ex2, ic_iconst_1]) (by decide) rfl rfl ?_
  clear ex2
  refine w_goto (tgt := 4) dX12_trainsOf_37 (by decide) ?_
  exact w_sub [2, 3, 1, 0] rfl (hK4 v1 x1 x2 σ h)
def g_X12_trainsOf_4 (K4 : Int32 × Int32 × Int32 × St → Option (Int32 × St)) (x : Int32 × Int32 × Int32 × St) : Option (Int32 × St) := match x with
  | (v1, v2, v3, σ) =>
  gd (inb (4 : Int32) (ln 59)) <|
  if (gr σ 59 (4 : Int32).toNatClampNeg) ≤ v3 then
    some (v2, σ)
  else
    bd (f_X12_of v3 (0 : Int32) σ) fun r2 s3 =>
    if r2 = v1 then
      f_X12_trainsOf_32 K4 v1 v3 ((1 : Int32) <<< (v3 &&& 31)) v2 s3
    else
      f_X12_trainsOf_32 K4 v1 v3 (0 : Int32) v2 s3
theorem l_X12_trainsOf_4 {Γ : CX} : ∀ (n : Nat) (v1 : Int32) (v2 : Int32) (v3 : Int32) (σ : St), RR vI Γ (itr (g_X12_trainsOf_4) n (v1, v2, v3, σ)) → WW Γ cX12_trainsOf 4 RX12 (some .int) rX12_trainsOf σ 4 [(0, .ref (xd Γ 58)), (1, .int v1), (2, .int v2), (3, .int v3)] [] := by
  intro n
  induction n with
  | zero => intro v1 v2 v3 σ h; exact RR.no h
  | succ n hK4 =>
  intro v1 v2 v3 σ h
  have h : RR vI Γ (g_X12_trainsOf_4 (itr (g_X12_trainsOf_4) n) (v1, v2, v3, σ)) := h
  generalize itr (g_X12_trainsOf_4) n = K4 at h hK4
  unfold g_X12_trainsOf_4 at h
  dsimp only at h
  refine w_iload_n 3 dX12_trainsOf_4 rfl rfl rfl ?_
  refine w_aload_n 0 dX12_trainsOf_5 rfl rfl rfl ?_
  refine gf_RX12_9 dX12_trainsOf_6 rfl ?_
  refine w_iconst (4 : Int32) dX12_trainsOf_9 ic_iconst_4 rfl ?_
  obtain ⟨hi1, h⟩ := h.gd
  refine w_iald (i := 59) (lt_lit (by decide)) rfl hi1 dX12_trainsOf_10 rfl ?_
  refine w_icmp_ge (tgt := 40) dX12_trainsOf_11 (by decide) rfl (fun q => ?_) (fun q => ?_)
  · have h := h.tt q
    refine w_iload_n 2 dX12_trainsOf_40 rfl rfl rfl ?_
    exact w_ireturn dX12_trainsOf_41 h
  · have h := h.ff q
    refine w_iload_n 2 dX12_trainsOf_14 rfl rfl rfl ?_
    refine w_aload_n 0 dX12_trainsOf_15 rfl rfl rfl ?_
    refine w_iload_n 3 dX12_trainsOf_16 rfl rfl rfl ?_
    refine w_iconst (0 : Int32) dX12_trainsOf_17 ic_iconst_0 rfl ?_
    obtain ⟨r2, s3, h4, h⟩ := h.bd
    refine k_X12_of ml_RX12_82 (Nat.le_of_ble_eq_true rfl) ⟨Nat.le_of_ble_eq_true rfl, Nat.le_of_ble_eq_true rfl⟩ dX12_trainsOf_18 rfl h4 ?_
    refine w_iload_n 1 dX12_trainsOf_21 rfl rfl rfl ?_
    refine w_icmp_ne (tgt := 31) dX12_trainsOf_22 (by decide) rfl (fun q => ?_) (fun q => ?_)
    · have h := h.ff q
      refine w_iconst (0 : Int32) dX12_trainsOf_31 ic_iconst_0 rfl ?_
      exact w_sub [0, 1, 3] rfl (b_X12_trainsOf_32 K4 hK4 v1 v3 (0 : Int32) v2 s3 h)
    · have h := h.tt q
      refine w_iconst (1 : Int32) dX12_trainsOf_25 ic_iconst_1 rfl ?_
      refine w_iload_n 3 dX12_trainsOf_26 rfl rfl rfl ?_
      refine w_ishl dX12_trainsOf_27 rfl ?_
      refine w_goto (tgt := 32) dX12_trainsOf_28 (by decide) ?_
      exact w_sub [0, 1, 3] rfl (b_X12_trainsOf_32 K4 hK4 v1 v3 ((1 : Int32) <<< (v3 &&& 31)) v2 s3 h)
def f_X12_trainsOf (p0 : Int32) (σ : St) : Option (Int32 × St) :=
  itr (g_X12_trainsOf_4) FU (p0, (0 : Int32), (0 : Int32), σ)
theorem e_X12_trainsOf {Γ : CX} (p0 : Int32) (σ : St) (h : RR vI Γ (f_X12_trainsOf p0 σ)) : WW Γ cX12_trainsOf 4 RX12 (some .int) rX12_trainsOf σ 0 [(0, .ref (xd Γ 58)), (1, .int p0)] [] := by
  unfold f_X12_trainsOf at h
  refine w_iconst (0 : Int32) dX12_trainsOf_0 ic_iconst_0 rfl ?_
  refine w_istore_n [(2, .int (0 : Int32)), (0, .ref (xd Γ 58)), (1, .int p0)] dX12_trainsOf_1 rfl (by decide) rfl rfl ?_
  refine w_iconst (0 : Int32) dX12_trainsOf_2 ic_iconst_0 rfl ?_
  refine w_istore_n [(3, .int (0 : Int32)), (2, .int (0 : Int32)), (0, .ref (xd Γ 58)), (1, .int p0)] dX12_trainsOf_3 rfl (by decide) rfl rfl ?_
  exact w_sub [2, 3, 1, 0] rfl (l_X12_trainsOf_4 FU p0 (0 : Int32) (0 : Int32) σ h)
theorem c_X12_trainsOf {l : Launch} {D : va_G} {cy : Nat → ClassId} {ad : Nat → Nat} {p0 : Int32} {σ σ' : St} {r : Int32} (hf : f_X12_trainsOf p0 σ = some (r, σ')) : CT l D cy ad yX12_trainsOf cX12_trainsOf 4 (some .int) rX12_trainsOf [.ref (ad 58), .int p0] σ (some (.int r)) σ' :=
  ct_of (by decide) (Nat.le_of_ble_eq_true rfl) (fun p e s m args below meth c A => e_X12_trainsOf (Γ := (p, l, e, rX12_trainsOf, s, m, args, below, meth, c, D, cy, ad, A, 0, 0, MQ below (QC D cy ad (some (.int r)) σ' A) args s 0 0 A)) p0 σ ⟨_, hf, rfl⟩)
theorem k_X12_trainsOf {Γ : CX} {cc : ByteArray} {nL : Nat} {own : String} {ret : Option FieldType} {rm : Room} {σ σ' : St} {pc pc' idx : Nat} {lv : List (Nat × Value)} {rest : List Value} {p0 : Int32} {r : Int32} (hl : Cond.methodLink own idx yX12_trainsOf ∈ TB) (hw : (rest.map fun v => v.category).sum ≤ 8) (hR : rX12_trainsOf.frames + 1 ≤ rm.frames ∧ 8 + (4 + 11) + rX12_trainsOf.locals ≤ rm.locals) (hd : decode cc pc = .ok (.invokevirtual idx, 3)) (hp : pc + 3 = pc') (hf : f_X12_trainsOf p0 σ = some (r, σ')) (h : WW Γ cc nL own ret rm σ' pc' lv (.int r :: rest)) : WW Γ cc nL own ret rm σ pc lv (.int p0 :: .ref (xd Γ 58) :: rest) :=
  w_callV (nn := 1) (i := 58) (As := [.int p0]) (v := (some (.int r))) (T := TX12) (N := 32) (c_X12_trainsOf hf) hl mw_X12_trainsOf (by decide +kernel) ⟨rfl, rfl⟩ hR (lt_lit (by decide)) cel_58 rfl rfl hw hd rfl hp h
/-! WarByHoursModel.priceOf (I)I -/
def rX12_priceOf : Room := { frames := 1, cells := 0, slots := 0, locals := 22 }
def g_X12_priceOf_4 (K4 : Int32 × Int32 × Int32 × St → Option (Int32 × St)) (x : Int32 × Int32 × Int32 × St) : Option (Int32 × St) := match x with
  | (v1, v2, v3, σ) =>
  gd (inb (4 : Int32) (ln 59)) <|
  if (gr σ 59 (4 : Int32).toNatClampNeg) ≤ v3 then
    some (v2, σ)
  else
    bd (f_X12_bit v1 v3 σ) fun r2 s3 =>
    bd (f_X12_of v3 (5 : Int32) s3) fun r5 s6 =>
    bnd ((v2 + (r2 * r5))) fun x8 =>
    bnd (v3 + (1 : Int32)) fun x9 =>
    K4 (v1, x8, x9, s6)
theorem l_X12_priceOf_4 {Γ : CX} : ∀ (n : Nat) (v1 : Int32) (v2 : Int32) (v3 : Int32) (σ : St), RR vI Γ (itr (g_X12_priceOf_4) n (v1, v2, v3, σ)) → WW Γ cX12_priceOf 4 RX12 (some .int) rX12_priceOf σ 4 [(0, .ref (xd Γ 58)), (1, .int v1), (2, .int v2), (3, .int v3)] [] := by
  intro n
  induction n with
  | zero => intro v1 v2 v3 σ h; exact RR.no h
  | succ n hK4 =>
  intro v1 v2 v3 σ h
  have h : RR vI Γ (g_X12_priceOf_4 (itr (g_X12_priceOf_4) n) (v1, v2, v3, σ)) := h
  generalize itr (g_X12_priceOf_4) n = K4 at h hK4
  unfold g_X12_priceOf_4 at h
  dsimp only at h
  refine w_iload_n 3 dX12_priceOf_4 rfl rfl rfl ?_
  refine w_aload_n 0 dX12_priceOf_5 rfl rfl rfl ?_
  refine gf_RX12_9 dX12_priceOf_6 rfl ?_
  refine w_iconst (4 : Int32) dX12_priceOf_9 ic_iconst_4 rfl ?_
  obtain ⟨hi1, h⟩ := h.gd
  refine w_iald (i := 59) (lt_lit (by decide)) rfl hi1 dX12_priceOf_10 rfl ?_
  refine w_icmp_ge (tgt := 35) dX12_priceOf_11 (by decide) rfl (fun q => ?_) (fun q => ?_)
  · have h := h.tt q
    refine w_iload_n 2 dX12_priceOf_35 rfl rfl rfl ?_
    exact w_ireturn dX12_priceOf_36 h
  · have h := h.ff q
    refine w_iload_n 2 dX12_priceOf_14 rfl rfl rfl ?_
    refine w_iload_n 1 dX12_priceOf_15 rfl rfl rfl ?_
    refine w_iload_n 3 dX12_priceOf_16 rfl rfl rfl ?_
    obtain ⟨r2, s3, h4, h⟩ := h.bd
    refine k_X12_bit ml_RX12_86 (Nat.le_of_ble_eq_true rfl) ⟨Nat.le_of_ble_eq_true rfl, Nat.le_of_ble_eq_true rfl⟩ dX12_priceOf_17 rfl h4 ?_
    refine w_aload_n 0 dX12_priceOf_20 rfl rfl rfl ?_
    refine w_iload_n 3 dX12_priceOf_21 rfl rfl rfl ?_
    refine w_iconst (5 : Int32) dX12_priceOf_22 ic_iconst_5 rfl ?_
    obtain ⟨r5, s6, h7, h⟩ := h.bd
    refine k_X12_of ml_RX12_82 (Nat.le_of_ble_eq_true rfl) ⟨Nat.le_of_ble_eq_true rfl, Nat.le_of_ble_eq_true rfl⟩ dX12_priceOf_23 rfl h7 ?_
    refine w_imul dX12_priceOf_26 rfl ?_
    refine w_iadd dX12_priceOf_27 rfl ?_
    refine w_nmI (fun x8 ex8 => ?_)
    replace h := h.bnd ex8
    clear ex8
    refine w_istore_n [(2, .int x8), (0, .ref (xd Γ 58)), (1, .int v1), (3, .int v3)] dX12_priceOf_28 rfl (by decide) rfl rfl ?_
    obtain ⟨x9, ex9⟩ : ∃ y : Int32, y = (v3 + (1 : Int32)) := ⟨_, rfl⟩
    replace h := h.bnd ex9
    refine w_iinc 3 x9 [(3, .int x9), (2, .int x8), (0, .ref (xd Γ 58)), (1, .int v1)] dX12_priceOf_29 rfl (by rw [ex9, ic_iconst_1]) (by decide) rfl rfl ?_
    clear ex9
    refine w_goto (tgt := 4) dX12_priceOf_32 (by decide) ?_
    exact w_sub [2, 3, 1, 0] rfl (hK4 v1 x8 x9 s6 h)
def f_X12_priceOf (p0 : Int32) (σ : St) : Option (Int32 × St) :=
  itr (g_X12_priceOf_4) FU (p0, (0 : Int32), (0 : Int32), σ)
theorem e_X12_priceOf {Γ : CX} (p0 : Int32) (σ : St) (h : RR vI Γ (f_X12_priceOf p0 σ)) : WW Γ cX12_priceOf 4 RX12 (some .int) rX12_priceOf σ 0 [(0, .ref (xd Γ 58)), (1, .int p0)] [] := by
  unfold f_X12_priceOf at h
  refine w_iconst (0 : Int32) dX12_priceOf_0 ic_iconst_0 rfl ?_
  refine w_istore_n [(2, .int (0 : Int32)), (0, .ref (xd Γ 58)), (1, .int p0)] dX12_priceOf_1 rfl (by decide) rfl rfl ?_
  refine w_iconst (0 : Int32) dX12_priceOf_2 ic_iconst_0 rfl ?_
  refine w_istore_n [(3, .int (0 : Int32)), (2, .int (0 : Int32)), (0, .ref (xd Γ 58)), (1, .int p0)] dX12_priceOf_3 rfl (by decide) rfl rfl ?_
  exact w_sub [2, 3, 1, 0] rfl (l_X12_priceOf_4 FU p0 (0 : Int32) (0 : Int32) σ h)
theorem c_X12_priceOf {l : Launch} {D : va_G} {cy : Nat → ClassId} {ad : Nat → Nat} {p0 : Int32} {σ σ' : St} {r : Int32} (hf : f_X12_priceOf p0 σ = some (r, σ')) : CT l D cy ad yX12_priceOf cX12_priceOf 4 (some .int) rX12_priceOf [.ref (ad 58), .int p0] σ (some (.int r)) σ' :=
  ct_of (by decide) (Nat.le_of_ble_eq_true rfl) (fun p e s m args below meth c A => e_X12_priceOf (Γ := (p, l, e, rX12_priceOf, s, m, args, below, meth, c, D, cy, ad, A, 0, 0, MQ below (QC D cy ad (some (.int r)) σ' A) args s 0 0 A)) p0 σ ⟨_, hf, rfl⟩)
theorem k_X12_priceOf {Γ : CX} {cc : ByteArray} {nL : Nat} {own : String} {ret : Option FieldType} {rm : Room} {σ σ' : St} {pc pc' idx : Nat} {lv : List (Nat × Value)} {rest : List Value} {p0 : Int32} {r : Int32} (hl : Cond.methodLink own idx yX12_priceOf ∈ TB) (hw : (rest.map fun v => v.category).sum ≤ 8) (hR : rX12_priceOf.frames + 1 ≤ rm.frames ∧ 8 + (4 + 11) + rX12_priceOf.locals ≤ rm.locals) (hd : decode cc pc = .ok (.invokevirtual idx, 3)) (hp : pc + 3 = pc') (hf : f_X12_priceOf p0 σ = some (r, σ')) (h : WW Γ cc nL own ret rm σ' pc' lv (.int r :: rest)) : WW Γ cc nL own ret rm σ pc lv (.int p0 :: .ref (xd Γ 58) :: rest) :=
  w_callV (nn := 1) (i := 58) (As := [.int p0]) (v := (some (.int r))) (T := TX12) (N := 32) (c_X12_priceOf hf) hl mw_X12_priceOf (by decide +kernel) ⟨rfl, rfl⟩ hR (lt_lit (by decide)) cel_58 rfl rfl hw hd rfl hp h
/-! WarByHoursModel.feed (IIIII)I -/
def rX12_feed : Room := { frames := 0, cells := 0, slots := 0, locals := 0 }
def g_X12_feed_55 (K55 : Int32 × St → Option (Int32 × St)) (x : Int32 × St) : Option (Int32 × St) := match x with
  | (v6, σ) =>
  if (20 : Int32) ≤ v6 then
    bnd (sf σ 58 5 ((gf σ 58 5) + (20 : Int32))) fun s1 =>
    some ((gf s1 58 5), s1)
  else
    gd (inb (v6 / (4 : Int32)) (ln 63)) <|
    gd (inb ((gf σ 58 5) + v6) (ln 62)) <|
    bnd (sr σ 62 ((gf σ 58 5) + v6).toNatClampNeg (vp_nar .byte ((gr σ 63 (v6 / (4 : Int32)).toNatClampNeg) >>> (((24 : Int32) - ((8 : Int32) * (v6 - v6 / (4 : Int32) * (4 : Int32)))) &&& 31)).toInt8.toInt32)) fun s4 =>
    bnd (v6 + (1 : Int32)) fun x5 =>
    K55 (x5, s4)
theorem l_X12_feed_55 {Γ : CX} : ∀ (n : Nat) (v6 : Int32) (σ : St), RR vI Γ (itr (g_X12_feed_55) n (v6, σ)) → WW Γ cX12_feed 7 RX12 (some .int) rX12_feed σ 55 [(0, .ref (xd Γ 58)), (6, .int v6)] [] := by
  intro n
  induction n with
  | zero => intro v6 σ h; exact RR.no h
  | succ n hK55 =>
  intro v6 σ h
  have h : RR vI Γ (g_X12_feed_55 (itr (g_X12_feed_55) n) (v6, σ)) := h
  generalize itr (g_X12_feed_55) n = K55 at h hK55
  unfold g_X12_feed_55 at h
  dsimp only at h
  refine w_iload 1 dX12_feed_55 rfl rfl ?_
  refine w_bipush (20 : Int32) dX12_feed_57 ic_bipush_20 rfl ?_
  refine w_icmp_ge (tgt := 101) dX12_feed_59 (by decide) rfl (fun q => ?_) (fun q => ?_)
  · have h := h.tt q
    refine w_aload_n 0 dX12_feed_101 rfl rfl rfl ?_
    refine w_dup dX12_feed_102 rfl rfl ?_
    refine gf_RX12_89 dX12_feed_103 rfl ?_
    refine w_bipush (20 : Int32) dX12_feed_106 ic_bipush_20 rfl ?_
    refine w_iadd dX12_feed_108 rfl ?_
    refine pf_RX12_89 dX12_feed_109 rfl ?_
    obtain ⟨s1, es1⟩ : ∃ y : St, y = (sf σ 58 5 ((gf σ 58 5) + (20 : Int32))) := ⟨_, rfl⟩
    rw [← es1]
    replace h := h.bnd es1
    clear es1
    refine w_aload_n 0 dX12_feed_112 rfl rfl rfl ?_
    refine gf_RX12_89 dX12_feed_113 rfl ?_
    exact w_ireturn dX12_feed_116 h
  · have h := h.ff q
    refine w_aload_n 0 dX12_feed_62 rfl rfl rfl ?_
    refine gf_RX12_20 dX12_feed_63 rfl ?_
    refine w_aload_n 0 dX12_feed_66 rfl rfl rfl ?_
    refine gf_RX12_89 dX12_feed_67 rfl ?_
    refine w_iload 1 dX12_feed_70 rfl rfl ?_
    refine w_iadd dX12_feed_72 rfl ?_
    refine w_aload_n 0 dX12_feed_73 rfl rfl rfl ?_
    refine gf_RX12_24 dX12_feed_74 rfl ?_
    refine w_iload 1 dX12_feed_77 rfl rfl ?_
    refine w_iconst (4 : Int32) dX12_feed_79 ic_iconst_4 rfl ?_
    refine w_idiv dX12_feed_80 (by decide) rfl ?_
    obtain ⟨hi2, h⟩ := h.gd
    refine w_iald (i := 63) (lt_lit (by decide)) rfl hi2 dX12_feed_81 rfl ?_
    refine w_bipush (24 : Int32) dX12_feed_82 ic_bipush_24 rfl ?_
    refine w_bipush (8 : Int32) dX12_feed_84 ic_bipush_8 rfl ?_
    refine w_iload 1 dX12_feed_86 rfl rfl ?_
    refine w_iconst (4 : Int32) dX12_feed_88 ic_iconst_4 rfl ?_
    refine w_irem dX12_feed_89 (by decide) rfl ?_
    refine w_imul dX12_feed_90 rfl ?_
    refine w_isub dX12_feed_91 rfl ?_
    refine w_ishr dX12_feed_92 rfl ?_
    refine w_i2b dX12_feed_93 rfl ?_
    obtain ⟨hi3, h⟩ := h.gd
    refine w_bast (i := 62) (lt_lit (by decide)) rfl hi3 dX12_feed_94 rfl ?_
    obtain ⟨s4, es4⟩ : ∃ y : St, y = (sr σ 62 ((gf σ 58 5) + v6).toNatClampNeg (vp_nar .byte ((gr σ 63 (v6 / (4 : Int32)).toNatClampNeg) >>> (((24 : Int32) - ((8 : Int32) * (v6 - v6 / (4 : Int32) * (4 : Int32)))) &&& 31)).toInt8.toInt32)) := ⟨_, rfl⟩
    rw [← es4]
    replace h := h.bnd es4
    clear es4
    obtain ⟨x5, ex5⟩ : ∃ y : Int32, y = (v6 + (1 : Int32)) := ⟨_, rfl⟩
    replace h := h.bnd ex5
    refine w_iinc 1 x5 [(6, .int x5), (0, .ref (xd Γ 58))] dX12_feed_95 rfl (by rw [ex5, ic_iconst_1]) (by decide) rfl rfl ?_
    clear ex5
    refine w_goto (tgt := 55) dX12_feed_98 (by decide) ?_
    exact w_sub [1, 0] rfl (hK55 x5 s4 h)
def f_X12_feed (p0 : Int32) (p1 : Int32) (p2 : Int32) (p3 : Int32) (p4 : Int32) (σ : St) : Option (Int32 × St) :=
  if ((gf σ 58 5) + (20 : Int32)) ≤ (1200 : Int32) then
    gd (inb (0 : Int32) (ln 63)) <|
    bnd (sr σ 63 (0 : Int32).toNatClampNeg p0) fun s2 =>
    gd (inb (1 : Int32) (ln 63)) <|
    bnd (sr s2 63 (1 : Int32).toNatClampNeg p1) fun s4 =>
    gd (inb (2 : Int32) (ln 63)) <|
    bnd (sr s4 63 (2 : Int32).toNatClampNeg p2) fun s6 =>
    gd (inb (3 : Int32) (ln 63)) <|
    bnd (sr s6 63 (3 : Int32).toNatClampNeg p3) fun s8 =>
    gd (inb (4 : Int32) (ln 63)) <|
    bnd (sr s8 63 (4 : Int32).toNatClampNeg p4) fun s10 =>
    itr (g_X12_feed_55) FU ((0 : Int32), s10)
  else
    some ((-1 : Int32), σ)
theorem e_X12_feed {Γ : CX} (p0 : Int32) (p1 : Int32) (p2 : Int32) (p3 : Int32) (p4 : Int32) (σ : St) (h : RR vI Γ (f_X12_feed p0 p1 p2 p3 p4 σ)) : WW Γ cX12_feed 7 RX12 (some .int) rX12_feed σ 0 [(0, .ref (xd Γ 58)), (1, .int p0), (2, .int p1), (3, .int p2), (4, .int p3), (5, .int p4)] [] := by
  unfold f_X12_feed at h
  refine w_aload_n 0 dX12_feed_0 rfl rfl rfl ?_
  refine gf_RX12_89 dX12_feed_1 rfl ?_
  refine w_bipush (20 : Int32) dX12_feed_4 ic_bipush_20 rfl ?_
  refine w_iadd dX12_feed_6 rfl ?_
  refine w_sipush (1200 : Int32) dX12_feed_7 ic_sipush_1200 rfl ?_
  refine w_icmp_le (tgt := 15) dX12_feed_10 (by decide) rfl (fun q => ?_) (fun q => ?_)
  · have h := h.tt q
    refine w_aload_n 0 dX12_feed_15 rfl rfl rfl ?_
    refine gf_RX12_24 dX12_feed_16 rfl ?_
    refine w_iconst (0 : Int32) dX12_feed_19 ic_iconst_0 rfl ?_
    refine w_iload_n 1 dX12_feed_20 rfl rfl rfl ?_
    obtain ⟨hi1, h⟩ := h.gd
    refine w_iast (i := 63) (lt_lit (by decide)) rfl hi1 dX12_feed_21 rfl ?_
    obtain ⟨s2, es2⟩ : ∃ y : St, y = (sr σ 63 (0 : Int32).toNatClampNeg p0) := ⟨_, rfl⟩
    rw [← es2]
    replace h := h.bnd es2
    clear es2
    refine w_aload_n 0 dX12_feed_22 rfl rfl rfl ?_
    refine gf_RX12_24 dX12_feed_23 rfl ?_
    refine w_iconst (1 : Int32) dX12_feed_26 ic_iconst_1 rfl ?_
    refine w_iload_n 2 dX12_feed_27 rfl rfl rfl ?_
    obtain ⟨hi3, h⟩ := h.gd
    refine w_iast (i := 63) (lt_lit (by decide)) rfl hi3 dX12_feed_28 rfl ?_
    obtain ⟨s4, es4⟩ : ∃ y : St, y = (sr s2 63 (1 : Int32).toNatClampNeg p1) := ⟨_, rfl⟩
    rw [← es4]
    replace h := h.bnd es4
    clear es4
    refine w_aload_n 0 dX12_feed_29 rfl rfl rfl ?_
    refine gf_RX12_24 dX12_feed_30 rfl ?_
    refine w_iconst (2 : Int32) dX12_feed_33 ic_iconst_2 rfl ?_
    refine w_iload_n 3 dX12_feed_34 rfl rfl rfl ?_
    obtain ⟨hi5, h⟩ := h.gd
    refine w_iast (i := 63) (lt_lit (by decide)) rfl hi5 dX12_feed_35 rfl ?_
    obtain ⟨s6, es6⟩ : ∃ y : St, y = (sr s4 63 (2 : Int32).toNatClampNeg p2) := ⟨_, rfl⟩
    rw [← es6]
    replace h := h.bnd es6
    clear es6
    refine w_aload_n 0 dX12_feed_36 rfl rfl rfl ?_
    refine gf_RX12_24 dX12_feed_37 rfl ?_
    refine w_iconst (3 : Int32) dX12_feed_40 ic_iconst_3 rfl ?_
    refine w_iload 4 dX12_feed_41 rfl rfl ?_
    obtain ⟨hi7, h⟩ := h.gd
    refine w_iast (i := 63) (lt_lit (by decide)) rfl hi7 dX12_feed_43 rfl ?_
    obtain ⟨s8, es8⟩ : ∃ y : St, y = (sr s6 63 (3 : Int32).toNatClampNeg p3) := ⟨_, rfl⟩
    rw [← es8]
    replace h := h.bnd es8
    clear es8
    refine w_aload_n 0 dX12_feed_44 rfl rfl rfl ?_
    refine gf_RX12_24 dX12_feed_45 rfl ?_
    refine w_iconst (4 : Int32) dX12_feed_48 ic_iconst_4 rfl ?_
    refine w_iload 5 dX12_feed_49 rfl rfl ?_
    obtain ⟨hi9, h⟩ := h.gd
    refine w_iast (i := 63) (lt_lit (by decide)) rfl hi9 dX12_feed_51 rfl ?_
    obtain ⟨s10, es10⟩ : ∃ y : St, y = (sr s8 63 (4 : Int32).toNatClampNeg p4) := ⟨_, rfl⟩
    rw [← es10]
    replace h := h.bnd es10
    clear es10
    refine w_iconst (0 : Int32) dX12_feed_52 ic_iconst_0 rfl ?_
    refine w_istore [(6, .int (0 : Int32)), (0, .ref (xd Γ 58)), (1, .int p0), (2, .int p1), (3, .int p2), (4, .int p3), (5, .int p4)] dX12_feed_53 (by decide) rfl rfl ?_
    exact w_sub [1, 0] rfl (l_X12_feed_55 FU (0 : Int32) s10 h)
  · have h := h.ff q
    refine w_iconst (-1 : Int32) dX12_feed_13 ic_iconst_m1 rfl ?_
    exact w_ireturn dX12_feed_14 h
theorem c_X12_feed {l : Launch} {D : va_G} {cy : Nat → ClassId} {ad : Nat → Nat} {p0 : Int32} {p1 : Int32} {p2 : Int32} {p3 : Int32} {p4 : Int32} {σ σ' : St} {r : Int32} (hf : f_X12_feed p0 p1 p2 p3 p4 σ = some (r, σ')) : CT l D cy ad yX12_feed cX12_feed 7 (some .int) rX12_feed [.ref (ad 58), .int p0, .int p1, .int p2, .int p3, .int p4] σ (some (.int r)) σ' :=
  ct_of (by decide) (Nat.le_of_ble_eq_true rfl) (fun p e s m args below meth c A => e_X12_feed (Γ := (p, l, e, rX12_feed, s, m, args, below, meth, c, D, cy, ad, A, 0, 0, MQ below (QC D cy ad (some (.int r)) σ' A) args s 0 0 A)) p0 p1 p2 p3 p4 σ ⟨_, hf, rfl⟩)
theorem k_X12_feed {Γ : CX} {cc : ByteArray} {nL : Nat} {own : String} {ret : Option FieldType} {rm : Room} {σ σ' : St} {pc pc' idx : Nat} {lv : List (Nat × Value)} {rest : List Value} {p0 : Int32} {p1 : Int32} {p2 : Int32} {p3 : Int32} {p4 : Int32} {r : Int32} (hl : Cond.methodLink own idx yX12_feed ∈ TB) (hw : (rest.map fun v => v.category).sum ≤ 8) (hR : rX12_feed.frames + 1 ≤ rm.frames ∧ 8 + (7 + 11) + rX12_feed.locals ≤ rm.locals) (hd : decode cc pc = .ok (.invokevirtual idx, 3)) (hp : pc + 3 = pc') (hf : f_X12_feed p0 p1 p2 p3 p4 σ = some (r, σ')) (h : WW Γ cc nL own ret rm σ' pc' lv (.int r :: rest)) : WW Γ cc nL own ret rm σ pc lv (.int p4 :: .int p3 :: .int p2 :: .int p1 :: .int p0 :: .ref (xd Γ 58) :: rest) :=
  w_callV (nn := 5) (i := 58) (As := [.int p0, .int p1, .int p2, .int p3, .int p4]) (v := (some (.int r))) (T := TX12) (N := 32) (c_X12_feed hf) hl mw_X12_feed (by decide +kernel) ⟨rfl, rfl⟩ hR (lt_lit (by decide)) cel_58 rfl rfl hw hd rfl hp h
/-! WarByHoursModel.end (I)I -/
def rX12_end : Room := { frames := 1, cells := 0, slots := 0, locals := 25 }
def f_X12_end (p0 : Int32) (σ : St) : Option (Int32 × St) :=
  bd (f_X12_in p0.toInt64 (0 : Int64) (gf σ 58 5).toInt64 σ) fun r1 s2 =>
  if r1 = 0 then
    some ((-1 : Int32), s2)
  else
    bnd (sf s2 58 5 p0) fun s4 =>
    some (p0, s4)
theorem e_X12_end {Γ : CX} (p0 : Int32) (σ : St) (h : RR vI Γ (f_X12_end p0 σ)) : WW Γ cX12_end 2 RX12 (some .int) rX12_end σ 0 [(0, .ref (xd Γ 58)), (1, .int p0)] [] := by
  unfold f_X12_end at h
  refine w_iload_n 1 dX12_end_0 rfl rfl rfl ?_
  refine w_i2l dX12_end_1 rfl ?_
  refine w_lconst (0 : Int64) dX12_end_2 rfl rfl ?_
  refine w_aload_n 0 dX12_end_3 rfl rfl rfl ?_
  refine gf_RX12_89 dX12_end_4 rfl ?_
  refine w_i2l dX12_end_7 rfl ?_
  obtain ⟨r1, s2, h3, h⟩ := h.bd
  refine k_X12_in ml_RX12_70 (Nat.le_of_ble_eq_true rfl) ⟨Nat.le_of_ble_eq_true rfl, Nat.le_of_ble_eq_true rfl⟩ dX12_end_8 rfl h3 ?_
  refine w_if_ne (tgt := 16) dX12_end_11 (by decide) rfl (fun q => ?_) (fun q => ?_)
  · have h := h.ff q
    refine w_aload_n 0 dX12_end_16 rfl rfl rfl ?_
    refine w_iload_n 1 dX12_end_17 rfl rfl rfl ?_
    refine pf_RX12_89 dX12_end_18 rfl ?_
    obtain ⟨s4, es4⟩ : ∃ y : St, y = (sf s2 58 5 p0) := ⟨_, rfl⟩
    rw [← es4]
    replace h := h.bnd es4
    clear es4
    refine w_iload_n 1 dX12_end_21 rfl rfl rfl ?_
    exact w_ireturn dX12_end_22 h
  · have h := h.tt q
    refine w_iconst (-1 : Int32) dX12_end_14 ic_iconst_m1 rfl ?_
    exact w_ireturn dX12_end_15 h
theorem c_X12_end {l : Launch} {D : va_G} {cy : Nat → ClassId} {ad : Nat → Nat} {p0 : Int32} {σ σ' : St} {r : Int32} (hf : f_X12_end p0 σ = some (r, σ')) : CT l D cy ad yX12_end cX12_end 2 (some .int) rX12_end [.ref (ad 58), .int p0] σ (some (.int r)) σ' :=
  ct_of (by decide) (Nat.le_of_ble_eq_true rfl) (fun p e s m args below meth c A => e_X12_end (Γ := (p, l, e, rX12_end, s, m, args, below, meth, c, D, cy, ad, A, 0, 0, MQ below (QC D cy ad (some (.int r)) σ' A) args s 0 0 A)) p0 σ ⟨_, hf, rfl⟩)
theorem k_X12_end {Γ : CX} {cc : ByteArray} {nL : Nat} {own : String} {ret : Option FieldType} {rm : Room} {σ σ' : St} {pc pc' idx : Nat} {lv : List (Nat × Value)} {rest : List Value} {p0 : Int32} {r : Int32} (hl : Cond.methodLink own idx yX12_end ∈ TB) (hw : (rest.map fun v => v.category).sum ≤ 8) (hR : rX12_end.frames + 1 ≤ rm.frames ∧ 8 + (2 + 11) + rX12_end.locals ≤ rm.locals) (hd : decode cc pc = .ok (.invokevirtual idx, 3)) (hp : pc + 3 = pc') (hf : f_X12_end p0 σ = some (r, σ')) (h : WW Γ cc nL own ret rm σ' pc' lv (.int r :: rest)) : WW Γ cc nL own ret rm σ pc lv (.int p0 :: .ref (xd Γ 58) :: rest) :=
  w_callV (nn := 1) (i := 58) (As := [.int p0]) (v := (some (.int r))) (T := TX12) (N := 32) (c_X12_end hf) hl mw_X12_end (by decide +kernel) ⟨rfl, rfl⟩ hR (lt_lit (by decide)) cel_58 rfl rfl hw hd rfl hp h
/-! WarByHoursModel.see (I)I -/
def rX12_see : Room := { frames := 0, cells := 0, slots := 0, locals := 0 }
def f_X12_see_22 (k0 : Int32) (σ : St) : Option (Int32 × St) :=
  some (k0, σ)
theorem b_X12_see_22 {Γ : CX} (k0 : Int32) (σ : St) (h : RR vI Γ (f_X12_see_22 k0 σ)) : WW Γ cX12_see 2 RX12 (some .int) rX12_see σ 22 [] [.int k0] := by
  unfold f_X12_see_22 at h
  exact w_ireturn dX12_see_22 h
def f_X12_see (p0 : Int32) (σ : St) : Option (Int32 × St) :=
  if (gf σ 58 7) ≤ p0 then
    f_X12_see_22 (-1 : Int32) σ
  else
    gd (inb p0 (ln 62)) <|
    f_X12_see_22 ((gr σ 62 p0.toNatClampNeg) &&& (255 : Int32)) σ
theorem e_X12_see {Γ : CX} (p0 : Int32) (σ : St) (h : RR vI Γ (f_X12_see p0 σ)) : WW Γ cX12_see 2 RX12 (some .int) rX12_see σ 0 [(0, .ref (xd Γ 58)), (1, .int p0)] [] := by
  unfold f_X12_see at h
  refine w_iload_n 1 dX12_see_0 rfl rfl rfl ?_
  refine w_aload_n 0 dX12_see_1 rfl rfl rfl ?_
  refine gf_RX12_92 dX12_see_2 rfl ?_
  refine w_icmp_ge (tgt := 21) dX12_see_5 (by decide) rfl (fun q => ?_) (fun q => ?_)
  · have h := h.tt q
    refine w_iconst (-1 : Int32) dX12_see_21 ic_iconst_m1 rfl ?_
    exact w_sub [] rfl (b_X12_see_22 (-1 : Int32) σ h)
  · have h := h.ff q
    refine w_aload_n 0 dX12_see_8 rfl rfl rfl ?_
    refine gf_RX12_20 dX12_see_9 rfl ?_
    refine w_iload_n 1 dX12_see_12 rfl rfl rfl ?_
    obtain ⟨hi1, h⟩ := h.gd
    refine w_bald (i := 62) (lt_lit (by decide)) rfl hi1 dX12_see_13 rfl ?_
    refine w_sipush (255 : Int32) dX12_see_14 ic_sipush_255 rfl ?_
    refine w_iand dX12_see_17 rfl ?_
    refine w_goto (tgt := 22) dX12_see_18 (by decide) ?_
    exact w_sub [] rfl (b_X12_see_22 ((gr σ 62 p0.toNatClampNeg) &&& (255 : Int32)) σ h)
theorem c_X12_see {l : Launch} {D : va_G} {cy : Nat → ClassId} {ad : Nat → Nat} {p0 : Int32} {σ σ' : St} {r : Int32} (hf : f_X12_see p0 σ = some (r, σ')) : CT l D cy ad yX12_see cX12_see 2 (some .int) rX12_see [.ref (ad 58), .int p0] σ (some (.int r)) σ' :=
  ct_of (by decide) (Nat.le_of_ble_eq_true rfl) (fun p e s m args below meth c A => e_X12_see (Γ := (p, l, e, rX12_see, s, m, args, below, meth, c, D, cy, ad, A, 0, 0, MQ below (QC D cy ad (some (.int r)) σ' A) args s 0 0 A)) p0 σ ⟨_, hf, rfl⟩)
theorem k_X12_see {Γ : CX} {cc : ByteArray} {nL : Nat} {own : String} {ret : Option FieldType} {rm : Room} {σ σ' : St} {pc pc' idx : Nat} {lv : List (Nat × Value)} {rest : List Value} {p0 : Int32} {r : Int32} (hl : Cond.methodLink own idx yX12_see ∈ TB) (hw : (rest.map fun v => v.category).sum ≤ 8) (hR : rX12_see.frames + 1 ≤ rm.frames ∧ 8 + (2 + 11) + rX12_see.locals ≤ rm.locals) (hd : decode cc pc = .ok (.invokevirtual idx, 3)) (hp : pc + 3 = pc') (hf : f_X12_see p0 σ = some (r, σ')) (h : WW Γ cc nL own ret rm σ' pc' lv (.int r :: rest)) : WW Γ cc nL own ret rm σ pc lv (.int p0 :: .ref (xd Γ 58) :: rest) :=
  w_callV (nn := 1) (i := 58) (As := [.int p0]) (v := (some (.int r))) (T := TX12) (N := 32) (c_X12_see hf) hl mw_X12_see (by decide +kernel) ⟨rfl, rfl⟩ hR (lt_lit (by decide)) cel_58 rfl rfl hw hd rfl hp h
/-! WarByHoursModel.advance ()V -/
def rX12_advance : Room := { frames := 1, cells := 0, slots := 0, locals := 25 }
def f_X12_advance_26 (K0 : St → Option (Unit × St)) (σ : St) : Option (Unit × St) :=
  bnd (sf σ 58 8 ((gf σ 58 8) + (1 : Int32))) fun s1 =>
  K0 (s1)
theorem b_X12_advance_26 {Γ : CX} (K0 : St → Option (Unit × St)) (hK0 : ∀ (σ : St), RR vU Γ (K0 (σ)) → WW Γ cX12_advance 2 RX12 none rX12_advance σ 0 [(0, .ref (xd Γ 58))] []) (σ : St) (h : RR vU Γ (f_X12_advance_26 K0 σ)) : WW Γ cX12_advance 2 RX12 none rX12_advance σ 26 [(0, .ref (xd Γ 58))] [] := by
  unfold f_X12_advance_26 at h
  refine w_aload_n 0 dX12_advance_26 rfl rfl rfl ?_
  refine w_dup dX12_advance_27 rfl rfl ?_
  refine gf_RX12_95 dX12_advance_28 rfl ?_
  refine w_iconst (1 : Int32) dX12_advance_31 ic_iconst_1 rfl ?_
  refine w_iadd dX12_advance_32 rfl ?_
  refine pf_RX12_95 dX12_advance_33 rfl ?_
  obtain ⟨s1, es1⟩ : ∃ y : St, y = (sf σ 58 8 ((gf σ 58 8) + (1 : Int32))) := ⟨_, rfl⟩
  rw [← es1]
  replace h := h.bnd es1
  clear es1
  refine w_goto (tgt := 0) dX12_advance_36 (by decide) ?_
  exact w_sub [0] rfl (hK0 s1 h)
def f_X12_advance_239 (σ : St) : Option (Unit × St) :=
  some ((), σ)
theorem b_X12_advance_239 {Γ : CX} (σ : St) (h : RR vU Γ (f_X12_advance_239 σ)) : WW Γ cX12_advance 2 RX12 none rX12_advance σ 239 [] [] := by
  unfold f_X12_advance_239 at h
  exact w_return dX12_advance_239 h
def g_X12_advance_83 (K83 : St → Option (Unit × St)) (x : St) : Option (Unit × St) := match x with
  | (σ) =>
  bd (f_X12_see (gf σ 58 8) σ) fun r1 s2 =>
  bd (f_X12_in r1.toInt64 (97 : Int64) (122 : Int64) s2) fun r4 s5 =>
  if r4 = 0 then
    bnd (sf s5 58 10 (1 : Int32)) fun s7 =>
    f_X12_advance_239 s7
  else
    bnd (sf s5 58 8 ((gf s5 58 8) + (1 : Int32))) fun s8 =>
    K83 (s8)
theorem l_X12_advance_83 {Γ : CX} : ∀ (n : Nat) (σ : St), RR vU Γ (itr (g_X12_advance_83) n (σ)) → WW Γ cX12_advance 2 RX12 none rX12_advance σ 83 [(0, .ref (xd Γ 58))] [] := by
  intro n
  induction n with
  | zero => intro  σ h; exact RR.no h
  | succ n hK83 =>
  intro  σ h
  have h : RR vU Γ (g_X12_advance_83 (itr (g_X12_advance_83) n) (σ)) := h
  generalize itr (g_X12_advance_83) n = K83 at h hK83
  unfold g_X12_advance_83 at h
  dsimp only at h
  refine w_aload_n 0 dX12_advance_83 rfl rfl rfl ?_
  refine w_aload_n 0 dX12_advance_84 rfl rfl rfl ?_
  refine gf_RX12_95 dX12_advance_85 rfl ?_
  obtain ⟨r1, s2, h3, h⟩ := h.bd
  refine k_X12_see ml_RX12_98 (Nat.le_of_ble_eq_true rfl) ⟨Nat.le_of_ble_eq_true rfl, Nat.le_of_ble_eq_true rfl⟩ dX12_advance_88 rfl h3 ?_
  refine w_i2l dX12_advance_91 rfl ?_
  refine w_ldc2_w (97 : Int64) dX12_advance_92 cl_RX12_108 rfl ?_
  refine w_ldc2_w (122 : Int64) dX12_advance_95 cl_RX12_110 rfl ?_
  obtain ⟨r4, s5, h6, h⟩ := h.bd
  refine k_X12_in ml_RX12_70 (Nat.le_of_ble_eq_true rfl) ⟨Nat.le_of_ble_eq_true rfl, Nat.le_of_ble_eq_true rfl⟩ dX12_advance_98 rfl h6 ?_
  refine w_if_eq (tgt := 117) dX12_advance_101 (by decide) rfl (fun q => ?_) (fun q => ?_)
  · have h := h.tt q
    refine w_aload_n 0 dX12_advance_117 rfl rfl rfl ?_
    refine w_iconst (1 : Int32) dX12_advance_118 ic_iconst_1 rfl ?_
    refine pf_RX12_105 dX12_advance_119 rfl ?_
    obtain ⟨s7, es7⟩ : ∃ y : St, y = (sf s5 58 10 (1 : Int32)) := ⟨_, rfl⟩
    rw [← es7]
    replace h := h.bnd es7
    clear es7
    refine w_goto (tgt := 239) dX12_advance_122 (by decide) ?_
    exact w_sub [] rfl (b_X12_advance_239 s7 h)
  · have h := h.ff q
    refine w_aload_n 0 dX12_advance_104 rfl rfl rfl ?_
    refine w_dup dX12_advance_105 rfl rfl ?_
    refine gf_RX12_95 dX12_advance_106 rfl ?_
    refine w_iconst (1 : Int32) dX12_advance_109 ic_iconst_1 rfl ?_
    refine w_iadd dX12_advance_110 rfl ?_
    refine pf_RX12_95 dX12_advance_111 rfl ?_
    obtain ⟨s8, es8⟩ : ∃ y : St, y = (sf s5 58 8 ((gf s5 58 8) + (1 : Int32))) := ⟨_, rfl⟩
    rw [← es8]
    replace h := h.bnd es8
    clear es8
    refine w_goto (tgt := 83) dX12_advance_114 (by decide) ?_
    exact w_sub [0] rfl (hK83 s8 h)
def g_X12_advance_144 (K144 : St → Option (Unit × St)) (x : St) : Option (Unit × St) := match x with
  | (σ) =>
  bd (f_X12_see (gf σ 58 8) σ) fun r1 s2 =>
  bd (f_X12_in r1.toInt64 (48 : Int64) (57 : Int64) s2) fun r4 s5 =>
  if r4 = 0 then
    bnd (sf s5 58 10 (2 : Int32)) fun s7 =>
    f_X12_advance_239 s7
  else
    bd (f_X12_see (gf s5 58 8) s5) fun r8 s9 =>
    bnd (sf s9 58 11 (if ((((10 : Int32) * (gf s5 58 11)) + r8) - (48 : Int32)) < (99999 : Int32) then ((((10 : Int32) * (gf s5 58 11)) + r8) - (48 : Int32)) else (99999 : Int32))) fun s11 =>
    bnd (sf s11 58 8 ((gf s11 58 8) + (1 : Int32))) fun s12 =>
    K144 (s12)
theorem l_X12_advance_144 {Γ : CX} : ∀ (n : Nat) (σ : St), RR vU Γ (itr (g_X12_advance_144) n (σ)) → WW Γ cX12_advance 2 RX12 none rX12_advance σ 144 [(0, .ref (xd Γ 58))] [] := by
  intro n
  induction n with
  | zero => intro  σ h; exact RR.no h
  | succ n hK144 =>
  intro  σ h
  have h : RR vU Γ (g_X12_advance_144 (itr (g_X12_advance_144) n) (σ)) := h
  generalize itr (g_X12_advance_144) n = K144 at h hK144
  unfold g_X12_advance_144 at h
  dsimp only at h
  refine w_aload_n 0 dX12_advance_144 rfl rfl rfl ?_
  refine w_aload_n 0 dX12_advance_145 rfl rfl rfl ?_
  refine gf_RX12_95 dX12_advance_146 rfl ?_
  obtain ⟨r1, s2, h3, h⟩ := h.bd
  refine k_X12_see ml_RX12_98 (Nat.le_of_ble_eq_true rfl) ⟨Nat.le_of_ble_eq_true rfl, Nat.le_of_ble_eq_true rfl⟩ dX12_advance_149 rfl h3 ?_
  refine w_i2l dX12_advance_152 rfl ?_
  refine w_ldc2_w (48 : Int64) dX12_advance_153 cl_RX12_112 rfl ?_
  refine w_ldc2_w (57 : Int64) dX12_advance_156 cl_RX12_114 rfl ?_
  obtain ⟨r4, s5, h6, h⟩ := h.bd
  refine k_X12_in ml_RX12_70 (Nat.le_of_ble_eq_true rfl) ⟨Nat.le_of_ble_eq_true rfl, Nat.le_of_ble_eq_true rfl⟩ dX12_advance_159 rfl h6 ?_
  refine w_if_eq (tgt := 206) dX12_advance_162 (by decide) rfl (fun q => ?_) (fun q => ?_)
  · have h := h.tt q
    refine w_aload_n 0 dX12_advance_206 rfl rfl rfl ?_
    refine w_iconst (2 : Int32) dX12_advance_207 ic_iconst_2 rfl ?_
    refine pf_RX12_105 dX12_advance_208 rfl ?_
    obtain ⟨s7, es7⟩ : ∃ y : St, y = (sf s5 58 10 (2 : Int32)) := ⟨_, rfl⟩
    rw [← es7]
    replace h := h.bnd es7
    clear es7
    refine w_goto (tgt := 239) dX12_advance_211 (by decide) ?_
    exact w_sub [] rfl (b_X12_advance_239 s7 h)
  · have h := h.ff q
    refine w_aload_n 0 dX12_advance_165 rfl rfl rfl ?_
    refine w_ldc (99999 : Int32) dX12_advance_166 cn_RX12_119 rfl ?_
    refine w_bipush (10 : Int32) dX12_advance_168 ic_bipush_10 rfl ?_
    refine w_aload_n 0 dX12_advance_170 rfl rfl rfl ?_
    refine gf_RX12_116 dX12_advance_171 rfl ?_
    refine w_imul dX12_advance_174 rfl ?_
    refine w_aload_n 0 dX12_advance_175 rfl rfl rfl ?_
    refine w_aload_n 0 dX12_advance_176 rfl rfl rfl ?_
    refine gf_RX12_95 dX12_advance_177 rfl ?_
    obtain ⟨r8, s9, h10, h⟩ := h.bd
    refine k_X12_see ml_RX12_98 (Nat.le_of_ble_eq_true rfl) ⟨Nat.le_of_ble_eq_true rfl, Nat.le_of_ble_eq_true rfl⟩ dX12_advance_180 rfl h10 ?_
    refine w_iadd dX12_advance_183 rfl ?_
    refine w_bipush (48 : Int32) dX12_advance_184 ic_bipush_48 rfl ?_
    refine w_isub dX12_advance_186 rfl ?_
    refine w_mmin ml_RX12_120 (Nat.le_of_ble_eq_true rfl) ⟨Nat.le_of_ble_eq_true rfl, Nat.le_of_ble_eq_true rfl⟩ dX12_advance_187 rfl ?_
    refine pf_RX12_116 dX12_advance_190 rfl ?_
    obtain ⟨s11, es11⟩ : ∃ y : St, y = (sf s9 58 11 (if ((((10 : Int32) * (gf s5 58 11)) + r8) - (48 : Int32)) < (99999 : Int32) then ((((10 : Int32) * (gf s5 58 11)) + r8) - (48 : Int32)) else (99999 : Int32))) := ⟨_, rfl⟩
    rw [← es11]
    replace h := h.bnd es11
    clear es11
    refine w_aload_n 0 dX12_advance_193 rfl rfl rfl ?_
    refine w_dup dX12_advance_194 rfl rfl ?_
    refine gf_RX12_95 dX12_advance_195 rfl ?_
    refine w_iconst (1 : Int32) dX12_advance_198 ic_iconst_1 rfl ?_
    refine w_iadd dX12_advance_199 rfl ?_
    refine pf_RX12_95 dX12_advance_200 rfl ?_
    obtain ⟨s12, es12⟩ : ∃ y : St, y = (sf s11 58 8 ((gf s11 58 8) + (1 : Int32))) := ⟨_, rfl⟩
    rw [← es12]
    replace h := h.bnd es12
    clear es12
    refine w_goto (tgt := 144) dX12_advance_203 (by decide) ?_
    exact w_sub [0] rfl (hK144 s12 h)
def f_X12_advance_226 (k0 : Int32) (σ : St) : Option (Unit × St) :=
  bnd (sf σ 58 10 k0) fun s1 =>
  bnd (sf s1 58 8 ((gf s1 58 8) + (1 : Int32))) fun s2 =>
  f_X12_advance_239 s2
theorem b_X12_advance_226 {Γ : CX} (k0 : Int32) (σ : St) (h : RR vU Γ (f_X12_advance_226 k0 σ)) : WW Γ cX12_advance 2 RX12 none rX12_advance σ 226 [(0, .ref (xd Γ 58))] [.int k0, .ref (xd Γ 58)] := by
  unfold f_X12_advance_226 at h
  refine pf_RX12_105 dX12_advance_226 rfl ?_
  obtain ⟨s1, es1⟩ : ∃ y : St, y = (sf σ 58 10 k0) := ⟨_, rfl⟩
  rw [← es1]
  replace h := h.bnd es1
  clear es1
  refine w_aload_n 0 dX12_advance_229 rfl rfl rfl ?_
  refine w_dup dX12_advance_230 rfl rfl ?_
  refine gf_RX12_95 dX12_advance_231 rfl ?_
  refine w_iconst (1 : Int32) dX12_advance_234 ic_iconst_1 rfl ?_
  refine w_iadd dX12_advance_235 rfl ?_
  refine pf_RX12_95 dX12_advance_236 rfl ?_
  obtain ⟨s2, es2⟩ : ∃ y : St, y = (sf s1 58 8 ((gf s1 58 8) + (1 : Int32))) := ⟨_, rfl⟩
  rw [← es2]
  replace h := h.bnd es2
  clear es2
  exact w_sub [] rfl (b_X12_advance_239 s2 h)
def g_X12_advance_0 (K0 : St → Option (Unit × St)) (x : St) : Option (Unit × St) := match x with
  | (σ) =>
  bd (f_X12_see (gf σ 58 8) σ) fun r1 s2 =>
  if r1 = (32 : Int32) then
    f_X12_advance_26 K0 s2
  else
    bd (f_X12_see (gf s2 58 8) s2) fun r4 s5 =>
    if r4 = (10 : Int32) then
      f_X12_advance_26 K0 s5
    else
      bnd (sf s5 58 9 (gf s5 58 8)) fun s7 =>
      bd (f_X12_see (gf s7 58 8) s7) fun r8 s9 =>
      if r8 = (-1 : Int32) then
        bnd (sf s9 58 10 (0 : Int32)) fun s18 =>
        f_X12_advance_239 s18
      else
        bd (f_X12_in r8.toInt64 (97 : Int64) (122 : Int64) s9) fun r11 s12 =>
        if r11 = 0 then
          bd (f_X12_in r8.toInt64 (48 : Int64) (57 : Int64) s12) fun r14 s15 =>
          if r14 = 0 then
            if r8 = (59 : Int32) then
              f_X12_advance_226 (3 : Int32) s15
            else
              f_X12_advance_226 (4 : Int32) s15
          else
            bnd (sf s15 58 11 (0 : Int32)) fun s17 =>
            itr (g_X12_advance_144) FU (s17)
        else
          itr (g_X12_advance_83) FU (s12)
theorem l_X12_advance_0 {Γ : CX} : ∀ (n : Nat) (σ : St), RR vU Γ (itr (g_X12_advance_0) n (σ)) → WW Γ cX12_advance 2 RX12 none rX12_advance σ 0 [(0, .ref (xd Γ 58))] [] := by
  intro n
  induction n with
  | zero => intro  σ h; exact RR.no h
  | succ n hK0 =>
  intro  σ h
  have h : RR vU Γ (g_X12_advance_0 (itr (g_X12_advance_0) n) (σ)) := h
  generalize itr (g_X12_advance_0) n = K0 at h hK0
  unfold g_X12_advance_0 at h
  dsimp only at h
  refine w_aload_n 0 dX12_advance_0 rfl rfl rfl ?_
  refine w_aload_n 0 dX12_advance_1 rfl rfl rfl ?_
  refine gf_RX12_95 dX12_advance_2 rfl ?_
  obtain ⟨r1, s2, h3, h⟩ := h.bd
  refine k_X12_see ml_RX12_98 (Nat.le_of_ble_eq_true rfl) ⟨Nat.le_of_ble_eq_true rfl, Nat.le_of_ble_eq_true rfl⟩ dX12_advance_5 rfl h3 ?_
  refine w_bipush (32 : Int32) dX12_advance_8 ic_bipush_32 rfl ?_
  refine w_icmp_eq (tgt := 26) dX12_advance_10 (by decide) rfl (fun q => ?_) (fun q => ?_)
  · have h := h.tt q
    exact w_sub [0] rfl (b_X12_advance_26 K0 hK0 s2 h)
  · have h := h.ff q
    refine w_aload_n 0 dX12_advance_13 rfl rfl rfl ?_
    refine w_aload_n 0 dX12_advance_14 rfl rfl rfl ?_
    refine gf_RX12_95 dX12_advance_15 rfl ?_
    obtain ⟨r4, s5, h6, h⟩ := h.bd
    refine k_X12_see ml_RX12_98 (Nat.le_of_ble_eq_true rfl) ⟨Nat.le_of_ble_eq_true rfl, Nat.le_of_ble_eq_true rfl⟩ dX12_advance_18 rfl h6 ?_
    refine w_bipush (10 : Int32) dX12_advance_21 ic_bipush_10 rfl ?_
    refine w_icmp_ne (tgt := 39) dX12_advance_23 (by decide) rfl (fun q => ?_) (fun q => ?_)
    · have h := h.ff q
      refine w_aload_n 0 dX12_advance_39 rfl rfl rfl ?_
      refine w_aload_n 0 dX12_advance_40 rfl rfl rfl ?_
      refine gf_RX12_95 dX12_advance_41 rfl ?_
      refine pf_RX12_102 dX12_advance_44 rfl ?_
      obtain ⟨s7, es7⟩ : ∃ y : St, y = (sf s5 58 9 (gf s5 58 8)) := ⟨_, rfl⟩
      rw [← es7]
      replace h := h.bnd es7
      clear es7
      refine w_aload_n 0 dX12_advance_47 rfl rfl rfl ?_
      refine w_aload_n 0 dX12_advance_48 rfl rfl rfl ?_
      refine gf_RX12_95 dX12_advance_49 rfl ?_
      obtain ⟨r8, s9, h10, h⟩ := h.bd
      refine k_X12_see ml_RX12_98 (Nat.le_of_ble_eq_true rfl) ⟨Nat.le_of_ble_eq_true rfl, Nat.le_of_ble_eq_true rfl⟩ dX12_advance_52 rfl h10 ?_
      refine w_istore_n [(1, .int r8), (0, .ref (xd Γ 58))] dX12_advance_55 rfl (by decide) rfl rfl ?_
      refine w_iload_n 0 dX12_advance_56 rfl rfl rfl ?_
      refine w_iconst (-1 : Int32) dX12_advance_57 ic_iconst_m1 rfl ?_
      refine w_icmp_ne (tgt := 69) dX12_advance_58 (by decide) rfl (fun q => ?_) (fun q => ?_)
      · have h := h.ff q
        refine w_iload_n 0 dX12_advance_69 rfl rfl rfl ?_
        refine w_i2l dX12_advance_70 rfl ?_
        refine w_ldc2_w (97 : Int64) dX12_advance_71 cl_RX12_108 rfl ?_
        refine w_ldc2_w (122 : Int64) dX12_advance_74 cl_RX12_110 rfl ?_
        obtain ⟨r11, s12, h13, h⟩ := h.bd
        refine k_X12_in ml_RX12_70 (Nat.le_of_ble_eq_true rfl) ⟨Nat.le_of_ble_eq_true rfl, Nat.le_of_ble_eq_true rfl⟩ dX12_advance_77 rfl h13 ?_
        refine w_if_eq (tgt := 125) dX12_advance_80 (by decide) rfl (fun q => ?_) (fun q => ?_)
        · have h := h.tt q
          refine w_iload_n 0 dX12_advance_125 rfl rfl rfl ?_
          refine w_i2l dX12_advance_126 rfl ?_
          refine w_ldc2_w (48 : Int64) dX12_advance_127 cl_RX12_112 rfl ?_
          refine w_ldc2_w (57 : Int64) dX12_advance_130 cl_RX12_114 rfl ?_
          obtain ⟨r14, s15, h16, h⟩ := h.bd
          refine k_X12_in ml_RX12_70 (Nat.le_of_ble_eq_true rfl) ⟨Nat.le_of_ble_eq_true rfl, Nat.le_of_ble_eq_true rfl⟩ dX12_advance_133 rfl h16 ?_
          refine w_if_eq (tgt := 214) dX12_advance_136 (by decide) rfl (fun q => ?_) (fun q => ?_)
          · have h := h.tt q
            refine w_aload_n 1 dX12_advance_214 rfl rfl rfl ?_
            refine w_iload_n 0 dX12_advance_215 rfl rfl rfl ?_
            refine w_bipush (59 : Int32) dX12_advance_216 ic_bipush_59 rfl ?_
            refine w_icmp_ne (tgt := 225) dX12_advance_218 (by decide) rfl (fun q => ?_) (fun q => ?_)
            · have h := h.ff q
              refine w_iconst (4 : Int32) dX12_advance_225 ic_iconst_4 rfl ?_
              exact w_sub [1] rfl (b_X12_advance_226 (4 : Int32) s15 h)
            · have h := h.tt q
              refine w_iconst (3 : Int32) dX12_advance_221 ic_iconst_3 rfl ?_
              refine w_goto (tgt := 226) dX12_advance_222 (by decide) ?_
              exact w_sub [1] rfl (b_X12_advance_226 (3 : Int32) s15 h)
          · have h := h.ff q
            refine w_aload_n 1 dX12_advance_139 rfl rfl rfl ?_
            refine w_iconst (0 : Int32) dX12_advance_140 ic_iconst_0 rfl ?_
            refine pf_RX12_116 dX12_advance_141 rfl ?_
            obtain ⟨s17, es17⟩ : ∃ y : St, y = (sf s15 58 11 (0 : Int32)) := ⟨_, rfl⟩
            rw [← es17]
            replace h := h.bnd es17
            clear es17
            exact w_sub [1] rfl (l_X12_advance_144 FU s17 h)
        · have h := h.ff q
          exact w_sub [1] rfl (l_X12_advance_83 FU s12 h)
      · have h := h.tt q
        refine w_aload_n 1 dX12_advance_61 rfl rfl rfl ?_
        refine w_iconst (0 : Int32) dX12_advance_62 ic_iconst_0 rfl ?_
        refine pf_RX12_105 dX12_advance_63 rfl ?_
        obtain ⟨s18, es18⟩ : ∃ y : St, y = (sf s9 58 10 (0 : Int32)) := ⟨_, rfl⟩
        rw [← es18]
        replace h := h.bnd es18
        clear es18
        refine w_goto (tgt := 239) dX12_advance_66 (by decide) ?_
        exact w_sub [] rfl (b_X12_advance_239 s18 h)
    · have h := h.tt q
      exact w_sub [0] rfl (b_X12_advance_26 K0 hK0 s5 h)
def f_X12_advance (σ : St) : Option (Unit × St) :=
  itr (g_X12_advance_0) FU (σ)
theorem e_X12_advance {Γ : CX} (σ : St) (h : RR vU Γ (f_X12_advance σ)) : WW Γ cX12_advance 2 RX12 none rX12_advance σ 0 [(0, .ref (xd Γ 58))] [] := by
  unfold f_X12_advance at h
  exact w_sub [0] rfl (l_X12_advance_0 FU σ h)
theorem c_X12_advance {l : Launch} {D : va_G} {cy : Nat → ClassId} {ad : Nat → Nat}  {σ σ' : St} {r : Unit} (hf : f_X12_advance σ = some (r, σ')) : CT l D cy ad yX12_advance cX12_advance 2 none rX12_advance [.ref (ad 58)] σ none σ' :=
  ct_of (by decide) (Nat.le_of_ble_eq_true rfl) (fun p e s m args below meth c A => e_X12_advance (Γ := (p, l, e, rX12_advance, s, m, args, below, meth, c, D, cy, ad, A, 0, 0, MQ below (QC D cy ad none σ' A) args s 0 0 A)) σ ⟨_, hf, rfl⟩)
theorem k_X12_advance {Γ : CX} {cc : ByteArray} {nL : Nat} {own : String} {ret : Option FieldType} {rm : Room} {σ σ' : St} {pc pc' idx : Nat} {lv : List (Nat × Value)} {rest : List Value}  {r : Unit} (hl : Cond.methodLink own idx yX12_advance ∈ TB) (hw : (rest.map fun v => v.category).sum ≤ 8) (hR : rX12_advance.frames + 1 ≤ rm.frames ∧ 8 + (2 + 11) + rX12_advance.locals ≤ rm.locals) (hd : decode cc pc = .ok (.invokevirtual idx, 3)) (hp : pc + 3 = pc') (hf : f_X12_advance σ = some (r, σ')) (h : WW Γ cc nL own ret rm σ' pc' lv (rest)) : WW Γ cc nL own ret rm σ pc lv (.ref (xd Γ 58) :: rest) :=
  w_callV (nn := 0) (i := 58) (As := []) (v := none) (T := TX12) (N := 32) (c_X12_advance hf) hl mw_X12_advance (by decide +kernel) ⟨rfl, rfl⟩ hR (lt_lit (by decide)) cel_58 rfl rfl hw hd rfl hp h
/-! WarByHoursModel.good ()Z -/
def rX12_good : Room := { frames := 0, cells := 0, slots := 0, locals := 0 }
def f_X12_good_12 (k0 : Int32) (σ : St) : Option (Int32 × St) :=
  gd (bz k0) <| some (k0, σ)
theorem b_X12_good_12 {Γ : CX} (k0 : Int32) (σ : St) (h : RR vI Γ (f_X12_good_12 k0 σ)) : WW Γ cX12_good 1 RX12 (some .boolean) rX12_good σ 12 [] [.int k0] := by
  unfold f_X12_good_12 at h
  obtain ⟨hb, h⟩ := h.gd
  exact w_zreturn dX12_good_12 hb h
def f_X12_good (σ : St) : Option (Int32 × St) :=
  if (gf σ 58 12) = 0 then
    f_X12_good_12 (1 : Int32) σ
  else
    f_X12_good_12 (0 : Int32) σ
theorem e_X12_good {Γ : CX} (σ : St) (h : RR vI Γ (f_X12_good σ)) : WW Γ cX12_good 1 RX12 (some .boolean) rX12_good σ 0 [(0, .ref (xd Γ 58))] [] := by
  unfold f_X12_good at h
  refine w_aload_n 0 dX12_good_0 rfl rfl rfl ?_
  refine gf_RX12_125 dX12_good_1 rfl ?_
  refine w_if_ne (tgt := 11) dX12_good_4 (by decide) rfl (fun q => ?_) (fun q => ?_)
  · have h := h.ff q
    refine w_iconst (0 : Int32) dX12_good_11 ic_iconst_0 rfl ?_
    exact w_sub [] rfl (b_X12_good_12 (0 : Int32) σ h)
  · have h := h.tt q
    refine w_iconst (1 : Int32) dX12_good_7 ic_iconst_1 rfl ?_
    refine w_goto (tgt := 12) dX12_good_8 (by decide) ?_
    exact w_sub [] rfl (b_X12_good_12 (1 : Int32) σ h)
theorem c_X12_good {l : Launch} {D : va_G} {cy : Nat → ClassId} {ad : Nat → Nat}  {σ σ' : St} {r : Int32} (hf : f_X12_good σ = some (r, σ')) : CT l D cy ad yX12_good cX12_good 1 (some .boolean) rX12_good [.ref (ad 58)] σ (some (.int r)) σ' :=
  ct_of (by decide) (Nat.le_of_ble_eq_true rfl) (fun p e s m args below meth c A => e_X12_good (Γ := (p, l, e, rX12_good, s, m, args, below, meth, c, D, cy, ad, A, 0, 0, MQ below (QC D cy ad (some (.int r)) σ' A) args s 0 0 A)) σ ⟨_, hf, rfl⟩)
theorem k_X12_good {Γ : CX} {cc : ByteArray} {nL : Nat} {own : String} {ret : Option FieldType} {rm : Room} {σ σ' : St} {pc pc' idx : Nat} {lv : List (Nat × Value)} {rest : List Value}  {r : Int32} (hl : Cond.methodLink own idx yX12_good ∈ TB) (hw : (rest.map fun v => v.category).sum ≤ 8) (hR : rX12_good.frames + 1 ≤ rm.frames ∧ 8 + (1 + 11) + rX12_good.locals ≤ rm.locals) (hd : decode cc pc = .ok (.invokevirtual idx, 3)) (hp : pc + 3 = pc') (hf : f_X12_good σ = some (r, σ')) (h : WW Γ cc nL own ret rm σ' pc' lv (.int r :: rest)) : WW Γ cc nL own ret rm σ pc lv (.ref (xd Γ 58) :: rest) :=
  w_callV (nn := 0) (i := 58) (As := []) (v := (some (.int r))) (T := TX12) (N := 32) (c_X12_good hf) hl mw_X12_good (by decide +kernel) ⟨rfl, rfl⟩ hR (lt_lit (by decide)) cel_58 rfl rfl hw hd rfl hp h
/-! WarByHoursModel.errs (I)V -/
def rX12_errs : Room := { frames := 1, cells := 0, slots := 0, locals := 20 }
def f_X12_errs (p0 : Int32) (σ : St) : Option (Unit × St) :=
  bd (f_X12_good σ) fun r1 s2 =>
  if r1 = 0 then
    some ((), s2)
  else
    bnd (sf s2 58 12 p0) fun s4 =>
    bnd (sf s4 58 13 (gf s4 58 9)) fun s5 =>
    some ((), s5)
theorem e_X12_errs {Γ : CX} (p0 : Int32) (σ : St) (h : RR vU Γ (f_X12_errs p0 σ)) : WW Γ cX12_errs 2 RX12 none rX12_errs σ 0 [(0, .ref (xd Γ 58)), (1, .int p0)] [] := by
  unfold f_X12_errs at h
  refine w_aload_n 0 dX12_errs_0 rfl rfl rfl ?_
  obtain ⟨r1, s2, h3, h⟩ := h.bd
  refine k_X12_good ml_RX12_128 (Nat.le_of_ble_eq_true rfl) ⟨Nat.le_of_ble_eq_true rfl, Nat.le_of_ble_eq_true rfl⟩ dX12_errs_1 rfl h3 ?_
  refine w_if_ne (tgt := 8) dX12_errs_4 (by decide) rfl (fun q => ?_) (fun q => ?_)
  · have h := h.ff q
    refine w_aload_n 0 dX12_errs_8 rfl rfl rfl ?_
    refine w_iload_n 1 dX12_errs_9 rfl rfl rfl ?_
    refine pf_RX12_125 dX12_errs_10 rfl ?_
    obtain ⟨s4, es4⟩ : ∃ y : St, y = (sf s2 58 12 p0) := ⟨_, rfl⟩
    rw [← es4]
    replace h := h.bnd es4
    clear es4
    refine w_aload_n 0 dX12_errs_13 rfl rfl rfl ?_
    refine w_aload_n 0 dX12_errs_14 rfl rfl rfl ?_
    refine gf_RX12_102 dX12_errs_15 rfl ?_
    refine pf_RX12_27 dX12_errs_18 rfl ?_
    obtain ⟨s5, es5⟩ : ∃ y : St, y = (sf s4 58 13 (gf s4 58 9)) := ⟨_, rfl⟩
    rw [← es5]
    replace h := h.bnd es5
    clear es5
    exact w_return dX12_errs_21 h
  · have h := h.tt q
    exact w_return dX12_errs_7 h
theorem c_X12_errs {l : Launch} {D : va_G} {cy : Nat → ClassId} {ad : Nat → Nat} {p0 : Int32} {σ σ' : St} {r : Unit} (hf : f_X12_errs p0 σ = some (r, σ')) : CT l D cy ad yX12_errs cX12_errs 2 none rX12_errs [.ref (ad 58), .int p0] σ none σ' :=
  ct_of (by decide) (Nat.le_of_ble_eq_true rfl) (fun p e s m args below meth c A => e_X12_errs (Γ := (p, l, e, rX12_errs, s, m, args, below, meth, c, D, cy, ad, A, 0, 0, MQ below (QC D cy ad none σ' A) args s 0 0 A)) p0 σ ⟨_, hf, rfl⟩)
theorem k_X12_errs {Γ : CX} {cc : ByteArray} {nL : Nat} {own : String} {ret : Option FieldType} {rm : Room} {σ σ' : St} {pc pc' idx : Nat} {lv : List (Nat × Value)} {rest : List Value} {p0 : Int32} {r : Unit} (hl : Cond.methodLink own idx yX12_errs ∈ TB) (hw : (rest.map fun v => v.category).sum ≤ 8) (hR : rX12_errs.frames + 1 ≤ rm.frames ∧ 8 + (2 + 11) + rX12_errs.locals ≤ rm.locals) (hd : decode cc pc = .ok (.invokevirtual idx, 3)) (hp : pc + 3 = pc') (hf : f_X12_errs p0 σ = some (r, σ')) (h : WW Γ cc nL own ret rm σ' pc' lv (rest)) : WW Γ cc nL own ret rm σ pc lv (.int p0 :: .ref (xd Γ 58) :: rest) :=
  w_callV (nn := 1) (i := 58) (As := [.int p0]) (v := none) (T := TX12) (N := 32) (c_X12_errs hf) hl mw_X12_errs (by decide +kernel) ⟨rfl, rfl⟩ hR (lt_lit (by decide)) cel_58 rfl rfl hw hd rfl hp h
/-! WarByHoursModel.number (II)I -/
def rX12_number : Room := { frames := 2, cells := 0, slots := 0, locals := 46 }
def f_X12_number_47 (σ : St) : Option (Int32 × St) :=
  bd (f_X12_good σ) fun r1 s2 =>
  if r1 = 0 then
    some ((0 : Int32), s2)
  else
    bnd ((gf s2 58 11)) fun x4 =>
    bd (f_X12_advance s2) fun _ s6 =>
    some (x4, s6)
theorem b_X12_number_47 {Γ : CX} (σ : St) (h : RR vI Γ (f_X12_number_47 σ)) : WW Γ cX12_number 4 RX12 (some .int) rX12_number σ 47 [(0, .ref (xd Γ 58))] [] := by
  unfold f_X12_number_47 at h
  refine w_aload_n 0 dX12_number_47 rfl rfl rfl ?_
  obtain ⟨r1, s2, h3, h⟩ := h.bd
  refine k_X12_good ml_RX12_128 (Nat.le_of_ble_eq_true rfl) ⟨Nat.le_of_ble_eq_true rfl, Nat.le_of_ble_eq_true rfl⟩ dX12_number_48 rfl h3 ?_
  refine w_if_ne (tgt := 56) dX12_number_51 (by decide) rfl (fun q => ?_) (fun q => ?_)
  · have h := h.ff q
    refine w_aload_n 0 dX12_number_56 rfl rfl rfl ?_
    refine gf_RX12_116 dX12_number_57 rfl ?_
    refine w_nmI (fun x4 ex4 => ?_)
    replace h := h.bnd ex4
    clear ex4
    refine w_istore_n [(3, .int x4), (0, .ref (xd Γ 58))] dX12_number_60 rfl (by decide) rfl rfl ?_
    refine w_aload_n 1 dX12_number_61 rfl rfl rfl ?_
    obtain ⟨r5, s6, h7, h⟩ := h.bd
    refine k_X12_advance ml_RX12_144 (Nat.le_of_ble_eq_true rfl) ⟨Nat.le_of_ble_eq_true rfl, Nat.le_of_ble_eq_true rfl⟩ dX12_number_62 rfl h7 ?_
    refine w_iload_n 0 dX12_number_65 rfl rfl rfl ?_
    exact w_ireturn dX12_number_66 h
  · have h := h.tt q
    refine w_iconst (0 : Int32) dX12_number_54 ic_iconst_0 rfl ?_
    exact w_ireturn dX12_number_55 h
def f_X12_number_20 (v1 : Int32) (v2 : Int32) (σ : St) : Option (Int32 × St) :=
  bd (f_X12_good σ) fun r1 s2 =>
  if r1 = 0 then
    f_X12_number_47 s2
  else
    bd (f_X12_in (gf s2 58 11).toInt64 v1.toInt64 v2.toInt64 s2) fun r4 s5 =>
    if r4 = 0 then
      bd (f_X12_errs (2 : Int32) s5) fun _ s8 =>
      f_X12_number_47 s8
    else
      f_X12_number_47 s5
theorem b_X12_number_20 {Γ : CX} (v1 : Int32) (v2 : Int32) (σ : St) (h : RR vI Γ (f_X12_number_20 v1 v2 σ)) : WW Γ cX12_number 4 RX12 (some .int) rX12_number σ 20 [(0, .ref (xd Γ 58)), (1, .int v1), (2, .int v2)] [] := by
  unfold f_X12_number_20 at h
  refine w_aload_n 0 dX12_number_20 rfl rfl rfl ?_
  obtain ⟨r1, s2, h3, h⟩ := h.bd
  refine k_X12_good ml_RX12_128 (Nat.le_of_ble_eq_true rfl) ⟨Nat.le_of_ble_eq_true rfl, Nat.le_of_ble_eq_true rfl⟩ dX12_number_21 rfl h3 ?_
  refine w_if_eq (tgt := 47) dX12_number_24 (by decide) rfl (fun q => ?_) (fun q => ?_)
  · have h := h.tt q
    exact w_sub [0] rfl (b_X12_number_47 s2 h)
  · have h := h.ff q
    refine w_aload_n 0 dX12_number_27 rfl rfl rfl ?_
    refine gf_RX12_116 dX12_number_28 rfl ?_
    refine w_i2l dX12_number_31 rfl ?_
    refine w_iload_n 1 dX12_number_32 rfl rfl rfl ?_
    refine w_i2l dX12_number_33 rfl ?_
    refine w_iload_n 2 dX12_number_34 rfl rfl rfl ?_
    refine w_i2l dX12_number_35 rfl ?_
    obtain ⟨r4, s5, h6, h⟩ := h.bd
    refine k_X12_in ml_RX12_70 (Nat.le_of_ble_eq_true rfl) ⟨Nat.le_of_ble_eq_true rfl, Nat.le_of_ble_eq_true rfl⟩ dX12_number_36 rfl h6 ?_
    refine w_if_ne (tgt := 47) dX12_number_39 (by decide) rfl (fun q => ?_) (fun q => ?_)
    · have h := h.ff q
      exact w_sub [0] rfl (b_X12_number_47 s5 h)
    · have h := h.tt q
      refine w_aload_n 0 dX12_number_42 rfl rfl rfl ?_
      refine w_iconst (2 : Int32) dX12_number_43 ic_iconst_2 rfl ?_
      obtain ⟨r7, s8, h9, h⟩ := h.bd
      refine k_X12_errs ml_RX12_150 (Nat.le_of_ble_eq_true rfl) ⟨Nat.le_of_ble_eq_true rfl, Nat.le_of_ble_eq_true rfl⟩ dX12_number_44 rfl h9 ?_
      exact w_sub [0] rfl (b_X12_number_47 s8 h)
def f_X12_number (p0 : Int32) (p1 : Int32) (σ : St) : Option (Int32 × St) :=
  bd (f_X12_good σ) fun r1 s2 =>
  if r1 = 0 then
    f_X12_number_20 p0 p1 s2
  else
    if (gf s2 58 10) = (2 : Int32) then
      f_X12_number_20 p0 p1 s2
    else
      bd (f_X12_errs (1 : Int32) s2) fun _ s5 =>
      f_X12_number_20 p0 p1 s5
theorem e_X12_number {Γ : CX} (p0 : Int32) (p1 : Int32) (σ : St) (h : RR vI Γ (f_X12_number p0 p1 σ)) : WW Γ cX12_number 4 RX12 (some .int) rX12_number σ 0 [(0, .ref (xd Γ 58)), (1, .int p0), (2, .int p1)] [] := by
  unfold f_X12_number at h
  refine w_aload_n 0 dX12_number_0 rfl rfl rfl ?_
  obtain ⟨r1, s2, h3, h⟩ := h.bd
  refine k_X12_good ml_RX12_128 (Nat.le_of_ble_eq_true rfl) ⟨Nat.le_of_ble_eq_true rfl, Nat.le_of_ble_eq_true rfl⟩ dX12_number_1 rfl h3 ?_
  refine w_if_eq (tgt := 20) dX12_number_4 (by decide) rfl (fun q => ?_) (fun q => ?_)
  · have h := h.tt q
    exact w_sub [0, 1, 2] rfl (b_X12_number_20 p0 p1 s2 h)
  · have h := h.ff q
    refine w_aload_n 0 dX12_number_7 rfl rfl rfl ?_
    refine gf_RX12_105 dX12_number_8 rfl ?_
    refine w_iconst (2 : Int32) dX12_number_11 ic_iconst_2 rfl ?_
    refine w_icmp_eq (tgt := 20) dX12_number_12 (by decide) rfl (fun q => ?_) (fun q => ?_)
    · have h := h.tt q
      exact w_sub [0, 1, 2] rfl (b_X12_number_20 p0 p1 s2 h)
    · have h := h.ff q
      refine w_aload_n 0 dX12_number_15 rfl rfl rfl ?_
      refine w_iconst (1 : Int32) dX12_number_16 ic_iconst_1 rfl ?_
      obtain ⟨r4, s5, h6, h⟩ := h.bd
      refine k_X12_errs ml_RX12_150 (Nat.le_of_ble_eq_true rfl) ⟨Nat.le_of_ble_eq_true rfl, Nat.le_of_ble_eq_true rfl⟩ dX12_number_17 rfl h6 ?_
      exact w_sub [0, 1, 2] rfl (b_X12_number_20 p0 p1 s5 h)
theorem c_X12_number {l : Launch} {D : va_G} {cy : Nat → ClassId} {ad : Nat → Nat} {p0 : Int32} {p1 : Int32} {σ σ' : St} {r : Int32} (hf : f_X12_number p0 p1 σ = some (r, σ')) : CT l D cy ad yX12_number cX12_number 4 (some .int) rX12_number [.ref (ad 58), .int p0, .int p1] σ (some (.int r)) σ' :=
  ct_of (by decide) (Nat.le_of_ble_eq_true rfl) (fun p e s m args below meth c A => e_X12_number (Γ := (p, l, e, rX12_number, s, m, args, below, meth, c, D, cy, ad, A, 0, 0, MQ below (QC D cy ad (some (.int r)) σ' A) args s 0 0 A)) p0 p1 σ ⟨_, hf, rfl⟩)
theorem k_X12_number {Γ : CX} {cc : ByteArray} {nL : Nat} {own : String} {ret : Option FieldType} {rm : Room} {σ σ' : St} {pc pc' idx : Nat} {lv : List (Nat × Value)} {rest : List Value} {p0 : Int32} {p1 : Int32} {r : Int32} (hl : Cond.methodLink own idx yX12_number ∈ TB) (hw : (rest.map fun v => v.category).sum ≤ 8) (hR : rX12_number.frames + 1 ≤ rm.frames ∧ 8 + (4 + 11) + rX12_number.locals ≤ rm.locals) (hd : decode cc pc = .ok (.invokevirtual idx, 3)) (hp : pc + 3 = pc') (hf : f_X12_number p0 p1 σ = some (r, σ')) (h : WW Γ cc nL own ret rm σ' pc' lv (.int r :: rest)) : WW Γ cc nL own ret rm σ pc lv (.int p1 :: .int p0 :: .ref (xd Γ 58) :: rest) :=
  w_callV (nn := 2) (i := 58) (As := [.int p0, .int p1]) (v := (some (.int r))) (T := TX12) (N := 32) (c_X12_number hf) hl mw_X12_number (by decide +kernel) ⟨rfl, rfl⟩ hR (lt_lit (by decide)) cel_58 rfl rfl hw hd rfl hp h
/-! WarByHoursModel.fault (I)I -/
def rX12_fault : Room := { frames := 0, cells := 0, slots := 0, locals := 0 }
def f_X12_fault_24 (k0 : Int32) (σ : St) : Option (Int32 × St) :=
  some (k0, σ)
theorem b_X12_fault_24 {Γ : CX} (k0 : Int32) (σ : St) (h : RR vI Γ (f_X12_fault_24 k0 σ)) : WW Γ cX12_fault 2 RX12 (some .int) rX12_fault σ 24 [] [.int k0] := by
  unfold f_X12_fault_24 at h
  exact w_ireturn dX12_fault_24 h
def f_X12_fault (p0 : Int32) (σ : St) : Option (Int32 × St) :=
  if p0 = 0 then
    f_X12_fault_24 (gf σ 58 12) σ
  else
    if p0 = (1 : Int32) then
      f_X12_fault_24 (gf σ 58 13) σ
    else
      f_X12_fault_24 (-1 : Int32) σ
theorem e_X12_fault {Γ : CX} (p0 : Int32) (σ : St) (h : RR vI Γ (f_X12_fault p0 σ)) : WW Γ cX12_fault 2 RX12 (some .int) rX12_fault σ 0 [(0, .ref (xd Γ 58)), (1, .int p0)] [] := by
  unfold f_X12_fault at h
  refine w_iload_n 1 dX12_fault_0 rfl rfl rfl ?_
  refine w_if_ne (tgt := 11) dX12_fault_1 (by decide) rfl (fun q => ?_) (fun q => ?_)
  · have h := h.ff q
    refine w_iload_n 1 dX12_fault_11 rfl rfl rfl ?_
    refine w_iconst (1 : Int32) dX12_fault_12 ic_iconst_1 rfl ?_
    refine w_icmp_ne (tgt := 23) dX12_fault_13 (by decide) rfl (fun q => ?_) (fun q => ?_)
    · have h := h.ff q
      refine w_iconst (-1 : Int32) dX12_fault_23 ic_iconst_m1 rfl ?_
      exact w_sub [] rfl (b_X12_fault_24 (-1 : Int32) σ h)
    · have h := h.tt q
      refine w_aload_n 0 dX12_fault_16 rfl rfl rfl ?_
      refine gf_RX12_27 dX12_fault_17 rfl ?_
      refine w_goto (tgt := 24) dX12_fault_20 (by decide) ?_
      exact w_sub [] rfl (b_X12_fault_24 (gf σ 58 13) σ h)
  · have h := h.tt q
    refine w_aload_n 0 dX12_fault_4 rfl rfl rfl ?_
    refine gf_RX12_125 dX12_fault_5 rfl ?_
    refine w_goto (tgt := 24) dX12_fault_8 (by decide) ?_
    exact w_sub [] rfl (b_X12_fault_24 (gf σ 58 12) σ h)
theorem c_X12_fault {l : Launch} {D : va_G} {cy : Nat → ClassId} {ad : Nat → Nat} {p0 : Int32} {σ σ' : St} {r : Int32} (hf : f_X12_fault p0 σ = some (r, σ')) : CT l D cy ad yX12_fault cX12_fault 2 (some .int) rX12_fault [.ref (ad 58), .int p0] σ (some (.int r)) σ' :=
  ct_of (by decide) (Nat.le_of_ble_eq_true rfl) (fun p e s m args below meth c A => e_X12_fault (Γ := (p, l, e, rX12_fault, s, m, args, below, meth, c, D, cy, ad, A, 0, 0, MQ below (QC D cy ad (some (.int r)) σ' A) args s 0 0 A)) p0 σ ⟨_, hf, rfl⟩)
theorem k_X12_fault {Γ : CX} {cc : ByteArray} {nL : Nat} {own : String} {ret : Option FieldType} {rm : Room} {σ σ' : St} {pc pc' idx : Nat} {lv : List (Nat × Value)} {rest : List Value} {p0 : Int32} {r : Int32} (hl : Cond.methodLink own idx yX12_fault ∈ TB) (hw : (rest.map fun v => v.category).sum ≤ 8) (hR : rX12_fault.frames + 1 ≤ rm.frames ∧ 8 + (2 + 11) + rX12_fault.locals ≤ rm.locals) (hd : decode cc pc = .ok (.invokevirtual idx, 3)) (hp : pc + 3 = pc') (hf : f_X12_fault p0 σ = some (r, σ')) (h : WW Γ cc nL own ret rm σ' pc' lv (.int r :: rest)) : WW Γ cc nL own ret rm σ pc lv (.int p0 :: .ref (xd Γ 58) :: rest) :=
  w_callV (nn := 1) (i := 58) (As := [.int p0]) (v := (some (.int r))) (T := TX12) (N := 32) (c_X12_fault hf) hl mw_X12_fault (by decide +kernel) ⟨rfl, rfl⟩ hR (lt_lit (by decide)) cel_58 rfl rfl hw hd rfl hp h
/-! WarByHoursModel.readNeed ()V -/
def rX12_readNeed : Room := { frames := 3, cells := 0, slots := 0, locals := 69 }
def f_X12_readNeed_33 (σ : St) : Option (Unit × St) :=
  some ((), σ)
theorem b_X12_readNeed_33 {Γ : CX} (σ : St) (h : RR vU Γ (f_X12_readNeed_33 σ)) : WW Γ cX12_readNeed 3 RX12 none rX12_readNeed σ 33 [] [] := by
  unfold f_X12_readNeed_33 at h
  exact w_return dX12_readNeed_33 h
def f_X12_readNeed (σ : St) : Option (Unit × St) :=
  bd (f_X12_number (0 : Int32) (1 : Int32) σ) fun r1 s2 =>
  bd (f_X12_number (0 : Int32) (999 : Int32) s2) fun r4 s5 =>
  bd (f_X12_good s5) fun r7 s8 =>
  if r7 = 0 then
    f_X12_readNeed_33 s8
  else
    gd (inb ((11 : Int32) + r1) (ln 64)) <|
    bnd (sr s8 64 ((11 : Int32) + r1).toNatClampNeg r4) fun s11 =>
    f_X12_readNeed_33 s11
theorem e_X12_readNeed {Γ : CX} (σ : St) (h : RR vU Γ (f_X12_readNeed σ)) : WW Γ cX12_readNeed 3 RX12 none rX12_readNeed σ 0 [(0, .ref (xd Γ 58))] [] := by
  unfold f_X12_readNeed at h
  refine w_aload_n 0 dX12_readNeed_0 rfl rfl rfl ?_
  refine w_iconst (0 : Int32) dX12_readNeed_1 ic_iconst_0 rfl ?_
  refine w_iconst (1 : Int32) dX12_readNeed_2 ic_iconst_1 rfl ?_
  obtain ⟨r1, s2, h3, h⟩ := h.bd
  refine k_X12_number ml_RX12_158 (Nat.le_of_ble_eq_true rfl) ⟨Nat.le_of_ble_eq_true rfl, Nat.le_of_ble_eq_true rfl⟩ dX12_readNeed_3 rfl h3 ?_
  refine w_istore_n [(1, .int r1), (0, .ref (xd Γ 58))] dX12_readNeed_6 rfl (by decide) rfl rfl ?_
  refine w_aload_n 1 dX12_readNeed_7 rfl rfl rfl ?_
  refine w_iconst (0 : Int32) dX12_readNeed_8 ic_iconst_0 rfl ?_
  refine w_sipush (999 : Int32) dX12_readNeed_9 ic_sipush_999 rfl ?_
  obtain ⟨r4, s5, h6, h⟩ := h.bd
  refine k_X12_number ml_RX12_158 (Nat.le_of_ble_eq_true rfl) ⟨Nat.le_of_ble_eq_true rfl, Nat.le_of_ble_eq_true rfl⟩ dX12_readNeed_12 rfl h6 ?_
  refine w_istore_n [(2, .int r4), (1, .int r1), (0, .ref (xd Γ 58))] dX12_readNeed_15 rfl (by decide) rfl rfl ?_
  refine w_aload_n 2 dX12_readNeed_16 rfl rfl rfl ?_
  obtain ⟨r7, s8, h9, h⟩ := h.bd
  refine k_X12_good ml_RX12_128 (Nat.le_of_ble_eq_true rfl) ⟨Nat.le_of_ble_eq_true rfl, Nat.le_of_ble_eq_true rfl⟩ dX12_readNeed_17 rfl h9 ?_
  refine w_if_eq (tgt := 33) dX12_readNeed_20 (by decide) rfl (fun q => ?_) (fun q => ?_)
  · have h := h.tt q
    exact w_sub [] rfl (b_X12_readNeed_33 s8 h)
  · have h := h.ff q
    refine w_aload_n 2 dX12_readNeed_23 rfl rfl rfl ?_
    refine gf_RX12_31 dX12_readNeed_24 rfl ?_
    refine w_bipush (11 : Int32) dX12_readNeed_27 ic_bipush_11 rfl ?_
    refine w_iload_n 1 dX12_readNeed_29 rfl rfl rfl ?_
    refine w_iadd dX12_readNeed_30 rfl ?_
    refine w_iload_n 0 dX12_readNeed_31 rfl rfl rfl ?_
    obtain ⟨hi10, h⟩ := h.gd
    refine w_iast (i := 64) (lt_lit (by decide)) rfl hi10 dX12_readNeed_32 rfl ?_
    obtain ⟨s11, es11⟩ : ∃ y : St, y = (sr s8 64 ((11 : Int32) + r1).toNatClampNeg r4) := ⟨_, rfl⟩
    rw [← es11]
    replace h := h.bnd es11
    clear es11
    exact w_sub [] rfl (b_X12_readNeed_33 s11 h)
theorem c_X12_readNeed {l : Launch} {D : va_G} {cy : Nat → ClassId} {ad : Nat → Nat}  {σ σ' : St} {r : Unit} (hf : f_X12_readNeed σ = some (r, σ')) : CT l D cy ad yX12_readNeed cX12_readNeed 3 none rX12_readNeed [.ref (ad 58)] σ none σ' :=
  ct_of (by decide) (Nat.le_of_ble_eq_true rfl) (fun p e s m args below meth c A => e_X12_readNeed (Γ := (p, l, e, rX12_readNeed, s, m, args, below, meth, c, D, cy, ad, A, 0, 0, MQ below (QC D cy ad none σ' A) args s 0 0 A)) σ ⟨_, hf, rfl⟩)
theorem k_X12_readNeed {Γ : CX} {cc : ByteArray} {nL : Nat} {own : String} {ret : Option FieldType} {rm : Room} {σ σ' : St} {pc pc' idx : Nat} {lv : List (Nat × Value)} {rest : List Value}  {r : Unit} (hl : Cond.methodLink own idx yX12_readNeed ∈ TB) (hw : (rest.map fun v => v.category).sum ≤ 8) (hR : rX12_readNeed.frames + 1 ≤ rm.frames ∧ 8 + (3 + 11) + rX12_readNeed.locals ≤ rm.locals) (hd : decode cc pc = .ok (.invokevirtual idx, 3)) (hp : pc + 3 = pc') (hf : f_X12_readNeed σ = some (r, σ')) (h : WW Γ cc nL own ret rm σ' pc' lv (rest)) : WW Γ cc nL own ret rm σ pc lv (.ref (xd Γ 58) :: rest) :=
  w_callV (nn := 0) (i := 58) (As := []) (v := none) (T := TX12) (N := 32) (c_X12_readNeed hf) hl mw_X12_readNeed (by decide +kernel) ⟨rfl, rfl⟩ hR (lt_lit (by decide)) cel_58 rfl rfl hw hd rfl hp h
/-! WarByHoursModel.train (II)I -/
def rX12_train : Room := { frames := 2, cells := 0, slots := 0, locals := 46 }
def f_X12_train_31 (k0 : Int32) (σ : St) : Option (Int32 × St) :=
  some (k0, σ)
theorem b_X12_train_31 {Γ : CX} (k0 : Int32) (σ : St) (h : RR vI Γ (f_X12_train_31 k0 σ)) : WW Γ cX12_train 3 RX12 (some .int) rX12_train σ 31 [] [.int k0] := by
  unfold f_X12_train_31 at h
  exact w_ireturn dX12_train_31 h
def f_X12_train_29 (σ : St) : Option (Int32 × St) :=
  f_X12_train_31 (-2 : Int32) σ
theorem b_X12_train_29 {Γ : CX} (σ : St) (h : RR vI Γ (f_X12_train_29 σ)) : WW Γ cX12_train 3 RX12 (some .int) rX12_train σ 29 [] [] := by
  unfold f_X12_train_29 at h
  refine w_bipush (-2 : Int32) dX12_train_29 ic_bipush_m2 rfl ?_
  exact w_sub [] rfl (b_X12_train_31 (-2 : Int32) σ h)
def f_X12_train (p0 : Int32) (p1 : Int32) (σ : St) : Option (Int32 × St) :=
  bd (f_X12_isTrain p0 σ) fun r1 s2 =>
  if r1 = 0 then
    f_X12_train_29 s2
  else
    bd (f_X12_in p1.toInt64 (0 : Int64) (5 : Int64) s2) fun r4 s5 =>
    if r4 = 0 then
      f_X12_train_29 s5
    else
      bd (f_X12_of p0 p1 s5) fun r7 s8 =>
      f_X12_train_31 r7 s8
theorem e_X12_train {Γ : CX} (p0 : Int32) (p1 : Int32) (σ : St) (h : RR vI Γ (f_X12_train p0 p1 σ)) : WW Γ cX12_train 3 RX12 (some .int) rX12_train σ 0 [(0, .ref (xd Γ 58)), (1, .int p0), (2, .int p1)] [] := by
  unfold f_X12_train at h
  refine w_aload_n 0 dX12_train_0 rfl rfl rfl ?_
  refine w_iload_n 1 dX12_train_1 rfl rfl rfl ?_
  obtain ⟨r1, s2, h3, h⟩ := h.bd
  refine k_X12_isTrain ml_RX12_230 (Nat.le_of_ble_eq_true rfl) ⟨Nat.le_of_ble_eq_true rfl, Nat.le_of_ble_eq_true rfl⟩ dX12_train_2 rfl h3 ?_
  refine w_if_eq (tgt := 29) dX12_train_5 (by decide) rfl (fun q => ?_) (fun q => ?_)
  · have h := h.tt q
    exact w_sub [] rfl (b_X12_train_29 s2 h)
  · have h := h.ff q
    refine w_iload_n 2 dX12_train_8 rfl rfl rfl ?_
    refine w_i2l dX12_train_9 rfl ?_
    refine w_lconst (0 : Int64) dX12_train_10 rfl rfl ?_
    refine w_ldc2_w (5 : Int64) dX12_train_11 cl_RX12_234 rfl ?_
    obtain ⟨r4, s5, h6, h⟩ := h.bd
    refine k_X12_in ml_RX12_70 (Nat.le_of_ble_eq_true rfl) ⟨Nat.le_of_ble_eq_true rfl, Nat.le_of_ble_eq_true rfl⟩ dX12_train_14 rfl h6 ?_
    refine w_if_eq (tgt := 29) dX12_train_17 (by decide) rfl (fun q => ?_) (fun q => ?_)
    · have h := h.tt q
      exact w_sub [] rfl (b_X12_train_29 s5 h)
    · have h := h.ff q
      refine w_aload_n 0 dX12_train_20 rfl rfl rfl ?_
      refine w_iload_n 1 dX12_train_21 rfl rfl rfl ?_
      refine w_iload_n 2 dX12_train_22 rfl rfl rfl ?_
      obtain ⟨r7, s8, h9, h⟩ := h.bd
      refine k_X12_of ml_RX12_82 (Nat.le_of_ble_eq_true rfl) ⟨Nat.le_of_ble_eq_true rfl, Nat.le_of_ble_eq_true rfl⟩ dX12_train_23 rfl h9 ?_
      refine w_goto (tgt := 31) dX12_train_26 (by decide) ?_
      exact w_sub [] rfl (b_X12_train_31 r7 s8 h)
theorem c_X12_train {l : Launch} {D : va_G} {cy : Nat → ClassId} {ad : Nat → Nat} {p0 : Int32} {p1 : Int32} {σ σ' : St} {r : Int32} (hf : f_X12_train p0 p1 σ = some (r, σ')) : CT l D cy ad yX12_train cX12_train 3 (some .int) rX12_train [.ref (ad 58), .int p0, .int p1] σ (some (.int r)) σ' :=
  ct_of (by decide) (Nat.le_of_ble_eq_true rfl) (fun p e s m args below meth c A => e_X12_train (Γ := (p, l, e, rX12_train, s, m, args, below, meth, c, D, cy, ad, A, 0, 0, MQ below (QC D cy ad (some (.int r)) σ' A) args s 0 0 A)) p0 p1 σ ⟨_, hf, rfl⟩)
theorem k_X12_train {Γ : CX} {cc : ByteArray} {nL : Nat} {own : String} {ret : Option FieldType} {rm : Room} {σ σ' : St} {pc pc' idx : Nat} {lv : List (Nat × Value)} {rest : List Value} {p0 : Int32} {p1 : Int32} {r : Int32} (hl : Cond.methodLink own idx yX12_train ∈ TB) (hw : (rest.map fun v => v.category).sum ≤ 8) (hR : rX12_train.frames + 1 ≤ rm.frames ∧ 8 + (3 + 11) + rX12_train.locals ≤ rm.locals) (hd : decode cc pc = .ok (.invokevirtual idx, 3)) (hp : pc + 3 = pc') (hf : f_X12_train p0 p1 σ = some (r, σ')) (h : WW Γ cc nL own ret rm σ' pc' lv (.int r :: rest)) : WW Γ cc nL own ret rm σ pc lv (.int p1 :: .int p0 :: .ref (xd Γ 58) :: rest) :=
  w_callV (nn := 2) (i := 58) (As := [.int p0, .int p1]) (v := (some (.int r))) (T := TX12) (N := 32) (c_X12_train hf) hl mw_X12_train (by decide +kernel) ⟨rfl, rfl⟩ hR (lt_lit (by decide)) cel_58 rfl rfl hw hd rfl hp h
/-! WarByHoursModel.need (I)I -/
def rX12_need : Room := { frames := 2, cells := 0, slots := 0, locals := 46 }
def f_X12_need_22 (k0 : Int32) (σ : St) : Option (Int32 × St) :=
  some (k0, σ)
theorem b_X12_need_22 {Γ : CX} (k0 : Int32) (σ : St) (h : RR vI Γ (f_X12_need_22 k0 σ)) : WW Γ cX12_need 2 RX12 (some .int) rX12_need σ 22 [] [.int k0] := by
  unfold f_X12_need_22 at h
  exact w_ireturn dX12_need_22 h
def f_X12_need (p0 : Int32) (σ : St) : Option (Int32 × St) :=
  bd (f_X12_isSide p0 σ) fun r1 s2 =>
  if r1 = 0 then
    f_X12_need_22 (-2 : Int32) s2
  else
    gd (inb ((11 : Int32) + p0) (ln 59)) <|
    f_X12_need_22 (gr s2 59 ((11 : Int32) + p0).toNatClampNeg) s2
theorem e_X12_need {Γ : CX} (p0 : Int32) (σ : St) (h : RR vI Γ (f_X12_need p0 σ)) : WW Γ cX12_need 2 RX12 (some .int) rX12_need σ 0 [(0, .ref (xd Γ 58)), (1, .int p0)] [] := by
  unfold f_X12_need at h
  refine w_aload_n 0 dX12_need_0 rfl rfl rfl ?_
  refine w_iload_n 1 dX12_need_1 rfl rfl rfl ?_
  obtain ⟨r1, s2, h3, h⟩ := h.bd
  refine k_X12_isSide ml_RX12_236 (Nat.le_of_ble_eq_true rfl) ⟨Nat.le_of_ble_eq_true rfl, Nat.le_of_ble_eq_true rfl⟩ dX12_need_2 rfl h3 ?_
  refine w_if_eq (tgt := 20) dX12_need_5 (by decide) rfl (fun q => ?_) (fun q => ?_)
  · have h := h.tt q
    refine w_bipush (-2 : Int32) dX12_need_20 ic_bipush_m2 rfl ?_
    exact w_sub [] rfl (b_X12_need_22 (-2 : Int32) s2 h)
  · have h := h.ff q
    refine w_aload_n 0 dX12_need_8 rfl rfl rfl ?_
    refine gf_RX12_9 dX12_need_9 rfl ?_
    refine w_bipush (11 : Int32) dX12_need_12 ic_bipush_11 rfl ?_
    refine w_iload_n 1 dX12_need_14 rfl rfl rfl ?_
    refine w_iadd dX12_need_15 rfl ?_
    obtain ⟨hi4, h⟩ := h.gd
    refine w_iald (i := 59) (lt_lit (by decide)) rfl hi4 dX12_need_16 rfl ?_
    refine w_goto (tgt := 22) dX12_need_17 (by decide) ?_
    exact w_sub [] rfl (b_X12_need_22 (gr s2 59 ((11 : Int32) + p0).toNatClampNeg) s2 h)
theorem c_X12_need {l : Launch} {D : va_G} {cy : Nat → ClassId} {ad : Nat → Nat} {p0 : Int32} {σ σ' : St} {r : Int32} (hf : f_X12_need p0 σ = some (r, σ')) : CT l D cy ad yX12_need cX12_need 2 (some .int) rX12_need [.ref (ad 58), .int p0] σ (some (.int r)) σ' :=
  ct_of (by decide) (Nat.le_of_ble_eq_true rfl) (fun p e s m args below meth c A => e_X12_need (Γ := (p, l, e, rX12_need, s, m, args, below, meth, c, D, cy, ad, A, 0, 0, MQ below (QC D cy ad (some (.int r)) σ' A) args s 0 0 A)) p0 σ ⟨_, hf, rfl⟩)
theorem k_X12_need {Γ : CX} {cc : ByteArray} {nL : Nat} {own : String} {ret : Option FieldType} {rm : Room} {σ σ' : St} {pc pc' idx : Nat} {lv : List (Nat × Value)} {rest : List Value} {p0 : Int32} {r : Int32} (hl : Cond.methodLink own idx yX12_need ∈ TB) (hw : (rest.map fun v => v.category).sum ≤ 8) (hR : rX12_need.frames + 1 ≤ rm.frames ∧ 8 + (2 + 11) + rX12_need.locals ≤ rm.locals) (hd : decode cc pc = .ok (.invokevirtual idx, 3)) (hp : pc + 3 = pc') (hf : f_X12_need p0 σ = some (r, σ')) (h : WW Γ cc nL own ret rm σ' pc' lv (.int r :: rest)) : WW Γ cc nL own ret rm σ pc lv (.int p0 :: .ref (xd Γ 58) :: rest) :=
  w_callV (nn := 1) (i := 58) (As := [.int p0]) (v := (some (.int r))) (T := TX12) (N := 32) (c_X12_need hf) hl mw_X12_need (by decide +kernel) ⟨rfl, rfl⟩ hR (lt_lit (by decide)) cel_58 rfl rfl hw hd rfl hp h
/-! WarByHoursModel.isTea (I)Z -/
def rX12_isTea : Room := { frames := 1, cells := 0, slots := 0, locals := 25 }
def g_X12_isTea_2 (K2 : Int32 × Int32 × St → Option (Int32 × St)) (x : Int32 × Int32 × St) : Option (Int32 × St) := match x with
  | (v1, v2, σ) =>
  gd (inb (5 : Int32) (ln 59)) <|
  if (gr σ 59 (5 : Int32).toNatClampNeg) ≤ v2 then
    gd (bz (0 : Int32)) <| some ((0 : Int32), σ)
  else
    gd (inb ((67 : Int32) + ((2 : Int32) * v2)) (ln 59)) <|
    gd (inb (((67 : Int32) + ((2 : Int32) * v2)) + (1 : Int32)) (ln 59)) <|
    bd (f_X12_in v1.toInt64 (gr σ 59 ((67 : Int32) + ((2 : Int32) * v2)).toNatClampNeg).toInt64 (gr σ 59 (((67 : Int32) + ((2 : Int32) * v2)) + (1 : Int32)).toNatClampNeg).toInt64 σ) fun r4 s5 =>
    if r4 = 0 then
      bnd (v2 + (1 : Int32)) fun x7 =>
      K2 (v1, x7, s5)
    else
      gd (bz (1 : Int32)) <| some ((1 : Int32), s5)
theorem l_X12_isTea_2 {Γ : CX} : ∀ (n : Nat) (v1 : Int32) (v2 : Int32) (σ : St), RR vI Γ (itr (g_X12_isTea_2) n (v1, v2, σ)) → WW Γ cX12_isTea 3 RX12 (some .boolean) rX12_isTea σ 2 [(0, .ref (xd Γ 58)), (1, .int v1), (2, .int v2)] [] := by
  intro n
  induction n with
  | zero => intro v1 v2 σ h; exact RR.no h
  | succ n hK2 =>
  intro v1 v2 σ h
  have h : RR vI Γ (g_X12_isTea_2 (itr (g_X12_isTea_2) n) (v1, v2, σ)) := h
  generalize itr (g_X12_isTea_2) n = K2 at h hK2
  unfold g_X12_isTea_2 at h
  dsimp only at h
  refine w_iload_n 2 dX12_isTea_2 rfl rfl rfl ?_
  refine w_aload_n 0 dX12_isTea_3 rfl rfl rfl ?_
  refine gf_RX12_9 dX12_isTea_4 rfl ?_
  refine w_iconst (5 : Int32) dX12_isTea_7 ic_iconst_5 rfl ?_
  obtain ⟨hi1, h⟩ := h.gd
  refine w_iald (i := 59) (lt_lit (by decide)) rfl hi1 dX12_isTea_8 rfl ?_
  refine w_icmp_ge (tgt := 54) dX12_isTea_9 (by decide) rfl (fun q => ?_) (fun q => ?_)
  · have h := h.tt q
    refine w_iconst (0 : Int32) dX12_isTea_54 ic_iconst_0 rfl ?_
    obtain ⟨hb, h⟩ := h.gd
    exact w_zreturn dX12_isTea_55 hb h
  · have h := h.ff q
    refine w_iload_n 1 dX12_isTea_12 rfl rfl rfl ?_
    refine w_i2l dX12_isTea_13 rfl ?_
    refine w_aload_n 0 dX12_isTea_14 rfl rfl rfl ?_
    refine gf_RX12_9 dX12_isTea_15 rfl ?_
    refine w_bipush (67 : Int32) dX12_isTea_18 ic_bipush_67 rfl ?_
    refine w_iconst (2 : Int32) dX12_isTea_20 ic_iconst_2 rfl ?_
    refine w_iload_n 2 dX12_isTea_21 rfl rfl rfl ?_
    refine w_imul dX12_isTea_22 rfl ?_
    refine w_iadd dX12_isTea_23 rfl ?_
    obtain ⟨hi2, h⟩ := h.gd
    refine w_iald (i := 59) (lt_lit (by decide)) rfl hi2 dX12_isTea_24 rfl ?_
    refine w_i2l dX12_isTea_25 rfl ?_
    refine w_aload_n 0 dX12_isTea_26 rfl rfl rfl ?_
    refine gf_RX12_9 dX12_isTea_27 rfl ?_
    refine w_bipush (67 : Int32) dX12_isTea_30 ic_bipush_67 rfl ?_
    refine w_iconst (2 : Int32) dX12_isTea_32 ic_iconst_2 rfl ?_
    refine w_iload_n 2 dX12_isTea_33 rfl rfl rfl ?_
    refine w_imul dX12_isTea_34 rfl ?_
    refine w_iadd dX12_isTea_35 rfl ?_
    refine w_iconst (1 : Int32) dX12_isTea_36 ic_iconst_1 rfl ?_
    refine w_iadd dX12_isTea_37 rfl ?_
    obtain ⟨hi3, h⟩ := h.gd
    refine w_iald (i := 59) (lt_lit (by decide)) rfl hi3 dX12_isTea_38 rfl ?_
    refine w_i2l dX12_isTea_39 rfl ?_
    obtain ⟨r4, s5, h6, h⟩ := h.bd
    refine k_X12_in ml_RX12_70 (Nat.le_of_ble_eq_true rfl) ⟨Nat.le_of_ble_eq_true rfl, Nat.le_of_ble_eq_true rfl⟩ dX12_isTea_40 rfl h6 ?_
    refine w_if_eq (tgt := 48) dX12_isTea_43 (by decide) rfl (fun q => ?_) (fun q => ?_)
    · have h := h.tt q
      obtain ⟨x7, ex7⟩ : ∃ y : Int32, y = (v2 + (1 : Int32)) := ⟨_, rfl⟩
      replace h := h.bnd ex7
      refine w_iinc 2 x7 [(2, .int x7), (0, .ref (xd Γ 58)), (1, .int v1)] dX12_isTea_48 rfl (by rw [ex7, ic_iconst_1]) (by decide) rfl rfl ?_
      clear ex7
      refine w_goto (tgt := 2) dX12_isTea_51 (by decide) ?_
      exact w_sub [1, 2, 0] rfl (hK2 v1 x7 s5 h)
    · have h := h.ff q
      refine w_iconst (1 : Int32) dX12_isTea_46 ic_iconst_1 rfl ?_
      obtain ⟨hb, h⟩ := h.gd
      exact w_zreturn dX12_isTea_47 hb h
def f_X12_isTea (p0 : Int32) (σ : St) : Option (Int32 × St) :=
  itr (g_X12_isTea_2) FU (p0, (0 : Int32), σ)
theorem e_X12_isTea {Γ : CX} (p0 : Int32) (σ : St) (h : RR vI Γ (f_X12_isTea p0 σ)) : WW Γ cX12_isTea 3 RX12 (some .boolean) rX12_isTea σ 0 [(0, .ref (xd Γ 58)), (1, .int p0)] [] := by
  unfold f_X12_isTea at h
  refine w_iconst (0 : Int32) dX12_isTea_0 ic_iconst_0 rfl ?_
  refine w_istore_n [(2, .int (0 : Int32)), (0, .ref (xd Γ 58)), (1, .int p0)] dX12_isTea_1 rfl (by decide) rfl rfl ?_
  exact w_sub [1, 2, 0] rfl (l_X12_isTea_2 FU p0 (0 : Int32) σ h)
theorem c_X12_isTea {l : Launch} {D : va_G} {cy : Nat → ClassId} {ad : Nat → Nat} {p0 : Int32} {σ σ' : St} {r : Int32} (hf : f_X12_isTea p0 σ = some (r, σ')) : CT l D cy ad yX12_isTea cX12_isTea 3 (some .boolean) rX12_isTea [.ref (ad 58), .int p0] σ (some (.int r)) σ' :=
  ct_of (by decide) (Nat.le_of_ble_eq_true rfl) (fun p e s m args below meth c A => e_X12_isTea (Γ := (p, l, e, rX12_isTea, s, m, args, below, meth, c, D, cy, ad, A, 0, 0, MQ below (QC D cy ad (some (.int r)) σ' A) args s 0 0 A)) p0 σ ⟨_, hf, rfl⟩)
theorem k_X12_isTea {Γ : CX} {cc : ByteArray} {nL : Nat} {own : String} {ret : Option FieldType} {rm : Room} {σ σ' : St} {pc pc' idx : Nat} {lv : List (Nat × Value)} {rest : List Value} {p0 : Int32} {r : Int32} (hl : Cond.methodLink own idx yX12_isTea ∈ TB) (hw : (rest.map fun v => v.category).sum ≤ 8) (hR : rX12_isTea.frames + 1 ≤ rm.frames ∧ 8 + (3 + 11) + rX12_isTea.locals ≤ rm.locals) (hd : decode cc pc = .ok (.invokevirtual idx, 3)) (hp : pc + 3 = pc') (hf : f_X12_isTea p0 σ = some (r, σ')) (h : WW Γ cc nL own ret rm σ' pc' lv (.int r :: rest)) : WW Γ cc nL own ret rm σ pc lv (.int p0 :: .ref (xd Γ 58) :: rest) :=
  w_callV (nn := 1) (i := 58) (As := [.int p0]) (v := (some (.int r))) (T := TX12) (N := 32) (c_X12_isTea hf) hl mw_X12_isTea (by decide +kernel) ⟨rfl, rfl⟩ hR (lt_lit (by decide)) cel_58 rfl rfl hw hd rfl hp h
/-! WarByHoursModel.tea (I)I -/
def rX12_tea : Room := { frames := 2, cells := 0, slots := 0, locals := 47 }
def f_X12_tea_43 (k0 : Int32) (σ : St) : Option (Int32 × St) :=
  some (k0, σ)
theorem b_X12_tea_43 {Γ : CX} (k0 : Int32) (σ : St) (h : RR vI Γ (f_X12_tea_43 k0 σ)) : WW Γ cX12_tea 2 RX12 (some .int) rX12_tea σ 43 [] [.int k0] := by
  unfold f_X12_tea_43 at h
  exact w_ireturn dX12_tea_43 h
def f_X12_tea_41 (σ : St) : Option (Int32 × St) :=
  f_X12_tea_43 (-2 : Int32) σ
theorem b_X12_tea_41 {Γ : CX} (σ : St) (h : RR vI Γ (f_X12_tea_41 σ)) : WW Γ cX12_tea 2 RX12 (some .int) rX12_tea σ 41 [] [] := by
  unfold f_X12_tea_41 at h
  refine w_bipush (-2 : Int32) dX12_tea_41 ic_bipush_m2 rfl ?_
  exact w_sub [] rfl (b_X12_tea_43 (-2 : Int32) σ h)
def f_X12_tea (p0 : Int32) (σ : St) : Option (Int32 × St) :=
  bd (f_X12_isWar σ) fun r1 s2 =>
  if r1 = 0 then
    f_X12_tea_41 s2
  else
    gd (inb (0 : Int32) (ln 59)) <|
    bd (f_X12_in p0.toInt64 (0 : Int64) ((gr s2 59 (0 : Int32).toNatClampNeg) - (1 : Int32)).toInt64 s2) fun r5 s6 =>
    if r5 = 0 then
      f_X12_tea_41 s6
    else
      bd (f_X12_isTea p0 s6) fun r8 s9 =>
      if r8 = 0 then
        f_X12_tea_43 (0 : Int32) s9
      else
        f_X12_tea_43 (1 : Int32) s9
theorem e_X12_tea {Γ : CX} (p0 : Int32) (σ : St) (h : RR vI Γ (f_X12_tea p0 σ)) : WW Γ cX12_tea 2 RX12 (some .int) rX12_tea σ 0 [(0, .ref (xd Γ 58)), (1, .int p0)] [] := by
  unfold f_X12_tea at h
  refine w_aload_n 0 dX12_tea_0 rfl rfl rfl ?_
  obtain ⟨r1, s2, h3, h⟩ := h.bd
  refine k_X12_isWar ml_RX12_74 (Nat.le_of_ble_eq_true rfl) ⟨Nat.le_of_ble_eq_true rfl, Nat.le_of_ble_eq_true rfl⟩ dX12_tea_1 rfl h3 ?_
  refine w_if_eq (tgt := 41) dX12_tea_4 (by decide) rfl (fun q => ?_) (fun q => ?_)
  · have h := h.tt q
    exact w_sub [] rfl (b_X12_tea_41 s2 h)
  · have h := h.ff q
    refine w_iload_n 1 dX12_tea_7 rfl rfl rfl ?_
    refine w_i2l dX12_tea_8 rfl ?_
    refine w_lconst (0 : Int64) dX12_tea_9 rfl rfl ?_
    refine w_aload_n 0 dX12_tea_10 rfl rfl rfl ?_
    refine gf_RX12_9 dX12_tea_11 rfl ?_
    refine w_iconst (0 : Int32) dX12_tea_14 ic_iconst_0 rfl ?_
    obtain ⟨hi4, h⟩ := h.gd
    refine w_iald (i := 59) (lt_lit (by decide)) rfl hi4 dX12_tea_15 rfl ?_
    refine w_iconst (1 : Int32) dX12_tea_16 ic_iconst_1 rfl ?_
    refine w_isub dX12_tea_17 rfl ?_
    refine w_i2l dX12_tea_18 rfl ?_
    obtain ⟨r5, s6, h7, h⟩ := h.bd
    refine k_X12_in ml_RX12_70 (Nat.le_of_ble_eq_true rfl) ⟨Nat.le_of_ble_eq_true rfl, Nat.le_of_ble_eq_true rfl⟩ dX12_tea_19 rfl h7 ?_
    refine w_if_eq (tgt := 41) dX12_tea_22 (by decide) rfl (fun q => ?_) (fun q => ?_)
    · have h := h.tt q
      exact w_sub [] rfl (b_X12_tea_41 s6 h)
    · have h := h.ff q
      refine w_aload_n 0 dX12_tea_25 rfl rfl rfl ?_
      refine w_iload_n 1 dX12_tea_26 rfl rfl rfl ?_
      obtain ⟨r8, s9, h10, h⟩ := h.bd
      refine k_X12_isTea ml_RX12_239 (Nat.le_of_ble_eq_true rfl) ⟨Nat.le_of_ble_eq_true rfl, Nat.le_of_ble_eq_true rfl⟩ dX12_tea_27 rfl h10 ?_
      refine w_if_eq (tgt := 37) dX12_tea_30 (by decide) rfl (fun q => ?_) (fun q => ?_)
      · have h := h.tt q
        refine w_iconst (0 : Int32) dX12_tea_37 ic_iconst_0 rfl ?_
        refine w_goto (tgt := 43) dX12_tea_38 (by decide) ?_
        exact w_sub [] rfl (b_X12_tea_43 (0 : Int32) s9 h)
      · have h := h.ff q
        refine w_iconst (1 : Int32) dX12_tea_33 ic_iconst_1 rfl ?_
        refine w_goto (tgt := 43) dX12_tea_34 (by decide) ?_
        exact w_sub [] rfl (b_X12_tea_43 (1 : Int32) s9 h)
theorem c_X12_tea {l : Launch} {D : va_G} {cy : Nat → ClassId} {ad : Nat → Nat} {p0 : Int32} {σ σ' : St} {r : Int32} (hf : f_X12_tea p0 σ = some (r, σ')) : CT l D cy ad yX12_tea cX12_tea 2 (some .int) rX12_tea [.ref (ad 58), .int p0] σ (some (.int r)) σ' :=
  ct_of (by decide) (Nat.le_of_ble_eq_true rfl) (fun p e s m args below meth c A => e_X12_tea (Γ := (p, l, e, rX12_tea, s, m, args, below, meth, c, D, cy, ad, A, 0, 0, MQ below (QC D cy ad (some (.int r)) σ' A) args s 0 0 A)) p0 σ ⟨_, hf, rfl⟩)
theorem k_X12_tea {Γ : CX} {cc : ByteArray} {nL : Nat} {own : String} {ret : Option FieldType} {rm : Room} {σ σ' : St} {pc pc' idx : Nat} {lv : List (Nat × Value)} {rest : List Value} {p0 : Int32} {r : Int32} (hl : Cond.methodLink own idx yX12_tea ∈ TB) (hw : (rest.map fun v => v.category).sum ≤ 8) (hR : rX12_tea.frames + 1 ≤ rm.frames ∧ 8 + (2 + 11) + rX12_tea.locals ≤ rm.locals) (hd : decode cc pc = .ok (.invokevirtual idx, 3)) (hp : pc + 3 = pc') (hf : f_X12_tea p0 σ = some (r, σ')) (h : WW Γ cc nL own ret rm σ' pc' lv (.int r :: rest)) : WW Γ cc nL own ret rm σ pc lv (.int p0 :: .ref (xd Γ 58) :: rest) :=
  w_callV (nn := 1) (i := 58) (As := [.int p0]) (v := (some (.int r))) (T := TX12) (N := 32) (c_X12_tea hf) hl mw_X12_tea (by decide +kernel) ⟨rfl, rfl⟩ hR (lt_lit (by decide)) cel_58 rfl rfl hw hd rfl hp h
/-! WarByHoursModel.cannon (II)I -/
def rX12_cannon : Room := { frames := 1, cells := 0, slots := 0, locals := 25 }
def f_X12_cannon_49 (k0 : Int32) (σ : St) : Option (Int32 × St) :=
  some (k0, σ)
theorem b_X12_cannon_49 {Γ : CX} (k0 : Int32) (σ : St) (h : RR vI Γ (f_X12_cannon_49 k0 σ)) : WW Γ cX12_cannon 3 RX12 (some .int) rX12_cannon σ 49 [] [.int k0] := by
  unfold f_X12_cannon_49 at h
  exact w_ireturn dX12_cannon_49 h
def f_X12_cannon_47 (σ : St) : Option (Int32 × St) :=
  f_X12_cannon_49 (-2 : Int32) σ
theorem b_X12_cannon_47 {Γ : CX} (σ : St) (h : RR vI Γ (f_X12_cannon_47 σ)) : WW Γ cX12_cannon 3 RX12 (some .int) rX12_cannon σ 47 [] [] := by
  unfold f_X12_cannon_47 at h
  refine w_bipush (-2 : Int32) dX12_cannon_47 ic_bipush_m2 rfl ?_
  exact w_sub [] rfl (b_X12_cannon_49 (-2 : Int32) σ h)
def f_X12_cannon (p0 : Int32) (p1 : Int32) (σ : St) : Option (Int32 × St) :=
  gd (inb (6 : Int32) (ln 59)) <|
  bd (f_X12_in p0.toInt64 (0 : Int64) ((gr σ 59 (6 : Int32).toNatClampNeg) - (1 : Int32)).toInt64 σ) fun r2 s3 =>
  if r2 = 0 then
    f_X12_cannon_47 s3
  else
    bd (f_X12_in p1.toInt64 (0 : Int64) (3 : Int64) s3) fun r5 s6 =>
    if r5 = 0 then
      f_X12_cannon_47 s6
    else
      gd (inb (((75 : Int32) + ((4 : Int32) * p0)) + p1) (ln 59)) <|
      f_X12_cannon_49 (gr s6 59 (((75 : Int32) + ((4 : Int32) * p0)) + p1).toNatClampNeg) s6
theorem e_X12_cannon {Γ : CX} (p0 : Int32) (p1 : Int32) (σ : St) (h : RR vI Γ (f_X12_cannon p0 p1 σ)) : WW Γ cX12_cannon 3 RX12 (some .int) rX12_cannon σ 0 [(0, .ref (xd Γ 58)), (1, .int p0), (2, .int p1)] [] := by
  unfold f_X12_cannon at h
  refine w_iload_n 1 dX12_cannon_0 rfl rfl rfl ?_
  refine w_i2l dX12_cannon_1 rfl ?_
  refine w_lconst (0 : Int64) dX12_cannon_2 rfl rfl ?_
  refine w_aload_n 0 dX12_cannon_3 rfl rfl rfl ?_
  refine gf_RX12_9 dX12_cannon_4 rfl ?_
  refine w_bipush (6 : Int32) dX12_cannon_7 ic_bipush_6 rfl ?_
  obtain ⟨hi1, h⟩ := h.gd
  refine w_iald (i := 59) (lt_lit (by decide)) rfl hi1 dX12_cannon_9 rfl ?_
  refine w_iconst (1 : Int32) dX12_cannon_10 ic_iconst_1 rfl ?_
  refine w_isub dX12_cannon_11 rfl ?_
  refine w_i2l dX12_cannon_12 rfl ?_
  obtain ⟨r2, s3, h4, h⟩ := h.bd
  refine k_X12_in ml_RX12_70 (Nat.le_of_ble_eq_true rfl) ⟨Nat.le_of_ble_eq_true rfl, Nat.le_of_ble_eq_true rfl⟩ dX12_cannon_13 rfl h4 ?_
  refine w_if_eq (tgt := 47) dX12_cannon_16 (by decide) rfl (fun q => ?_) (fun q => ?_)
  · have h := h.tt q
    exact w_sub [] rfl (b_X12_cannon_47 s3 h)
  · have h := h.ff q
    refine w_iload_n 2 dX12_cannon_19 rfl rfl rfl ?_
    refine w_i2l dX12_cannon_20 rfl ?_
    refine w_lconst (0 : Int64) dX12_cannon_21 rfl rfl ?_
    refine w_ldc2_w (3 : Int64) dX12_cannon_22 cl_RX12_242 rfl ?_
    obtain ⟨r5, s6, h7, h⟩ := h.bd
    refine k_X12_in ml_RX12_70 (Nat.le_of_ble_eq_true rfl) ⟨Nat.le_of_ble_eq_true rfl, Nat.le_of_ble_eq_true rfl⟩ dX12_cannon_25 rfl h7 ?_
    refine w_if_eq (tgt := 47) dX12_cannon_28 (by decide) rfl (fun q => ?_) (fun q => ?_)
    · have h := h.tt q
      exact w_sub [] rfl (b_X12_cannon_47 s6 h)
    · have h := h.ff q
      refine w_aload_n 0 dX12_cannon_31 rfl rfl rfl ?_
      refine gf_RX12_9 dX12_cannon_32 rfl ?_
      refine w_bipush (75 : Int32) dX12_cannon_35 ic_bipush_75 rfl ?_
      refine w_iconst (4 : Int32) dX12_cannon_37 ic_iconst_4 rfl ?_
      refine w_iload_n 1 dX12_cannon_38 rfl rfl rfl ?_
      refine w_imul dX12_cannon_39 rfl ?_
      refine w_iadd dX12_cannon_40 rfl ?_
      refine w_iload_n 2 dX12_cannon_41 rfl rfl rfl ?_
      refine w_iadd dX12_cannon_42 rfl ?_
      obtain ⟨hi8, h⟩ := h.gd
      refine w_iald (i := 59) (lt_lit (by decide)) rfl hi8 dX12_cannon_43 rfl ?_
      refine w_goto (tgt := 49) dX12_cannon_44 (by decide) ?_
      exact w_sub [] rfl (b_X12_cannon_49 (gr s6 59 (((75 : Int32) + ((4 : Int32) * p0)) + p1).toNatClampNeg) s6 h)
theorem c_X12_cannon {l : Launch} {D : va_G} {cy : Nat → ClassId} {ad : Nat → Nat} {p0 : Int32} {p1 : Int32} {σ σ' : St} {r : Int32} (hf : f_X12_cannon p0 p1 σ = some (r, σ')) : CT l D cy ad yX12_cannon cX12_cannon 3 (some .int) rX12_cannon [.ref (ad 58), .int p0, .int p1] σ (some (.int r)) σ' :=
  ct_of (by decide) (Nat.le_of_ble_eq_true rfl) (fun p e s m args below meth c A => e_X12_cannon (Γ := (p, l, e, rX12_cannon, s, m, args, below, meth, c, D, cy, ad, A, 0, 0, MQ below (QC D cy ad (some (.int r)) σ' A) args s 0 0 A)) p0 p1 σ ⟨_, hf, rfl⟩)
theorem k_X12_cannon {Γ : CX} {cc : ByteArray} {nL : Nat} {own : String} {ret : Option FieldType} {rm : Room} {σ σ' : St} {pc pc' idx : Nat} {lv : List (Nat × Value)} {rest : List Value} {p0 : Int32} {p1 : Int32} {r : Int32} (hl : Cond.methodLink own idx yX12_cannon ∈ TB) (hw : (rest.map fun v => v.category).sum ≤ 8) (hR : rX12_cannon.frames + 1 ≤ rm.frames ∧ 8 + (3 + 11) + rX12_cannon.locals ≤ rm.locals) (hd : decode cc pc = .ok (.invokevirtual idx, 3)) (hp : pc + 3 = pc') (hf : f_X12_cannon p0 p1 σ = some (r, σ')) (h : WW Γ cc nL own ret rm σ' pc' lv (.int r :: rest)) : WW Γ cc nL own ret rm σ pc lv (.int p1 :: .int p0 :: .ref (xd Γ 58) :: rest) :=
  w_callV (nn := 2) (i := 58) (As := [.int p0, .int p1]) (v := (some (.int r))) (T := TX12) (N := 32) (c_X12_cannon hf) hl mw_X12_cannon (by decide +kernel) ⟨rfl, rfl⟩ hR (lt_lit (by decide)) cel_58 rfl rfl hw hd rfl hp h
/-! WarByHoursModel.rule (II)I -/
def rX12_rule : Room := { frames := 1, cells := 0, slots := 0, locals := 25 }
def f_X12_rule_47 (k0 : Int32) (σ : St) : Option (Int32 × St) :=
  some (k0, σ)
theorem b_X12_rule_47 {Γ : CX} (k0 : Int32) (σ : St) (h : RR vI Γ (f_X12_rule_47 k0 σ)) : WW Γ cX12_rule 3 RX12 (some .int) rX12_rule σ 47 [] [.int k0] := by
  unfold f_X12_rule_47 at h
  exact w_ireturn dX12_rule_47 h
def f_X12_rule_45 (σ : St) : Option (Int32 × St) :=
  f_X12_rule_47 (-2 : Int32) σ
theorem b_X12_rule_45 {Γ : CX} (σ : St) (h : RR vI Γ (f_X12_rule_45 σ)) : WW Γ cX12_rule 3 RX12 (some .int) rX12_rule σ 45 [] [] := by
  unfold f_X12_rule_45 at h
  refine w_bipush (-2 : Int32) dX12_rule_45 ic_bipush_m2 rfl ?_
  exact w_sub [] rfl (b_X12_rule_47 (-2 : Int32) σ h)
def f_X12_rule (p0 : Int32) (p1 : Int32) (σ : St) : Option (Int32 × St) :=
  gd (inb (7 : Int32) (ln 59)) <|
  bd (f_X12_in p0.toInt64 (0 : Int64) ((gr σ 59 (7 : Int32).toNatClampNeg) - (1 : Int32)).toInt64 σ) fun r2 s3 =>
  if r2 = 0 then
    f_X12_rule_45 s3
  else
    bd (f_X12_in p1.toInt64 (0 : Int64) (1 : Int64) s3) fun r5 s6 =>
    if r5 = 0 then
      f_X12_rule_45 s6
    else
      gd (inb (((107 : Int32) + ((2 : Int32) * p0)) + p1) (ln 59)) <|
      f_X12_rule_47 (gr s6 59 (((107 : Int32) + ((2 : Int32) * p0)) + p1).toNatClampNeg) s6
theorem e_X12_rule {Γ : CX} (p0 : Int32) (p1 : Int32) (σ : St) (h : RR vI Γ (f_X12_rule p0 p1 σ)) : WW Γ cX12_rule 3 RX12 (some .int) rX12_rule σ 0 [(0, .ref (xd Γ 58)), (1, .int p0), (2, .int p1)] [] := by
  unfold f_X12_rule at h
  refine w_iload_n 1 dX12_rule_0 rfl rfl rfl ?_
  refine w_i2l dX12_rule_1 rfl ?_
  refine w_lconst (0 : Int64) dX12_rule_2 rfl rfl ?_
  refine w_aload_n 0 dX12_rule_3 rfl rfl rfl ?_
  refine gf_RX12_9 dX12_rule_4 rfl ?_
  refine w_bipush (7 : Int32) dX12_rule_7 ic_bipush_7 rfl ?_
  obtain ⟨hi1, h⟩ := h.gd
  refine w_iald (i := 59) (lt_lit (by decide)) rfl hi1 dX12_rule_9 rfl ?_
  refine w_iconst (1 : Int32) dX12_rule_10 ic_iconst_1 rfl ?_
  refine w_isub dX12_rule_11 rfl ?_
  refine w_i2l dX12_rule_12 rfl ?_
  obtain ⟨r2, s3, h4, h⟩ := h.bd
  refine k_X12_in ml_RX12_70 (Nat.le_of_ble_eq_true rfl) ⟨Nat.le_of_ble_eq_true rfl, Nat.le_of_ble_eq_true rfl⟩ dX12_rule_13 rfl h4 ?_
  refine w_if_eq (tgt := 45) dX12_rule_16 (by decide) rfl (fun q => ?_) (fun q => ?_)
  · have h := h.tt q
    exact w_sub [] rfl (b_X12_rule_45 s3 h)
  · have h := h.ff q
    refine w_iload_n 2 dX12_rule_19 rfl rfl rfl ?_
    refine w_i2l dX12_rule_20 rfl ?_
    refine w_lconst (0 : Int64) dX12_rule_21 rfl rfl ?_
    refine w_lconst (1 : Int64) dX12_rule_22 rfl rfl ?_
    obtain ⟨r5, s6, h7, h⟩ := h.bd
    refine k_X12_in ml_RX12_70 (Nat.le_of_ble_eq_true rfl) ⟨Nat.le_of_ble_eq_true rfl, Nat.le_of_ble_eq_true rfl⟩ dX12_rule_23 rfl h7 ?_
    refine w_if_eq (tgt := 45) dX12_rule_26 (by decide) rfl (fun q => ?_) (fun q => ?_)
    · have h := h.tt q
      exact w_sub [] rfl (b_X12_rule_45 s6 h)
    · have h := h.ff q
      refine w_aload_n 0 dX12_rule_29 rfl rfl rfl ?_
      refine gf_RX12_9 dX12_rule_30 rfl ?_
      refine w_bipush (107 : Int32) dX12_rule_33 ic_bipush_107 rfl ?_
      refine w_iconst (2 : Int32) dX12_rule_35 ic_iconst_2 rfl ?_
      refine w_iload_n 1 dX12_rule_36 rfl rfl rfl ?_
      refine w_imul dX12_rule_37 rfl ?_
      refine w_iadd dX12_rule_38 rfl ?_
      refine w_iload_n 2 dX12_rule_39 rfl rfl rfl ?_
      refine w_iadd dX12_rule_40 rfl ?_
      obtain ⟨hi8, h⟩ := h.gd
      refine w_iald (i := 59) (lt_lit (by decide)) rfl hi8 dX12_rule_41 rfl ?_
      refine w_goto (tgt := 47) dX12_rule_42 (by decide) ?_
      exact w_sub [] rfl (b_X12_rule_47 (gr s6 59 (((107 : Int32) + ((2 : Int32) * p0)) + p1).toNatClampNeg) s6 h)
theorem c_X12_rule {l : Launch} {D : va_G} {cy : Nat → ClassId} {ad : Nat → Nat} {p0 : Int32} {p1 : Int32} {σ σ' : St} {r : Int32} (hf : f_X12_rule p0 p1 σ = some (r, σ')) : CT l D cy ad yX12_rule cX12_rule 3 (some .int) rX12_rule [.ref (ad 58), .int p0, .int p1] σ (some (.int r)) σ' :=
  ct_of (by decide) (Nat.le_of_ble_eq_true rfl) (fun p e s m args below meth c A => e_X12_rule (Γ := (p, l, e, rX12_rule, s, m, args, below, meth, c, D, cy, ad, A, 0, 0, MQ below (QC D cy ad (some (.int r)) σ' A) args s 0 0 A)) p0 p1 σ ⟨_, hf, rfl⟩)
theorem k_X12_rule {Γ : CX} {cc : ByteArray} {nL : Nat} {own : String} {ret : Option FieldType} {rm : Room} {σ σ' : St} {pc pc' idx : Nat} {lv : List (Nat × Value)} {rest : List Value} {p0 : Int32} {p1 : Int32} {r : Int32} (hl : Cond.methodLink own idx yX12_rule ∈ TB) (hw : (rest.map fun v => v.category).sum ≤ 8) (hR : rX12_rule.frames + 1 ≤ rm.frames ∧ 8 + (3 + 11) + rX12_rule.locals ≤ rm.locals) (hd : decode cc pc = .ok (.invokevirtual idx, 3)) (hp : pc + 3 = pc') (hf : f_X12_rule p0 p1 σ = some (r, σ')) (h : WW Γ cc nL own ret rm σ' pc' lv (.int r :: rest)) : WW Γ cc nL own ret rm σ pc lv (.int p1 :: .int p0 :: .ref (xd Γ 58) :: rest) :=
  w_callV (nn := 2) (i := 58) (As := [.int p0, .int p1]) (v := (some (.int r))) (T := TX12) (N := 32) (c_X12_rule hf) hl mw_X12_rule (by decide +kernel) ⟨rfl, rfl⟩ hR (lt_lit (by decide)) cel_58 rfl rfl hw hd rfl hp h
/-! WarByHoursModel.spy (I)I -/
def rX12_spy : Room := { frames := 1, cells := 0, slots := 0, locals := 25 }
def f_X12_spy_33 (k0 : Int32) (σ : St) : Option (Int32 × St) :=
  some (k0, σ)
theorem b_X12_spy_33 {Γ : CX} (k0 : Int32) (σ : St) (h : RR vI Γ (f_X12_spy_33 k0 σ)) : WW Γ cX12_spy 2 RX12 (some .int) rX12_spy σ 33 [] [.int k0] := by
  unfold f_X12_spy_33 at h
  exact w_ireturn dX12_spy_33 h
def f_X12_spy (p0 : Int32) (σ : St) : Option (Int32 × St) :=
  gd (inb (8 : Int32) (ln 59)) <|
  bd (f_X12_in p0.toInt64 (0 : Int64) ((gr σ 59 (8 : Int32).toNatClampNeg) - (1 : Int32)).toInt64 σ) fun r2 s3 =>
  if r2 = 0 then
    f_X12_spy_33 (-2 : Int32) s3
  else
    gd (inb ((115 : Int32) + p0) (ln 59)) <|
    f_X12_spy_33 (gr s3 59 ((115 : Int32) + p0).toNatClampNeg) s3
theorem e_X12_spy {Γ : CX} (p0 : Int32) (σ : St) (h : RR vI Γ (f_X12_spy p0 σ)) : WW Γ cX12_spy 2 RX12 (some .int) rX12_spy σ 0 [(0, .ref (xd Γ 58)), (1, .int p0)] [] := by
  unfold f_X12_spy at h
  refine w_iload_n 1 dX12_spy_0 rfl rfl rfl ?_
  refine w_i2l dX12_spy_1 rfl ?_
  refine w_lconst (0 : Int64) dX12_spy_2 rfl rfl ?_
  refine w_aload_n 0 dX12_spy_3 rfl rfl rfl ?_
  refine gf_RX12_9 dX12_spy_4 rfl ?_
  refine w_bipush (8 : Int32) dX12_spy_7 ic_bipush_8 rfl ?_
  obtain ⟨hi1, h⟩ := h.gd
  refine w_iald (i := 59) (lt_lit (by decide)) rfl hi1 dX12_spy_9 rfl ?_
  refine w_iconst (1 : Int32) dX12_spy_10 ic_iconst_1 rfl ?_
  refine w_isub dX12_spy_11 rfl ?_
  refine w_i2l dX12_spy_12 rfl ?_
  obtain ⟨r2, s3, h4, h⟩ := h.bd
  refine k_X12_in ml_RX12_70 (Nat.le_of_ble_eq_true rfl) ⟨Nat.le_of_ble_eq_true rfl, Nat.le_of_ble_eq_true rfl⟩ dX12_spy_13 rfl h4 ?_
  refine w_if_eq (tgt := 31) dX12_spy_16 (by decide) rfl (fun q => ?_) (fun q => ?_)
  · have h := h.tt q
    refine w_bipush (-2 : Int32) dX12_spy_31 ic_bipush_m2 rfl ?_
    exact w_sub [] rfl (b_X12_spy_33 (-2 : Int32) s3 h)
  · have h := h.ff q
    refine w_aload_n 0 dX12_spy_19 rfl rfl rfl ?_
    refine gf_RX12_9 dX12_spy_20 rfl ?_
    refine w_bipush (115 : Int32) dX12_spy_23 ic_bipush_115 rfl ?_
    refine w_iload_n 1 dX12_spy_25 rfl rfl rfl ?_
    refine w_iadd dX12_spy_26 rfl ?_
    obtain ⟨hi5, h⟩ := h.gd
    refine w_iald (i := 59) (lt_lit (by decide)) rfl hi5 dX12_spy_27 rfl ?_
    refine w_goto (tgt := 33) dX12_spy_28 (by decide) ?_
    exact w_sub [] rfl (b_X12_spy_33 (gr s3 59 ((115 : Int32) + p0).toNatClampNeg) s3 h)
theorem c_X12_spy {l : Launch} {D : va_G} {cy : Nat → ClassId} {ad : Nat → Nat} {p0 : Int32} {σ σ' : St} {r : Int32} (hf : f_X12_spy p0 σ = some (r, σ')) : CT l D cy ad yX12_spy cX12_spy 2 (some .int) rX12_spy [.ref (ad 58), .int p0] σ (some (.int r)) σ' :=
  ct_of (by decide) (Nat.le_of_ble_eq_true rfl) (fun p e s m args below meth c A => e_X12_spy (Γ := (p, l, e, rX12_spy, s, m, args, below, meth, c, D, cy, ad, A, 0, 0, MQ below (QC D cy ad (some (.int r)) σ' A) args s 0 0 A)) p0 σ ⟨_, hf, rfl⟩)
theorem k_X12_spy {Γ : CX} {cc : ByteArray} {nL : Nat} {own : String} {ret : Option FieldType} {rm : Room} {σ σ' : St} {pc pc' idx : Nat} {lv : List (Nat × Value)} {rest : List Value} {p0 : Int32} {r : Int32} (hl : Cond.methodLink own idx yX12_spy ∈ TB) (hw : (rest.map fun v => v.category).sum ≤ 8) (hR : rX12_spy.frames + 1 ≤ rm.frames ∧ 8 + (2 + 11) + rX12_spy.locals ≤ rm.locals) (hd : decode cc pc = .ok (.invokevirtual idx, 3)) (hp : pc + 3 = pc') (hf : f_X12_spy p0 σ = some (r, σ')) (h : WW Γ cc nL own ret rm σ' pc' lv (.int r :: rest)) : WW Γ cc nL own ret rm σ pc lv (.int p0 :: .ref (xd Γ 58) :: rest) :=
  w_callV (nn := 1) (i := 58) (As := [.int p0]) (v := (some (.int r))) (T := TX12) (N := 32) (c_X12_spy hf) hl mw_X12_spy (by decide +kernel) ⟨rfl, rfl⟩ hR (lt_lit (by decide)) cel_58 rfl rfl hw hd rfl hp h
/-! WarByHoursModel.comesAt (II)I -/
def rX12_comesAt : Room := { frames := 1, cells := 0, slots := 0, locals := 22 }
def f_X12_comesAt (p0 : Int32) (p1 : Int32) (σ : St) : Option (Int32 × St) :=
  bd (f_X12_of p0 (2 : Int32) σ) fun r1 s2 =>
  bd (f_X12_bit p1 p0 s2) fun r4 s5 =>
  bd (f_X12_of p0 (4 : Int32) s5) fun r7 s8 =>
  some ((r1 + (r4 * r7)), s8)
theorem e_X12_comesAt {Γ : CX} (p0 : Int32) (p1 : Int32) (σ : St) (h : RR vI Γ (f_X12_comesAt p0 p1 σ)) : WW Γ cX12_comesAt 3 RX12 (some .int) rX12_comesAt σ 0 [(0, .ref (xd Γ 58)), (1, .int p0), (2, .int p1)] [] := by
  unfold f_X12_comesAt at h
  refine w_aload_n 0 dX12_comesAt_0 rfl rfl rfl ?_
  refine w_iload_n 1 dX12_comesAt_1 rfl rfl rfl ?_
  refine w_iconst (2 : Int32) dX12_comesAt_2 ic_iconst_2 rfl ?_
  obtain ⟨r1, s2, h3, h⟩ := h.bd
  refine k_X12_of ml_RX12_82 (Nat.le_of_ble_eq_true rfl) ⟨Nat.le_of_ble_eq_true rfl, Nat.le_of_ble_eq_true rfl⟩ dX12_comesAt_3 rfl h3 ?_
  refine w_iload_n 2 dX12_comesAt_6 rfl rfl rfl ?_
  refine w_iload_n 1 dX12_comesAt_7 rfl rfl rfl ?_
  obtain ⟨r4, s5, h6, h⟩ := h.bd
  refine k_X12_bit ml_RX12_86 (Nat.le_of_ble_eq_true rfl) ⟨Nat.le_of_ble_eq_true rfl, Nat.le_of_ble_eq_true rfl⟩ dX12_comesAt_8 rfl h6 ?_
  refine w_aload_n 0 dX12_comesAt_11 rfl rfl rfl ?_
  refine w_iload_n 1 dX12_comesAt_12 rfl rfl rfl ?_
  refine w_iconst (4 : Int32) dX12_comesAt_13 ic_iconst_4 rfl ?_
  obtain ⟨r7, s8, h9, h⟩ := h.bd
  refine k_X12_of ml_RX12_82 (Nat.le_of_ble_eq_true rfl) ⟨Nat.le_of_ble_eq_true rfl, Nat.le_of_ble_eq_true rfl⟩ dX12_comesAt_14 rfl h9 ?_
  refine w_imul dX12_comesAt_17 rfl ?_
  refine w_iadd dX12_comesAt_18 rfl ?_
  exact w_ireturn dX12_comesAt_19 h
theorem c_X12_comesAt {l : Launch} {D : va_G} {cy : Nat → ClassId} {ad : Nat → Nat} {p0 : Int32} {p1 : Int32} {σ σ' : St} {r : Int32} (hf : f_X12_comesAt p0 p1 σ = some (r, σ')) : CT l D cy ad yX12_comesAt cX12_comesAt 3 (some .int) rX12_comesAt [.ref (ad 58), .int p0, .int p1] σ (some (.int r)) σ' :=
  ct_of (by decide) (Nat.le_of_ble_eq_true rfl) (fun p e s m args below meth c A => e_X12_comesAt (Γ := (p, l, e, rX12_comesAt, s, m, args, below, meth, c, D, cy, ad, A, 0, 0, MQ below (QC D cy ad (some (.int r)) σ' A) args s 0 0 A)) p0 p1 σ ⟨_, hf, rfl⟩)
theorem k_X12_comesAt {Γ : CX} {cc : ByteArray} {nL : Nat} {own : String} {ret : Option FieldType} {rm : Room} {σ σ' : St} {pc pc' idx : Nat} {lv : List (Nat × Value)} {rest : List Value} {p0 : Int32} {p1 : Int32} {r : Int32} (hl : Cond.methodLink own idx yX12_comesAt ∈ TB) (hw : (rest.map fun v => v.category).sum ≤ 8) (hR : rX12_comesAt.frames + 1 ≤ rm.frames ∧ 8 + (3 + 11) + rX12_comesAt.locals ≤ rm.locals) (hd : decode cc pc = .ok (.invokevirtual idx, 3)) (hp : pc + 3 = pc') (hf : f_X12_comesAt p0 p1 σ = some (r, σ')) (h : WW Γ cc nL own ret rm σ' pc' lv (.int r :: rest)) : WW Γ cc nL own ret rm σ pc lv (.int p1 :: .int p0 :: .ref (xd Γ 58) :: rest) :=
  w_callV (nn := 2) (i := 58) (As := [.int p0, .int p1]) (v := (some (.int r))) (T := TX12) (N := 32) (c_X12_comesAt hf) hl mw_X12_comesAt (by decide +kernel) ⟨rfl, rfl⟩ hR (lt_lit (by decide)) cel_58 rfl rfl hw hd rfl hp h
/-! WarByHoursModel.menOf (III)I -/
def rX12_menOf : Room := { frames := 2, cells := 0, slots := 0, locals := 44 }
def f_X12_menOf_52 (K6 : Int32 × Int32 × Int32 × Int32 × Int32 × St → Option (Int32 × St)) (v1 : Int32) (v2 : Int32) (v3 : Int32) (v5 : Int32) (k0 : Int32) (k1 : Int32) (σ : St) : Option (Int32 × St) :=
  bnd ((k1 + k0)) fun x1 =>
  bnd (v5 + (1 : Int32)) fun x2 =>
  K6 (v1, v2, v3, x1, x2, σ)
theorem b_X12_menOf_52 {Γ : CX} (K6 : Int32 × Int32 × Int32 × Int32 × Int32 × St → Option (Int32 × St)) (hK6 : ∀ (v1 : Int32) (v2 : Int32) (v3 : Int32) (v4 : Int32) (v5 : Int32) (σ : St), RR vI Γ (K6 (v1, v2, v3, v4, v5, σ)) → WW Γ cX12_menOf 6 RX12 (some .int) rX12_menOf σ 6 [(0, .ref (xd Γ 58)), (1, .int v1), (2, .int v2), (3, .int v3), (4, .int v4), (5, .int v5)] []) (v1 : Int32) (v2 : Int32) (v3 : Int32) (v5 : Int32) (k0 : Int32) (k1 : Int32) (σ : St) (h : RR vI Γ (f_X12_menOf_52 K6 v1 v2 v3 v5 k0 k1 σ)) : WW Γ cX12_menOf 6 RX12 (some .int) rX12_menOf σ 52 [(0, .ref (xd Γ 58)), (1, .int v1), (2, .int v2), (3, .int v3), (5, .int v5)] [.int k0, .int k1] := by
  unfold f_X12_menOf_52 at h
  refine w_iadd dX12_menOf_52 rfl ?_
  refine w_nmI (fun x1 ex1 => ?_)
  replace h := h.bnd ex1
  clear ex1
  refine w_istore [(4, .int x1), (0, .ref (xd Γ 58)), (1, .int v1), (2, .int v2), (3, .int v3), (5, .int v5)] dX12_menOf_53 (by decide) rfl rfl ?_
  obtain ⟨x2, ex2⟩ : ∃ y : Int32, y = (v5 + (1 : Int32)) := ⟨_, rfl⟩
  replace h := h.bnd ex2
  refine w_iinc 5 x2 [(5, .int x2), (4, .int x1), (0, .ref (xd Γ 58)), (1, .int v1), (2, .int v2), (3, .int v3)] dX12_menOf_55 rfl (by rw [ex2, ic_iconst_1]) (by decide) rfl rfl ?_
  clear ex2
  refine w_goto (tgt := 6) dX12_menOf_58 (by decide) ?_
  exact w_sub [2, 3, 4, 5, 1, 0] rfl (hK6 v1 v2 v3 x1 x2 σ h)
def f_X12_menOf_51 (K6 : Int32 × Int32 × Int32 × Int32 × Int32 × St → Option (Int32 × St)) (v1 : Int32) (v2 : Int32) (v3 : Int32) (v5 : Int32) (k0 : Int32) (σ : St) : Option (Int32 × St) :=
  f_X12_menOf_52 K6 v1 v2 v3 v5 (0 : Int32) k0 σ
theorem b_X12_menOf_51 {Γ : CX} (K6 : Int32 × Int32 × Int32 × Int32 × Int32 × St → Option (Int32 × St)) (hK6 : ∀ (v1 : Int32) (v2 : Int32) (v3 : Int32) (v4 : Int32) (v5 : Int32) (σ : St), RR vI Γ (K6 (v1, v2, v3, v4, v5, σ)) → WW Γ cX12_menOf 6 RX12 (some .int) rX12_menOf σ 6 [(0, .ref (xd Γ 58)), (1, .int v1), (2, .int v2), (3, .int v3), (4, .int v4), (5, .int v5)] []) (v1 : Int32) (v2 : Int32) (v3 : Int32) (v5 : Int32) (k0 : Int32) (σ : St) (h : RR vI Γ (f_X12_menOf_51 K6 v1 v2 v3 v5 k0 σ)) : WW Γ cX12_menOf 6 RX12 (some .int) rX12_menOf σ 51 [(0, .ref (xd Γ 58)), (1, .int v1), (2, .int v2), (3, .int v3), (5, .int v5)] [.int k0] := by
  unfold f_X12_menOf_51 at h
  refine w_iconst (0 : Int32) dX12_menOf_51 ic_iconst_0 rfl ?_
  exact w_sub [0, 1, 2, 3, 4] rfl (b_X12_menOf_52 K6 hK6 v1 v2 v3 v5 (0 : Int32) k0 σ h)
def g_X12_menOf_6 (K6 : Int32 × Int32 × Int32 × Int32 × Int32 × St → Option (Int32 × St)) (x : Int32 × Int32 × Int32 × Int32 × Int32 × St) : Option (Int32 × St) := match x with
  | (v1, v2, v3, v4, v5, σ) =>
  gd (inb (4 : Int32) (ln 59)) <|
  if (gr σ 59 (4 : Int32).toNatClampNeg) ≤ v5 then
    some (v4, σ)
  else
    bd (f_X12_of v5 (0 : Int32) σ) fun r2 s3 =>
    if r2 = v1 then
      bd (f_X12_comesAt v5 v3 s3) fun r5 s6 =>
      if v2 < r5 then
        f_X12_menOf_51 K6 v1 v2 v3 v5 v4 s6
      else
        bd (f_X12_of v5 (1 : Int32) s6) fun r8 s9 =>
        f_X12_menOf_52 K6 v1 v2 v3 v5 r8 v4 s9
    else
      f_X12_menOf_51 K6 v1 v2 v3 v5 v4 s3
theorem l_X12_menOf_6 {Γ : CX} : ∀ (n : Nat) (v1 : Int32) (v2 : Int32) (v3 : Int32) (v4 : Int32) (v5 : Int32) (σ : St), RR vI Γ (itr (g_X12_menOf_6) n (v1, v2, v3, v4, v5, σ)) → WW Γ cX12_menOf 6 RX12 (some .int) rX12_menOf σ 6 [(0, .ref (xd Γ 58)), (1, .int v1), (2, .int v2), (3, .int v3), (4, .int v4), (5, .int v5)] [] := by
  intro n
  induction n with
  | zero => intro v1 v2 v3 v4 v5 σ h; exact RR.no h
  | succ n hK6 =>
  intro v1 v2 v3 v4 v5 σ h
  have h : RR vI Γ (g_X12_menOf_6 (itr (g_X12_menOf_6) n) (v1, v2, v3, v4, v5, σ)) := h
  generalize itr (g_X12_menOf_6) n = K6 at h hK6
  unfold g_X12_menOf_6 at h
  dsimp only at h
  refine w_iload 5 dX12_menOf_6 rfl rfl ?_
  refine w_aload_n 0 dX12_menOf_8 rfl rfl rfl ?_
  refine gf_RX12_9 dX12_menOf_9 rfl ?_
  refine w_iconst (4 : Int32) dX12_menOf_12 ic_iconst_4 rfl ?_
  obtain ⟨hi1, h⟩ := h.gd
  refine w_iald (i := 59) (lt_lit (by decide)) rfl hi1 dX12_menOf_13 rfl ?_
  refine w_icmp_ge (tgt := 61) dX12_menOf_14 (by decide) rfl (fun q => ?_) (fun q => ?_)
  · have h := h.tt q
    refine w_iload 4 dX12_menOf_61 rfl rfl ?_
    exact w_ireturn dX12_menOf_63 h
  · have h := h.ff q
    refine w_iload 4 dX12_menOf_17 rfl rfl ?_
    refine w_aload_n 0 dX12_menOf_19 rfl rfl rfl ?_
    refine w_iload 5 dX12_menOf_20 rfl rfl ?_
    refine w_iconst (0 : Int32) dX12_menOf_22 ic_iconst_0 rfl ?_
    obtain ⟨r2, s3, h4, h⟩ := h.bd
    refine k_X12_of ml_RX12_82 (Nat.le_of_ble_eq_true rfl) ⟨Nat.le_of_ble_eq_true rfl, Nat.le_of_ble_eq_true rfl⟩ dX12_menOf_23 rfl h4 ?_
    refine w_iload_n 1 dX12_menOf_26 rfl rfl rfl ?_
    refine w_icmp_ne (tgt := 51) dX12_menOf_27 (by decide) rfl (fun q => ?_) (fun q => ?_)
    · have h := h.ff q
      exact w_sub [0, 1, 2, 3, 5] rfl (b_X12_menOf_51 K6 hK6 v1 v2 v3 v5 v4 s3 h)
    · have h := h.tt q
      refine w_aload_n 0 dX12_menOf_30 rfl rfl rfl ?_
      refine w_iload 5 dX12_menOf_31 rfl rfl ?_
      refine w_iload_n 3 dX12_menOf_33 rfl rfl rfl ?_
      obtain ⟨r5, s6, h7, h⟩ := h.bd
      refine k_X12_comesAt ml_RX12_244 (Nat.le_of_ble_eq_true rfl) ⟨Nat.le_of_ble_eq_true rfl, Nat.le_of_ble_eq_true rfl⟩ dX12_menOf_34 rfl h7 ?_
      refine w_iload_n 2 dX12_menOf_37 rfl rfl rfl ?_
      refine w_icmp_gt (tgt := 51) dX12_menOf_38 (by decide) rfl (fun q => ?_) (fun q => ?_)
      · have h := h.tt q
        exact w_sub [0, 1, 2, 3, 5] rfl (b_X12_menOf_51 K6 hK6 v1 v2 v3 v5 v4 s6 h)
      · have h := h.ff q
        refine w_aload_n 0 dX12_menOf_41 rfl rfl rfl ?_
        refine w_iload 5 dX12_menOf_42 rfl rfl ?_
        refine w_iconst (1 : Int32) dX12_menOf_44 ic_iconst_1 rfl ?_
        obtain ⟨r8, s9, h10, h⟩ := h.bd
        refine k_X12_of ml_RX12_82 (Nat.le_of_ble_eq_true rfl) ⟨Nat.le_of_ble_eq_true rfl, Nat.le_of_ble_eq_true rfl⟩ dX12_menOf_45 rfl h10 ?_
        refine w_goto (tgt := 52) dX12_menOf_48 (by decide) ?_
        exact w_sub [0, 1, 2, 3, 5] rfl (b_X12_menOf_52 K6 hK6 v1 v2 v3 v5 r8 v4 s9 h)
def f_X12_menOf (p0 : Int32) (p1 : Int32) (p2 : Int32) (σ : St) : Option (Int32 × St) :=
  itr (g_X12_menOf_6) FU (p0, p1, p2, (0 : Int32), (0 : Int32), σ)
theorem e_X12_menOf {Γ : CX} (p0 : Int32) (p1 : Int32) (p2 : Int32) (σ : St) (h : RR vI Γ (f_X12_menOf p0 p1 p2 σ)) : WW Γ cX12_menOf 6 RX12 (some .int) rX12_menOf σ 0 [(0, .ref (xd Γ 58)), (1, .int p0), (2, .int p1), (3, .int p2)] [] := by
  unfold f_X12_menOf at h
  refine w_iconst (0 : Int32) dX12_menOf_0 ic_iconst_0 rfl ?_
  refine w_istore [(4, .int (0 : Int32)), (0, .ref (xd Γ 58)), (1, .int p0), (2, .int p1), (3, .int p2)] dX12_menOf_1 (by decide) rfl rfl ?_
  refine w_iconst (0 : Int32) dX12_menOf_3 ic_iconst_0 rfl ?_
  refine w_istore [(5, .int (0 : Int32)), (4, .int (0 : Int32)), (0, .ref (xd Γ 58)), (1, .int p0), (2, .int p1), (3, .int p2)] dX12_menOf_4 (by decide) rfl rfl ?_
  exact w_sub [2, 3, 4, 5, 1, 0] rfl (l_X12_menOf_6 FU p0 p1 p2 (0 : Int32) (0 : Int32) σ h)
theorem c_X12_menOf {l : Launch} {D : va_G} {cy : Nat → ClassId} {ad : Nat → Nat} {p0 : Int32} {p1 : Int32} {p2 : Int32} {σ σ' : St} {r : Int32} (hf : f_X12_menOf p0 p1 p2 σ = some (r, σ')) : CT l D cy ad yX12_menOf cX12_menOf 6 (some .int) rX12_menOf [.ref (ad 58), .int p0, .int p1, .int p2] σ (some (.int r)) σ' :=
  ct_of (by decide) (Nat.le_of_ble_eq_true rfl) (fun p e s m args below meth c A => e_X12_menOf (Γ := (p, l, e, rX12_menOf, s, m, args, below, meth, c, D, cy, ad, A, 0, 0, MQ below (QC D cy ad (some (.int r)) σ' A) args s 0 0 A)) p0 p1 p2 σ ⟨_, hf, rfl⟩)
theorem k_X12_menOf {Γ : CX} {cc : ByteArray} {nL : Nat} {own : String} {ret : Option FieldType} {rm : Room} {σ σ' : St} {pc pc' idx : Nat} {lv : List (Nat × Value)} {rest : List Value} {p0 : Int32} {p1 : Int32} {p2 : Int32} {r : Int32} (hl : Cond.methodLink own idx yX12_menOf ∈ TB) (hw : (rest.map fun v => v.category).sum ≤ 8) (hR : rX12_menOf.frames + 1 ≤ rm.frames ∧ 8 + (6 + 11) + rX12_menOf.locals ≤ rm.locals) (hd : decode cc pc = .ok (.invokevirtual idx, 3)) (hp : pc + 3 = pc') (hf : f_X12_menOf p0 p1 p2 σ = some (r, σ')) (h : WW Γ cc nL own ret rm σ' pc' lv (.int r :: rest)) : WW Γ cc nL own ret rm σ pc lv (.int p2 :: .int p1 :: .int p0 :: .ref (xd Γ 58) :: rest) :=
  w_callV (nn := 3) (i := 58) (As := [.int p0, .int p1, .int p2]) (v := (some (.int r))) (T := TX12) (N := 32) (c_X12_menOf hf) hl mw_X12_menOf (by decide +kernel) ⟨rfl, rfl⟩ hR (lt_lit (by decide)) cel_58 rfl rfl hw hd rfl hp h
/-! WarByHoursModel.frontOf (II)I -/
def rX12_frontOf : Room := { frames := 3, cells := 0, slots := 0, locals := 69 }
def f_X12_frontOf_75 (K9 : Int32 × Int32 × Int32 × St → Option (Int32 × St)) (v1 : Int32) (v2 : Int32) (v3 : Int32) (k0 : Int32) (k1 : Int32) (k2 : Int32) (σ : St) : Option (Int32 × St) :=
  gd (inb k2 (ln 65)) <|
  bnd (sr σ 65 k2.toNatClampNeg (k1 + k0)) fun s2 =>
  bnd (v3 + (1 : Int32)) fun x3 =>
  K9 (v1, v2, x3, s2)
theorem b_X12_frontOf_75 {Γ : CX} (K9 : Int32 × Int32 × Int32 × St → Option (Int32 × St)) (hK9 : ∀ (v1 : Int32) (v2 : Int32) (v3 : Int32) (σ : St), RR vI Γ (K9 (v1, v2, v3, σ)) → WW Γ cX12_frontOf 5 RX12 (some .int) rX12_frontOf σ 9 [(0, .ref (xd Γ 58)), (1, .int v1), (2, .int v2), (3, .int v3)] []) (v1 : Int32) (v2 : Int32) (v3 : Int32) (k0 : Int32) (k1 : Int32) (k2 : Int32) (σ : St) (h : RR vI Γ (f_X12_frontOf_75 K9 v1 v2 v3 k0 k1 k2 σ)) : WW Γ cX12_frontOf 5 RX12 (some .int) rX12_frontOf σ 75 [(0, .ref (xd Γ 58)), (1, .int v1), (2, .int v2), (3, .int v3)] [.int k0, .int k1, .int k2, .ref (xd Γ 65)] := by
  unfold f_X12_frontOf_75 at h
  refine w_iadd dX12_frontOf_75 rfl ?_
  obtain ⟨hi1, h⟩ := h.gd
  refine w_iast (i := 65) (lt_lit (by decide)) rfl hi1 dX12_frontOf_76 rfl ?_
  obtain ⟨s2, es2⟩ : ∃ y : St, y = (sr σ 65 k2.toNatClampNeg (k1 + k0)) := ⟨_, rfl⟩
  rw [← es2]
  replace h := h.bnd es2
  clear es2
  obtain ⟨x3, ex3⟩ : ∃ y : Int32, y = (v3 + (1 : Int32)) := ⟨_, rfl⟩
  replace h := h.bnd ex3
  refine w_iinc 3 x3 [(3, .int x3), (0, .ref (xd Γ 58)), (1, .int v1), (2, .int v2)] dX12_frontOf_77 rfl (by rw [ex3, ic_iconst_1]) (by decide) rfl rfl ?_
  clear ex3
  refine w_goto (tgt := 9) dX12_frontOf_80 (by decide) ?_
  exact w_sub [1, 2, 3, 0] rfl (hK9 v1 v2 x3 s2 h)
def f_X12_frontOf_41 (K9 : Int32 × Int32 × Int32 × St → Option (Int32 × St)) (v1 : Int32) (v2 : Int32) (v3 : Int32) (k0 : Int32) (σ : St) : Option (Int32 × St) :=
  gd (inb v3 (ln 65)) <|
  if k0 ≤ 0 then
    if 0 ≤ k0 then
      f_X12_frontOf_75 K9 v1 v2 v3 (0 : Int32) (gr σ 65 v3.toNatClampNeg) (v3 + (1 : Int32)) σ
    else
      f_X12_frontOf_75 K9 v1 v2 v3 (-1 : Int32) (gr σ 65 v3.toNatClampNeg) (v3 + (1 : Int32)) σ
  else
    f_X12_frontOf_75 K9 v1 v2 v3 (1 : Int32) (gr σ 65 v3.toNatClampNeg) (v3 + (1 : Int32)) σ
theorem b_X12_frontOf_41 {Γ : CX} (K9 : Int32 × Int32 × Int32 × St → Option (Int32 × St)) (hK9 : ∀ (v1 : Int32) (v2 : Int32) (v3 : Int32) (σ : St), RR vI Γ (K9 (v1, v2, v3, σ)) → WW Γ cX12_frontOf 5 RX12 (some .int) rX12_frontOf σ 9 [(0, .ref (xd Γ 58)), (1, .int v1), (2, .int v2), (3, .int v3)] []) (v1 : Int32) (v2 : Int32) (v3 : Int32) (k0 : Int32) (σ : St) (h : RR vI Γ (f_X12_frontOf_41 K9 v1 v2 v3 k0 σ)) : WW Γ cX12_frontOf 5 RX12 (some .int) rX12_frontOf σ 41 [(0, .ref (xd Γ 58)), (1, .int v1), (2, .int v2), (3, .int v3)] [.int k0] := by
  unfold f_X12_frontOf_41 at h
  refine w_istore [(4, .int k0), (0, .ref (xd Γ 58)), (1, .int v1), (2, .int v2), (3, .int v3)] dX12_frontOf_41 (by decide) rfl rfl ?_
  refine w_aload_n 1 dX12_frontOf_43 rfl rfl rfl ?_
  refine gf_RX12_34 dX12_frontOf_44 rfl ?_
  refine w_iload_n 4 dX12_frontOf_47 rfl rfl rfl ?_
  refine w_iconst (1 : Int32) dX12_frontOf_48 ic_iconst_1 rfl ?_
  refine w_iadd dX12_frontOf_49 rfl ?_
  refine w_aload_n 1 dX12_frontOf_50 rfl rfl rfl ?_
  refine gf_RX12_34 dX12_frontOf_51 rfl ?_
  refine w_iload_n 4 dX12_frontOf_54 rfl rfl rfl ?_
  obtain ⟨hi1, h⟩ := h.gd
  refine w_iald (i := 65) (lt_lit (by decide)) rfl hi1 dX12_frontOf_55 rfl ?_
  refine w_iload 0 dX12_frontOf_56 rfl rfl ?_
  refine w_if_le (tgt := 65) dX12_frontOf_58 (by decide) rfl (fun q => ?_) (fun q => ?_)
  · have h := h.tt q
    refine w_iload 0 dX12_frontOf_65 rfl rfl ?_
    refine w_if_ge (tgt := 74) dX12_frontOf_67 (by decide) rfl (fun q => ?_) (fun q => ?_)
    · have h := h.tt q
      refine w_iconst (0 : Int32) dX12_frontOf_74 ic_iconst_0 rfl ?_
      exact w_sub [1, 2, 3, 4] rfl (b_X12_frontOf_75 K9 hK9 v1 v2 v3 (0 : Int32) (gr σ 65 v3.toNatClampNeg) (v3 + (1 : Int32)) σ h)
    · have h := h.ff q
      refine w_iconst (-1 : Int32) dX12_frontOf_70 ic_iconst_m1 rfl ?_
      refine w_goto (tgt := 75) dX12_frontOf_71 (by decide) ?_
      exact w_sub [1, 2, 3, 4] rfl (b_X12_frontOf_75 K9 hK9 v1 v2 v3 (-1 : Int32) (gr σ 65 v3.toNatClampNeg) (v3 + (1 : Int32)) σ h)
  · have h := h.ff q
    refine w_iconst (1 : Int32) dX12_frontOf_61 ic_iconst_1 rfl ?_
    refine w_goto (tgt := 75) dX12_frontOf_62 (by decide) ?_
    exact w_sub [1, 2, 3, 4] rfl (b_X12_frontOf_75 K9 hK9 v1 v2 v3 (1 : Int32) (gr σ 65 v3.toNatClampNeg) (v3 + (1 : Int32)) σ h)
def g_X12_frontOf_9 (K9 : Int32 × Int32 × Int32 × St → Option (Int32 × St)) (x : Int32 × Int32 × Int32 × St) : Option (Int32 × St) := match x with
  | (v1, v2, v3, σ) =>
  if v1 ≤ v3 then
    gd (inb v1 (ln 65)) <|
    some ((gr σ 65 v1.toNatClampNeg), σ)
  else
    bd (f_X12_isTea v3 σ) fun r2 s3 =>
    if r2 = 0 then
      bd (f_X12_menOf (0 : Int32) v3 v2 s3) fun r5 s6 =>
      bd (f_X12_menOf (1 : Int32) v3 v2 s6) fun r8 s9 =>
      f_X12_frontOf_41 K9 v1 v2 v3 (r5 - r8) s9
    else
      f_X12_frontOf_41 K9 v1 v2 v3 (0 : Int32) s3
theorem l_X12_frontOf_9 {Γ : CX} : ∀ (n : Nat) (v1 : Int32) (v2 : Int32) (v3 : Int32) (σ : St), RR vI Γ (itr (g_X12_frontOf_9) n (v1, v2, v3, σ)) → WW Γ cX12_frontOf 5 RX12 (some .int) rX12_frontOf σ 9 [(0, .ref (xd Γ 58)), (1, .int v1), (2, .int v2), (3, .int v3)] [] := by
  intro n
  induction n with
  | zero => intro v1 v2 v3 σ h; exact RR.no h
  | succ n hK9 =>
  intro v1 v2 v3 σ h
  have h : RR vI Γ (g_X12_frontOf_9 (itr (g_X12_frontOf_9) n) (v1, v2, v3, σ)) := h
  generalize itr (g_X12_frontOf_9) n = K9 at h hK9
  unfold g_X12_frontOf_9 at h
  dsimp only at h
  refine w_iload_n 3 dX12_frontOf_9 rfl rfl rfl ?_
  refine w_iload_n 1 dX12_frontOf_10 rfl rfl rfl ?_
  refine w_icmp_ge (tgt := 83) dX12_frontOf_11 (by decide) rfl (fun q => ?_) (fun q => ?_)
  · have h := h.tt q
    refine w_aload_n 0 dX12_frontOf_83 rfl rfl rfl ?_
    refine gf_RX12_34 dX12_frontOf_84 rfl ?_
    refine w_iload_n 1 dX12_frontOf_87 rfl rfl rfl ?_
    obtain ⟨hi1, h⟩ := h.gd
    refine w_iald (i := 65) (lt_lit (by decide)) rfl hi1 dX12_frontOf_88 rfl ?_
    exact w_ireturn dX12_frontOf_89 h
  · have h := h.ff q
    refine w_aload_n 0 dX12_frontOf_14 rfl rfl rfl ?_
    refine w_iload_n 3 dX12_frontOf_15 rfl rfl rfl ?_
    obtain ⟨r2, s3, h4, h⟩ := h.bd
    refine k_X12_isTea ml_RX12_239 (Nat.le_of_ble_eq_true rfl) ⟨Nat.le_of_ble_eq_true rfl, Nat.le_of_ble_eq_true rfl⟩ dX12_frontOf_16 rfl h4 ?_
    refine w_if_eq (tgt := 26) dX12_frontOf_19 (by decide) rfl (fun q => ?_) (fun q => ?_)
    · have h := h.tt q
      refine w_aload_n 0 dX12_frontOf_26 rfl rfl rfl ?_
      refine w_iconst (0 : Int32) dX12_frontOf_27 ic_iconst_0 rfl ?_
      refine w_iload_n 3 dX12_frontOf_28 rfl rfl rfl ?_
      refine w_iload_n 2 dX12_frontOf_29 rfl rfl rfl ?_
      obtain ⟨r5, s6, h7, h⟩ := h.bd
      refine k_X12_menOf ml_RX12_247 (Nat.le_of_ble_eq_true rfl) ⟨Nat.le_of_ble_eq_true rfl, Nat.le_of_ble_eq_true rfl⟩ dX12_frontOf_30 rfl h7 ?_
      refine w_aload_n 0 dX12_frontOf_33 rfl rfl rfl ?_
      refine w_iconst (1 : Int32) dX12_frontOf_34 ic_iconst_1 rfl ?_
      refine w_iload_n 3 dX12_frontOf_35 rfl rfl rfl ?_
      refine w_iload_n 2 dX12_frontOf_36 rfl rfl rfl ?_
      obtain ⟨r8, s9, h10, h⟩ := h.bd
      refine k_X12_menOf ml_RX12_247 (Nat.le_of_ble_eq_true rfl) ⟨Nat.le_of_ble_eq_true rfl, Nat.le_of_ble_eq_true rfl⟩ dX12_frontOf_37 rfl h10 ?_
      refine w_isub dX12_frontOf_40 rfl ?_
      exact w_sub [0, 1, 2, 3] rfl (b_X12_frontOf_41 K9 hK9 v1 v2 v3 (r5 - r8) s9 h)
    · have h := h.ff q
      refine w_iconst (0 : Int32) dX12_frontOf_22 ic_iconst_0 rfl ?_
      refine w_goto (tgt := 41) dX12_frontOf_23 (by decide) ?_
      exact w_sub [0, 1, 2, 3] rfl (b_X12_frontOf_41 K9 hK9 v1 v2 v3 (0 : Int32) s3 h)
def f_X12_frontOf (p0 : Int32) (p1 : Int32) (σ : St) : Option (Int32 × St) :=
  gd (inb (0 : Int32) (ln 65)) <|
  bnd (sr σ 65 (0 : Int32).toNatClampNeg (0 : Int32)) fun s2 =>
  itr (g_X12_frontOf_9) FU (p0, p1, (0 : Int32), s2)
theorem e_X12_frontOf {Γ : CX} (p0 : Int32) (p1 : Int32) (σ : St) (h : RR vI Γ (f_X12_frontOf p0 p1 σ)) : WW Γ cX12_frontOf 5 RX12 (some .int) rX12_frontOf σ 0 [(0, .ref (xd Γ 58)), (1, .int p0), (2, .int p1)] [] := by
  unfold f_X12_frontOf at h
  refine w_aload_n 0 dX12_frontOf_0 rfl rfl rfl ?_
  refine gf_RX12_34 dX12_frontOf_1 rfl ?_
  refine w_iconst (0 : Int32) dX12_frontOf_4 ic_iconst_0 rfl ?_
  refine w_iconst (0 : Int32) dX12_frontOf_5 ic_iconst_0 rfl ?_
  obtain ⟨hi1, h⟩ := h.gd
  refine w_iast (i := 65) (lt_lit (by decide)) rfl hi1 dX12_frontOf_6 rfl ?_
  obtain ⟨s2, es2⟩ : ∃ y : St, y = (sr σ 65 (0 : Int32).toNatClampNeg (0 : Int32)) := ⟨_, rfl⟩
  rw [← es2]
  replace h := h.bnd es2
  clear es2
  refine w_iconst (0 : Int32) dX12_frontOf_7 ic_iconst_0 rfl ?_
  refine w_istore_n [(3, .int (0 : Int32)), (0, .ref (xd Γ 58)), (1, .int p0), (2, .int p1)] dX12_frontOf_8 rfl (by decide) rfl rfl ?_
  exact w_sub [1, 2, 3, 0] rfl (l_X12_frontOf_9 FU p0 p1 (0 : Int32) s2 h)
theorem c_X12_frontOf {l : Launch} {D : va_G} {cy : Nat → ClassId} {ad : Nat → Nat} {p0 : Int32} {p1 : Int32} {σ σ' : St} {r : Int32} (hf : f_X12_frontOf p0 p1 σ = some (r, σ')) : CT l D cy ad yX12_frontOf cX12_frontOf 5 (some .int) rX12_frontOf [.ref (ad 58), .int p0, .int p1] σ (some (.int r)) σ' :=
  ct_of (by decide) (Nat.le_of_ble_eq_true rfl) (fun p e s m args below meth c A => e_X12_frontOf (Γ := (p, l, e, rX12_frontOf, s, m, args, below, meth, c, D, cy, ad, A, 0, 0, MQ below (QC D cy ad (some (.int r)) σ' A) args s 0 0 A)) p0 p1 σ ⟨_, hf, rfl⟩)
theorem k_X12_frontOf {Γ : CX} {cc : ByteArray} {nL : Nat} {own : String} {ret : Option FieldType} {rm : Room} {σ σ' : St} {pc pc' idx : Nat} {lv : List (Nat × Value)} {rest : List Value} {p0 : Int32} {p1 : Int32} {r : Int32} (hl : Cond.methodLink own idx yX12_frontOf ∈ TB) (hw : (rest.map fun v => v.category).sum ≤ 8) (hR : rX12_frontOf.frames + 1 ≤ rm.frames ∧ 8 + (5 + 11) + rX12_frontOf.locals ≤ rm.locals) (hd : decode cc pc = .ok (.invokevirtual idx, 3)) (hp : pc + 3 = pc') (hf : f_X12_frontOf p0 p1 σ = some (r, σ')) (h : WW Γ cc nL own ret rm σ' pc' lv (.int r :: rest)) : WW Γ cc nL own ret rm σ pc lv (.int p1 :: .int p0 :: .ref (xd Γ 58) :: rest) :=
  w_callV (nn := 2) (i := 58) (As := [.int p0, .int p1]) (v := (some (.int r))) (T := TX12) (N := 32) (c_X12_frontOf hf) hl mw_X12_frontOf (by decide +kernel) ⟨rfl, rfl⟩ hR (lt_lit (by decide)) cel_58 rfl rfl hw hd rfl hp h
/-! WarByHoursModel.lastFront (I)I -/
def rX12_lastFront : Room := { frames := 4, cells := 0, slots := 0, locals := 93 }
def f_X12_lastFront (p0 : Int32) (σ : St) : Option (Int32 × St) :=
  gd (inb (0 : Int32) (ln 59)) <|
  bd (f_X12_frontOf (gr σ 59 (0 : Int32).toNatClampNeg) p0 σ) fun r2 s3 =>
  some (r2, s3)
theorem e_X12_lastFront {Γ : CX} (p0 : Int32) (σ : St) (h : RR vI Γ (f_X12_lastFront p0 σ)) : WW Γ cX12_lastFront 2 RX12 (some .int) rX12_lastFront σ 0 [(0, .ref (xd Γ 58)), (1, .int p0)] [] := by
  unfold f_X12_lastFront at h
  refine w_aload_n 0 dX12_lastFront_0 rfl rfl rfl ?_
  refine w_aload_n 0 dX12_lastFront_1 rfl rfl rfl ?_
  refine gf_RX12_9 dX12_lastFront_2 rfl ?_
  refine w_iconst (0 : Int32) dX12_lastFront_5 ic_iconst_0 rfl ?_
  obtain ⟨hi1, h⟩ := h.gd
  refine w_iald (i := 59) (lt_lit (by decide)) rfl hi1 dX12_lastFront_6 rfl ?_
  refine w_iload_n 1 dX12_lastFront_7 rfl rfl rfl ?_
  obtain ⟨r2, s3, h4, h⟩ := h.bd
  refine k_X12_frontOf ml_RX12_251 (Nat.le_of_ble_eq_true rfl) ⟨Nat.le_of_ble_eq_true rfl, Nat.le_of_ble_eq_true rfl⟩ dX12_lastFront_8 rfl h4 ?_
  exact w_ireturn dX12_lastFront_11 h
theorem c_X12_lastFront {l : Launch} {D : va_G} {cy : Nat → ClassId} {ad : Nat → Nat} {p0 : Int32} {σ σ' : St} {r : Int32} (hf : f_X12_lastFront p0 σ = some (r, σ')) : CT l D cy ad yX12_lastFront cX12_lastFront 2 (some .int) rX12_lastFront [.ref (ad 58), .int p0] σ (some (.int r)) σ' :=
  ct_of (by decide) (Nat.le_of_ble_eq_true rfl) (fun p e s m args below meth c A => e_X12_lastFront (Γ := (p, l, e, rX12_lastFront, s, m, args, below, meth, c, D, cy, ad, A, 0, 0, MQ below (QC D cy ad (some (.int r)) σ' A) args s 0 0 A)) p0 σ ⟨_, hf, rfl⟩)
theorem k_X12_lastFront {Γ : CX} {cc : ByteArray} {nL : Nat} {own : String} {ret : Option FieldType} {rm : Room} {σ σ' : St} {pc pc' idx : Nat} {lv : List (Nat × Value)} {rest : List Value} {p0 : Int32} {r : Int32} (hl : Cond.methodLink own idx yX12_lastFront ∈ TB) (hw : (rest.map fun v => v.category).sum ≤ 8) (hR : rX12_lastFront.frames + 1 ≤ rm.frames ∧ 8 + (2 + 11) + rX12_lastFront.locals ≤ rm.locals) (hd : decode cc pc = .ok (.invokevirtual idx, 3)) (hp : pc + 3 = pc') (hf : f_X12_lastFront p0 σ = some (r, σ')) (h : WW Γ cc nL own ret rm σ' pc' lv (.int r :: rest)) : WW Γ cc nL own ret rm σ pc lv (.int p0 :: .ref (xd Γ 58) :: rest) :=
  w_callV (nn := 1) (i := 58) (As := [.int p0]) (v := (some (.int r))) (T := TX12) (N := 32) (c_X12_lastFront hf) hl mw_X12_lastFront (by decide +kernel) ⟨rfl, rfl⟩ hR (lt_lit (by decide)) cel_58 rfl rfl hw hd rfl hp h
/-! WarByHoursModel.goodBy (II)I -/
def rX12_goodBy : Room := { frames := 0, cells := 0, slots := 0, locals := 0 }
def f_X12_goodBy_10 (k0 : Int32) (σ : St) : Option (Int32 × St) :=
  some (k0, σ)
theorem b_X12_goodBy_10 {Γ : CX} (k0 : Int32) (σ : St) (h : RR vI Γ (f_X12_goodBy_10 k0 σ)) : WW Γ cX12_goodBy 2 RX12 (some .int) rX12_goodBy σ 10 [] [.int k0] := by
  unfold f_X12_goodBy_10 at h
  exact w_ireturn dX12_goodBy_10 h
def f_X12_goodBy (p0 : Int32) (p1 : Int32) (σ : St) : Option (Int32 × St) :=
  if p0 = 0 then
    f_X12_goodBy_10 p1 σ
  else
    f_X12_goodBy_10 (-p1) σ
theorem e_X12_goodBy {Γ : CX} (p0 : Int32) (p1 : Int32) (σ : St) (h : RR vI Γ (f_X12_goodBy p0 p1 σ)) : WW Γ cX12_goodBy 2 RX12 (some .int) rX12_goodBy σ 0 [(0, .int p0), (1, .int p1)] [] := by
  unfold f_X12_goodBy at h
  refine w_iload_n 0 dX12_goodBy_0 rfl rfl rfl ?_
  refine w_if_ne (tgt := 8) dX12_goodBy_1 (by decide) rfl (fun q => ?_) (fun q => ?_)
  · have h := h.ff q
    refine w_iload_n 1 dX12_goodBy_8 rfl rfl rfl ?_
    refine w_ineg dX12_goodBy_9 rfl ?_
    exact w_sub [] rfl (b_X12_goodBy_10 (-p1) σ h)
  · have h := h.tt q
    refine w_iload_n 1 dX12_goodBy_4 rfl rfl rfl ?_
    refine w_goto (tgt := 10) dX12_goodBy_5 (by decide) ?_
    exact w_sub [] rfl (b_X12_goodBy_10 p1 σ h)
theorem c_X12_goodBy {l : Launch} {D : va_G} {cy : Nat → ClassId} {ad : Nat → Nat} {p0 : Int32} {p1 : Int32} {σ σ' : St} {r : Int32} (hf : f_X12_goodBy p0 p1 σ = some (r, σ')) : CT l D cy ad yX12_goodBy cX12_goodBy 2 (some .int) rX12_goodBy [.int p0, .int p1] σ (some (.int r)) σ' :=
  ct_of (by decide) (Nat.le_of_ble_eq_true rfl) (fun p e s m args below meth c A => e_X12_goodBy (Γ := (p, l, e, rX12_goodBy, s, m, args, below, meth, c, D, cy, ad, A, 0, 0, MQ below (QC D cy ad (some (.int r)) σ' A) args s 0 0 A)) p0 p1 σ ⟨_, hf, rfl⟩)
theorem k_X12_goodBy {Γ : CX} {cc : ByteArray} {nL : Nat} {own : String} {ret : Option FieldType} {rm : Room} {σ σ' : St} {pc pc' idx : Nat} {lv : List (Nat × Value)} {rest : List Value} {p0 : Int32} {p1 : Int32} {r : Int32} (hl : Cond.methodLink own idx yX12_goodBy ∈ TB) (hw : (rest.map fun v => v.category).sum ≤ 8) (hR : rX12_goodBy.frames + 1 ≤ rm.frames ∧ 8 + (2 + 11) + rX12_goodBy.locals ≤ rm.locals) (hd : decode cc pc = .ok (.invokestatic idx, 3)) (hp : pc + 3 = pc') (hf : f_X12_goodBy p0 p1 σ = some (r, σ')) (h : WW Γ cc nL own ret rm σ' pc' lv (.int r :: rest)) : WW Γ cc nL own ret rm σ pc lv (.int p1 :: .int p0 :: rest) :=
  w_callS (nn := 2) (As := [.int p0, .int p1]) (v := (some (.int r))) (c_X12_goodBy hf) hl mw_X12_goodBy (by decide +kernel) ⟨rfl, rfl⟩ hR rfl hw hd rfl hp h
/-! WarByHoursModel.isLate (II)Z -/
def rX12_isLate : Room := { frames := 3, cells := 0, slots := 0, locals := 69 }
def f_X12_isLate_29 (k0 : Int32) (σ : St) : Option (Int32 × St) :=
  gd (bz k0) <| some (k0, σ)
theorem b_X12_isLate_29 {Γ : CX} (k0 : Int32) (σ : St) (h : RR vI Γ (f_X12_isLate_29 k0 σ)) : WW Γ cX12_isLate 3 RX12 (some .boolean) rX12_isLate σ 29 [] [.int k0] := by
  unfold f_X12_isLate_29 at h
  obtain ⟨hb, h⟩ := h.gd
  exact w_zreturn dX12_isLate_29 hb h
def f_X12_isLate (p0 : Int32) (p1 : Int32) (σ : St) : Option (Int32 × St) :=
  gd (inb (1 : Int32) (ln 59)) <|
  bd (f_X12_menOf p0 (gr σ 59 (1 : Int32).toNatClampNeg) p1 σ) fun r2 s3 =>
  gd (inb ((11 : Int32) + p0) (ln 59)) <|
  if (gr s3 59 ((11 : Int32) + p0).toNatClampNeg) ≤ r2 then
    f_X12_isLate_29 (0 : Int32) s3
  else
    f_X12_isLate_29 (1 : Int32) s3
theorem e_X12_isLate {Γ : CX} (p0 : Int32) (p1 : Int32) (σ : St) (h : RR vI Γ (f_X12_isLate p0 p1 σ)) : WW Γ cX12_isLate 3 RX12 (some .boolean) rX12_isLate σ 0 [(0, .ref (xd Γ 58)), (1, .int p0), (2, .int p1)] [] := by
  unfold f_X12_isLate at h
  refine w_aload_n 0 dX12_isLate_0 rfl rfl rfl ?_
  refine w_iload_n 1 dX12_isLate_1 rfl rfl rfl ?_
  refine w_aload_n 0 dX12_isLate_2 rfl rfl rfl ?_
  refine gf_RX12_9 dX12_isLate_3 rfl ?_
  refine w_iconst (1 : Int32) dX12_isLate_6 ic_iconst_1 rfl ?_
  obtain ⟨hi1, h⟩ := h.gd
  refine w_iald (i := 59) (lt_lit (by decide)) rfl hi1 dX12_isLate_7 rfl ?_
  refine w_iload_n 2 dX12_isLate_8 rfl rfl rfl ?_
  obtain ⟨r2, s3, h4, h⟩ := h.bd
  refine k_X12_menOf ml_RX12_247 (Nat.le_of_ble_eq_true rfl) ⟨Nat.le_of_ble_eq_true rfl, Nat.le_of_ble_eq_true rfl⟩ dX12_isLate_9 rfl h4 ?_
  refine w_aload_n 0 dX12_isLate_12 rfl rfl rfl ?_
  refine gf_RX12_9 dX12_isLate_13 rfl ?_
  refine w_bipush (11 : Int32) dX12_isLate_16 ic_bipush_11 rfl ?_
  refine w_iload_n 1 dX12_isLate_18 rfl rfl rfl ?_
  refine w_iadd dX12_isLate_19 rfl ?_
  obtain ⟨hi5, h⟩ := h.gd
  refine w_iald (i := 59) (lt_lit (by decide)) rfl hi5 dX12_isLate_20 rfl ?_
  refine w_icmp_ge (tgt := 28) dX12_isLate_21 (by decide) rfl (fun q => ?_) (fun q => ?_)
  · have h := h.tt q
    refine w_iconst (0 : Int32) dX12_isLate_28 ic_iconst_0 rfl ?_
    exact w_sub [] rfl (b_X12_isLate_29 (0 : Int32) s3 h)
  · have h := h.ff q
    refine w_iconst (1 : Int32) dX12_isLate_24 ic_iconst_1 rfl ?_
    refine w_goto (tgt := 29) dX12_isLate_25 (by decide) ?_
    exact w_sub [] rfl (b_X12_isLate_29 (1 : Int32) s3 h)
theorem c_X12_isLate {l : Launch} {D : va_G} {cy : Nat → ClassId} {ad : Nat → Nat} {p0 : Int32} {p1 : Int32} {σ σ' : St} {r : Int32} (hf : f_X12_isLate p0 p1 σ = some (r, σ')) : CT l D cy ad yX12_isLate cX12_isLate 3 (some .boolean) rX12_isLate [.ref (ad 58), .int p0, .int p1] σ (some (.int r)) σ' :=
  ct_of (by decide) (Nat.le_of_ble_eq_true rfl) (fun p e s m args below meth c A => e_X12_isLate (Γ := (p, l, e, rX12_isLate, s, m, args, below, meth, c, D, cy, ad, A, 0, 0, MQ below (QC D cy ad (some (.int r)) σ' A) args s 0 0 A)) p0 p1 σ ⟨_, hf, rfl⟩)
theorem k_X12_isLate {Γ : CX} {cc : ByteArray} {nL : Nat} {own : String} {ret : Option FieldType} {rm : Room} {σ σ' : St} {pc pc' idx : Nat} {lv : List (Nat × Value)} {rest : List Value} {p0 : Int32} {p1 : Int32} {r : Int32} (hl : Cond.methodLink own idx yX12_isLate ∈ TB) (hw : (rest.map fun v => v.category).sum ≤ 8) (hR : rX12_isLate.frames + 1 ≤ rm.frames ∧ 8 + (3 + 11) + rX12_isLate.locals ≤ rm.locals) (hd : decode cc pc = .ok (.invokevirtual idx, 3)) (hp : pc + 3 = pc') (hf : f_X12_isLate p0 p1 σ = some (r, σ')) (h : WW Γ cc nL own ret rm σ' pc' lv (.int r :: rest)) : WW Γ cc nL own ret rm σ pc lv (.int p1 :: .int p0 :: .ref (xd Γ 58) :: rest) :=
  w_callV (nn := 2) (i := 58) (As := [.int p0, .int p1]) (v := (some (.int r))) (T := TX12) (N := 32) (c_X12_isLate hf) hl mw_X12_isLate (by decide +kernel) ⟨rfl, rfl⟩ hR (lt_lit (by decide)) cel_58 rfl rfl hw hd rfl hp h
/-! WarByHoursModel.winner (I)I -/
def rX12_winner : Room := { frames := 5, cells := 0, slots := 0, locals := 114 }
def f_X12_winner_28 (k0 : Int32) (σ : St) : Option (Int32 × St) :=
  some (k0, σ)
theorem b_X12_winner_28 {Γ : CX} (k0 : Int32) (σ : St) (h : RR vI Γ (f_X12_winner_28 k0 σ)) : WW Γ cX12_winner 5 RX12 (some .int) rX12_winner σ 28 [] [.int k0] := by
  unfold f_X12_winner_28 at h
  exact w_ireturn dX12_winner_28 h
def f_X12_winner_55 (k0 : Int32) (σ : St) : Option (Int32 × St) :=
  some (k0, σ)
theorem b_X12_winner_55 {Γ : CX} (k0 : Int32) (σ : St) (h : RR vI Γ (f_X12_winner_55 k0 σ)) : WW Γ cX12_winner 5 RX12 (some .int) rX12_winner σ 55 [] [.int k0] := by
  unfold f_X12_winner_55 at h
  exact w_ireturn dX12_winner_55 h
def f_X12_winner (p0 : Int32) (σ : St) : Option (Int32 × St) :=
  bd (f_X12_isLate (0 : Int32) p0 σ) fun r1 s2 =>
  bd (f_X12_isLate (1 : Int32) p0 s2) fun r4 s5 =>
  if r1 = r4 then
    bd (f_X12_lastFront p0 s5) fun r7 s8 =>
    if r7 ≤ 0 then
      if 0 ≤ r7 then
        f_X12_winner_55 (-1 : Int32) s8
      else
        f_X12_winner_55 (1 : Int32) s8
    else
      f_X12_winner_55 (0 : Int32) s8
  else
    if r1 = 0 then
      f_X12_winner_28 (0 : Int32) s5
    else
      f_X12_winner_28 (1 : Int32) s5
theorem e_X12_winner {Γ : CX} (p0 : Int32) (σ : St) (h : RR vI Γ (f_X12_winner p0 σ)) : WW Γ cX12_winner 5 RX12 (some .int) rX12_winner σ 0 [(0, .ref (xd Γ 58)), (1, .int p0)] [] := by
  unfold f_X12_winner at h
  refine w_aload_n 0 dX12_winner_0 rfl rfl rfl ?_
  refine w_iconst (0 : Int32) dX12_winner_1 ic_iconst_0 rfl ?_
  refine w_iload_n 1 dX12_winner_2 rfl rfl rfl ?_
  obtain ⟨r1, s2, h3, h⟩ := h.bd
  refine k_X12_isLate ml_RX12_254 (Nat.le_of_ble_eq_true rfl) ⟨Nat.le_of_ble_eq_true rfl, Nat.le_of_ble_eq_true rfl⟩ dX12_winner_3 rfl h3 ?_
  refine w_istore_n [(2, .int r1), (0, .ref (xd Γ 58)), (1, .int p0)] dX12_winner_6 rfl (by decide) rfl rfl ?_
  refine w_aload_n 1 dX12_winner_7 rfl rfl rfl ?_
  refine w_iconst (1 : Int32) dX12_winner_8 ic_iconst_1 rfl ?_
  refine w_iload_n 2 dX12_winner_9 rfl rfl rfl ?_
  obtain ⟨r4, s5, h6, h⟩ := h.bd
  refine k_X12_isLate ml_RX12_254 (Nat.le_of_ble_eq_true rfl) ⟨Nat.le_of_ble_eq_true rfl, Nat.le_of_ble_eq_true rfl⟩ dX12_winner_10 rfl h6 ?_
  refine w_istore_n [(3, .int r4), (2, .int r1), (0, .ref (xd Γ 58)), (1, .int p0)] dX12_winner_13 rfl (by decide) rfl rfl ?_
  refine w_iload_n 1 dX12_winner_14 rfl rfl rfl ?_
  refine w_iload_n 0 dX12_winner_15 rfl rfl rfl ?_
  refine w_icmp_eq (tgt := 29) dX12_winner_16 (by decide) rfl (fun q => ?_) (fun q => ?_)
  · have h := h.tt q
    refine w_aload_n 2 dX12_winner_29 rfl rfl rfl ?_
    refine w_iload_n 3 dX12_winner_30 rfl rfl rfl ?_
    obtain ⟨r7, s8, h9, h⟩ := h.bd
    refine k_X12_lastFront ml_RX12_258 (Nat.le_of_ble_eq_true rfl) ⟨Nat.le_of_ble_eq_true rfl, Nat.le_of_ble_eq_true rfl⟩ dX12_winner_31 rfl h9 ?_
    refine w_istore [(4, .int r7), (3, .int r4), (2, .int r1), (0, .ref (xd Γ 58)), (1, .int p0)] dX12_winner_34 (by decide) rfl rfl ?_
    refine w_iload 0 dX12_winner_36 rfl rfl ?_
    refine w_if_le (tgt := 45) dX12_winner_38 (by decide) rfl (fun q => ?_) (fun q => ?_)
    · have h := h.tt q
      refine w_iload 0 dX12_winner_45 rfl rfl ?_
      refine w_if_ge (tgt := 54) dX12_winner_47 (by decide) rfl (fun q => ?_) (fun q => ?_)
      · have h := h.tt q
        refine w_iconst (-1 : Int32) dX12_winner_54 ic_iconst_m1 rfl ?_
        exact w_sub [] rfl (b_X12_winner_55 (-1 : Int32) s8 h)
      · have h := h.ff q
        refine w_iconst (1 : Int32) dX12_winner_50 ic_iconst_1 rfl ?_
        refine w_goto (tgt := 55) dX12_winner_51 (by decide) ?_
        exact w_sub [] rfl (b_X12_winner_55 (1 : Int32) s8 h)
    · have h := h.ff q
      refine w_iconst (0 : Int32) dX12_winner_41 ic_iconst_0 rfl ?_
      refine w_goto (tgt := 55) dX12_winner_42 (by decide) ?_
      exact w_sub [] rfl (b_X12_winner_55 (0 : Int32) s8 h)
  · have h := h.ff q
    refine w_iload_n 1 dX12_winner_19 rfl rfl rfl ?_
    refine w_if_eq (tgt := 27) dX12_winner_20 (by decide) rfl (fun q => ?_) (fun q => ?_)
    · have h := h.tt q
      refine w_iconst (0 : Int32) dX12_winner_27 ic_iconst_0 rfl ?_
      exact w_sub [] rfl (b_X12_winner_28 (0 : Int32) s5 h)
    · have h := h.ff q
      refine w_iconst (1 : Int32) dX12_winner_23 ic_iconst_1 rfl ?_
      refine w_goto (tgt := 28) dX12_winner_24 (by decide) ?_
      exact w_sub [] rfl (b_X12_winner_28 (1 : Int32) s5 h)
theorem c_X12_winner {l : Launch} {D : va_G} {cy : Nat → ClassId} {ad : Nat → Nat} {p0 : Int32} {σ σ' : St} {r : Int32} (hf : f_X12_winner p0 σ = some (r, σ')) : CT l D cy ad yX12_winner cX12_winner 5 (some .int) rX12_winner [.ref (ad 58), .int p0] σ (some (.int r)) σ' :=
  ct_of (by decide) (Nat.le_of_ble_eq_true rfl) (fun p e s m args below meth c A => e_X12_winner (Γ := (p, l, e, rX12_winner, s, m, args, below, meth, c, D, cy, ad, A, 0, 0, MQ below (QC D cy ad (some (.int r)) σ' A) args s 0 0 A)) p0 σ ⟨_, hf, rfl⟩)
theorem k_X12_winner {Γ : CX} {cc : ByteArray} {nL : Nat} {own : String} {ret : Option FieldType} {rm : Room} {σ σ' : St} {pc pc' idx : Nat} {lv : List (Nat × Value)} {rest : List Value} {p0 : Int32} {r : Int32} (hl : Cond.methodLink own idx yX12_winner ∈ TB) (hw : (rest.map fun v => v.category).sum ≤ 8) (hR : rX12_winner.frames + 1 ≤ rm.frames ∧ 8 + (5 + 11) + rX12_winner.locals ≤ rm.locals) (hd : decode cc pc = .ok (.invokevirtual idx, 3)) (hp : pc + 3 = pc') (hf : f_X12_winner p0 σ = some (r, σ')) (h : WW Γ cc nL own ret rm σ' pc' lv (.int r :: rest)) : WW Γ cc nL own ret rm σ pc lv (.int p0 :: .ref (xd Γ 58) :: rest) :=
  w_callV (nn := 1) (i := 58) (As := [.int p0]) (v := (some (.int r))) (T := TX12) (N := 32) (c_X12_winner hf) hl mw_X12_winner (by decide +kernel) ⟨rfl, rfl⟩ hR (lt_lit (by decide)) cel_58 rfl rfl hw hd rfl hp h
/-! WarByHoursModel.isAny (I)Z -/
def rX12_isAny : Room := { frames := 1, cells := 0, slots := 0, locals := 25 }
def f_X12_isAny (p0 : Int32) (σ : St) : Option (Int32 × St) :=
  bd (f_X12_in p0.toInt64 (0 : Int64) (99 : Int64) σ) fun r1 s2 =>
  gd (bz r1) <| some (r1, s2)
theorem e_X12_isAny {Γ : CX} (p0 : Int32) (σ : St) (h : RR vI Γ (f_X12_isAny p0 σ)) : WW Γ cX12_isAny 1 RX12 (some .boolean) rX12_isAny σ 0 [(0, .int p0)] [] := by
  unfold f_X12_isAny at h
  refine w_iload_n 0 dX12_isAny_0 rfl rfl rfl ?_
  refine w_i2l dX12_isAny_1 rfl ?_
  refine w_lconst (0 : Int64) dX12_isAny_2 rfl rfl ?_
  refine w_ldc2_w (99 : Int64) dX12_isAny_3 cl_RX12_261 rfl ?_
  obtain ⟨r1, s2, h3, h⟩ := h.bd
  refine k_X12_in ml_RX12_70 (Nat.le_of_ble_eq_true rfl) ⟨Nat.le_of_ble_eq_true rfl, Nat.le_of_ble_eq_true rfl⟩ dX12_isAny_6 rfl h3 ?_
  obtain ⟨hb, h⟩ := h.gd
  exact w_zreturn dX12_isAny_9 hb h
theorem c_X12_isAny {l : Launch} {D : va_G} {cy : Nat → ClassId} {ad : Nat → Nat} {p0 : Int32} {σ σ' : St} {r : Int32} (hf : f_X12_isAny p0 σ = some (r, σ')) : CT l D cy ad yX12_isAny cX12_isAny 1 (some .boolean) rX12_isAny [.int p0] σ (some (.int r)) σ' :=
  ct_of (by decide) (Nat.le_of_ble_eq_true rfl) (fun p e s m args below meth c A => e_X12_isAny (Γ := (p, l, e, rX12_isAny, s, m, args, below, meth, c, D, cy, ad, A, 0, 0, MQ below (QC D cy ad (some (.int r)) σ' A) args s 0 0 A)) p0 σ ⟨_, hf, rfl⟩)
theorem k_X12_isAny {Γ : CX} {cc : ByteArray} {nL : Nat} {own : String} {ret : Option FieldType} {rm : Room} {σ σ' : St} {pc pc' idx : Nat} {lv : List (Nat × Value)} {rest : List Value} {p0 : Int32} {r : Int32} (hl : Cond.methodLink own idx yX12_isAny ∈ TB) (hw : (rest.map fun v => v.category).sum ≤ 8) (hR : rX12_isAny.frames + 1 ≤ rm.frames ∧ 8 + (1 + 11) + rX12_isAny.locals ≤ rm.locals) (hd : decode cc pc = .ok (.invokestatic idx, 3)) (hp : pc + 3 = pc') (hf : f_X12_isAny p0 σ = some (r, σ')) (h : WW Γ cc nL own ret rm σ' pc' lv (.int r :: rest)) : WW Γ cc nL own ret rm σ pc lv (.int p0 :: rest) :=
  w_callS (nn := 1) (As := [.int p0]) (v := (some (.int r))) (c_X12_isAny hf) hl mw_X12_isAny (by decide +kernel) ⟨rfl, rfl⟩ hR rfl hw hd rfl hp h
/-! WarByHoursModel.men (III)I -/
def rX12_men : Room := { frames := 3, cells := 0, slots := 0, locals := 69 }
def f_X12_men_35 (k0 : Int32) (σ : St) : Option (Int32 × St) :=
  some (k0, σ)
theorem b_X12_men_35 {Γ : CX} (k0 : Int32) (σ : St) (h : RR vI Γ (f_X12_men_35 k0 σ)) : WW Γ cX12_men 4 RX12 (some .int) rX12_men σ 35 [] [.int k0] := by
  unfold f_X12_men_35 at h
  exact w_ireturn dX12_men_35 h
def f_X12_men_33 (σ : St) : Option (Int32 × St) :=
  f_X12_men_35 (-2 : Int32) σ
theorem b_X12_men_33 {Γ : CX} (σ : St) (h : RR vI Γ (f_X12_men_33 σ)) : WW Γ cX12_men 4 RX12 (some .int) rX12_men σ 33 [] [] := by
  unfold f_X12_men_33 at h
  refine w_bipush (-2 : Int32) dX12_men_33 ic_bipush_m2 rfl ?_
  exact w_sub [] rfl (b_X12_men_35 (-2 : Int32) σ h)
def f_X12_men (p0 : Int32) (p1 : Int32) (p2 : Int32) (σ : St) : Option (Int32 × St) :=
  bd (f_X12_isSide p0 σ) fun r1 s2 =>
  if r1 = 0 then
    f_X12_men_33 s2
  else
    bd (f_X12_isAny p1 s2) fun r4 s5 =>
    if r4 = 0 then
      f_X12_men_33 s5
    else
      bd (f_X12_areTrains p2 s5) fun r7 s8 =>
      if r7 = 0 then
        f_X12_men_33 s8
      else
        bd (f_X12_menOf p0 p1 p2 s8) fun r10 s11 =>
        f_X12_men_35 r10 s11
theorem e_X12_men {Γ : CX} (p0 : Int32) (p1 : Int32) (p2 : Int32) (σ : St) (h : RR vI Γ (f_X12_men p0 p1 p2 σ)) : WW Γ cX12_men 4 RX12 (some .int) rX12_men σ 0 [(0, .ref (xd Γ 58)), (1, .int p0), (2, .int p1), (3, .int p2)] [] := by
  unfold f_X12_men at h
  refine w_aload_n 0 dX12_men_0 rfl rfl rfl ?_
  refine w_iload_n 1 dX12_men_1 rfl rfl rfl ?_
  obtain ⟨r1, s2, h3, h⟩ := h.bd
  refine k_X12_isSide ml_RX12_236 (Nat.le_of_ble_eq_true rfl) ⟨Nat.le_of_ble_eq_true rfl, Nat.le_of_ble_eq_true rfl⟩ dX12_men_2 rfl h3 ?_
  refine w_if_eq (tgt := 33) dX12_men_5 (by decide) rfl (fun q => ?_) (fun q => ?_)
  · have h := h.tt q
    exact w_sub [] rfl (b_X12_men_33 s2 h)
  · have h := h.ff q
    refine w_iload_n 2 dX12_men_8 rfl rfl rfl ?_
    obtain ⟨r4, s5, h6, h⟩ := h.bd
    refine k_X12_isAny ml_RX12_263 (Nat.le_of_ble_eq_true rfl) ⟨Nat.le_of_ble_eq_true rfl, Nat.le_of_ble_eq_true rfl⟩ dX12_men_9 rfl h6 ?_
    refine w_if_eq (tgt := 33) dX12_men_12 (by decide) rfl (fun q => ?_) (fun q => ?_)
    · have h := h.tt q
      exact w_sub [] rfl (b_X12_men_33 s5 h)
    · have h := h.ff q
      refine w_aload_n 0 dX12_men_15 rfl rfl rfl ?_
      refine w_iload_n 3 dX12_men_16 rfl rfl rfl ?_
      obtain ⟨r7, s8, h9, h⟩ := h.bd
      refine k_X12_areTrains ml_RX12_266 (Nat.le_of_ble_eq_true rfl) ⟨Nat.le_of_ble_eq_true rfl, Nat.le_of_ble_eq_true rfl⟩ dX12_men_17 rfl h9 ?_
      refine w_if_eq (tgt := 33) dX12_men_20 (by decide) rfl (fun q => ?_) (fun q => ?_)
      · have h := h.tt q
        exact w_sub [] rfl (b_X12_men_33 s8 h)
      · have h := h.ff q
        refine w_aload_n 0 dX12_men_23 rfl rfl rfl ?_
        refine w_iload_n 1 dX12_men_24 rfl rfl rfl ?_
        refine w_iload_n 2 dX12_men_25 rfl rfl rfl ?_
        refine w_iload_n 3 dX12_men_26 rfl rfl rfl ?_
        obtain ⟨r10, s11, h12, h⟩ := h.bd
        refine k_X12_menOf ml_RX12_247 (Nat.le_of_ble_eq_true rfl) ⟨Nat.le_of_ble_eq_true rfl, Nat.le_of_ble_eq_true rfl⟩ dX12_men_27 rfl h12 ?_
        refine w_goto (tgt := 35) dX12_men_30 (by decide) ?_
        exact w_sub [] rfl (b_X12_men_35 r10 s11 h)
theorem c_X12_men {l : Launch} {D : va_G} {cy : Nat → ClassId} {ad : Nat → Nat} {p0 : Int32} {p1 : Int32} {p2 : Int32} {σ σ' : St} {r : Int32} (hf : f_X12_men p0 p1 p2 σ = some (r, σ')) : CT l D cy ad yX12_men cX12_men 4 (some .int) rX12_men [.ref (ad 58), .int p0, .int p1, .int p2] σ (some (.int r)) σ' :=
  ct_of (by decide) (Nat.le_of_ble_eq_true rfl) (fun p e s m args below meth c A => e_X12_men (Γ := (p, l, e, rX12_men, s, m, args, below, meth, c, D, cy, ad, A, 0, 0, MQ below (QC D cy ad (some (.int r)) σ' A) args s 0 0 A)) p0 p1 p2 σ ⟨_, hf, rfl⟩)
theorem k_X12_men {Γ : CX} {cc : ByteArray} {nL : Nat} {own : String} {ret : Option FieldType} {rm : Room} {σ σ' : St} {pc pc' idx : Nat} {lv : List (Nat × Value)} {rest : List Value} {p0 : Int32} {p1 : Int32} {p2 : Int32} {r : Int32} (hl : Cond.methodLink own idx yX12_men ∈ TB) (hw : (rest.map fun v => v.category).sum ≤ 8) (hR : rX12_men.frames + 1 ≤ rm.frames ∧ 8 + (4 + 11) + rX12_men.locals ≤ rm.locals) (hd : decode cc pc = .ok (.invokevirtual idx, 3)) (hp : pc + 3 = pc') (hf : f_X12_men p0 p1 p2 σ = some (r, σ')) (h : WW Γ cc nL own ret rm σ' pc' lv (.int r :: rest)) : WW Γ cc nL own ret rm σ pc lv (.int p2 :: .int p1 :: .int p0 :: .ref (xd Γ 58) :: rest) :=
  w_callV (nn := 3) (i := 58) (As := [.int p0, .int p1, .int p2]) (v := (some (.int r))) (T := TX12) (N := 32) (c_X12_men hf) hl mw_X12_men (by decide +kernel) ⟨rfl, rfl⟩ hR (lt_lit (by decide)) cel_58 rfl rfl hw hd rfl hp h
/-! WarByHoursModel.front (II)I -/
def rX12_front : Room := { frames := 4, cells := 0, slots := 0, locals := 93 }
def f_X12_front_36 (k0 : Int32) (σ : St) : Option (Int32 × St) :=
  some (k0, σ)
theorem b_X12_front_36 {Γ : CX} (k0 : Int32) (σ : St) (h : RR vI Γ (f_X12_front_36 k0 σ)) : WW Γ cX12_front 3 RX12 (some .int) rX12_front σ 36 [] [.int k0] := by
  unfold f_X12_front_36 at h
  exact w_ireturn dX12_front_36 h
def f_X12_front_33 (σ : St) : Option (Int32 × St) :=
  f_X12_front_36 (-1000 : Int32) σ
theorem b_X12_front_33 {Γ : CX} (σ : St) (h : RR vI Γ (f_X12_front_33 σ)) : WW Γ cX12_front 3 RX12 (some .int) rX12_front σ 33 [] [] := by
  unfold f_X12_front_33 at h
  refine w_sipush (-1000 : Int32) dX12_front_33 ic_sipush_m1000 rfl ?_
  exact w_sub [] rfl (b_X12_front_36 (-1000 : Int32) σ h)
def f_X12_front (p0 : Int32) (p1 : Int32) (σ : St) : Option (Int32 × St) :=
  bd (f_X12_areTrains p1 σ) fun r1 s2 =>
  if r1 = 0 then
    f_X12_front_33 s2
  else
    gd (inb (0 : Int32) (ln 59)) <|
    bd (f_X12_in p0.toInt64 (0 : Int64) (gr s2 59 (0 : Int32).toNatClampNeg).toInt64 s2) fun r5 s6 =>
    if r5 = 0 then
      f_X12_front_33 s6
    else
      bd (f_X12_frontOf p0 p1 s6) fun r8 s9 =>
      f_X12_front_36 r8 s9
theorem e_X12_front {Γ : CX} (p0 : Int32) (p1 : Int32) (σ : St) (h : RR vI Γ (f_X12_front p0 p1 σ)) : WW Γ cX12_front 3 RX12 (some .int) rX12_front σ 0 [(0, .ref (xd Γ 58)), (1, .int p0), (2, .int p1)] [] := by
  unfold f_X12_front at h
  refine w_aload_n 0 dX12_front_0 rfl rfl rfl ?_
  refine w_iload_n 2 dX12_front_1 rfl rfl rfl ?_
  obtain ⟨r1, s2, h3, h⟩ := h.bd
  refine k_X12_areTrains ml_RX12_266 (Nat.le_of_ble_eq_true rfl) ⟨Nat.le_of_ble_eq_true rfl, Nat.le_of_ble_eq_true rfl⟩ dX12_front_2 rfl h3 ?_
  refine w_if_eq (tgt := 33) dX12_front_5 (by decide) rfl (fun q => ?_) (fun q => ?_)
  · have h := h.tt q
    exact w_sub [] rfl (b_X12_front_33 s2 h)
  · have h := h.ff q
    refine w_iload_n 1 dX12_front_8 rfl rfl rfl ?_
    refine w_i2l dX12_front_9 rfl ?_
    refine w_lconst (0 : Int64) dX12_front_10 rfl rfl ?_
    refine w_aload_n 0 dX12_front_11 rfl rfl rfl ?_
    refine gf_RX12_9 dX12_front_12 rfl ?_
    refine w_iconst (0 : Int32) dX12_front_15 ic_iconst_0 rfl ?_
    obtain ⟨hi4, h⟩ := h.gd
    refine w_iald (i := 59) (lt_lit (by decide)) rfl hi4 dX12_front_16 rfl ?_
    refine w_i2l dX12_front_17 rfl ?_
    obtain ⟨r5, s6, h7, h⟩ := h.bd
    refine k_X12_in ml_RX12_70 (Nat.le_of_ble_eq_true rfl) ⟨Nat.le_of_ble_eq_true rfl, Nat.le_of_ble_eq_true rfl⟩ dX12_front_18 rfl h7 ?_
    refine w_if_eq (tgt := 33) dX12_front_21 (by decide) rfl (fun q => ?_) (fun q => ?_)
    · have h := h.tt q
      exact w_sub [] rfl (b_X12_front_33 s6 h)
    · have h := h.ff q
      refine w_aload_n 0 dX12_front_24 rfl rfl rfl ?_
      refine w_iload_n 1 dX12_front_25 rfl rfl rfl ?_
      refine w_iload_n 2 dX12_front_26 rfl rfl rfl ?_
      obtain ⟨r8, s9, h10, h⟩ := h.bd
      refine k_X12_frontOf ml_RX12_251 (Nat.le_of_ble_eq_true rfl) ⟨Nat.le_of_ble_eq_true rfl, Nat.le_of_ble_eq_true rfl⟩ dX12_front_27 rfl h10 ?_
      refine w_goto (tgt := 36) dX12_front_30 (by decide) ?_
      exact w_sub [] rfl (b_X12_front_36 r8 s9 h)
theorem c_X12_front {l : Launch} {D : va_G} {cy : Nat → ClassId} {ad : Nat → Nat} {p0 : Int32} {p1 : Int32} {σ σ' : St} {r : Int32} (hf : f_X12_front p0 p1 σ = some (r, σ')) : CT l D cy ad yX12_front cX12_front 3 (some .int) rX12_front [.ref (ad 58), .int p0, .int p1] σ (some (.int r)) σ' :=
  ct_of (by decide) (Nat.le_of_ble_eq_true rfl) (fun p e s m args below meth c A => e_X12_front (Γ := (p, l, e, rX12_front, s, m, args, below, meth, c, D, cy, ad, A, 0, 0, MQ below (QC D cy ad (some (.int r)) σ' A) args s 0 0 A)) p0 p1 σ ⟨_, hf, rfl⟩)
theorem k_X12_front {Γ : CX} {cc : ByteArray} {nL : Nat} {own : String} {ret : Option FieldType} {rm : Room} {σ σ' : St} {pc pc' idx : Nat} {lv : List (Nat × Value)} {rest : List Value} {p0 : Int32} {p1 : Int32} {r : Int32} (hl : Cond.methodLink own idx yX12_front ∈ TB) (hw : (rest.map fun v => v.category).sum ≤ 8) (hR : rX12_front.frames + 1 ≤ rm.frames ∧ 8 + (3 + 11) + rX12_front.locals ≤ rm.locals) (hd : decode cc pc = .ok (.invokevirtual idx, 3)) (hp : pc + 3 = pc') (hf : f_X12_front p0 p1 σ = some (r, σ')) (h : WW Γ cc nL own ret rm σ' pc' lv (.int r :: rest)) : WW Γ cc nL own ret rm σ pc lv (.int p1 :: .int p0 :: .ref (xd Γ 58) :: rest) :=
  w_callV (nn := 2) (i := 58) (As := [.int p0, .int p1]) (v := (some (.int r))) (T := TX12) (N := 32) (c_X12_front hf) hl mw_X12_front (by decide +kernel) ⟨rfl, rfl⟩ hR (lt_lit (by decide)) cel_58 rfl rfl hw hd rfl hp h
/-! WarByHoursModel.late (I)I -/
def rX12_late : Room := { frames := 4, cells := 0, slots := 0, locals := 91 }
def f_X12_late_42 (k0 : Int32) (σ : St) : Option (Int32 × St) :=
  some (k0, σ)
theorem b_X12_late_42 {Γ : CX} (k0 : Int32) (σ : St) (h : RR vI Γ (f_X12_late_42 k0 σ)) : WW Γ cX12_late 2 RX12 (some .int) rX12_late σ 42 [] [.int k0] := by
  unfold f_X12_late_42 at h
  exact w_ireturn dX12_late_42 h
def f_X12_late_36 (k0 : Int32) (k1 : Int32) (σ : St) : Option (Int32 × St) :=
  f_X12_late_42 (k1 + k0) σ
theorem b_X12_late_36 {Γ : CX} (k0 : Int32) (k1 : Int32) (σ : St) (h : RR vI Γ (f_X12_late_36 k0 k1 σ)) : WW Γ cX12_late 2 RX12 (some .int) rX12_late σ 36 [] [.int k0, .int k1] := by
  unfold f_X12_late_36 at h
  refine w_iadd dX12_late_36 rfl ?_
  refine w_goto (tgt := 42) dX12_late_37 (by decide) ?_
  exact w_sub [] rfl (b_X12_late_42 (k1 + k0) σ h)
def f_X12_late_22 (v1 : Int32) (k0 : Int32) (σ : St) : Option (Int32 × St) :=
  bd (f_X12_isLate (1 : Int32) v1 σ) fun r1 s2 =>
  if r1 = 0 then
    f_X12_late_36 (0 : Int32) k0 s2
  else
    f_X12_late_36 (2 : Int32) k0 s2
theorem b_X12_late_22 {Γ : CX} (v1 : Int32) (k0 : Int32) (σ : St) (h : RR vI Γ (f_X12_late_22 v1 k0 σ)) : WW Γ cX12_late 2 RX12 (some .int) rX12_late σ 22 [(0, .ref (xd Γ 58)), (1, .int v1)] [.int k0] := by
  unfold f_X12_late_22 at h
  refine w_aload_n 0 dX12_late_22 rfl rfl rfl ?_
  refine w_iconst (1 : Int32) dX12_late_23 ic_iconst_1 rfl ?_
  refine w_iload_n 1 dX12_late_24 rfl rfl rfl ?_
  obtain ⟨r1, s2, h3, h⟩ := h.bd
  refine k_X12_isLate ml_RX12_254 (Nat.le_of_ble_eq_true rfl) ⟨Nat.le_of_ble_eq_true rfl, Nat.le_of_ble_eq_true rfl⟩ dX12_late_25 rfl h3 ?_
  refine w_if_eq (tgt := 35) dX12_late_28 (by decide) rfl (fun q => ?_) (fun q => ?_)
  · have h := h.tt q
    refine w_iconst (0 : Int32) dX12_late_35 ic_iconst_0 rfl ?_
    exact w_sub [] rfl (b_X12_late_36 (0 : Int32) k0 s2 h)
  · have h := h.ff q
    refine w_iconst (2 : Int32) dX12_late_31 ic_iconst_2 rfl ?_
    refine w_goto (tgt := 36) dX12_late_32 (by decide) ?_
    exact w_sub [] rfl (b_X12_late_36 (2 : Int32) k0 s2 h)
def f_X12_late (p0 : Int32) (σ : St) : Option (Int32 × St) :=
  bd (f_X12_areTrains p0 σ) fun r1 s2 =>
  if r1 = 0 then
    f_X12_late_42 (-2 : Int32) s2
  else
    bd (f_X12_isLate (0 : Int32) p0 s2) fun r4 s5 =>
    if r4 = 0 then
      f_X12_late_22 p0 (0 : Int32) s5
    else
      f_X12_late_22 p0 (1 : Int32) s5
theorem e_X12_late {Γ : CX} (p0 : Int32) (σ : St) (h : RR vI Γ (f_X12_late p0 σ)) : WW Γ cX12_late 2 RX12 (some .int) rX12_late σ 0 [(0, .ref (xd Γ 58)), (1, .int p0)] [] := by
  unfold f_X12_late at h
  refine w_aload_n 0 dX12_late_0 rfl rfl rfl ?_
  refine w_iload_n 1 dX12_late_1 rfl rfl rfl ?_
  obtain ⟨r1, s2, h3, h⟩ := h.bd
  refine k_X12_areTrains ml_RX12_266 (Nat.le_of_ble_eq_true rfl) ⟨Nat.le_of_ble_eq_true rfl, Nat.le_of_ble_eq_true rfl⟩ dX12_late_2 rfl h3 ?_
  refine w_if_eq (tgt := 40) dX12_late_5 (by decide) rfl (fun q => ?_) (fun q => ?_)
  · have h := h.tt q
    refine w_bipush (-2 : Int32) dX12_late_40 ic_bipush_m2 rfl ?_
    exact w_sub [] rfl (b_X12_late_42 (-2 : Int32) s2 h)
  · have h := h.ff q
    refine w_aload_n 0 dX12_late_8 rfl rfl rfl ?_
    refine w_iconst (0 : Int32) dX12_late_9 ic_iconst_0 rfl ?_
    refine w_iload_n 1 dX12_late_10 rfl rfl rfl ?_
    obtain ⟨r4, s5, h6, h⟩ := h.bd
    refine k_X12_isLate ml_RX12_254 (Nat.le_of_ble_eq_true rfl) ⟨Nat.le_of_ble_eq_true rfl, Nat.le_of_ble_eq_true rfl⟩ dX12_late_11 rfl h6 ?_
    refine w_if_eq (tgt := 21) dX12_late_14 (by decide) rfl (fun q => ?_) (fun q => ?_)
    · have h := h.tt q
      refine w_iconst (0 : Int32) dX12_late_21 ic_iconst_0 rfl ?_
      exact w_sub [0, 1] rfl (b_X12_late_22 p0 (0 : Int32) s5 h)
    · have h := h.ff q
      refine w_iconst (1 : Int32) dX12_late_17 ic_iconst_1 rfl ?_
      refine w_goto (tgt := 22) dX12_late_18 (by decide) ?_
      exact w_sub [0, 1] rfl (b_X12_late_22 p0 (1 : Int32) s5 h)
theorem c_X12_late {l : Launch} {D : va_G} {cy : Nat → ClassId} {ad : Nat → Nat} {p0 : Int32} {σ σ' : St} {r : Int32} (hf : f_X12_late p0 σ = some (r, σ')) : CT l D cy ad yX12_late cX12_late 2 (some .int) rX12_late [.ref (ad 58), .int p0] σ (some (.int r)) σ' :=
  ct_of (by decide) (Nat.le_of_ble_eq_true rfl) (fun p e s m args below meth c A => e_X12_late (Γ := (p, l, e, rX12_late, s, m, args, below, meth, c, D, cy, ad, A, 0, 0, MQ below (QC D cy ad (some (.int r)) σ' A) args s 0 0 A)) p0 σ ⟨_, hf, rfl⟩)
theorem k_X12_late {Γ : CX} {cc : ByteArray} {nL : Nat} {own : String} {ret : Option FieldType} {rm : Room} {σ σ' : St} {pc pc' idx : Nat} {lv : List (Nat × Value)} {rest : List Value} {p0 : Int32} {r : Int32} (hl : Cond.methodLink own idx yX12_late ∈ TB) (hw : (rest.map fun v => v.category).sum ≤ 8) (hR : rX12_late.frames + 1 ≤ rm.frames ∧ 8 + (2 + 11) + rX12_late.locals ≤ rm.locals) (hd : decode cc pc = .ok (.invokevirtual idx, 3)) (hp : pc + 3 = pc') (hf : f_X12_late p0 σ = some (r, σ')) (h : WW Γ cc nL own ret rm σ' pc' lv (.int r :: rest)) : WW Γ cc nL own ret rm σ pc lv (.int p0 :: .ref (xd Γ 58) :: rest) :=
  w_callV (nn := 1) (i := 58) (As := [.int p0]) (v := (some (.int r))) (T := TX12) (N := 32) (c_X12_late hf) hl mw_X12_late (by decide +kernel) ⟨rfl, rfl⟩ hR (lt_lit (by decide)) cel_58 rfl rfl hw hd rfl hp h
/-! WarByHoursModel.wins (I)I -/
def rX12_wins : Room := { frames := 6, cells := 0, slots := 0, locals := 138 }
def f_X12_wins_18 (k0 : Int32) (σ : St) : Option (Int32 × St) :=
  some (k0, σ)
theorem b_X12_wins_18 {Γ : CX} (k0 : Int32) (σ : St) (h : RR vI Γ (f_X12_wins_18 k0 σ)) : WW Γ cX12_wins 2 RX12 (some .int) rX12_wins σ 18 [] [.int k0] := by
  unfold f_X12_wins_18 at h
  exact w_ireturn dX12_wins_18 h
def f_X12_wins (p0 : Int32) (σ : St) : Option (Int32 × St) :=
  bd (f_X12_areTrains p0 σ) fun r1 s2 =>
  if r1 = 0 then
    f_X12_wins_18 (-2 : Int32) s2
  else
    bd (f_X12_winner p0 s2) fun r4 s5 =>
    f_X12_wins_18 r4 s5
theorem e_X12_wins {Γ : CX} (p0 : Int32) (σ : St) (h : RR vI Γ (f_X12_wins p0 σ)) : WW Γ cX12_wins 2 RX12 (some .int) rX12_wins σ 0 [(0, .ref (xd Γ 58)), (1, .int p0)] [] := by
  unfold f_X12_wins at h
  refine w_aload_n 0 dX12_wins_0 rfl rfl rfl ?_
  refine w_iload_n 1 dX12_wins_1 rfl rfl rfl ?_
  obtain ⟨r1, s2, h3, h⟩ := h.bd
  refine k_X12_areTrains ml_RX12_266 (Nat.le_of_ble_eq_true rfl) ⟨Nat.le_of_ble_eq_true rfl, Nat.le_of_ble_eq_true rfl⟩ dX12_wins_2 rfl h3 ?_
  refine w_if_eq (tgt := 16) dX12_wins_5 (by decide) rfl (fun q => ?_) (fun q => ?_)
  · have h := h.tt q
    refine w_bipush (-2 : Int32) dX12_wins_16 ic_bipush_m2 rfl ?_
    exact w_sub [] rfl (b_X12_wins_18 (-2 : Int32) s2 h)
  · have h := h.ff q
    refine w_aload_n 0 dX12_wins_8 rfl rfl rfl ?_
    refine w_iload_n 1 dX12_wins_9 rfl rfl rfl ?_
    obtain ⟨r4, s5, h6, h⟩ := h.bd
    refine k_X12_winner ml_RX12_269 (Nat.le_of_ble_eq_true rfl) ⟨Nat.le_of_ble_eq_true rfl, Nat.le_of_ble_eq_true rfl⟩ dX12_wins_10 rfl h6 ?_
    refine w_goto (tgt := 18) dX12_wins_13 (by decide) ?_
    exact w_sub [] rfl (b_X12_wins_18 r4 s5 h)
theorem c_X12_wins {l : Launch} {D : va_G} {cy : Nat → ClassId} {ad : Nat → Nat} {p0 : Int32} {σ σ' : St} {r : Int32} (hf : f_X12_wins p0 σ = some (r, σ')) : CT l D cy ad yX12_wins cX12_wins 2 (some .int) rX12_wins [.ref (ad 58), .int p0] σ (some (.int r)) σ' :=
  ct_of (by decide) (Nat.le_of_ble_eq_true rfl) (fun p e s m args below meth c A => e_X12_wins (Γ := (p, l, e, rX12_wins, s, m, args, below, meth, c, D, cy, ad, A, 0, 0, MQ below (QC D cy ad (some (.int r)) σ' A) args s 0 0 A)) p0 σ ⟨_, hf, rfl⟩)
theorem k_X12_wins {Γ : CX} {cc : ByteArray} {nL : Nat} {own : String} {ret : Option FieldType} {rm : Room} {σ σ' : St} {pc pc' idx : Nat} {lv : List (Nat × Value)} {rest : List Value} {p0 : Int32} {r : Int32} (hl : Cond.methodLink own idx yX12_wins ∈ TB) (hw : (rest.map fun v => v.category).sum ≤ 8) (hR : rX12_wins.frames + 1 ≤ rm.frames ∧ 8 + (2 + 11) + rX12_wins.locals ≤ rm.locals) (hd : decode cc pc = .ok (.invokevirtual idx, 3)) (hp : pc + 3 = pc') (hf : f_X12_wins p0 σ = some (r, σ')) (h : WW Γ cc nL own ret rm σ' pc' lv (.int r :: rest)) : WW Γ cc nL own ret rm σ pc lv (.int p0 :: .ref (xd Γ 58) :: rest) :=
  w_callV (nn := 1) (i := 58) (As := [.int p0]) (v := (some (.int r))) (T := TX12) (N := 32) (c_X12_wins hf) hl mw_X12_wins (by decide +kernel) ⟨rfl, rfl⟩ hR (lt_lit (by decide)) cel_58 rfl rfl hw hd rfl hp h
/-! WarByHoursModel.peak (II)I -/
def rX12_peak : Room := { frames := 5, cells := 0, slots := 0, locals := 114 }
def f_X12_peak_16 (σ : St) : Option (Int32 × St) :=
  some ((-2 : Int32), σ)
theorem b_X12_peak_16 {Γ : CX} (σ : St) (h : RR vI Γ (f_X12_peak_16 σ)) : WW Γ cX12_peak 5 RX12 (some .int) rX12_peak σ 16 [] [] := by
  unfold f_X12_peak_16 at h
  refine w_bipush (-2 : Int32) dX12_peak_16 ic_bipush_m2 rfl ?_
  exact w_ireturn dX12_peak_18 h
def f_X12_peak_71 (K30 : Int32 × Int32 × Int32 × St → Option (Int32 × St)) (v1 : Int32) (v4 : Int32) (k0 : Int32) (σ : St) : Option (Int32 × St) :=
  bnd (v4 + (1 : Int32)) fun x1 =>
  K30 (v1, k0, x1, σ)
theorem b_X12_peak_71 {Γ : CX} (K30 : Int32 × Int32 × Int32 × St → Option (Int32 × St)) (hK30 : ∀ (v1 : Int32) (v3 : Int32) (v4 : Int32) (σ : St), RR vI Γ (K30 (v1, v3, v4, σ)) → WW Γ cX12_peak 5 RX12 (some .int) rX12_peak σ 30 [(0, .ref (xd Γ 58)), (1, .int v1), (3, .int v3), (4, .int v4)] []) (v1 : Int32) (v4 : Int32) (k0 : Int32) (σ : St) (h : RR vI Γ (f_X12_peak_71 K30 v1 v4 k0 σ)) : WW Γ cX12_peak 5 RX12 (some .int) rX12_peak σ 71 [(0, .ref (xd Γ 58)), (1, .int v1), (4, .int v4)] [.int k0] := by
  unfold f_X12_peak_71 at h
  refine w_istore_n [(3, .int k0), (0, .ref (xd Γ 58)), (1, .int v1), (4, .int v4)] dX12_peak_71 rfl (by decide) rfl rfl ?_
  obtain ⟨x1, ex1⟩ : ∃ y : Int32, y = (v4 + (1 : Int32)) := ⟨_, rfl⟩
  replace h := h.bnd ex1
  refine w_iinc 3 x1 [(4, .int x1), (3, .int k0), (0, .ref (xd Γ 58)), (1, .int v1)] dX12_peak_72 rfl (by rw [ex1, ic_iconst_1]) (by decide) rfl rfl ?_
  clear ex1
  refine w_goto (tgt := 30) dX12_peak_75 (by decide) ?_
  exact w_sub [2, 3, 1, 0] rfl (hK30 v1 k0 x1 σ h)
def g_X12_peak_30 (K30 : Int32 × Int32 × Int32 × St → Option (Int32 × St)) (x : Int32 × Int32 × Int32 × St) : Option (Int32 × St) := match x with
  | (v1, v3, v4, σ) =>
  gd (inb (0 : Int32) (ln 59)) <|
  if (gr σ 59 (0 : Int32).toNatClampNeg) < v4 then
    some (v3, σ)
  else
    gd (inb v4 (ln 65)) <|
    bd (f_X12_goodBy v1 (gr σ 65 v4.toNatClampNeg) σ) fun r3 s4 =>
    gd (inb v3 (ln 65)) <|
    bd (f_X12_goodBy v1 (gr s4 65 v3.toNatClampNeg) s4) fun r7 s8 =>
    if r3 ≤ r7 then
      f_X12_peak_71 K30 v1 v4 v3 s8
    else
      f_X12_peak_71 K30 v1 v4 v4 s8
theorem l_X12_peak_30 {Γ : CX} : ∀ (n : Nat) (v1 : Int32) (v3 : Int32) (v4 : Int32) (σ : St), RR vI Γ (itr (g_X12_peak_30) n (v1, v3, v4, σ)) → WW Γ cX12_peak 5 RX12 (some .int) rX12_peak σ 30 [(0, .ref (xd Γ 58)), (1, .int v1), (3, .int v3), (4, .int v4)] [] := by
  intro n
  induction n with
  | zero => intro v1 v3 v4 σ h; exact RR.no h
  | succ n hK30 =>
  intro v1 v3 v4 σ h
  have h : RR vI Γ (g_X12_peak_30 (itr (g_X12_peak_30) n) (v1, v3, v4, σ)) := h
  generalize itr (g_X12_peak_30) n = K30 at h hK30
  unfold g_X12_peak_30 at h
  dsimp only at h
  refine w_iload 3 dX12_peak_30 rfl rfl ?_
  refine w_aload_n 0 dX12_peak_32 rfl rfl rfl ?_
  refine gf_RX12_9 dX12_peak_33 rfl ?_
  refine w_iconst (0 : Int32) dX12_peak_36 ic_iconst_0 rfl ?_
  obtain ⟨hi1, h⟩ := h.gd
  refine w_iald (i := 59) (lt_lit (by decide)) rfl hi1 dX12_peak_37 rfl ?_
  refine w_icmp_gt (tgt := 78) dX12_peak_38 (by decide) rfl (fun q => ?_) (fun q => ?_)
  · have h := h.tt q
    refine w_iload_n 2 dX12_peak_78 rfl rfl rfl ?_
    exact w_ireturn dX12_peak_79 h
  · have h := h.ff q
    refine w_iload_n 1 dX12_peak_41 rfl rfl rfl ?_
    refine w_aload_n 0 dX12_peak_42 rfl rfl rfl ?_
    refine gf_RX12_34 dX12_peak_43 rfl ?_
    refine w_iload 3 dX12_peak_46 rfl rfl ?_
    obtain ⟨hi2, h⟩ := h.gd
    refine w_iald (i := 65) (lt_lit (by decide)) rfl hi2 dX12_peak_48 rfl ?_
    obtain ⟨r3, s4, h5, h⟩ := h.bd
    refine k_X12_goodBy ml_RX12_272 (Nat.le_of_ble_eq_true rfl) ⟨Nat.le_of_ble_eq_true rfl, Nat.le_of_ble_eq_true rfl⟩ dX12_peak_49 rfl h5 ?_
    refine w_iload_n 1 dX12_peak_52 rfl rfl rfl ?_
    refine w_aload_n 0 dX12_peak_53 rfl rfl rfl ?_
    refine gf_RX12_34 dX12_peak_54 rfl ?_
    refine w_iload_n 2 dX12_peak_57 rfl rfl rfl ?_
    obtain ⟨hi6, h⟩ := h.gd
    refine w_iald (i := 65) (lt_lit (by decide)) rfl hi6 dX12_peak_58 rfl ?_
    obtain ⟨r7, s8, h9, h⟩ := h.bd
    refine k_X12_goodBy ml_RX12_272 (Nat.le_of_ble_eq_true rfl) ⟨Nat.le_of_ble_eq_true rfl, Nat.le_of_ble_eq_true rfl⟩ dX12_peak_59 rfl h9 ?_
    refine w_icmp_le (tgt := 70) dX12_peak_62 (by decide) rfl (fun q => ?_) (fun q => ?_)
    · have h := h.tt q
      refine w_iload_n 2 dX12_peak_70 rfl rfl rfl ?_
      exact w_sub [0, 1, 3] rfl (b_X12_peak_71 K30 hK30 v1 v4 v3 s8 h)
    · have h := h.ff q
      refine w_iload 3 dX12_peak_65 rfl rfl ?_
      refine w_goto (tgt := 71) dX12_peak_67 (by decide) ?_
      exact w_sub [0, 1, 3] rfl (b_X12_peak_71 K30 hK30 v1 v4 v4 s8 h)
def f_X12_peak (p0 : Int32) (p1 : Int32) (σ : St) : Option (Int32 × St) :=
  bd (f_X12_isSide p0 σ) fun r1 s2 =>
  if r1 = 0 then
    f_X12_peak_16 s2
  else
    bd (f_X12_areTrains p1 s2) fun r4 s5 =>
    if r4 = 0 then
      f_X12_peak_16 s5
    else
      bd (f_X12_lastFront p1 s5) fun r7 s8 =>
      itr (g_X12_peak_30) FU (p0, (0 : Int32), (1 : Int32), s8)
theorem e_X12_peak {Γ : CX} (p0 : Int32) (p1 : Int32) (σ : St) (h : RR vI Γ (f_X12_peak p0 p1 σ)) : WW Γ cX12_peak 5 RX12 (some .int) rX12_peak σ 0 [(0, .ref (xd Γ 58)), (1, .int p0), (2, .int p1)] [] := by
  unfold f_X12_peak at h
  refine w_aload_n 0 dX12_peak_0 rfl rfl rfl ?_
  refine w_iload_n 1 dX12_peak_1 rfl rfl rfl ?_
  obtain ⟨r1, s2, h3, h⟩ := h.bd
  refine k_X12_isSide ml_RX12_236 (Nat.le_of_ble_eq_true rfl) ⟨Nat.le_of_ble_eq_true rfl, Nat.le_of_ble_eq_true rfl⟩ dX12_peak_2 rfl h3 ?_
  refine w_if_eq (tgt := 16) dX12_peak_5 (by decide) rfl (fun q => ?_) (fun q => ?_)
  · have h := h.tt q
    exact w_sub [] rfl (b_X12_peak_16 s2 h)
  · have h := h.ff q
    refine w_aload_n 0 dX12_peak_8 rfl rfl rfl ?_
    refine w_iload_n 2 dX12_peak_9 rfl rfl rfl ?_
    obtain ⟨r4, s5, h6, h⟩ := h.bd
    refine k_X12_areTrains ml_RX12_266 (Nat.le_of_ble_eq_true rfl) ⟨Nat.le_of_ble_eq_true rfl, Nat.le_of_ble_eq_true rfl⟩ dX12_peak_10 rfl h6 ?_
    refine w_if_ne (tgt := 19) dX12_peak_13 (by decide) rfl (fun q => ?_) (fun q => ?_)
    · have h := h.ff q
      refine w_aload_n 0 dX12_peak_19 rfl rfl rfl ?_
      refine w_iload_n 2 dX12_peak_20 rfl rfl rfl ?_
      obtain ⟨r7, s8, h9, h⟩ := h.bd
      refine k_X12_lastFront ml_RX12_258 (Nat.le_of_ble_eq_true rfl) ⟨Nat.le_of_ble_eq_true rfl, Nat.le_of_ble_eq_true rfl⟩ dX12_peak_21 rfl h9 ?_
      refine w_pop dX12_peak_24 rfl rfl ?_
      refine w_iconst (0 : Int32) dX12_peak_25 ic_iconst_0 rfl ?_
      refine w_istore_n [(3, .int (0 : Int32)), (0, .ref (xd Γ 58)), (1, .int p0), (2, .int p1)] dX12_peak_26 rfl (by decide) rfl rfl ?_
      refine w_iconst (1 : Int32) dX12_peak_27 ic_iconst_1 rfl ?_
      refine w_istore [(4, .int (1 : Int32)), (3, .int (0 : Int32)), (0, .ref (xd Γ 58)), (1, .int p0), (2, .int p1)] dX12_peak_28 (by decide) rfl rfl ?_
      exact w_sub [2, 3, 1, 0] rfl (l_X12_peak_30 FU p0 (0 : Int32) (1 : Int32) s8 h)
    · have h := h.tt q
      exact w_sub [] rfl (b_X12_peak_16 s5 h)
theorem c_X12_peak {l : Launch} {D : va_G} {cy : Nat → ClassId} {ad : Nat → Nat} {p0 : Int32} {p1 : Int32} {σ σ' : St} {r : Int32} (hf : f_X12_peak p0 p1 σ = some (r, σ')) : CT l D cy ad yX12_peak cX12_peak 5 (some .int) rX12_peak [.ref (ad 58), .int p0, .int p1] σ (some (.int r)) σ' :=
  ct_of (by decide) (Nat.le_of_ble_eq_true rfl) (fun p e s m args below meth c A => e_X12_peak (Γ := (p, l, e, rX12_peak, s, m, args, below, meth, c, D, cy, ad, A, 0, 0, MQ below (QC D cy ad (some (.int r)) σ' A) args s 0 0 A)) p0 p1 σ ⟨_, hf, rfl⟩)
theorem k_X12_peak {Γ : CX} {cc : ByteArray} {nL : Nat} {own : String} {ret : Option FieldType} {rm : Room} {σ σ' : St} {pc pc' idx : Nat} {lv : List (Nat × Value)} {rest : List Value} {p0 : Int32} {p1 : Int32} {r : Int32} (hl : Cond.methodLink own idx yX12_peak ∈ TB) (hw : (rest.map fun v => v.category).sum ≤ 8) (hR : rX12_peak.frames + 1 ≤ rm.frames ∧ 8 + (5 + 11) + rX12_peak.locals ≤ rm.locals) (hd : decode cc pc = .ok (.invokevirtual idx, 3)) (hp : pc + 3 = pc') (hf : f_X12_peak p0 p1 σ = some (r, σ')) (h : WW Γ cc nL own ret rm σ' pc' lv (.int r :: rest)) : WW Γ cc nL own ret rm σ pc lv (.int p1 :: .int p0 :: .ref (xd Γ 58) :: rest) :=
  w_callV (nn := 2) (i := 58) (As := [.int p0, .int p1]) (v := (some (.int r))) (T := TX12) (N := 32) (c_X12_peak hf) hl mw_X12_peak (by decide +kernel) ⟨rfl, rfl⟩ hR (lt_lit (by decide)) cel_58 rfl rfl hw hd rfl hp h
/-! WarByHoursModel.swings (I)I -/
def rX12_swings : Room := { frames := 5, cells := 0, slots := 0, locals := 114 }
def f_X12_swings_95 (K24 : Int32 × Int32 × Int32 × St → Option (Int32 × St)) (v2 : Int32) (v3 : Int32) (v4 : Int32) (σ : St) : Option (Int32 × St) :=
  bnd (v4 + (1 : Int32)) fun x1 =>
  K24 (v2, v3, x1, σ)
theorem b_X12_swings_95 {Γ : CX} (K24 : Int32 × Int32 × Int32 × St → Option (Int32 × St)) (hK24 : ∀ (v2 : Int32) (v3 : Int32) (v4 : Int32) (σ : St), RR vI Γ (K24 (v2, v3, v4, σ)) → WW Γ cX12_swings 6 RX12 (some .int) rX12_swings σ 24 [(0, .ref (xd Γ 58)), (2, .int v2), (3, .int v3), (4, .int v4)] []) (v2 : Int32) (v3 : Int32) (v4 : Int32) (σ : St) (h : RR vI Γ (f_X12_swings_95 K24 v2 v3 v4 σ)) : WW Γ cX12_swings 6 RX12 (some .int) rX12_swings σ 95 [(0, .ref (xd Γ 58)), (2, .int v2), (3, .int v3), (4, .int v4)] [] := by
  unfold f_X12_swings_95 at h
  obtain ⟨x1, ex1⟩ : ∃ y : Int32, y = (v4 + (1 : Int32)) := ⟨_, rfl⟩
  replace h := h.bnd ex1
  refine w_iinc 3 x1 [(4, .int x1), (0, .ref (xd Γ 58)), (2, .int v2), (3, .int v3)] dX12_swings_95 rfl (by rw [ex1, ic_iconst_1]) (by decide) rfl rfl ?_
  clear ex1
  refine w_goto (tgt := 24) dX12_swings_98 (by decide) ?_
  exact w_sub [1, 2, 3, 0] rfl (hK24 v2 v3 x1 σ h)
def f_X12_swings_90 (K24 : Int32 × Int32 × Int32 × St → Option (Int32 × St)) (v4 : Int32) (v5 : Int32) (k0 : Int32) (k1 : Int32) (σ : St) : Option (Int32 × St) :=
  bnd ((k1 + k0)) fun x1 =>
  f_X12_swings_95 K24 x1 v5 v4 σ
theorem b_X12_swings_90 {Γ : CX} (K24 : Int32 × Int32 × Int32 × St → Option (Int32 × St)) (hK24 : ∀ (v2 : Int32) (v3 : Int32) (v4 : Int32) (σ : St), RR vI Γ (K24 (v2, v3, v4, σ)) → WW Γ cX12_swings 6 RX12 (some .int) rX12_swings σ 24 [(0, .ref (xd Γ 58)), (2, .int v2), (3, .int v3), (4, .int v4)] []) (v4 : Int32) (v5 : Int32) (k0 : Int32) (k1 : Int32) (σ : St) (h : RR vI Γ (f_X12_swings_90 K24 v4 v5 k0 k1 σ)) : WW Γ cX12_swings 6 RX12 (some .int) rX12_swings σ 90 [(0, .ref (xd Γ 58)), (4, .int v4), (5, .int v5)] [.int k0, .int k1] := by
  unfold f_X12_swings_90 at h
  refine w_iadd dX12_swings_90 rfl ?_
  refine w_nmI (fun x1 ex1 => ?_)
  replace h := h.bnd ex1
  clear ex1
  refine w_istore_n [(2, .int x1), (0, .ref (xd Γ 58)), (4, .int v4), (5, .int v5)] dX12_swings_91 rfl (by decide) rfl rfl ?_
  refine w_iload 3 dX12_swings_92 rfl rfl ?_
  refine w_istore_n [(3, .int v5), (2, .int x1), (0, .ref (xd Γ 58)), (4, .int v4), (5, .int v5)] dX12_swings_94 rfl (by decide) rfl rfl ?_
  exact w_sub [2, 1, 0, 3] rfl (b_X12_swings_95 K24 hK24 x1 v5 v4 σ h)
def f_X12_swings_89 (K24 : Int32 × Int32 × Int32 × St → Option (Int32 × St)) (v4 : Int32) (v5 : Int32) (k0 : Int32) (σ : St) : Option (Int32 × St) :=
  f_X12_swings_90 K24 v4 v5 (0 : Int32) k0 σ
theorem b_X12_swings_89 {Γ : CX} (K24 : Int32 × Int32 × Int32 × St → Option (Int32 × St)) (hK24 : ∀ (v2 : Int32) (v3 : Int32) (v4 : Int32) (σ : St), RR vI Γ (K24 (v2, v3, v4, σ)) → WW Γ cX12_swings 6 RX12 (some .int) rX12_swings σ 24 [(0, .ref (xd Γ 58)), (2, .int v2), (3, .int v3), (4, .int v4)] []) (v4 : Int32) (v5 : Int32) (k0 : Int32) (σ : St) (h : RR vI Γ (f_X12_swings_89 K24 v4 v5 k0 σ)) : WW Γ cX12_swings 6 RX12 (some .int) rX12_swings σ 89 [(0, .ref (xd Γ 58)), (4, .int v4), (5, .int v5)] [.int k0] := by
  unfold f_X12_swings_89 at h
  refine w_iconst (0 : Int32) dX12_swings_89 ic_iconst_0 rfl ?_
  exact w_sub [0, 1, 2] rfl (b_X12_swings_90 K24 hK24 v4 v5 (0 : Int32) k0 σ h)
def f_X12_swings_64 (K24 : Int32 × Int32 × Int32 × St → Option (Int32 × St)) (v2 : Int32) (v3 : Int32) (v4 : Int32) (k0 : Int32) (σ : St) : Option (Int32 × St) :=
  if k0 = 0 then
    f_X12_swings_95 K24 v2 v3 v4 σ
  else
    if v3 = 0 then
      f_X12_swings_89 K24 v4 k0 v2 σ
    else
      if v3 = k0 then
        f_X12_swings_89 K24 v4 k0 v2 σ
      else
        f_X12_swings_90 K24 v4 k0 (1 : Int32) v2 σ
theorem b_X12_swings_64 {Γ : CX} (K24 : Int32 × Int32 × Int32 × St → Option (Int32 × St)) (hK24 : ∀ (v2 : Int32) (v3 : Int32) (v4 : Int32) (σ : St), RR vI Γ (K24 (v2, v3, v4, σ)) → WW Γ cX12_swings 6 RX12 (some .int) rX12_swings σ 24 [(0, .ref (xd Γ 58)), (2, .int v2), (3, .int v3), (4, .int v4)] []) (v2 : Int32) (v3 : Int32) (v4 : Int32) (k0 : Int32) (σ : St) (h : RR vI Γ (f_X12_swings_64 K24 v2 v3 v4 k0 σ)) : WW Γ cX12_swings 6 RX12 (some .int) rX12_swings σ 64 [(0, .ref (xd Γ 58)), (2, .int v2), (3, .int v3), (4, .int v4)] [.int k0] := by
  unfold f_X12_swings_64 at h
  refine w_istore [(5, .int k0), (0, .ref (xd Γ 58)), (2, .int v2), (3, .int v3), (4, .int v4)] dX12_swings_64 (by decide) rfl rfl ?_
  refine w_iload 0 dX12_swings_66 rfl rfl ?_
  refine w_if_ne (tgt := 74) dX12_swings_68 (by decide) rfl (fun q => ?_) (fun q => ?_)
  · have h := h.ff q
    refine w_iload_n 2 dX12_swings_74 rfl rfl rfl ?_
    refine w_iload_n 3 dX12_swings_75 rfl rfl rfl ?_
    refine w_if_eq (tgt := 89) dX12_swings_76 (by decide) rfl (fun q => ?_) (fun q => ?_)
    · have h := h.tt q
      exact w_sub [1, 4, 0] rfl (b_X12_swings_89 K24 hK24 v4 k0 v2 σ h)
    · have h := h.ff q
      refine w_iload_n 3 dX12_swings_79 rfl rfl rfl ?_
      refine w_iload 0 dX12_swings_80 rfl rfl ?_
      refine w_icmp_eq (tgt := 89) dX12_swings_82 (by decide) rfl (fun q => ?_) (fun q => ?_)
      · have h := h.tt q
        exact w_sub [1, 4, 0] rfl (b_X12_swings_89 K24 hK24 v4 k0 v2 σ h)
      · have h := h.ff q
        refine w_iconst (1 : Int32) dX12_swings_85 ic_iconst_1 rfl ?_
        refine w_goto (tgt := 90) dX12_swings_86 (by decide) ?_
        exact w_sub [1, 4, 0] rfl (b_X12_swings_90 K24 hK24 v4 k0 (1 : Int32) v2 σ h)
  · have h := h.tt q
    refine w_goto (tgt := 95) dX12_swings_71 (by decide) ?_
    exact w_sub [1, 2, 3, 4] rfl (b_X12_swings_95 K24 hK24 v2 v3 v4 σ h)
def g_X12_swings_24 (K24 : Int32 × Int32 × Int32 × St → Option (Int32 × St)) (x : Int32 × Int32 × Int32 × St) : Option (Int32 × St) := match x with
  | (v2, v3, v4, σ) =>
  gd (inb (0 : Int32) (ln 59)) <|
  if (gr σ 59 (0 : Int32).toNatClampNeg) < v4 then
    some (v2, σ)
  else
    gd (inb v4 (ln 65)) <|
    if (gr σ 65 v4.toNatClampNeg) ≤ 0 then
      gd (inb v4 (ln 65)) <|
      if 0 ≤ (gr σ 65 v4.toNatClampNeg) then
        f_X12_swings_64 K24 v2 v3 v4 (0 : Int32) σ
      else
        f_X12_swings_64 K24 v2 v3 v4 (-1 : Int32) σ
    else
      f_X12_swings_64 K24 v2 v3 v4 (1 : Int32) σ
theorem l_X12_swings_24 {Γ : CX} : ∀ (n : Nat) (v2 : Int32) (v3 : Int32) (v4 : Int32) (σ : St), RR vI Γ (itr (g_X12_swings_24) n (v2, v3, v4, σ)) → WW Γ cX12_swings 6 RX12 (some .int) rX12_swings σ 24 [(0, .ref (xd Γ 58)), (2, .int v2), (3, .int v3), (4, .int v4)] [] := by
  intro n
  induction n with
  | zero => intro v2 v3 v4 σ h; exact RR.no h
  | succ n hK24 =>
  intro v2 v3 v4 σ h
  have h : RR vI Γ (g_X12_swings_24 (itr (g_X12_swings_24) n) (v2, v3, v4, σ)) := h
  generalize itr (g_X12_swings_24) n = K24 at h hK24
  unfold g_X12_swings_24 at h
  dsimp only at h
  refine w_iload 3 dX12_swings_24 rfl rfl ?_
  refine w_aload_n 0 dX12_swings_26 rfl rfl rfl ?_
  refine gf_RX12_9 dX12_swings_27 rfl ?_
  refine w_iconst (0 : Int32) dX12_swings_30 ic_iconst_0 rfl ?_
  obtain ⟨hi1, h⟩ := h.gd
  refine w_iald (i := 59) (lt_lit (by decide)) rfl hi1 dX12_swings_31 rfl ?_
  refine w_icmp_gt (tgt := 101) dX12_swings_32 (by decide) rfl (fun q => ?_) (fun q => ?_)
  · have h := h.tt q
    refine w_iload_n 1 dX12_swings_101 rfl rfl rfl ?_
    exact w_ireturn dX12_swings_102 h
  · have h := h.ff q
    refine w_aload_n 0 dX12_swings_35 rfl rfl rfl ?_
    refine gf_RX12_34 dX12_swings_36 rfl ?_
    refine w_iload 3 dX12_swings_39 rfl rfl ?_
    obtain ⟨hi2, h⟩ := h.gd
    refine w_iald (i := 65) (lt_lit (by decide)) rfl hi2 dX12_swings_41 rfl ?_
    refine w_if_le (tgt := 49) dX12_swings_42 (by decide) rfl (fun q => ?_) (fun q => ?_)
    · have h := h.tt q
      refine w_aload_n 0 dX12_swings_49 rfl rfl rfl ?_
      refine gf_RX12_34 dX12_swings_50 rfl ?_
      refine w_iload 3 dX12_swings_53 rfl rfl ?_
      obtain ⟨hi3, h⟩ := h.gd
      refine w_iald (i := 65) (lt_lit (by decide)) rfl hi3 dX12_swings_55 rfl ?_
      refine w_if_ge (tgt := 63) dX12_swings_56 (by decide) rfl (fun q => ?_) (fun q => ?_)
      · have h := h.tt q
        refine w_iconst (0 : Int32) dX12_swings_63 ic_iconst_0 rfl ?_
        exact w_sub [0, 1, 2, 3] rfl (b_X12_swings_64 K24 hK24 v2 v3 v4 (0 : Int32) σ h)
      · have h := h.ff q
        refine w_iconst (-1 : Int32) dX12_swings_59 ic_iconst_m1 rfl ?_
        refine w_goto (tgt := 64) dX12_swings_60 (by decide) ?_
        exact w_sub [0, 1, 2, 3] rfl (b_X12_swings_64 K24 hK24 v2 v3 v4 (-1 : Int32) σ h)
    · have h := h.ff q
      refine w_iconst (1 : Int32) dX12_swings_45 ic_iconst_1 rfl ?_
      refine w_goto (tgt := 64) dX12_swings_46 (by decide) ?_
      exact w_sub [0, 1, 2, 3] rfl (b_X12_swings_64 K24 hK24 v2 v3 v4 (1 : Int32) σ h)
def f_X12_swings (p0 : Int32) (σ : St) : Option (Int32 × St) :=
  bd (f_X12_areTrains p0 σ) fun r1 s2 =>
  if r1 = 0 then
    some ((-2 : Int32), s2)
  else
    bd (f_X12_lastFront p0 s2) fun r4 s5 =>
    itr (g_X12_swings_24) FU ((0 : Int32), (0 : Int32), (1 : Int32), s5)
theorem e_X12_swings {Γ : CX} (p0 : Int32) (σ : St) (h : RR vI Γ (f_X12_swings p0 σ)) : WW Γ cX12_swings 6 RX12 (some .int) rX12_swings σ 0 [(0, .ref (xd Γ 58)), (1, .int p0)] [] := by
  unfold f_X12_swings at h
  refine w_aload_n 0 dX12_swings_0 rfl rfl rfl ?_
  refine w_iload_n 1 dX12_swings_1 rfl rfl rfl ?_
  obtain ⟨r1, s2, h3, h⟩ := h.bd
  refine k_X12_areTrains ml_RX12_266 (Nat.le_of_ble_eq_true rfl) ⟨Nat.le_of_ble_eq_true rfl, Nat.le_of_ble_eq_true rfl⟩ dX12_swings_2 rfl h3 ?_
  refine w_if_ne (tgt := 11) dX12_swings_5 (by decide) rfl (fun q => ?_) (fun q => ?_)
  · have h := h.ff q
    refine w_aload_n 0 dX12_swings_11 rfl rfl rfl ?_
    refine w_iload_n 1 dX12_swings_12 rfl rfl rfl ?_
    obtain ⟨r4, s5, h6, h⟩ := h.bd
    refine k_X12_lastFront ml_RX12_258 (Nat.le_of_ble_eq_true rfl) ⟨Nat.le_of_ble_eq_true rfl, Nat.le_of_ble_eq_true rfl⟩ dX12_swings_13 rfl h6 ?_
    refine w_pop dX12_swings_16 rfl rfl ?_
    refine w_iconst (0 : Int32) dX12_swings_17 ic_iconst_0 rfl ?_
    refine w_istore_n [(2, .int (0 : Int32)), (0, .ref (xd Γ 58)), (1, .int p0)] dX12_swings_18 rfl (by decide) rfl rfl ?_
    refine w_iconst (0 : Int32) dX12_swings_19 ic_iconst_0 rfl ?_
    refine w_istore_n [(3, .int (0 : Int32)), (2, .int (0 : Int32)), (0, .ref (xd Γ 58)), (1, .int p0)] dX12_swings_20 rfl (by decide) rfl rfl ?_
    refine w_iconst (1 : Int32) dX12_swings_21 ic_iconst_1 rfl ?_
    refine w_istore [(4, .int (1 : Int32)), (3, .int (0 : Int32)), (2, .int (0 : Int32)), (0, .ref (xd Γ 58)), (1, .int p0)] dX12_swings_22 (by decide) rfl rfl ?_
    exact w_sub [3, 2, 1, 0] rfl (l_X12_swings_24 FU (0 : Int32) (0 : Int32) (1 : Int32) s5 h)
  · have h := h.tt q
    refine w_bipush (-2 : Int32) dX12_swings_8 ic_bipush_m2 rfl ?_
    exact w_ireturn dX12_swings_10 h
theorem c_X12_swings {l : Launch} {D : va_G} {cy : Nat → ClassId} {ad : Nat → Nat} {p0 : Int32} {σ σ' : St} {r : Int32} (hf : f_X12_swings p0 σ = some (r, σ')) : CT l D cy ad yX12_swings cX12_swings 6 (some .int) rX12_swings [.ref (ad 58), .int p0] σ (some (.int r)) σ' :=
  ct_of (by decide) (Nat.le_of_ble_eq_true rfl) (fun p e s m args below meth c A => e_X12_swings (Γ := (p, l, e, rX12_swings, s, m, args, below, meth, c, D, cy, ad, A, 0, 0, MQ below (QC D cy ad (some (.int r)) σ' A) args s 0 0 A)) p0 σ ⟨_, hf, rfl⟩)
theorem k_X12_swings {Γ : CX} {cc : ByteArray} {nL : Nat} {own : String} {ret : Option FieldType} {rm : Room} {σ σ' : St} {pc pc' idx : Nat} {lv : List (Nat × Value)} {rest : List Value} {p0 : Int32} {r : Int32} (hl : Cond.methodLink own idx yX12_swings ∈ TB) (hw : (rest.map fun v => v.category).sum ≤ 8) (hR : rX12_swings.frames + 1 ≤ rm.frames ∧ 8 + (6 + 11) + rX12_swings.locals ≤ rm.locals) (hd : decode cc pc = .ok (.invokevirtual idx, 3)) (hp : pc + 3 = pc') (hf : f_X12_swings p0 σ = some (r, σ')) (h : WW Γ cc nL own ret rm σ' pc' lv (.int r :: rest)) : WW Γ cc nL own ret rm σ pc lv (.int p0 :: .ref (xd Γ 58) :: rest) :=
  w_callV (nn := 1) (i := 58) (As := [.int p0]) (v := (some (.int r))) (T := TX12) (N := 32) (c_X12_swings hf) hl mw_X12_swings (by decide +kernel) ⟨rfl, rfl⟩ hR (lt_lit (by decide)) cel_58 rfl rfl hw hd rfl hp h
