/-! WarByHours.spoils (II)I -/
def rX11_spoils : Room := { frames := 7, cells := 0, slots := 0, locals := 163 }
def f_X11_spoils_23 (k0 : Int32) (σ : St) : Option (Int32 × St) :=
  some (k0, σ)
theorem b_X11_spoils_23 {Γ : CX} (k0 : Int32) (σ : St) (h : RR vI Γ (f_X11_spoils_23 k0 σ)) : WW Γ cX11_spoils 3 RX11 (some .int) rX11_spoils σ 23 [] [.int k0] := by
  unfold f_X11_spoils_23 at h
  exact w_ireturn dX11_spoils_23 h
def f_X11_spoils (p0 : Int32) (p1 : Int32) (σ : St) : Option (Int32 × St) :=
  bd (f_X11_isPurse p0 p1 σ) fun r1 s2 =>
  if r1 = 0 then
    f_X11_spoils_23 (-2 : Int32) s2
  else
    bd (f_X3_spoiledSet p0 p1 s2) fun r4 s5 =>
    f_X11_spoils_23 r4 s5
theorem e_X11_spoils {Γ : CX} (p0 : Int32) (p1 : Int32) (σ : St) (h : RR vI Γ (f_X11_spoils p0 p1 σ)) : WW Γ cX11_spoils 3 RX11 (some .int) rX11_spoils σ 0 [(0, .ref (xd Γ 0)), (1, .int p0), (2, .int p1)] [] := by
  unfold f_X11_spoils at h
  refine w_aload_n 0 dX11_spoils_0 rfl rfl rfl ?_
  refine w_iload_n 1 dX11_spoils_1 rfl rfl rfl ?_
  refine w_iload_n 2 dX11_spoils_2 rfl rfl rfl ?_
  obtain ⟨r1, s2, h3, h⟩ := h.bd
  refine k_X11_isPurse ml_RX11_247 (Nat.le_of_ble_eq_true rfl) ⟨Nat.le_of_ble_eq_true rfl, Nat.le_of_ble_eq_true rfl⟩ dX11_spoils_3 rfl h3 ?_
  refine w_if_eq (tgt := 21) dX11_spoils_6 (by decide) rfl (fun q => ?_) (fun q => ?_)
  · have h := h.tt q
    refine w_bipush (-2 : Int32) dX11_spoils_21 ic_bipush_m2 rfl ?_
    exact w_sub [] rfl (b_X11_spoils_23 (-2 : Int32) s2 h)
  · have h := h.ff q
    refine w_aload_n 0 dX11_spoils_9 rfl rfl rfl ?_
    refine gf_RX11_40 dX11_spoils_10 rfl ?_
    refine w_iload_n 1 dX11_spoils_13 rfl rfl rfl ?_
    refine w_iload_n 2 dX11_spoils_14 rfl rfl rfl ?_
    obtain ⟨r4, s5, h6, h⟩ := h.bd
    refine k_X3_spoiledSet ml_RX11_250 (Nat.le_of_ble_eq_true rfl) ⟨Nat.le_of_ble_eq_true rfl, Nat.le_of_ble_eq_true rfl⟩ dX11_spoils_15 rfl h6 ?_
    refine w_goto (tgt := 23) dX11_spoils_18 (by decide) ?_
    exact w_sub [] rfl (b_X11_spoils_23 r4 s5 h)
theorem c_X11_spoils {l : Launch} {D : va_G} {cy : Nat → ClassId} {ad : Nat → Nat} {p0 : Int32} {p1 : Int32} {σ σ' : St} {r : Int32} (hf : f_X11_spoils p0 p1 σ = some (r, σ')) : CT l D cy ad yX11_spoils cX11_spoils 3 (some .int) rX11_spoils [.ref (ad 0), .int p0, .int p1] σ (some (.int r)) σ' :=
  ct_of (by decide) (Nat.le_of_ble_eq_true rfl) (fun p e s m args below meth c A => e_X11_spoils (Γ := (p, l, e, rX11_spoils, s, m, args, below, meth, c, D, cy, ad, A, 0, 0, MQ below (QC D cy ad (some (.int r)) σ' A) args s 0 0 A)) p0 p1 σ ⟨_, hf, rfl⟩)
theorem k_X11_spoils {Γ : CX} {cc : ByteArray} {nL : Nat} {own : String} {ret : Option FieldType} {rm : Room} {σ σ' : St} {pc pc' idx : Nat} {lv : List (Nat × Value)} {rest : List Value} {p0 : Int32} {p1 : Int32} {r : Int32} (hl : Cond.methodLink own idx yX11_spoils ∈ TB) (hw : (rest.map fun v => v.category).sum ≤ 8) (hR : rX11_spoils.frames + 1 ≤ rm.frames ∧ 8 + (3 + 11) + rX11_spoils.locals ≤ rm.locals) (hd : decode cc pc = .ok (.invokevirtual idx, 3)) (hp : pc + 3 = pc') (hf : f_X11_spoils p0 p1 σ = some (r, σ')) (h : WW Γ cc nL own ret rm σ' pc' lv (.int r :: rest)) : WW Γ cc nL own ret rm σ pc lv (.int p1 :: .int p0 :: .ref (xd Γ 0) :: rest) :=
  w_callV (nn := 2) (i := 0) (As := [.int p0, .int p1]) (v := (some (.int r))) (T := TX11) (N := 11) (c_X11_spoils hf) hl mw_X11_spoils (by decide +kernel) ⟨rfl, rfl⟩ hR (lt_lit (by decide)) cel_0 rfl rfl hw hd rfl hp h
/-! WarByHours.hold (II)I -/
def rX11_hold : Room := { frames := 3, cells := 0, slots := 0, locals := 75 }
def f_X11_hold_14 (σ : St) : Option (Int32 × St) :=
  some ((-1000 : Int32), σ)
theorem b_X11_hold_14 {Γ : CX} (σ : St) (h : RR vI Γ (f_X11_hold_14 σ)) : WW Γ cX11_hold 3 RX11 (some .int) rX11_hold σ 14 [] [] := by
  unfold f_X11_hold_14 at h
  refine w_sipush (-1000 : Int32) dX11_hold_14 ic_sipush_m1000 rfl ?_
  exact w_ireturn dX11_hold_17 h
def f_X11_hold (p0 : Int32) (p1 : Int32) (σ : St) : Option (Int32 × St) :=
  bd (f_X11_isHost p0 σ) fun r1 s2 =>
  if r1 = 0 then
    f_X11_hold_14 s2
  else
    bd (f_X11_isHost p1 s2) fun r4 s5 =>
    if r4 = 0 then
      f_X11_hold_14 s5
    else
      bd (f_X5_settle p0 p1 s5) fun _ s8 =>
      some ((gf s8 43 0), s8)
theorem e_X11_hold {Γ : CX} (p0 : Int32) (p1 : Int32) (σ : St) (h : RR vI Γ (f_X11_hold p0 p1 σ)) : WW Γ cX11_hold 3 RX11 (some .int) rX11_hold σ 0 [(0, .ref (xd Γ 0)), (1, .int p0), (2, .int p1)] [] := by
  unfold f_X11_hold at h
  refine w_iload_n 1 dX11_hold_0 rfl rfl rfl ?_
  obtain ⟨r1, s2, h3, h⟩ := h.bd
  refine k_X11_isHost ml_RX11_265 (Nat.le_of_ble_eq_true rfl) ⟨Nat.le_of_ble_eq_true rfl, Nat.le_of_ble_eq_true rfl⟩ dX11_hold_1 rfl h3 ?_
  refine w_if_eq (tgt := 14) dX11_hold_4 (by decide) rfl (fun q => ?_) (fun q => ?_)
  · have h := h.tt q
    exact w_sub [] rfl (b_X11_hold_14 s2 h)
  · have h := h.ff q
    refine w_iload_n 2 dX11_hold_7 rfl rfl rfl ?_
    obtain ⟨r4, s5, h6, h⟩ := h.bd
    refine k_X11_isHost ml_RX11_265 (Nat.le_of_ble_eq_true rfl) ⟨Nat.le_of_ble_eq_true rfl, Nat.le_of_ble_eq_true rfl⟩ dX11_hold_8 rfl h6 ?_
    refine w_if_ne (tgt := 18) dX11_hold_11 (by decide) rfl (fun q => ?_) (fun q => ?_)
    · have h := h.ff q
      refine w_aload_n 0 dX11_hold_18 rfl rfl rfl ?_
      refine gf_RX11_47 dX11_hold_19 rfl ?_
      refine w_iload_n 1 dX11_hold_22 rfl rfl rfl ?_
      refine w_iload_n 2 dX11_hold_23 rfl rfl rfl ?_
      obtain ⟨r7, s8, h9, h⟩ := h.bd
      refine k_X5_settle ml_RX11_268 (Nat.le_of_ble_eq_true rfl) ⟨Nat.le_of_ble_eq_true rfl, Nat.le_of_ble_eq_true rfl⟩ dX11_hold_24 rfl h9 ?_
      refine w_aload_n 0 dX11_hold_27 rfl rfl rfl ?_
      refine gf_RX11_47 dX11_hold_28 rfl ?_
      refine gf_RX11_272 dX11_hold_31 rfl ?_
      exact w_ireturn dX11_hold_34 h
    · have h := h.tt q
      exact w_sub [] rfl (b_X11_hold_14 s5 h)
theorem c_X11_hold {l : Launch} {D : va_G} {cy : Nat → ClassId} {ad : Nat → Nat} {p0 : Int32} {p1 : Int32} {σ σ' : St} {r : Int32} (hf : f_X11_hold p0 p1 σ = some (r, σ')) : CT l D cy ad yX11_hold cX11_hold 3 (some .int) rX11_hold [.ref (ad 0), .int p0, .int p1] σ (some (.int r)) σ' :=
  ct_of (by decide) (Nat.le_of_ble_eq_true rfl) (fun p e s m args below meth c A => e_X11_hold (Γ := (p, l, e, rX11_hold, s, m, args, below, meth, c, D, cy, ad, A, 0, 0, MQ below (QC D cy ad (some (.int r)) σ' A) args s 0 0 A)) p0 p1 σ ⟨_, hf, rfl⟩)
theorem k_X11_hold {Γ : CX} {cc : ByteArray} {nL : Nat} {own : String} {ret : Option FieldType} {rm : Room} {σ σ' : St} {pc pc' idx : Nat} {lv : List (Nat × Value)} {rest : List Value} {p0 : Int32} {p1 : Int32} {r : Int32} (hl : Cond.methodLink own idx yX11_hold ∈ TB) (hw : (rest.map fun v => v.category).sum ≤ 8) (hR : rX11_hold.frames + 1 ≤ rm.frames ∧ 8 + (3 + 11) + rX11_hold.locals ≤ rm.locals) (hd : decode cc pc = .ok (.invokevirtual idx, 3)) (hp : pc + 3 = pc') (hf : f_X11_hold p0 p1 σ = some (r, σ')) (h : WW Γ cc nL own ret rm σ' pc' lv (.int r :: rest)) : WW Γ cc nL own ret rm σ pc lv (.int p1 :: .int p0 :: .ref (xd Γ 0) :: rest) :=
  w_callV (nn := 2) (i := 0) (As := [.int p0, .int p1]) (v := (some (.int r))) (T := TX11) (N := 11) (c_X11_hold hf) hl mw_X11_hold (by decide +kernel) ⟨rfl, rfl⟩ hR (lt_lit (by decide)) cel_0 rfl rfl hw hd rfl hp h
/-! WarByHours.holds (III)I -/
def rX11_holds : Room := { frames := 3, cells := 0, slots := 0, locals := 75 }
def f_X11_holds_21 (σ : St) : Option (Int32 × St) :=
  some ((-2 : Int32), σ)
theorem b_X11_holds_21 {Γ : CX} (σ : St) (h : RR vI Γ (f_X11_holds_21 σ)) : WW Γ cX11_holds 4 RX11 (some .int) rX11_holds σ 21 [] [] := by
  unfold f_X11_holds_21 at h
  refine w_bipush (-2 : Int32) dX11_holds_21 ic_bipush_m2 rfl ?_
  exact w_ireturn dX11_holds_23 h
def f_X11_holds (p0 : Int32) (p1 : Int32) (p2 : Int32) (σ : St) : Option (Int32 × St) :=
  bd (f_X11_isHost p0 σ) fun r1 s2 =>
  if r1 = 0 then
    f_X11_holds_21 s2
  else
    bd (f_X11_isHost p1 s2) fun r4 s5 =>
    if r4 = 0 then
      f_X11_holds_21 s5
    else
      bd (f_X11_isPlace p2 s5) fun r7 s8 =>
      if r7 = 0 then
        f_X11_holds_21 s8
      else
        bd (f_X5_settle p0 p1 s8) fun _ s11 =>
        gd (inb p2 (ln 44)) <|
        some ((gr s11 44 p2.toNatClampNeg), s11)
theorem e_X11_holds {Γ : CX} (p0 : Int32) (p1 : Int32) (p2 : Int32) (σ : St) (h : RR vI Γ (f_X11_holds p0 p1 p2 σ)) : WW Γ cX11_holds 4 RX11 (some .int) rX11_holds σ 0 [(0, .ref (xd Γ 0)), (1, .int p0), (2, .int p1), (3, .int p2)] [] := by
  unfold f_X11_holds at h
  refine w_iload_n 1 dX11_holds_0 rfl rfl rfl ?_
  obtain ⟨r1, s2, h3, h⟩ := h.bd
  refine k_X11_isHost ml_RX11_265 (Nat.le_of_ble_eq_true rfl) ⟨Nat.le_of_ble_eq_true rfl, Nat.le_of_ble_eq_true rfl⟩ dX11_holds_1 rfl h3 ?_
  refine w_if_eq (tgt := 21) dX11_holds_4 (by decide) rfl (fun q => ?_) (fun q => ?_)
  · have h := h.tt q
    exact w_sub [] rfl (b_X11_holds_21 s2 h)
  · have h := h.ff q
    refine w_iload_n 2 dX11_holds_7 rfl rfl rfl ?_
    obtain ⟨r4, s5, h6, h⟩ := h.bd
    refine k_X11_isHost ml_RX11_265 (Nat.le_of_ble_eq_true rfl) ⟨Nat.le_of_ble_eq_true rfl, Nat.le_of_ble_eq_true rfl⟩ dX11_holds_8 rfl h6 ?_
    refine w_if_eq (tgt := 21) dX11_holds_11 (by decide) rfl (fun q => ?_) (fun q => ?_)
    · have h := h.tt q
      exact w_sub [] rfl (b_X11_holds_21 s5 h)
    · have h := h.ff q
      refine w_iload_n 3 dX11_holds_14 rfl rfl rfl ?_
      obtain ⟨r7, s8, h9, h⟩ := h.bd
      refine k_X11_isPlace ml_RX11_275 (Nat.le_of_ble_eq_true rfl) ⟨Nat.le_of_ble_eq_true rfl, Nat.le_of_ble_eq_true rfl⟩ dX11_holds_15 rfl h9 ?_
      refine w_if_ne (tgt := 24) dX11_holds_18 (by decide) rfl (fun q => ?_) (fun q => ?_)
      · have h := h.ff q
        refine w_aload_n 0 dX11_holds_24 rfl rfl rfl ?_
        refine gf_RX11_47 dX11_holds_25 rfl ?_
        refine w_iload_n 1 dX11_holds_28 rfl rfl rfl ?_
        refine w_iload_n 2 dX11_holds_29 rfl rfl rfl ?_
        obtain ⟨r10, s11, h12, h⟩ := h.bd
        refine k_X5_settle ml_RX11_268 (Nat.le_of_ble_eq_true rfl) ⟨Nat.le_of_ble_eq_true rfl, Nat.le_of_ble_eq_true rfl⟩ dX11_holds_30 rfl h12 ?_
        refine w_aload_n 0 dX11_holds_33 rfl rfl rfl ?_
        refine gf_RX11_47 dX11_holds_34 rfl ?_
        refine gf_RX11_278 dX11_holds_37 rfl ?_
        refine w_iload_n 3 dX11_holds_40 rfl rfl rfl ?_
        obtain ⟨hi13, h⟩ := h.gd
        refine w_iald (i := 44) (lt_lit (by decide)) rfl hi13 dX11_holds_41 rfl ?_
        exact w_ireturn dX11_holds_42 h
      · have h := h.tt q
        exact w_sub [] rfl (b_X11_holds_21 s8 h)
theorem c_X11_holds {l : Launch} {D : va_G} {cy : Nat → ClassId} {ad : Nat → Nat} {p0 : Int32} {p1 : Int32} {p2 : Int32} {σ σ' : St} {r : Int32} (hf : f_X11_holds p0 p1 p2 σ = some (r, σ')) : CT l D cy ad yX11_holds cX11_holds 4 (some .int) rX11_holds [.ref (ad 0), .int p0, .int p1, .int p2] σ (some (.int r)) σ' :=
  ct_of (by decide) (Nat.le_of_ble_eq_true rfl) (fun p e s m args below meth c A => e_X11_holds (Γ := (p, l, e, rX11_holds, s, m, args, below, meth, c, D, cy, ad, A, 0, 0, MQ below (QC D cy ad (some (.int r)) σ' A) args s 0 0 A)) p0 p1 p2 σ ⟨_, hf, rfl⟩)
theorem k_X11_holds {Γ : CX} {cc : ByteArray} {nL : Nat} {own : String} {ret : Option FieldType} {rm : Room} {σ σ' : St} {pc pc' idx : Nat} {lv : List (Nat × Value)} {rest : List Value} {p0 : Int32} {p1 : Int32} {p2 : Int32} {r : Int32} (hl : Cond.methodLink own idx yX11_holds ∈ TB) (hw : (rest.map fun v => v.category).sum ≤ 8) (hR : rX11_holds.frames + 1 ≤ rm.frames ∧ 8 + (4 + 11) + rX11_holds.locals ≤ rm.locals) (hd : decode cc pc = .ok (.invokevirtual idx, 3)) (hp : pc + 3 = pc') (hf : f_X11_holds p0 p1 p2 σ = some (r, σ')) (h : WW Γ cc nL own ret rm σ' pc' lv (.int r :: rest)) : WW Γ cc nL own ret rm σ pc lv (.int p2 :: .int p1 :: .int p0 :: .ref (xd Γ 0) :: rest) :=
  w_callV (nn := 3) (i := 0) (As := [.int p0, .int p1, .int p2]) (v := (some (.int r))) (T := TX11) (N := 11) (c_X11_holds hf) hl mw_X11_holds (by decide +kernel) ⟨rfl, rfl⟩ hR (lt_lit (by decide)) cel_0 rfl rfl hw hd rfl hp h
/-! WarByHours.reply (III)I -/
def rX11_reply : Room := { frames := 3, cells := 0, slots := 0, locals := 75 }
def f_X11_reply_21 (σ : St) : Option (Int32 × St) :=
  some ((-2 : Int32), σ)
theorem b_X11_reply_21 {Γ : CX} (σ : St) (h : RR vI Γ (f_X11_reply_21 σ)) : WW Γ cX11_reply 4 RX11 (some .int) rX11_reply σ 21 [] [] := by
  unfold f_X11_reply_21 at h
  refine w_bipush (-2 : Int32) dX11_reply_21 ic_bipush_m2 rfl ?_
  exact w_ireturn dX11_reply_23 h
def f_X11_reply (p0 : Int32) (p1 : Int32) (p2 : Int32) (σ : St) : Option (Int32 × St) :=
  bd (f_X11_isHost p0 σ) fun r1 s2 =>
  if r1 = 0 then
    f_X11_reply_21 s2
  else
    bd (f_X11_isHost p1 s2) fun r4 s5 =>
    if r4 = 0 then
      f_X11_reply_21 s5
    else
      bd (f_X11_isPlace p2 s5) fun r7 s8 =>
      if r7 = 0 then
        f_X11_reply_21 s8
      else
        bd (f_X5_settle p0 p1 s8) fun _ s11 =>
        gd (inb p2 (ln 45)) <|
        some ((gr s11 45 p2.toNatClampNeg), s11)
theorem e_X11_reply {Γ : CX} (p0 : Int32) (p1 : Int32) (p2 : Int32) (σ : St) (h : RR vI Γ (f_X11_reply p0 p1 p2 σ)) : WW Γ cX11_reply 4 RX11 (some .int) rX11_reply σ 0 [(0, .ref (xd Γ 0)), (1, .int p0), (2, .int p1), (3, .int p2)] [] := by
  unfold f_X11_reply at h
  refine w_iload_n 1 dX11_reply_0 rfl rfl rfl ?_
  obtain ⟨r1, s2, h3, h⟩ := h.bd
  refine k_X11_isHost ml_RX11_265 (Nat.le_of_ble_eq_true rfl) ⟨Nat.le_of_ble_eq_true rfl, Nat.le_of_ble_eq_true rfl⟩ dX11_reply_1 rfl h3 ?_
  refine w_if_eq (tgt := 21) dX11_reply_4 (by decide) rfl (fun q => ?_) (fun q => ?_)
  · have h := h.tt q
    exact w_sub [] rfl (b_X11_reply_21 s2 h)
  · have h := h.ff q
    refine w_iload_n 2 dX11_reply_7 rfl rfl rfl ?_
    obtain ⟨r4, s5, h6, h⟩ := h.bd
    refine k_X11_isHost ml_RX11_265 (Nat.le_of_ble_eq_true rfl) ⟨Nat.le_of_ble_eq_true rfl, Nat.le_of_ble_eq_true rfl⟩ dX11_reply_8 rfl h6 ?_
    refine w_if_eq (tgt := 21) dX11_reply_11 (by decide) rfl (fun q => ?_) (fun q => ?_)
    · have h := h.tt q
      exact w_sub [] rfl (b_X11_reply_21 s5 h)
    · have h := h.ff q
      refine w_iload_n 3 dX11_reply_14 rfl rfl rfl ?_
      obtain ⟨r7, s8, h9, h⟩ := h.bd
      refine k_X11_isPlace ml_RX11_275 (Nat.le_of_ble_eq_true rfl) ⟨Nat.le_of_ble_eq_true rfl, Nat.le_of_ble_eq_true rfl⟩ dX11_reply_15 rfl h9 ?_
      refine w_if_ne (tgt := 24) dX11_reply_18 (by decide) rfl (fun q => ?_) (fun q => ?_)
      · have h := h.ff q
        refine w_aload_n 0 dX11_reply_24 rfl rfl rfl ?_
        refine gf_RX11_47 dX11_reply_25 rfl ?_
        refine w_iload_n 1 dX11_reply_28 rfl rfl rfl ?_
        refine w_iload_n 2 dX11_reply_29 rfl rfl rfl ?_
        obtain ⟨r10, s11, h12, h⟩ := h.bd
        refine k_X5_settle ml_RX11_268 (Nat.le_of_ble_eq_true rfl) ⟨Nat.le_of_ble_eq_true rfl, Nat.le_of_ble_eq_true rfl⟩ dX11_reply_30 rfl h12 ?_
        refine w_aload_n 0 dX11_reply_33 rfl rfl rfl ?_
        refine gf_RX11_47 dX11_reply_34 rfl ?_
        refine gf_RX11_282 dX11_reply_37 rfl ?_
        refine w_iload_n 3 dX11_reply_40 rfl rfl rfl ?_
        obtain ⟨hi13, h⟩ := h.gd
        refine w_iald (i := 45) (lt_lit (by decide)) rfl hi13 dX11_reply_41 rfl ?_
        exact w_ireturn dX11_reply_42 h
      · have h := h.tt q
        exact w_sub [] rfl (b_X11_reply_21 s8 h)
theorem c_X11_reply {l : Launch} {D : va_G} {cy : Nat → ClassId} {ad : Nat → Nat} {p0 : Int32} {p1 : Int32} {p2 : Int32} {σ σ' : St} {r : Int32} (hf : f_X11_reply p0 p1 p2 σ = some (r, σ')) : CT l D cy ad yX11_reply cX11_reply 4 (some .int) rX11_reply [.ref (ad 0), .int p0, .int p1, .int p2] σ (some (.int r)) σ' :=
  ct_of (by decide) (Nat.le_of_ble_eq_true rfl) (fun p e s m args below meth c A => e_X11_reply (Γ := (p, l, e, rX11_reply, s, m, args, below, meth, c, D, cy, ad, A, 0, 0, MQ below (QC D cy ad (some (.int r)) σ' A) args s 0 0 A)) p0 p1 p2 σ ⟨_, hf, rfl⟩)
theorem k_X11_reply {Γ : CX} {cc : ByteArray} {nL : Nat} {own : String} {ret : Option FieldType} {rm : Room} {σ σ' : St} {pc pc' idx : Nat} {lv : List (Nat × Value)} {rest : List Value} {p0 : Int32} {p1 : Int32} {p2 : Int32} {r : Int32} (hl : Cond.methodLink own idx yX11_reply ∈ TB) (hw : (rest.map fun v => v.category).sum ≤ 8) (hR : rX11_reply.frames + 1 ≤ rm.frames ∧ 8 + (4 + 11) + rX11_reply.locals ≤ rm.locals) (hd : decode cc pc = .ok (.invokevirtual idx, 3)) (hp : pc + 3 = pc') (hf : f_X11_reply p0 p1 p2 σ = some (r, σ')) (h : WW Γ cc nL own ret rm σ' pc' lv (.int r :: rest)) : WW Γ cc nL own ret rm σ pc lv (.int p2 :: .int p1 :: .int p0 :: .ref (xd Γ 0) :: rest) :=
  w_callV (nn := 3) (i := 0) (As := [.int p0, .int p1, .int p2]) (v := (some (.int r))) (T := TX11) (N := 11) (c_X11_reply hf) hl mw_X11_reply (by decide +kernel) ⟨rfl, rfl⟩ hR (lt_lit (by decide)) cel_0 rfl rfl hw hd rfl hp h
/-! WarByHours.readings (I)I -/
def rX11_readings : Room := { frames := 3, cells := 0, slots := 0, locals := 72 }
def f_X11_readings_21 (k0 : Int32) (σ : St) : Option (Int32 × St) :=
  some (k0, σ)
theorem b_X11_readings_21 {Γ : CX} (k0 : Int32) (σ : St) (h : RR vI Γ (f_X11_readings_21 k0 σ)) : WW Γ cX11_readings 2 RX11 (some .int) rX11_readings σ 21 [] [.int k0] := by
  unfold f_X11_readings_21 at h
  exact w_ireturn dX11_readings_21 h
def f_X11_readings (p0 : Int32) (σ : St) : Option (Int32 × St) :=
  bd (f_X11_isPeaceMinute p0 σ) fun r1 s2 =>
  if r1 = 0 then
    f_X11_readings_21 (-2 : Int32) s2
  else
    bd (f_X4_countReadings p0 s2) fun r4 s5 =>
    f_X11_readings_21 r4 s5
theorem e_X11_readings {Γ : CX} (p0 : Int32) (σ : St) (h : RR vI Γ (f_X11_readings p0 σ)) : WW Γ cX11_readings 2 RX11 (some .int) rX11_readings σ 0 [(0, .ref (xd Γ 0)), (1, .int p0)] [] := by
  unfold f_X11_readings at h
  refine w_aload_n 0 dX11_readings_0 rfl rfl rfl ?_
  refine w_iload_n 1 dX11_readings_1 rfl rfl rfl ?_
  obtain ⟨r1, s2, h3, h⟩ := h.bd
  refine k_X11_isPeaceMinute ml_RX11_285 (Nat.le_of_ble_eq_true rfl) ⟨Nat.le_of_ble_eq_true rfl, Nat.le_of_ble_eq_true rfl⟩ dX11_readings_2 rfl h3 ?_
  refine w_if_eq (tgt := 19) dX11_readings_5 (by decide) rfl (fun q => ?_) (fun q => ?_)
  · have h := h.tt q
    refine w_bipush (-2 : Int32) dX11_readings_19 ic_bipush_m2 rfl ?_
    exact w_sub [] rfl (b_X11_readings_21 (-2 : Int32) s2 h)
  · have h := h.ff q
    refine w_aload_n 0 dX11_readings_8 rfl rfl rfl ?_
    refine gf_RX11_54 dX11_readings_9 rfl ?_
    refine w_iload_n 1 dX11_readings_12 rfl rfl rfl ?_
    obtain ⟨r4, s5, h6, h⟩ := h.bd
    refine k_X4_countReadings ml_RX11_288 (Nat.le_of_ble_eq_true rfl) ⟨Nat.le_of_ble_eq_true rfl, Nat.le_of_ble_eq_true rfl⟩ dX11_readings_13 rfl h6 ?_
    refine w_goto (tgt := 21) dX11_readings_16 (by decide) ?_
    exact w_sub [] rfl (b_X11_readings_21 r4 s5 h)
theorem c_X11_readings {l : Launch} {D : va_G} {cy : Nat → ClassId} {ad : Nat → Nat} {p0 : Int32} {σ σ' : St} {r : Int32} (hf : f_X11_readings p0 σ = some (r, σ')) : CT l D cy ad yX11_readings cX11_readings 2 (some .int) rX11_readings [.ref (ad 0), .int p0] σ (some (.int r)) σ' :=
  ct_of (by decide) (Nat.le_of_ble_eq_true rfl) (fun p e s m args below meth c A => e_X11_readings (Γ := (p, l, e, rX11_readings, s, m, args, below, meth, c, D, cy, ad, A, 0, 0, MQ below (QC D cy ad (some (.int r)) σ' A) args s 0 0 A)) p0 σ ⟨_, hf, rfl⟩)
theorem k_X11_readings {Γ : CX} {cc : ByteArray} {nL : Nat} {own : String} {ret : Option FieldType} {rm : Room} {σ σ' : St} {pc pc' idx : Nat} {lv : List (Nat × Value)} {rest : List Value} {p0 : Int32} {r : Int32} (hl : Cond.methodLink own idx yX11_readings ∈ TB) (hw : (rest.map fun v => v.category).sum ≤ 8) (hR : rX11_readings.frames + 1 ≤ rm.frames ∧ 8 + (2 + 11) + rX11_readings.locals ≤ rm.locals) (hd : decode cc pc = .ok (.invokevirtual idx, 3)) (hp : pc + 3 = pc') (hf : f_X11_readings p0 σ = some (r, σ')) (h : WW Γ cc nL own ret rm σ' pc' lv (.int r :: rest)) : WW Γ cc nL own ret rm σ pc lv (.int p0 :: .ref (xd Γ 0) :: rest) :=
  w_callV (nn := 1) (i := 0) (As := [.int p0]) (v := (some (.int r))) (T := TX11) (N := 11) (c_X11_readings hf) hl mw_X11_readings (by decide +kernel) ⟨rfl, rfl⟩ hR (lt_lit (by decide)) cel_0 rfl rfl hw hd rfl hp h
/-! WarByHours.loopholes ()J -/
def rX11_loopholes : Room := { frames := 3, cells := 0, slots := 0, locals := 72 }
def f_X11_loopholes_23 (k0 : Int64) (σ : St) : Option (Int64 × St) :=
  some (k0, σ)
theorem b_X11_loopholes_23 {Γ : CX} (k0 : Int64) (σ : St) (h : RR vL Γ (f_X11_loopholes_23 k0 σ)) : WW Γ cX11_loopholes 1 RX11 (some .long) rX11_loopholes σ 23 [] [.long k0] := by
  unfold f_X11_loopholes_23 at h
  exact w_lreturn dX11_loopholes_23 h
def f_X11_loopholes (σ : St) : Option (Int64 × St) :=
  bd (f_X10_isTold 1 σ) fun r1 s2 =>
  if r1 = 0 then
    f_X11_loopholes_23 (-2 : Int64) s2
  else
    bd (f_X4_loopholeMinutes s2) fun r4 s5 =>
    f_X11_loopholes_23 r4 s5
theorem e_X11_loopholes {Γ : CX} (σ : St) (h : RR vL Γ (f_X11_loopholes σ)) : WW Γ cX11_loopholes 1 RX11 (some .long) rX11_loopholes σ 0 [(0, .ref (xd Γ 0))] [] := by
  unfold f_X11_loopholes at h
  refine w_aload_n 0 dX11_loopholes_0 rfl rfl rfl ?_
  refine gf_RX11_10 dX11_loopholes_1 rfl ?_
  obtain ⟨r1, s2, h3, h⟩ := h.bd
  refine k_X10_isTold ml_RX11_133 (Nat.le_of_ble_eq_true rfl) ⟨Nat.le_of_ble_eq_true rfl, Nat.le_of_ble_eq_true rfl⟩ dX11_loopholes_4 rfl h3 ?_
  refine w_if_eq (tgt := 20) dX11_loopholes_7 (by decide) rfl (fun q => ?_) (fun q => ?_)
  · have h := h.tt q
    refine w_ldc2_w (-2 : Int64) dX11_loopholes_20 cl_RX11_196 rfl ?_
    exact w_sub [] rfl (b_X11_loopholes_23 (-2 : Int64) s2 h)
  · have h := h.ff q
    refine w_aload_n 0 dX11_loopholes_10 rfl rfl rfl ?_
    refine gf_RX11_54 dX11_loopholes_11 rfl ?_
    obtain ⟨r4, s5, h6, h⟩ := h.bd
    refine k_X4_loopholeMinutes ml_RX11_291 (Nat.le_of_ble_eq_true rfl) ⟨Nat.le_of_ble_eq_true rfl, Nat.le_of_ble_eq_true rfl⟩ dX11_loopholes_14 rfl h6 ?_
    refine w_goto (tgt := 23) dX11_loopholes_17 (by decide) ?_
    exact w_sub [] rfl (b_X11_loopholes_23 r4 s5 h)
theorem c_X11_loopholes {l : Launch} {D : va_G} {cy : Nat → ClassId} {ad : Nat → Nat}  {σ σ' : St} {r : Int64} (hf : f_X11_loopholes σ = some (r, σ')) : CT l D cy ad yX11_loopholes cX11_loopholes 1 (some .long) rX11_loopholes [.ref (ad 0)] σ (some (.long r)) σ' :=
  ct_of (by decide) (Nat.le_of_ble_eq_true rfl) (fun p e s m args below meth c A => e_X11_loopholes (Γ := (p, l, e, rX11_loopholes, s, m, args, below, meth, c, D, cy, ad, A, 0, 0, MQ below (QC D cy ad (some (.long r)) σ' A) args s 0 0 A)) σ ⟨_, hf, rfl⟩)
theorem k_X11_loopholes {Γ : CX} {cc : ByteArray} {nL : Nat} {own : String} {ret : Option FieldType} {rm : Room} {σ σ' : St} {pc pc' idx : Nat} {lv : List (Nat × Value)} {rest : List Value}  {r : Int64} (hl : Cond.methodLink own idx yX11_loopholes ∈ TB) (hw : (rest.map fun v => v.category).sum ≤ 8) (hR : rX11_loopholes.frames + 1 ≤ rm.frames ∧ 8 + (1 + 11) + rX11_loopholes.locals ≤ rm.locals) (hd : decode cc pc = .ok (.invokevirtual idx, 3)) (hp : pc + 3 = pc') (hf : f_X11_loopholes σ = some (r, σ')) (h : WW Γ cc nL own ret rm σ' pc' lv (.long r :: rest)) : WW Γ cc nL own ret rm σ pc lv (.ref (xd Γ 0) :: rest) :=
  w_callV (nn := 0) (i := 0) (As := []) (v := (some (.long r))) (T := TX11) (N := 11) (c_X11_loopholes hf) hl mw_X11_loopholes (by decide +kernel) ⟨rfl, rfl⟩ hR (lt_lit (by decide)) cel_0 rfl rfl hw hd rfl hp h
/-! WarByHours.close (I)I -/
def rX11_close : Room := { frames := 3, cells := 0, slots := 0, locals := 73 }
def f_X11_close_33 (k0 : Int32) (σ : St) : Option (Int32 × St) :=
  some (k0, σ)
theorem b_X11_close_33 {Γ : CX} (k0 : Int32) (σ : St) (h : RR vI Γ (f_X11_close_33 k0 σ)) : WW Γ cX11_close 3 RX11 (some .int) rX11_close σ 33 [] [.int k0] := by
  unfold f_X11_close_33 at h
  exact w_ireturn dX11_close_33 h
def f_X11_close (p0 : Int32) (σ : St) : Option (Int32 × St) :=
  bd (f_X11_isPeaceMinute p0 σ) fun r1 s2 =>
  if r1 = 0 then
    some ((-2 : Int32), s2)
  else
    bd (f_X4_closingBounds p0 s2) fun r4 s5 =>
    if r4 = (-1 : Int32) then
      f_X11_close_33 (-1 : Int32) s5
    else
      bd (f_J6_bitCount_0f7a4 r4 s5) fun r7 s8 =>
      f_X11_close_33 r7 s8
theorem e_X11_close {Γ : CX} (p0 : Int32) (σ : St) (h : RR vI Γ (f_X11_close p0 σ)) : WW Γ cX11_close 3 RX11 (some .int) rX11_close σ 0 [(0, .ref (xd Γ 0)), (1, .int p0)] [] := by
  unfold f_X11_close at h
  refine w_aload_n 0 dX11_close_0 rfl rfl rfl ?_
  refine w_iload_n 1 dX11_close_1 rfl rfl rfl ?_
  obtain ⟨r1, s2, h3, h⟩ := h.bd
  refine k_X11_isPeaceMinute ml_RX11_285 (Nat.le_of_ble_eq_true rfl) ⟨Nat.le_of_ble_eq_true rfl, Nat.le_of_ble_eq_true rfl⟩ dX11_close_2 rfl h3 ?_
  refine w_if_ne (tgt := 11) dX11_close_5 (by decide) rfl (fun q => ?_) (fun q => ?_)
  · have h := h.ff q
    refine w_aload_n 0 dX11_close_11 rfl rfl rfl ?_
    refine gf_RX11_54 dX11_close_12 rfl ?_
    refine w_iload_n 1 dX11_close_15 rfl rfl rfl ?_
    obtain ⟨r4, s5, h6, h⟩ := h.bd
    refine k_X4_closingBounds ml_RX11_295 (Nat.le_of_ble_eq_true rfl) ⟨Nat.le_of_ble_eq_true rfl, Nat.le_of_ble_eq_true rfl⟩ dX11_close_16 rfl h6 ?_
    refine w_istore_n [(2, .int r4), (0, .ref (xd Γ 0)), (1, .int p0)] dX11_close_19 rfl (by decide) rfl rfl ?_
    refine w_iload_n 0 dX11_close_20 rfl rfl rfl ?_
    refine w_iconst (-1 : Int32) dX11_close_21 ic_iconst_m1 rfl ?_
    refine w_icmp_ne (tgt := 29) dX11_close_22 (by decide) rfl (fun q => ?_) (fun q => ?_)
    · have h := h.ff q
      refine w_iload_n 0 dX11_close_29 rfl rfl rfl ?_
      obtain ⟨r7, s8, h9, h⟩ := h.bd
      refine k_J6_bitCount_0f7a4 ml_RX11_205 (Nat.le_of_ble_eq_true rfl) ⟨Nat.le_of_ble_eq_true rfl, Nat.le_of_ble_eq_true rfl⟩ dX11_close_30 rfl h9 ?_
      exact w_sub [] rfl (b_X11_close_33 r7 s8 h)
    · have h := h.tt q
      refine w_iconst (-1 : Int32) dX11_close_25 ic_iconst_m1 rfl ?_
      refine w_goto (tgt := 33) dX11_close_26 (by decide) ?_
      exact w_sub [] rfl (b_X11_close_33 (-1 : Int32) s5 h)
  · have h := h.tt q
    refine w_bipush (-2 : Int32) dX11_close_8 ic_bipush_m2 rfl ?_
    exact w_ireturn dX11_close_10 h
theorem c_X11_close {l : Launch} {D : va_G} {cy : Nat → ClassId} {ad : Nat → Nat} {p0 : Int32} {σ σ' : St} {r : Int32} (hf : f_X11_close p0 σ = some (r, σ')) : CT l D cy ad yX11_close cX11_close 3 (some .int) rX11_close [.ref (ad 0), .int p0] σ (some (.int r)) σ' :=
  ct_of (by decide) (Nat.le_of_ble_eq_true rfl) (fun p e s m args below meth c A => e_X11_close (Γ := (p, l, e, rX11_close, s, m, args, below, meth, c, D, cy, ad, A, 0, 0, MQ below (QC D cy ad (some (.int r)) σ' A) args s 0 0 A)) p0 σ ⟨_, hf, rfl⟩)
theorem k_X11_close {Γ : CX} {cc : ByteArray} {nL : Nat} {own : String} {ret : Option FieldType} {rm : Room} {σ σ' : St} {pc pc' idx : Nat} {lv : List (Nat × Value)} {rest : List Value} {p0 : Int32} {r : Int32} (hl : Cond.methodLink own idx yX11_close ∈ TB) (hw : (rest.map fun v => v.category).sum ≤ 8) (hR : rX11_close.frames + 1 ≤ rm.frames ∧ 8 + (3 + 11) + rX11_close.locals ≤ rm.locals) (hd : decode cc pc = .ok (.invokevirtual idx, 3)) (hp : pc + 3 = pc') (hf : f_X11_close p0 σ = some (r, σ')) (h : WW Γ cc nL own ret rm σ' pc' lv (.int r :: rest)) : WW Γ cc nL own ret rm σ pc lv (.int p0 :: .ref (xd Γ 0) :: rest) :=
  w_callV (nn := 1) (i := 0) (As := [.int p0]) (v := (some (.int r))) (T := TX11) (N := 11) (c_X11_close hf) hl mw_X11_close (by decide +kernel) ⟨rfl, rfl⟩ hR (lt_lit (by decide)) cel_0 rfl rfl hw hd rfl hp h
/-! WarByHours.closed (I)I -/
def rX11_closed : Room := { frames := 3, cells := 0, slots := 0, locals := 73 }
def f_X11_closed_21 (k0 : Int32) (σ : St) : Option (Int32 × St) :=
  some (k0, σ)
theorem b_X11_closed_21 {Γ : CX} (k0 : Int32) (σ : St) (h : RR vI Γ (f_X11_closed_21 k0 σ)) : WW Γ cX11_closed 2 RX11 (some .int) rX11_closed σ 21 [] [.int k0] := by
  unfold f_X11_closed_21 at h
  exact w_ireturn dX11_closed_21 h
def f_X11_closed (p0 : Int32) (σ : St) : Option (Int32 × St) :=
  bd (f_X11_isPeaceMinute p0 σ) fun r1 s2 =>
  if r1 = 0 then
    f_X11_closed_21 (-2 : Int32) s2
  else
    bd (f_X4_closingBounds p0 s2) fun r4 s5 =>
    f_X11_closed_21 r4 s5
theorem e_X11_closed {Γ : CX} (p0 : Int32) (σ : St) (h : RR vI Γ (f_X11_closed p0 σ)) : WW Γ cX11_closed 2 RX11 (some .int) rX11_closed σ 0 [(0, .ref (xd Γ 0)), (1, .int p0)] [] := by
  unfold f_X11_closed at h
  refine w_aload_n 0 dX11_closed_0 rfl rfl rfl ?_
  refine w_iload_n 1 dX11_closed_1 rfl rfl rfl ?_
  obtain ⟨r1, s2, h3, h⟩ := h.bd
  refine k_X11_isPeaceMinute ml_RX11_285 (Nat.le_of_ble_eq_true rfl) ⟨Nat.le_of_ble_eq_true rfl, Nat.le_of_ble_eq_true rfl⟩ dX11_closed_2 rfl h3 ?_
  refine w_if_eq (tgt := 19) dX11_closed_5 (by decide) rfl (fun q => ?_) (fun q => ?_)
  · have h := h.tt q
    refine w_bipush (-2 : Int32) dX11_closed_19 ic_bipush_m2 rfl ?_
    exact w_sub [] rfl (b_X11_closed_21 (-2 : Int32) s2 h)
  · have h := h.ff q
    refine w_aload_n 0 dX11_closed_8 rfl rfl rfl ?_
    refine gf_RX11_54 dX11_closed_9 rfl ?_
    refine w_iload_n 1 dX11_closed_12 rfl rfl rfl ?_
    obtain ⟨r4, s5, h6, h⟩ := h.bd
    refine k_X4_closingBounds ml_RX11_295 (Nat.le_of_ble_eq_true rfl) ⟨Nat.le_of_ble_eq_true rfl, Nat.le_of_ble_eq_true rfl⟩ dX11_closed_13 rfl h6 ?_
    refine w_goto (tgt := 21) dX11_closed_16 (by decide) ?_
    exact w_sub [] rfl (b_X11_closed_21 r4 s5 h)
theorem c_X11_closed {l : Launch} {D : va_G} {cy : Nat → ClassId} {ad : Nat → Nat} {p0 : Int32} {σ σ' : St} {r : Int32} (hf : f_X11_closed p0 σ = some (r, σ')) : CT l D cy ad yX11_closed cX11_closed 2 (some .int) rX11_closed [.ref (ad 0), .int p0] σ (some (.int r)) σ' :=
  ct_of (by decide) (Nat.le_of_ble_eq_true rfl) (fun p e s m args below meth c A => e_X11_closed (Γ := (p, l, e, rX11_closed, s, m, args, below, meth, c, D, cy, ad, A, 0, 0, MQ below (QC D cy ad (some (.int r)) σ' A) args s 0 0 A)) p0 σ ⟨_, hf, rfl⟩)
theorem k_X11_closed {Γ : CX} {cc : ByteArray} {nL : Nat} {own : String} {ret : Option FieldType} {rm : Room} {σ σ' : St} {pc pc' idx : Nat} {lv : List (Nat × Value)} {rest : List Value} {p0 : Int32} {r : Int32} (hl : Cond.methodLink own idx yX11_closed ∈ TB) (hw : (rest.map fun v => v.category).sum ≤ 8) (hR : rX11_closed.frames + 1 ≤ rm.frames ∧ 8 + (2 + 11) + rX11_closed.locals ≤ rm.locals) (hd : decode cc pc = .ok (.invokevirtual idx, 3)) (hp : pc + 3 = pc') (hf : f_X11_closed p0 σ = some (r, σ')) (h : WW Γ cc nL own ret rm σ' pc' lv (.int r :: rest)) : WW Γ cc nL own ret rm σ pc lv (.int p0 :: .ref (xd Γ 0) :: rest) :=
  w_callV (nn := 1) (i := 0) (As := [.int p0]) (v := (some (.int r))) (T := TX11) (N := 11) (c_X11_closed hf) hl mw_X11_closed (by decide +kernel) ⟨rfl, rfl⟩ hR (lt_lit (by decide)) cel_0 rfl rfl hw hd rfl hp h
/-! WarByHours.signs ()I -/
def rX11_signs : Room := { frames := 3, cells := 0, slots := 0, locals := 70 }
def f_X11_signs_22 (k0 : Int32) (σ : St) : Option (Int32 × St) :=
  some (k0, σ)
theorem b_X11_signs_22 {Γ : CX} (k0 : Int32) (σ : St) (h : RR vI Γ (f_X11_signs_22 k0 σ)) : WW Γ cX11_signs 1 RX11 (some .int) rX11_signs σ 22 [] [.int k0] := by
  unfold f_X11_signs_22 at h
  exact w_ireturn dX11_signs_22 h
def f_X11_signs (σ : St) : Option (Int32 × St) :=
  bd (f_X10_isTold 1 σ) fun r1 s2 =>
  if r1 = 0 then
    f_X11_signs_22 (-2 : Int32) s2
  else
    bd (f_X4_firstSafeMinute s2) fun r4 s5 =>
    f_X11_signs_22 r4 s5
theorem e_X11_signs {Γ : CX} (σ : St) (h : RR vI Γ (f_X11_signs σ)) : WW Γ cX11_signs 1 RX11 (some .int) rX11_signs σ 0 [(0, .ref (xd Γ 0))] [] := by
  unfold f_X11_signs at h
  refine w_aload_n 0 dX11_signs_0 rfl rfl rfl ?_
  refine gf_RX11_10 dX11_signs_1 rfl ?_
  obtain ⟨r1, s2, h3, h⟩ := h.bd
  refine k_X10_isTold ml_RX11_133 (Nat.le_of_ble_eq_true rfl) ⟨Nat.le_of_ble_eq_true rfl, Nat.le_of_ble_eq_true rfl⟩ dX11_signs_4 rfl h3 ?_
  refine w_if_eq (tgt := 20) dX11_signs_7 (by decide) rfl (fun q => ?_) (fun q => ?_)
  · have h := h.tt q
    refine w_bipush (-2 : Int32) dX11_signs_20 ic_bipush_m2 rfl ?_
    exact w_sub [] rfl (b_X11_signs_22 (-2 : Int32) s2 h)
  · have h := h.ff q
    refine w_aload_n 0 dX11_signs_10 rfl rfl rfl ?_
    refine gf_RX11_54 dX11_signs_11 rfl ?_
    obtain ⟨r4, s5, h6, h⟩ := h.bd
    refine k_X4_firstSafeMinute ml_RX11_298 (Nat.le_of_ble_eq_true rfl) ⟨Nat.le_of_ble_eq_true rfl, Nat.le_of_ble_eq_true rfl⟩ dX11_signs_14 rfl h6 ?_
    refine w_goto (tgt := 22) dX11_signs_17 (by decide) ?_
    exact w_sub [] rfl (b_X11_signs_22 r4 s5 h)
theorem c_X11_signs {l : Launch} {D : va_G} {cy : Nat → ClassId} {ad : Nat → Nat}  {σ σ' : St} {r : Int32} (hf : f_X11_signs σ = some (r, σ')) : CT l D cy ad yX11_signs cX11_signs 1 (some .int) rX11_signs [.ref (ad 0)] σ (some (.int r)) σ' :=
  ct_of (by decide) (Nat.le_of_ble_eq_true rfl) (fun p e s m args below meth c A => e_X11_signs (Γ := (p, l, e, rX11_signs, s, m, args, below, meth, c, D, cy, ad, A, 0, 0, MQ below (QC D cy ad (some (.int r)) σ' A) args s 0 0 A)) σ ⟨_, hf, rfl⟩)
theorem k_X11_signs {Γ : CX} {cc : ByteArray} {nL : Nat} {own : String} {ret : Option FieldType} {rm : Room} {σ σ' : St} {pc pc' idx : Nat} {lv : List (Nat × Value)} {rest : List Value}  {r : Int32} (hl : Cond.methodLink own idx yX11_signs ∈ TB) (hw : (rest.map fun v => v.category).sum ≤ 8) (hR : rX11_signs.frames + 1 ≤ rm.frames ∧ 8 + (1 + 11) + rX11_signs.locals ≤ rm.locals) (hd : decode cc pc = .ok (.invokevirtual idx, 3)) (hp : pc + 3 = pc') (hf : f_X11_signs σ = some (r, σ')) (h : WW Γ cc nL own ret rm σ' pc' lv (.int r :: rest)) : WW Γ cc nL own ret rm σ pc lv (.ref (xd Γ 0) :: rest) :=
  w_callV (nn := 0) (i := 0) (As := []) (v := (some (.int r))) (T := TX11) (N := 11) (c_X11_signs hf) hl mw_X11_signs (by decide +kernel) ⟨rfl, rfl⟩ hR (lt_lit (by decide)) cel_0 rfl rfl hw hd rfl hp h
/-! WarByHours.spies (I)I -/
def rX11_spies : Room := { frames := 3, cells := 0, slots := 0, locals := 66 }
def f_X11_spies_24 (k0 : Int32) (σ : St) : Option (Int32 × St) :=
  some (k0, σ)
theorem b_X11_spies_24 {Γ : CX} (k0 : Int32) (σ : St) (h : RR vI Γ (f_X11_spies_24 k0 σ)) : WW Γ cX11_spies 2 RX11 (some .int) rX11_spies σ 24 [] [.int k0] := by
  unfold f_X11_spies_24 at h
  exact w_ireturn dX11_spies_24 h
def f_X11_spies (p0 : Int32) (σ : St) : Option (Int32 × St) :=
  bd (f_X10_hasSet 1 p0 σ) fun r1 s2 =>
  if r1 = 0 then
    f_X11_spies_24 (-2 : Int32) s2
  else
    bd (f_X8_fitting p0 s2) fun r4 s5 =>
    f_X11_spies_24 r4 s5
theorem e_X11_spies {Γ : CX} (p0 : Int32) (σ : St) (h : RR vI Γ (f_X11_spies p0 σ)) : WW Γ cX11_spies 2 RX11 (some .int) rX11_spies σ 0 [(0, .ref (xd Γ 0)), (1, .int p0)] [] := by
  unfold f_X11_spies at h
  refine w_aload_n 0 dX11_spies_0 rfl rfl rfl ?_
  refine gf_RX11_10 dX11_spies_1 rfl ?_
  refine w_iload_n 1 dX11_spies_4 rfl rfl rfl ?_
  obtain ⟨r1, s2, h3, h⟩ := h.bd
  refine k_X10_hasSet ml_RX11_155 (Nat.le_of_ble_eq_true rfl) ⟨Nat.le_of_ble_eq_true rfl, Nat.le_of_ble_eq_true rfl⟩ dX11_spies_5 rfl h3 ?_
  refine w_if_eq (tgt := 22) dX11_spies_8 (by decide) rfl (fun q => ?_) (fun q => ?_)
  · have h := h.tt q
    refine w_bipush (-2 : Int32) dX11_spies_22 ic_bipush_m2 rfl ?_
    exact w_sub [] rfl (b_X11_spies_24 (-2 : Int32) s2 h)
  · have h := h.ff q
    refine w_aload_n 0 dX11_spies_11 rfl rfl rfl ?_
    refine gf_RX11_61 dX11_spies_12 rfl ?_
    refine w_iload_n 1 dX11_spies_15 rfl rfl rfl ?_
    obtain ⟨r4, s5, h6, h⟩ := h.bd
    refine k_X8_fitting ml_RX11_307 (Nat.le_of_ble_eq_true rfl) ⟨Nat.le_of_ble_eq_true rfl, Nat.le_of_ble_eq_true rfl⟩ dX11_spies_16 rfl h6 ?_
    refine w_goto (tgt := 24) dX11_spies_19 (by decide) ?_
    exact w_sub [] rfl (b_X11_spies_24 r4 s5 h)
theorem c_X11_spies {l : Launch} {D : va_G} {cy : Nat → ClassId} {ad : Nat → Nat} {p0 : Int32} {σ σ' : St} {r : Int32} (hf : f_X11_spies p0 σ = some (r, σ')) : CT l D cy ad yX11_spies cX11_spies 2 (some .int) rX11_spies [.ref (ad 0), .int p0] σ (some (.int r)) σ' :=
  ct_of (by decide) (Nat.le_of_ble_eq_true rfl) (fun p e s m args below meth c A => e_X11_spies (Γ := (p, l, e, rX11_spies, s, m, args, below, meth, c, D, cy, ad, A, 0, 0, MQ below (QC D cy ad (some (.int r)) σ' A) args s 0 0 A)) p0 σ ⟨_, hf, rfl⟩)
theorem k_X11_spies {Γ : CX} {cc : ByteArray} {nL : Nat} {own : String} {ret : Option FieldType} {rm : Room} {σ σ' : St} {pc pc' idx : Nat} {lv : List (Nat × Value)} {rest : List Value} {p0 : Int32} {r : Int32} (hl : Cond.methodLink own idx yX11_spies ∈ TB) (hw : (rest.map fun v => v.category).sum ≤ 8) (hR : rX11_spies.frames + 1 ≤ rm.frames ∧ 8 + (2 + 11) + rX11_spies.locals ≤ rm.locals) (hd : decode cc pc = .ok (.invokevirtual idx, 3)) (hp : pc + 3 = pc') (hf : f_X11_spies p0 σ = some (r, σ')) (h : WW Γ cc nL own ret rm σ' pc' lv (.int r :: rest)) : WW Γ cc nL own ret rm σ pc lv (.int p0 :: .ref (xd Γ 0) :: rest) :=
  w_callV (nn := 1) (i := 0) (As := [.int p0]) (v := (some (.int r))) (T := TX11) (N := 11) (c_X11_spies hf) hl mw_X11_spies (by decide +kernel) ⟨rfl, rfl⟩ hR (lt_lit (by decide)) cel_0 rfl rfl hw hd rfl hp h
/-! WarByHours.known (II)I -/
def rX11_known : Room := { frames := 4, cells := 0, slots := 0, locals := 90 }
def f_X11_known_18 (σ : St) : Option (Int32 × St) :=
  some ((-2 : Int32), σ)
theorem b_X11_known_18 {Γ : CX} (σ : St) (h : RR vI Γ (f_X11_known_18 σ)) : WW Γ cX11_known 3 RX11 (some .int) rX11_known σ 18 [] [] := by
  unfold f_X11_known_18 at h
  refine w_bipush (-2 : Int32) dX11_known_18 ic_bipush_m2 rfl ?_
  exact w_ireturn dX11_known_20 h
def f_X11_known_44 (k0 : Int32) (σ : St) : Option (Int32 × St) :=
  some (k0, σ)
theorem b_X11_known_44 {Γ : CX} (k0 : Int32) (σ : St) (h : RR vI Γ (f_X11_known_44 k0 σ)) : WW Γ cX11_known 3 RX11 (some .int) rX11_known σ 44 [] [.int k0] := by
  unfold f_X11_known_44 at h
  exact w_ireturn dX11_known_44 h
def f_X11_known (p0 : Int32) (p1 : Int32) (σ : St) : Option (Int32 × St) :=
  bd (f_X10_hasSet 1 p0 σ) fun r1 s2 =>
  if r1 = 0 then
    f_X11_known_18 s2
  else
    bd (f_X11_isPart p1 s2) fun r4 s5 =>
    if r4 = 0 then
      f_X11_known_18 s5
    else
      if p1 = 0 then
        bd (f_X8_knownToAll p0 s5) fun r10 s11 =>
        f_X11_known_44 r10 s11
      else
        bd (f_X8_knownToSome p0 s5) fun r7 s8 =>
        f_X11_known_44 r7 s8
theorem e_X11_known {Γ : CX} (p0 : Int32) (p1 : Int32) (σ : St) (h : RR vI Γ (f_X11_known p0 p1 σ)) : WW Γ cX11_known 3 RX11 (some .int) rX11_known σ 0 [(0, .ref (xd Γ 0)), (1, .int p0), (2, .int p1)] [] := by
  unfold f_X11_known at h
  refine w_aload_n 0 dX11_known_0 rfl rfl rfl ?_
  refine gf_RX11_10 dX11_known_1 rfl ?_
  refine w_iload_n 1 dX11_known_4 rfl rfl rfl ?_
  obtain ⟨r1, s2, h3, h⟩ := h.bd
  refine k_X10_hasSet ml_RX11_155 (Nat.le_of_ble_eq_true rfl) ⟨Nat.le_of_ble_eq_true rfl, Nat.le_of_ble_eq_true rfl⟩ dX11_known_5 rfl h3 ?_
  refine w_if_eq (tgt := 18) dX11_known_8 (by decide) rfl (fun q => ?_) (fun q => ?_)
  · have h := h.tt q
    exact w_sub [] rfl (b_X11_known_18 s2 h)
  · have h := h.ff q
    refine w_iload_n 2 dX11_known_11 rfl rfl rfl ?_
    obtain ⟨r4, s5, h6, h⟩ := h.bd
    refine k_X11_isPart ml_RX11_193 (Nat.le_of_ble_eq_true rfl) ⟨Nat.le_of_ble_eq_true rfl, Nat.le_of_ble_eq_true rfl⟩ dX11_known_12 rfl h6 ?_
    refine w_if_ne (tgt := 21) dX11_known_15 (by decide) rfl (fun q => ?_) (fun q => ?_)
    · have h := h.ff q
      refine w_iload_n 2 dX11_known_21 rfl rfl rfl ?_
      refine w_if_ne (tgt := 36) dX11_known_22 (by decide) rfl (fun q => ?_) (fun q => ?_)
      · have h := h.ff q
        refine w_aload_n 0 dX11_known_36 rfl rfl rfl ?_
        refine gf_RX11_61 dX11_known_37 rfl ?_
        refine w_iload_n 1 dX11_known_40 rfl rfl rfl ?_
        obtain ⟨r7, s8, h9, h⟩ := h.bd
        refine k_X8_knownToSome ml_RX11_319 (Nat.le_of_ble_eq_true rfl) ⟨Nat.le_of_ble_eq_true rfl, Nat.le_of_ble_eq_true rfl⟩ dX11_known_41 rfl h9 ?_
        exact w_sub [] rfl (b_X11_known_44 r7 s8 h)
      · have h := h.tt q
        refine w_aload_n 0 dX11_known_25 rfl rfl rfl ?_
        refine gf_RX11_61 dX11_known_26 rfl ?_
        refine w_iload_n 1 dX11_known_29 rfl rfl rfl ?_
        obtain ⟨r10, s11, h12, h⟩ := h.bd
        refine k_X8_knownToAll ml_RX11_316 (Nat.le_of_ble_eq_true rfl) ⟨Nat.le_of_ble_eq_true rfl, Nat.le_of_ble_eq_true rfl⟩ dX11_known_30 rfl h12 ?_
        refine w_goto (tgt := 44) dX11_known_33 (by decide) ?_
        exact w_sub [] rfl (b_X11_known_44 r10 s11 h)
    · have h := h.tt q
      exact w_sub [] rfl (b_X11_known_18 s5 h)
theorem c_X11_known {l : Launch} {D : va_G} {cy : Nat → ClassId} {ad : Nat → Nat} {p0 : Int32} {p1 : Int32} {σ σ' : St} {r : Int32} (hf : f_X11_known p0 p1 σ = some (r, σ')) : CT l D cy ad yX11_known cX11_known 3 (some .int) rX11_known [.ref (ad 0), .int p0, .int p1] σ (some (.int r)) σ' :=
  ct_of (by decide) (Nat.le_of_ble_eq_true rfl) (fun p e s m args below meth c A => e_X11_known (Γ := (p, l, e, rX11_known, s, m, args, below, meth, c, D, cy, ad, A, 0, 0, MQ below (QC D cy ad (some (.int r)) σ' A) args s 0 0 A)) p0 p1 σ ⟨_, hf, rfl⟩)
theorem k_X11_known {Γ : CX} {cc : ByteArray} {nL : Nat} {own : String} {ret : Option FieldType} {rm : Room} {σ σ' : St} {pc pc' idx : Nat} {lv : List (Nat × Value)} {rest : List Value} {p0 : Int32} {p1 : Int32} {r : Int32} (hl : Cond.methodLink own idx yX11_known ∈ TB) (hw : (rest.map fun v => v.category).sum ≤ 8) (hR : rX11_known.frames + 1 ≤ rm.frames ∧ 8 + (3 + 11) + rX11_known.locals ≤ rm.locals) (hd : decode cc pc = .ok (.invokevirtual idx, 3)) (hp : pc + 3 = pc') (hf : f_X11_known p0 p1 σ = some (r, σ')) (h : WW Γ cc nL own ret rm σ' pc' lv (.int r :: rest)) : WW Γ cc nL own ret rm σ pc lv (.int p1 :: .int p0 :: .ref (xd Γ 0) :: rest) :=
  w_callV (nn := 2) (i := 0) (As := [.int p0, .int p1]) (v := (some (.int r))) (T := TX11) (N := 11) (c_X11_known hf) hl mw_X11_known (by decide +kernel) ⟨rfl, rfl⟩ hR (lt_lit (by decide)) cel_0 rfl rfl hw hd rfl hp h
/-! WarByHours.grant ()I -/
def rX11_grant : Room := { frames := 3, cells := 0, slots := 0, locals := 75 }
def f_X11_grant_30 (k0 : Int32) (σ : St) : Option (Int32 × St) :=
  some (k0, σ)
theorem b_X11_grant_30 {Γ : CX} (k0 : Int32) (σ : St) (h : RR vI Γ (f_X11_grant_30 k0 σ)) : WW Γ cX11_grant 1 RX11 (some .int) rX11_grant σ 30 [] [.int k0] := by
  unfold f_X11_grant_30 at h
  exact w_ireturn dX11_grant_30 h
def f_X11_grant (σ : St) : Option (Int32 × St) :=
  bd (f_X10_isTold 1 σ) fun r1 s2 =>
  if r1 = 0 then
    f_X11_grant_30 (-2 : Int32) s2
  else
    bd (f_X0_bestSet (0 : Int32) s2) fun r4 s5 =>
    bd (f_X0_worthOf r4 s5) fun r7 s8 =>
    f_X11_grant_30 r7 s8
theorem e_X11_grant {Γ : CX} (σ : St) (h : RR vI Γ (f_X11_grant σ)) : WW Γ cX11_grant 1 RX11 (some .int) rX11_grant σ 0 [(0, .ref (xd Γ 0))] [] := by
  unfold f_X11_grant at h
  refine w_aload_n 0 dX11_grant_0 rfl rfl rfl ?_
  refine gf_RX11_10 dX11_grant_1 rfl ?_
  obtain ⟨r1, s2, h3, h⟩ := h.bd
  refine k_X10_isTold ml_RX11_133 (Nat.le_of_ble_eq_true rfl) ⟨Nat.le_of_ble_eq_true rfl, Nat.le_of_ble_eq_true rfl⟩ dX11_grant_4 rfl h3 ?_
  refine w_if_eq (tgt := 28) dX11_grant_7 (by decide) rfl (fun q => ?_) (fun q => ?_)
  · have h := h.tt q
    refine w_bipush (-2 : Int32) dX11_grant_28 ic_bipush_m2 rfl ?_
    exact w_sub [] rfl (b_X11_grant_30 (-2 : Int32) s2 h)
  · have h := h.ff q
    refine w_aload_n 0 dX11_grant_10 rfl rfl rfl ?_
    refine gf_RX11_68 dX11_grant_11 rfl ?_
    refine w_aload_n 0 dX11_grant_14 rfl rfl rfl ?_
    refine gf_RX11_68 dX11_grant_15 rfl ?_
    refine w_iconst (0 : Int32) dX11_grant_18 ic_iconst_0 rfl ?_
    obtain ⟨r4, s5, h6, h⟩ := h.bd
    refine k_X0_bestSet ml_RX11_322 (Nat.le_of_ble_eq_true rfl) ⟨Nat.le_of_ble_eq_true rfl, Nat.le_of_ble_eq_true rfl⟩ dX11_grant_19 rfl h6 ?_
    obtain ⟨r7, s8, h9, h⟩ := h.bd
    refine k_X0_worthOf ml_RX11_326 (Nat.le_of_ble_eq_true rfl) ⟨Nat.le_of_ble_eq_true rfl, Nat.le_of_ble_eq_true rfl⟩ dX11_grant_22 rfl h9 ?_
    refine w_goto (tgt := 30) dX11_grant_25 (by decide) ?_
    exact w_sub [] rfl (b_X11_grant_30 r7 s8 h)
theorem c_X11_grant {l : Launch} {D : va_G} {cy : Nat → ClassId} {ad : Nat → Nat}  {σ σ' : St} {r : Int32} (hf : f_X11_grant σ = some (r, σ')) : CT l D cy ad yX11_grant cX11_grant 1 (some .int) rX11_grant [.ref (ad 0)] σ (some (.int r)) σ' :=
  ct_of (by decide) (Nat.le_of_ble_eq_true rfl) (fun p e s m args below meth c A => e_X11_grant (Γ := (p, l, e, rX11_grant, s, m, args, below, meth, c, D, cy, ad, A, 0, 0, MQ below (QC D cy ad (some (.int r)) σ' A) args s 0 0 A)) σ ⟨_, hf, rfl⟩)
theorem k_X11_grant {Γ : CX} {cc : ByteArray} {nL : Nat} {own : String} {ret : Option FieldType} {rm : Room} {σ σ' : St} {pc pc' idx : Nat} {lv : List (Nat × Value)} {rest : List Value}  {r : Int32} (hl : Cond.methodLink own idx yX11_grant ∈ TB) (hw : (rest.map fun v => v.category).sum ≤ 8) (hR : rX11_grant.frames + 1 ≤ rm.frames ∧ 8 + (1 + 11) + rX11_grant.locals ≤ rm.locals) (hd : decode cc pc = .ok (.invokevirtual idx, 3)) (hp : pc + 3 = pc') (hf : f_X11_grant σ = some (r, σ')) (h : WW Γ cc nL own ret rm σ' pc' lv (.int r :: rest)) : WW Γ cc nL own ret rm σ pc lv (.ref (xd Γ 0) :: rest) :=
  w_callV (nn := 0) (i := 0) (As := []) (v := (some (.int r))) (T := TX11) (N := 11) (c_X11_grant hf) hl mw_X11_grant (by decide +kernel) ⟨rfl, rfl⟩ hR (lt_lit (by decide)) cel_0 rfl rfl hw hd rfl hp h
/-! WarByHours.granted ()I -/
def rX11_granted : Room := { frames := 3, cells := 0, slots := 0, locals := 75 }
def f_X11_granted_23 (k0 : Int32) (σ : St) : Option (Int32 × St) :=
  some (k0, σ)
theorem b_X11_granted_23 {Γ : CX} (k0 : Int32) (σ : St) (h : RR vI Γ (f_X11_granted_23 k0 σ)) : WW Γ cX11_granted 1 RX11 (some .int) rX11_granted σ 23 [] [.int k0] := by
  unfold f_X11_granted_23 at h
  exact w_ireturn dX11_granted_23 h
def f_X11_granted (σ : St) : Option (Int32 × St) :=
  bd (f_X10_isTold 1 σ) fun r1 s2 =>
  if r1 = 0 then
    f_X11_granted_23 (-2 : Int32) s2
  else
    bd (f_X0_bestSet (0 : Int32) s2) fun r4 s5 =>
    f_X11_granted_23 r4 s5
theorem e_X11_granted {Γ : CX} (σ : St) (h : RR vI Γ (f_X11_granted σ)) : WW Γ cX11_granted 1 RX11 (some .int) rX11_granted σ 0 [(0, .ref (xd Γ 0))] [] := by
  unfold f_X11_granted at h
  refine w_aload_n 0 dX11_granted_0 rfl rfl rfl ?_
  refine gf_RX11_10 dX11_granted_1 rfl ?_
  obtain ⟨r1, s2, h3, h⟩ := h.bd
  refine k_X10_isTold ml_RX11_133 (Nat.le_of_ble_eq_true rfl) ⟨Nat.le_of_ble_eq_true rfl, Nat.le_of_ble_eq_true rfl⟩ dX11_granted_4 rfl h3 ?_
  refine w_if_eq (tgt := 21) dX11_granted_7 (by decide) rfl (fun q => ?_) (fun q => ?_)
  · have h := h.tt q
    refine w_bipush (-2 : Int32) dX11_granted_21 ic_bipush_m2 rfl ?_
    exact w_sub [] rfl (b_X11_granted_23 (-2 : Int32) s2 h)
  · have h := h.ff q
    refine w_aload_n 0 dX11_granted_10 rfl rfl rfl ?_
    refine gf_RX11_68 dX11_granted_11 rfl ?_
    refine w_iconst (0 : Int32) dX11_granted_14 ic_iconst_0 rfl ?_
    obtain ⟨r4, s5, h6, h⟩ := h.bd
    refine k_X0_bestSet ml_RX11_322 (Nat.le_of_ble_eq_true rfl) ⟨Nat.le_of_ble_eq_true rfl, Nat.le_of_ble_eq_true rfl⟩ dX11_granted_15 rfl h6 ?_
    refine w_goto (tgt := 23) dX11_granted_18 (by decide) ?_
    exact w_sub [] rfl (b_X11_granted_23 r4 s5 h)
theorem c_X11_granted {l : Launch} {D : va_G} {cy : Nat → ClassId} {ad : Nat → Nat}  {σ σ' : St} {r : Int32} (hf : f_X11_granted σ = some (r, σ')) : CT l D cy ad yX11_granted cX11_granted 1 (some .int) rX11_granted [.ref (ad 0)] σ (some (.int r)) σ' :=
  ct_of (by decide) (Nat.le_of_ble_eq_true rfl) (fun p e s m args below meth c A => e_X11_granted (Γ := (p, l, e, rX11_granted, s, m, args, below, meth, c, D, cy, ad, A, 0, 0, MQ below (QC D cy ad (some (.int r)) σ' A) args s 0 0 A)) σ ⟨_, hf, rfl⟩)
theorem k_X11_granted {Γ : CX} {cc : ByteArray} {nL : Nat} {own : String} {ret : Option FieldType} {rm : Room} {σ σ' : St} {pc pc' idx : Nat} {lv : List (Nat × Value)} {rest : List Value}  {r : Int32} (hl : Cond.methodLink own idx yX11_granted ∈ TB) (hw : (rest.map fun v => v.category).sum ≤ 8) (hR : rX11_granted.frames + 1 ≤ rm.frames ∧ 8 + (1 + 11) + rX11_granted.locals ≤ rm.locals) (hd : decode cc pc = .ok (.invokevirtual idx, 3)) (hp : pc + 3 = pc') (hf : f_X11_granted σ = some (r, σ')) (h : WW Γ cc nL own ret rm σ' pc' lv (.int r :: rest)) : WW Γ cc nL own ret rm σ pc lv (.ref (xd Γ 0) :: rest) :=
  w_callV (nn := 0) (i := 0) (As := []) (v := (some (.int r))) (T := TX11) (N := 11) (c_X11_granted hf) hl mw_X11_granted (by decide +kernel) ⟨rfl, rfl⟩ hR (lt_lit (by decide)) cel_0 rfl rfl hw hd rfl hp h
/-! WarByHours.halves ()I -/
def rX11_halves : Room := { frames := 3, cells := 0, slots := 0, locals := 75 }
def f_X11_halves_30 (k0 : Int32) (σ : St) : Option (Int32 × St) :=
  some (k0, σ)
theorem b_X11_halves_30 {Γ : CX} (k0 : Int32) (σ : St) (h : RR vI Γ (f_X11_halves_30 k0 σ)) : WW Γ cX11_halves 1 RX11 (some .int) rX11_halves σ 30 [] [.int k0] := by
  unfold f_X11_halves_30 at h
  exact w_ireturn dX11_halves_30 h
def f_X11_halves (σ : St) : Option (Int32 × St) :=
  bd (f_X10_isTold 1 σ) fun r1 s2 =>
  if r1 = 0 then
    f_X11_halves_30 (-2 : Int32) s2
  else
    bd (f_X0_bestSet (1 : Int32) s2) fun r4 s5 =>
    bd (f_X0_worthOf r4 s5) fun r7 s8 =>
    f_X11_halves_30 r7 s8
theorem e_X11_halves {Γ : CX} (σ : St) (h : RR vI Γ (f_X11_halves σ)) : WW Γ cX11_halves 1 RX11 (some .int) rX11_halves σ 0 [(0, .ref (xd Γ 0))] [] := by
  unfold f_X11_halves at h
  refine w_aload_n 0 dX11_halves_0 rfl rfl rfl ?_
  refine gf_RX11_10 dX11_halves_1 rfl ?_
  obtain ⟨r1, s2, h3, h⟩ := h.bd
  refine k_X10_isTold ml_RX11_133 (Nat.le_of_ble_eq_true rfl) ⟨Nat.le_of_ble_eq_true rfl, Nat.le_of_ble_eq_true rfl⟩ dX11_halves_4 rfl h3 ?_
  refine w_if_eq (tgt := 28) dX11_halves_7 (by decide) rfl (fun q => ?_) (fun q => ?_)
  · have h := h.tt q
    refine w_bipush (-2 : Int32) dX11_halves_28 ic_bipush_m2 rfl ?_
    exact w_sub [] rfl (b_X11_halves_30 (-2 : Int32) s2 h)
  · have h := h.ff q
    refine w_aload_n 0 dX11_halves_10 rfl rfl rfl ?_
    refine gf_RX11_68 dX11_halves_11 rfl ?_
    refine w_aload_n 0 dX11_halves_14 rfl rfl rfl ?_
    refine gf_RX11_68 dX11_halves_15 rfl ?_
    refine w_iconst (1 : Int32) dX11_halves_18 ic_iconst_1 rfl ?_
    obtain ⟨r4, s5, h6, h⟩ := h.bd
    refine k_X0_bestSet ml_RX11_322 (Nat.le_of_ble_eq_true rfl) ⟨Nat.le_of_ble_eq_true rfl, Nat.le_of_ble_eq_true rfl⟩ dX11_halves_19 rfl h6 ?_
    obtain ⟨r7, s8, h9, h⟩ := h.bd
    refine k_X0_worthOf ml_RX11_326 (Nat.le_of_ble_eq_true rfl) ⟨Nat.le_of_ble_eq_true rfl, Nat.le_of_ble_eq_true rfl⟩ dX11_halves_22 rfl h9 ?_
    refine w_goto (tgt := 30) dX11_halves_25 (by decide) ?_
    exact w_sub [] rfl (b_X11_halves_30 r7 s8 h)
theorem c_X11_halves {l : Launch} {D : va_G} {cy : Nat → ClassId} {ad : Nat → Nat}  {σ σ' : St} {r : Int32} (hf : f_X11_halves σ = some (r, σ')) : CT l D cy ad yX11_halves cX11_halves 1 (some .int) rX11_halves [.ref (ad 0)] σ (some (.int r)) σ' :=
  ct_of (by decide) (Nat.le_of_ble_eq_true rfl) (fun p e s m args below meth c A => e_X11_halves (Γ := (p, l, e, rX11_halves, s, m, args, below, meth, c, D, cy, ad, A, 0, 0, MQ below (QC D cy ad (some (.int r)) σ' A) args s 0 0 A)) σ ⟨_, hf, rfl⟩)
theorem k_X11_halves {Γ : CX} {cc : ByteArray} {nL : Nat} {own : String} {ret : Option FieldType} {rm : Room} {σ σ' : St} {pc pc' idx : Nat} {lv : List (Nat × Value)} {rest : List Value}  {r : Int32} (hl : Cond.methodLink own idx yX11_halves ∈ TB) (hw : (rest.map fun v => v.category).sum ≤ 8) (hR : rX11_halves.frames + 1 ≤ rm.frames ∧ 8 + (1 + 11) + rX11_halves.locals ≤ rm.locals) (hd : decode cc pc = .ok (.invokevirtual idx, 3)) (hp : pc + 3 = pc') (hf : f_X11_halves σ = some (r, σ')) (h : WW Γ cc nL own ret rm σ' pc' lv (.int r :: rest)) : WW Γ cc nL own ret rm σ pc lv (.ref (xd Γ 0) :: rest) :=
  w_callV (nn := 0) (i := 0) (As := []) (v := (some (.int r))) (T := TX11) (N := 11) (c_X11_halves hf) hl mw_X11_halves (by decide +kernel) ⟨rfl, rfl⟩ hR (lt_lit (by decide)) cel_0 rfl rfl hw hd rfl hp h
/-! WarByHours.halved ()I -/
def rX11_halved : Room := { frames := 3, cells := 0, slots := 0, locals := 75 }
def f_X11_halved_23 (k0 : Int32) (σ : St) : Option (Int32 × St) :=
  some (k0, σ)
theorem b_X11_halved_23 {Γ : CX} (k0 : Int32) (σ : St) (h : RR vI Γ (f_X11_halved_23 k0 σ)) : WW Γ cX11_halved 1 RX11 (some .int) rX11_halved σ 23 [] [.int k0] := by
  unfold f_X11_halved_23 at h
  exact w_ireturn dX11_halved_23 h
def f_X11_halved (σ : St) : Option (Int32 × St) :=
  bd (f_X10_isTold 1 σ) fun r1 s2 =>
  if r1 = 0 then
    f_X11_halved_23 (-2 : Int32) s2
  else
    bd (f_X0_bestSet (1 : Int32) s2) fun r4 s5 =>
    f_X11_halved_23 r4 s5
theorem e_X11_halved {Γ : CX} (σ : St) (h : RR vI Γ (f_X11_halved σ)) : WW Γ cX11_halved 1 RX11 (some .int) rX11_halved σ 0 [(0, .ref (xd Γ 0))] [] := by
  unfold f_X11_halved at h
  refine w_aload_n 0 dX11_halved_0 rfl rfl rfl ?_
  refine gf_RX11_10 dX11_halved_1 rfl ?_
  obtain ⟨r1, s2, h3, h⟩ := h.bd
  refine k_X10_isTold ml_RX11_133 (Nat.le_of_ble_eq_true rfl) ⟨Nat.le_of_ble_eq_true rfl, Nat.le_of_ble_eq_true rfl⟩ dX11_halved_4 rfl h3 ?_
  refine w_if_eq (tgt := 21) dX11_halved_7 (by decide) rfl (fun q => ?_) (fun q => ?_)
  · have h := h.tt q
    refine w_bipush (-2 : Int32) dX11_halved_21 ic_bipush_m2 rfl ?_
    exact w_sub [] rfl (b_X11_halved_23 (-2 : Int32) s2 h)
  · have h := h.ff q
    refine w_aload_n 0 dX11_halved_10 rfl rfl rfl ?_
    refine gf_RX11_68 dX11_halved_11 rfl ?_
    refine w_iconst (1 : Int32) dX11_halved_14 ic_iconst_1 rfl ?_
    obtain ⟨r4, s5, h6, h⟩ := h.bd
    refine k_X0_bestSet ml_RX11_322 (Nat.le_of_ble_eq_true rfl) ⟨Nat.le_of_ble_eq_true rfl, Nat.le_of_ble_eq_true rfl⟩ dX11_halved_15 rfl h6 ?_
    refine w_goto (tgt := 23) dX11_halved_18 (by decide) ?_
    exact w_sub [] rfl (b_X11_halved_23 r4 s5 h)
theorem c_X11_halved {l : Launch} {D : va_G} {cy : Nat → ClassId} {ad : Nat → Nat}  {σ σ' : St} {r : Int32} (hf : f_X11_halved σ = some (r, σ')) : CT l D cy ad yX11_halved cX11_halved 1 (some .int) rX11_halved [.ref (ad 0)] σ (some (.int r)) σ' :=
  ct_of (by decide) (Nat.le_of_ble_eq_true rfl) (fun p e s m args below meth c A => e_X11_halved (Γ := (p, l, e, rX11_halved, s, m, args, below, meth, c, D, cy, ad, A, 0, 0, MQ below (QC D cy ad (some (.int r)) σ' A) args s 0 0 A)) σ ⟨_, hf, rfl⟩)
theorem k_X11_halved {Γ : CX} {cc : ByteArray} {nL : Nat} {own : String} {ret : Option FieldType} {rm : Room} {σ σ' : St} {pc pc' idx : Nat} {lv : List (Nat × Value)} {rest : List Value}  {r : Int32} (hl : Cond.methodLink own idx yX11_halved ∈ TB) (hw : (rest.map fun v => v.category).sum ≤ 8) (hR : rX11_halved.frames + 1 ≤ rm.frames ∧ 8 + (1 + 11) + rX11_halved.locals ≤ rm.locals) (hd : decode cc pc = .ok (.invokevirtual idx, 3)) (hp : pc + 3 = pc') (hf : f_X11_halved σ = some (r, σ')) (h : WW Γ cc nL own ret rm σ' pc' lv (.int r :: rest)) : WW Γ cc nL own ret rm σ pc lv (.ref (xd Γ 0) :: rest) :=
  w_callV (nn := 0) (i := 0) (As := []) (v := (some (.int r))) (T := TX11) (N := 11) (c_X11_halved hf) hl mw_X11_halved (by decide +kernel) ⟨rfl, rfl⟩ hR (lt_lit (by decide)) cel_0 rfl rfl hw hd rfl hp h
/-! WarByHoursModel.is (Ljava/lang/String;)Z -/
def rX12_is : Room := { frames := 4, cells := 0, slots := 0, locals := 85 }
def f_X12_is_75 (z0 : Nat) (K39 : Int32 × Int32 × St → Option (Int32 × St)) (v3 : Int32) (k0 : Int32) (σ : St) : Option (Int32 × St) :=
  bnd (v3 + (1 : Int32)) fun x1 =>
  K39 (k0, x1, σ)
theorem b_X12_is_75 {Γ : CX} (z0 : Nat) (K39 : Int32 × Int32 × St → Option (Int32 × St)) (hK39 : ∀ (v2 : Int32) (v3 : Int32) (σ : St), RR vI Γ (K39 (v2, v3, σ)) → WW Γ cX12_is 4 RX12 (some .boolean) rX12_is σ 39 [(0, .ref (xd Γ 58)), (1, .ref (xd Γ (z0 + 1000))), (2, .int v2), (3, .int v3)] []) (v3 : Int32) (k0 : Int32) (σ : St) (h : RR vI Γ (f_X12_is_75 z0 K39 v3 k0 σ)) : WW Γ cX12_is 4 RX12 (some .boolean) rX12_is σ 75 [(0, .ref (xd Γ 58)), (1, .ref (xd Γ (z0 + 1000))), (3, .int v3)] [.int k0] := by
  unfold f_X12_is_75 at h
  refine w_istore_n [(2, .int k0), (0, .ref (xd Γ 58)), (1, .ref (xd Γ (z0 + 1000))), (3, .int v3)] dX12_is_75 rfl (by decide) rfl rfl ?_
  obtain ⟨x1, ex1⟩ : ∃ y : Int32, y = (v3 + (1 : Int32)) := ⟨_, rfl⟩
  replace h := h.bnd ex1
  refine w_iinc 3 x1 [(3, .int x1), (2, .int k0), (0, .ref (xd Γ 58)), (1, .ref (xd Γ (z0 + 1000)))] dX12_is_76 rfl (by rw [ex1, ic_iconst_1]) (by decide) rfl rfl ?_
  clear ex1
  refine w_goto (tgt := 39) dX12_is_79 (by decide) ?_
  exact w_sub [2, 3, 1, 0] rfl (hK39 k0 x1 σ h)
def f_X12_is_82 (z0 : Nat) (v2 : Int32) (σ : St) : Option (Int32 × St) :=
  gd (bz v2) <| some (v2, σ)
theorem b_X12_is_82 {Γ : CX} (z0 : Nat) (v2 : Int32) (σ : St) (h : RR vI Γ (f_X12_is_82 z0 v2 σ)) : WW Γ cX12_is 4 RX12 (some .boolean) rX12_is σ 82 [(2, .int v2)] [] := by
  unfold f_X12_is_82 at h
  refine w_iload_n 0 dX12_is_82 rfl rfl rfl ?_
  obtain ⟨hb, h⟩ := h.gd
  exact w_zreturn dX12_is_83 hb h
def g_X12_is_39 (z0 : Nat) (K39 : Int32 × Int32 × St → Option (Int32 × St)) (x : Int32 × Int32 × St) : Option (Int32 × St) := match x with
  | (v2, v3, σ) =>
  bd (f_J0_length_8abf5 z0 σ) fun r1 s2 =>
  if r1 ≤ v3 then
    f_X12_is_82 z0 v2 s2
  else
    if v2 = 0 then
      f_X12_is_82 z0 v2 s2
    else
      gd (inb ((gf s2 58 9) + v3) (ln 62)) <|
      bd (f_J0_charAt_5068e z0 v3 s2) fun r5 s6 =>
      if (gr s2 62 ((gf s2 58 9) + v3).toNatClampNeg) = r5 then
        f_X12_is_75 z0 K39 v3 (1 : Int32) s6
      else
        f_X12_is_75 z0 K39 v3 (0 : Int32) s6
theorem l_X12_is_39 {Γ : CX} (z0 : Nat) : ∀ (n : Nat) (v2 : Int32) (v3 : Int32) (σ : St), RR vI Γ (itr (g_X12_is_39 z0) n (v2, v3, σ)) → WW Γ cX12_is 4 RX12 (some .boolean) rX12_is σ 39 [(0, .ref (xd Γ 58)), (1, .ref (xd Γ (z0 + 1000))), (2, .int v2), (3, .int v3)] [] := by
  intro n
  induction n with
  | zero => intro v2 v3 σ h; exact RR.no h
  | succ n hK39 =>
  intro v2 v3 σ h
  have h : RR vI Γ (g_X12_is_39 z0 (itr (g_X12_is_39 z0) n) (v2, v3, σ)) := h
  generalize itr (g_X12_is_39 z0) n = K39 at h hK39
  unfold g_X12_is_39 at h
  dsimp only at h
  refine w_iload_n 3 dX12_is_39 rfl rfl rfl ?_
  refine w_aload_n 1 dX12_is_40 rfl rfl rfl ?_
  obtain ⟨r1, s2, h3, h⟩ := h.bd
  refine k_J0_length_8abf5 ml_RX12_131 (Nat.le_of_ble_eq_true rfl) ⟨Nat.le_of_ble_eq_true rfl, Nat.le_of_ble_eq_true rfl⟩ dX12_is_41 rfl h3 ?_
  refine w_icmp_ge (tgt := 82) dX12_is_44 (by decide) rfl (fun q => ?_) (fun q => ?_)
  · have h := h.tt q
    exact w_sub [2] rfl (b_X12_is_82 z0 v2 s2 h)
  · have h := h.ff q
    refine w_iload_n 2 dX12_is_47 rfl rfl rfl ?_
    refine w_if_eq (tgt := 82) dX12_is_48 (by decide) rfl (fun q => ?_) (fun q => ?_)
    · have h := h.tt q
      exact w_sub [2] rfl (b_X12_is_82 z0 v2 s2 h)
    · have h := h.ff q
      refine w_aload_n 0 dX12_is_51 rfl rfl rfl ?_
      refine gf_RX12_20 dX12_is_52 rfl ?_
      refine w_aload_n 0 dX12_is_55 rfl rfl rfl ?_
      refine gf_RX12_102 dX12_is_56 rfl ?_
      refine w_iload_n 3 dX12_is_59 rfl rfl rfl ?_
      refine w_iadd dX12_is_60 rfl ?_
      obtain ⟨hi4, h⟩ := h.gd
      refine w_bald (i := 62) (lt_lit (by decide)) rfl hi4 dX12_is_61 rfl ?_
      refine w_aload_n 1 dX12_is_62 rfl rfl rfl ?_
      refine w_iload_n 3 dX12_is_63 rfl rfl rfl ?_
      obtain ⟨r5, s6, h7, h⟩ := h.bd
      refine k_J0_charAt_5068e ml_RX12_136 (Nat.le_of_ble_eq_true rfl) ⟨Nat.le_of_ble_eq_true rfl, Nat.le_of_ble_eq_true rfl⟩ dX12_is_64 rfl h7 ?_
      refine w_icmp_ne (tgt := 74) dX12_is_67 (by decide) rfl (fun q => ?_) (fun q => ?_)
      · have h := h.ff q
        refine w_iconst (0 : Int32) dX12_is_74 ic_iconst_0 rfl ?_
        exact w_sub [0, 1, 3] rfl (b_X12_is_75 z0 K39 hK39 v3 (0 : Int32) s6 h)
      · have h := h.tt q
        refine w_iconst (1 : Int32) dX12_is_70 ic_iconst_1 rfl ?_
        refine w_goto (tgt := 75) dX12_is_71 (by decide) ?_
        exact w_sub [0, 1, 3] rfl (b_X12_is_75 z0 K39 hK39 v3 (1 : Int32) s6 h)
def f_X12_is_36 (z0 : Nat) (k0 : Int32) (σ : St) : Option (Int32 × St) :=
  itr (g_X12_is_39 z0) FU (k0, (0 : Int32), σ)
theorem b_X12_is_36 {Γ : CX} (z0 : Nat) (k0 : Int32) (σ : St) (h : RR vI Γ (f_X12_is_36 z0 k0 σ)) : WW Γ cX12_is 4 RX12 (some .boolean) rX12_is σ 36 [(0, .ref (xd Γ 58)), (1, .ref (xd Γ (z0 + 1000)))] [.int k0] := by
  unfold f_X12_is_36 at h
  refine w_istore_n [(2, .int k0), (0, .ref (xd Γ 58)), (1, .ref (xd Γ (z0 + 1000)))] dX12_is_36 rfl (by decide) rfl rfl ?_
  refine w_iconst (0 : Int32) dX12_is_37 ic_iconst_0 rfl ?_
  refine w_istore_n [(3, .int (0 : Int32)), (2, .int k0), (0, .ref (xd Γ 58)), (1, .ref (xd Γ (z0 + 1000)))] dX12_is_38 rfl (by decide) rfl rfl ?_
  exact w_sub [2, 3, 1, 0] rfl (l_X12_is_39 z0 FU k0 (0 : Int32) σ h)
def f_X12_is_35 (z0 : Nat) (σ : St) : Option (Int32 × St) :=
  f_X12_is_36 z0 (0 : Int32) σ
theorem b_X12_is_35 {Γ : CX} (z0 : Nat) (σ : St) (h : RR vI Γ (f_X12_is_35 z0 σ)) : WW Γ cX12_is 4 RX12 (some .boolean) rX12_is σ 35 [(0, .ref (xd Γ 58)), (1, .ref (xd Γ (z0 + 1000)))] [] := by
  unfold f_X12_is_35 at h
  refine w_iconst (0 : Int32) dX12_is_35 ic_iconst_0 rfl ?_
  exact w_sub [0, 1] rfl (b_X12_is_36 z0 (0 : Int32) σ h)
def f_X12_is (z0 : Nat) (σ : St) : Option (Int32 × St) :=
  gd (isS σ z0) <|
  bd (f_X12_good σ) fun r1 s2 =>
  if r1 = 0 then
    f_X12_is_35 z0 s2
  else
    if (gf s2 58 10) = (1 : Int32) then
      bd (f_J0_length_8abf5 z0 s2) fun r4 s5 =>
      if ((gf s2 58 8) - (gf s2 58 9)) = r4 then
        f_X12_is_36 z0 (1 : Int32) s5
      else
        f_X12_is_35 z0 s5
    else
      f_X12_is_35 z0 s2
theorem e_X12_is {Γ : CX} (z0 : Nat) (σ : St) (h : RR vI Γ (f_X12_is z0 σ)) : WW Γ cX12_is 4 RX12 (some .boolean) rX12_is σ 0 [(0, .ref (xd Γ 58)), (1, .ref (xd Γ (z0 + 1000)))] [] := by
  unfold f_X12_is at h
  obtain ⟨hg_z0_σ, h⟩ := h.gd
  refine w_aload_n 0 dX12_is_0 rfl rfl rfl ?_
  obtain ⟨r1, s2, h3, h⟩ := h.bd
  refine k_X12_good ml_RX12_128 (Nat.le_of_ble_eq_true rfl) ⟨Nat.le_of_ble_eq_true rfl, Nat.le_of_ble_eq_true rfl⟩ dX12_is_1 rfl h3 ?_
  refine w_if_eq (tgt := 35) dX12_is_4 (by decide) rfl (fun q => ?_) (fun q => ?_)
  · have h := h.tt q
    exact w_sub [0, 1] rfl (b_X12_is_35 z0 s2 h)
  · have h := h.ff q
    refine w_aload_n 0 dX12_is_7 rfl rfl rfl ?_
    refine gf_RX12_105 dX12_is_8 rfl ?_
    refine w_iconst (1 : Int32) dX12_is_11 ic_iconst_1 rfl ?_
    refine w_icmp_ne (tgt := 35) dX12_is_12 (by decide) rfl (fun q => ?_) (fun q => ?_)
    · have h := h.ff q
      exact w_sub [0, 1] rfl (b_X12_is_35 z0 s2 h)
    · have h := h.tt q
      refine w_aload_n 0 dX12_is_15 rfl rfl rfl ?_
      refine gf_RX12_95 dX12_is_16 rfl ?_
      refine w_aload_n 0 dX12_is_19 rfl rfl rfl ?_
      refine gf_RX12_102 dX12_is_20 rfl ?_
      refine w_isub dX12_is_23 rfl ?_
      refine w_aload_n 1 dX12_is_24 rfl rfl rfl ?_
      obtain ⟨r4, s5, h6, h⟩ := h.bd
      refine k_J0_length_8abf5 ml_RX12_131 (Nat.le_of_ble_eq_true rfl) ⟨Nat.le_of_ble_eq_true rfl, Nat.le_of_ble_eq_true rfl⟩ dX12_is_25 rfl h6 ?_
      refine w_icmp_ne (tgt := 35) dX12_is_28 (by decide) rfl (fun q => ?_) (fun q => ?_)
      · have h := h.ff q
        exact w_sub [0, 1] rfl (b_X12_is_35 z0 s5 h)
      · have h := h.tt q
        refine w_iconst (1 : Int32) dX12_is_31 ic_iconst_1 rfl ?_
        refine w_goto (tgt := 36) dX12_is_32 (by decide) ?_
        exact w_sub [0, 1] rfl (b_X12_is_36 z0 (1 : Int32) s5 h)
theorem c_X12_is {l : Launch} {D : va_G} {cy : Nat → ClassId} {ad : Nat → Nat} {z0 : Nat} {σ σ' : St} {r : Int32} (hf : f_X12_is z0 σ = some (r, σ')) : CT l D cy ad yX12_is cX12_is 4 (some .boolean) rX12_is [.ref (ad 58), .ref (ad (z0 + 1000))] σ (some (.int r)) σ' :=
  ct_of (by decide) (Nat.le_of_ble_eq_true rfl) (fun p e s m args below meth c A => e_X12_is (Γ := (p, l, e, rX12_is, s, m, args, below, meth, c, D, cy, ad, A, 0, 0, MQ below (QC D cy ad (some (.int r)) σ' A) args s 0 0 A)) z0 σ ⟨_, hf, rfl⟩)
theorem k_X12_is {Γ : CX} {cc : ByteArray} {nL : Nat} {own : String} {ret : Option FieldType} {rm : Room} {σ σ' : St} {pc pc' idx : Nat} {lv : List (Nat × Value)} {rest : List Value} {z0 : Nat} {r : Int32} (hl : Cond.methodLink own idx yX12_is ∈ TB) (hw : (rest.map fun v => v.category).sum ≤ 8) (hR : rX12_is.frames + 1 ≤ rm.frames ∧ 8 + (4 + 11) + rX12_is.locals ≤ rm.locals) (hd : decode cc pc = .ok (.invokevirtual idx, 3)) (hp : pc + 3 = pc') (hf : f_X12_is z0 σ = some (r, σ')) (h : WW Γ cc nL own ret rm σ' pc' lv (.int r :: rest)) : WW Γ cc nL own ret rm σ pc lv (.ref (xd Γ (z0 + 1000)) :: .ref (xd Γ 58) :: rest) :=
  w_callV (nn := 1) (i := 58) (As := [.ref (xd Γ (z0 + 1000))]) (v := (some (.int r))) (T := TX12) (N := 32) (c_X12_is hf) hl mw_X12_is (by decide +kernel) ⟨rfl, rfl⟩ hR (lt_lit (by decide)) cel_58 rfl rfl hw hd rfl hp h
/-! WarByHoursModel.takes (Ljava/lang/String;)Z -/
def rX12_takes : Room := { frames := 5, cells := 0, slots := 0, locals := 108 }
def f_X12_takes_14 (z0 : Nat) (v2 : Int32) (σ : St) : Option (Int32 × St) :=
  gd (bz v2) <| some (v2, σ)
theorem b_X12_takes_14 {Γ : CX} (z0 : Nat) (v2 : Int32) (σ : St) (h : RR vI Γ (f_X12_takes_14 z0 v2 σ)) : WW Γ cX12_takes 3 RX12 (some .boolean) rX12_takes σ 14 [(2, .int v2)] [] := by
  unfold f_X12_takes_14 at h
  refine w_iload_n 0 dX12_takes_14 rfl rfl rfl ?_
  obtain ⟨hb, h⟩ := h.gd
  exact w_zreturn dX12_takes_15 hb h
def f_X12_takes (z0 : Nat) (σ : St) : Option (Int32 × St) :=
  gd (isS σ z0) <|
  bd (f_X12_is z0 σ) fun r1 s2 =>
  if r1 = 0 then
    f_X12_takes_14 z0 r1 s2
  else
    bd (f_X12_advance s2) fun _ s5 =>
    f_X12_takes_14 z0 r1 s5
theorem e_X12_takes {Γ : CX} (z0 : Nat) (σ : St) (h : RR vI Γ (f_X12_takes z0 σ)) : WW Γ cX12_takes 3 RX12 (some .boolean) rX12_takes σ 0 [(0, .ref (xd Γ 58)), (1, .ref (xd Γ (z0 + 1000)))] [] := by
  unfold f_X12_takes at h
  obtain ⟨hg_z0_σ, h⟩ := h.gd
  refine w_aload_n 0 dX12_takes_0 rfl rfl rfl ?_
  refine w_aload_n 1 dX12_takes_1 rfl rfl rfl ?_
  obtain ⟨r1, s2, h3, h⟩ := h.bd
  refine k_X12_is ml_RX12_140 (Nat.le_of_ble_eq_true rfl) ⟨Nat.le_of_ble_eq_true rfl, Nat.le_of_ble_eq_true rfl⟩ dX12_takes_2 rfl h3 ?_
  refine w_istore_n [(2, .int r1), (0, .ref (xd Γ 58)), (1, .ref (xd Γ (z0 + 1000)))] dX12_takes_5 rfl (by decide) rfl rfl ?_
  refine w_iload_n 0 dX12_takes_6 rfl rfl rfl ?_
  refine w_if_eq (tgt := 14) dX12_takes_7 (by decide) rfl (fun q => ?_) (fun q => ?_)
  · have h := h.tt q
    exact w_sub [0] rfl (b_X12_takes_14 z0 r1 s2 h)
  · have h := h.ff q
    refine w_aload_n 1 dX12_takes_10 rfl rfl rfl ?_
    obtain ⟨r4, s5, h6, h⟩ := h.bd
    refine k_X12_advance ml_RX12_144 (Nat.le_of_ble_eq_true rfl) ⟨Nat.le_of_ble_eq_true rfl, Nat.le_of_ble_eq_true rfl⟩ dX12_takes_11 rfl h6 ?_
    exact w_sub [0] rfl (b_X12_takes_14 z0 r1 s5 h)
theorem c_X12_takes {l : Launch} {D : va_G} {cy : Nat → ClassId} {ad : Nat → Nat} {z0 : Nat} {σ σ' : St} {r : Int32} (hf : f_X12_takes z0 σ = some (r, σ')) : CT l D cy ad yX12_takes cX12_takes 3 (some .boolean) rX12_takes [.ref (ad 58), .ref (ad (z0 + 1000))] σ (some (.int r)) σ' :=
  ct_of (by decide) (Nat.le_of_ble_eq_true rfl) (fun p e s m args below meth c A => e_X12_takes (Γ := (p, l, e, rX12_takes, s, m, args, below, meth, c, D, cy, ad, A, 0, 0, MQ below (QC D cy ad (some (.int r)) σ' A) args s 0 0 A)) z0 σ ⟨_, hf, rfl⟩)
theorem k_X12_takes {Γ : CX} {cc : ByteArray} {nL : Nat} {own : String} {ret : Option FieldType} {rm : Room} {σ σ' : St} {pc pc' idx : Nat} {lv : List (Nat × Value)} {rest : List Value} {z0 : Nat} {r : Int32} (hl : Cond.methodLink own idx yX12_takes ∈ TB) (hw : (rest.map fun v => v.category).sum ≤ 8) (hR : rX12_takes.frames + 1 ≤ rm.frames ∧ 8 + (3 + 11) + rX12_takes.locals ≤ rm.locals) (hd : decode cc pc = .ok (.invokevirtual idx, 3)) (hp : pc + 3 = pc') (hf : f_X12_takes z0 σ = some (r, σ')) (h : WW Γ cc nL own ret rm σ' pc' lv (.int r :: rest)) : WW Γ cc nL own ret rm σ pc lv (.ref (xd Γ (z0 + 1000)) :: .ref (xd Γ 58) :: rest) :=
  w_callV (nn := 1) (i := 58) (As := [.ref (xd Γ (z0 + 1000))]) (v := (some (.int r))) (T := TX12) (N := 32) (c_X12_takes hf) hl mw_X12_takes (by decide +kernel) ⟨rfl, rfl⟩ hR (lt_lit (by decide)) cel_58 rfl rfl hw hd rfl hp h
/-! WarByHoursModel.needs (Ljava/lang/String;)V -/
def rX12_needs : Room := { frames := 6, cells := 0, slots := 0, locals := 130 }
def f_X12_needs_13 (z0 : Nat) (σ : St) : Option (Unit × St) :=
  some ((), σ)
theorem b_X12_needs_13 {Γ : CX} (z0 : Nat) (σ : St) (h : RR vU Γ (f_X12_needs_13 z0 σ)) : WW Γ cX12_needs 2 RX12 none rX12_needs σ 13 [] [] := by
  unfold f_X12_needs_13 at h
  exact w_return dX12_needs_13 h
def f_X12_needs (z0 : Nat) (σ : St) : Option (Unit × St) :=
  gd (isS σ z0) <|
  bd (f_X12_takes z0 σ) fun r1 s2 =>
  if r1 = 0 then
    bd (f_X12_errs (1 : Int32) s2) fun _ s5 =>
    f_X12_needs_13 z0 s5
  else
    f_X12_needs_13 z0 s2
theorem e_X12_needs {Γ : CX} (z0 : Nat) (σ : St) (h : RR vU Γ (f_X12_needs z0 σ)) : WW Γ cX12_needs 2 RX12 none rX12_needs σ 0 [(0, .ref (xd Γ 58)), (1, .ref (xd Γ (z0 + 1000)))] [] := by
  unfold f_X12_needs at h
  obtain ⟨hg_z0_σ, h⟩ := h.gd
  refine w_aload_n 0 dX12_needs_0 rfl rfl rfl ?_
  refine w_aload_n 1 dX12_needs_1 rfl rfl rfl ?_
  obtain ⟨r1, s2, h3, h⟩ := h.bd
  refine k_X12_takes ml_RX12_147 (Nat.le_of_ble_eq_true rfl) ⟨Nat.le_of_ble_eq_true rfl, Nat.le_of_ble_eq_true rfl⟩ dX12_needs_2 rfl h3 ?_
  refine w_if_ne (tgt := 13) dX12_needs_5 (by decide) rfl (fun q => ?_) (fun q => ?_)
  · have h := h.ff q
    exact w_sub [] rfl (b_X12_needs_13 z0 s2 h)
  · have h := h.tt q
    refine w_aload_n 0 dX12_needs_8 rfl rfl rfl ?_
    refine w_iconst (1 : Int32) dX12_needs_9 ic_iconst_1 rfl ?_
    obtain ⟨r4, s5, h6, h⟩ := h.bd
    refine k_X12_errs ml_RX12_150 (Nat.le_of_ble_eq_true rfl) ⟨Nat.le_of_ble_eq_true rfl, Nat.le_of_ble_eq_true rfl⟩ dX12_needs_10 rfl h6 ?_
    exact w_sub [] rfl (b_X12_needs_13 z0 s5 h)
theorem c_X12_needs {l : Launch} {D : va_G} {cy : Nat → ClassId} {ad : Nat → Nat} {z0 : Nat} {σ σ' : St} {r : Unit} (hf : f_X12_needs z0 σ = some (r, σ')) : CT l D cy ad yX12_needs cX12_needs 2 none rX12_needs [.ref (ad 58), .ref (ad (z0 + 1000))] σ none σ' :=
  ct_of (by decide) (Nat.le_of_ble_eq_true rfl) (fun p e s m args below meth c A => e_X12_needs (Γ := (p, l, e, rX12_needs, s, m, args, below, meth, c, D, cy, ad, A, 0, 0, MQ below (QC D cy ad none σ' A) args s 0 0 A)) z0 σ ⟨_, hf, rfl⟩)
theorem k_X12_needs {Γ : CX} {cc : ByteArray} {nL : Nat} {own : String} {ret : Option FieldType} {rm : Room} {σ σ' : St} {pc pc' idx : Nat} {lv : List (Nat × Value)} {rest : List Value} {z0 : Nat} {r : Unit} (hl : Cond.methodLink own idx yX12_needs ∈ TB) (hw : (rest.map fun v => v.category).sum ≤ 8) (hR : rX12_needs.frames + 1 ≤ rm.frames ∧ 8 + (2 + 11) + rX12_needs.locals ≤ rm.locals) (hd : decode cc pc = .ok (.invokevirtual idx, 3)) (hp : pc + 3 = pc') (hf : f_X12_needs z0 σ = some (r, σ')) (h : WW Γ cc nL own ret rm σ' pc' lv (rest)) : WW Γ cc nL own ret rm σ pc lv (.ref (xd Γ (z0 + 1000)) :: .ref (xd Γ 58) :: rest) :=
  w_callV (nn := 1) (i := 58) (As := [.ref (xd Γ (z0 + 1000))]) (v := none) (T := TX12) (N := 32) (c_X12_needs hf) hl mw_X12_needs (by decide +kernel) ⟨rfl, rfl⟩ hR (lt_lit (by decide)) cel_58 rfl rfl hw hd rfl hp h
/-! WarByHoursModel.told (Ljava/lang/String;II)I -/
def rX12_told : Room := { frames := 7, cells := 0, slots := 0, locals := 151 }
def f_X12_told (z0 : Nat) (p1 : Int32) (p2 : Int32) (σ : St) : Option (Int32 × St) :=
  gd (isS σ z0) <|
  bd (f_X12_needs z0 σ) fun _ s2 =>
  bd (f_X12_number p1 p2 s2) fun r4 s5 =>
  some (r4, s5)
theorem e_X12_told {Γ : CX} (z0 : Nat) (p1 : Int32) (p2 : Int32) (σ : St) (h : RR vI Γ (f_X12_told z0 p1 p2 σ)) : WW Γ cX12_told 4 RX12 (some .int) rX12_told σ 0 [(0, .ref (xd Γ 58)), (1, .ref (xd Γ (z0 + 1000))), (2, .int p1), (3, .int p2)] [] := by
  unfold f_X12_told at h
  obtain ⟨hg_z0_σ, h⟩ := h.gd
  refine w_aload_n 0 dX12_told_0 rfl rfl rfl ?_
  refine w_aload_n 1 dX12_told_1 rfl rfl rfl ?_
  obtain ⟨r1, s2, h3, h⟩ := h.bd
  refine k_X12_needs ml_RX12_154 (Nat.le_of_ble_eq_true rfl) ⟨Nat.le_of_ble_eq_true rfl, Nat.le_of_ble_eq_true rfl⟩ dX12_told_2 rfl h3 ?_
  refine w_aload_n 0 dX12_told_5 rfl rfl rfl ?_
  refine w_iload_n 2 dX12_told_6 rfl rfl rfl ?_
  refine w_iload_n 3 dX12_told_7 rfl rfl rfl ?_
  obtain ⟨r4, s5, h6, h⟩ := h.bd
  refine k_X12_number ml_RX12_158 (Nat.le_of_ble_eq_true rfl) ⟨Nat.le_of_ble_eq_true rfl, Nat.le_of_ble_eq_true rfl⟩ dX12_told_8 rfl h6 ?_
  exact w_ireturn dX12_told_11 h
theorem c_X12_told {l : Launch} {D : va_G} {cy : Nat → ClassId} {ad : Nat → Nat} {z0 : Nat} {p1 : Int32} {p2 : Int32} {σ σ' : St} {r : Int32} (hf : f_X12_told z0 p1 p2 σ = some (r, σ')) : CT l D cy ad yX12_told cX12_told 4 (some .int) rX12_told [.ref (ad 58), .ref (ad (z0 + 1000)), .int p1, .int p2] σ (some (.int r)) σ' :=
  ct_of (by decide) (Nat.le_of_ble_eq_true rfl) (fun p e s m args below meth c A => e_X12_told (Γ := (p, l, e, rX12_told, s, m, args, below, meth, c, D, cy, ad, A, 0, 0, MQ below (QC D cy ad (some (.int r)) σ' A) args s 0 0 A)) z0 p1 p2 σ ⟨_, hf, rfl⟩)
theorem k_X12_told {Γ : CX} {cc : ByteArray} {nL : Nat} {own : String} {ret : Option FieldType} {rm : Room} {σ σ' : St} {pc pc' idx : Nat} {lv : List (Nat × Value)} {rest : List Value} {z0 : Nat} {p1 : Int32} {p2 : Int32} {r : Int32} (hl : Cond.methodLink own idx yX12_told ∈ TB) (hw : (rest.map fun v => v.category).sum ≤ 8) (hR : rX12_told.frames + 1 ≤ rm.frames ∧ 8 + (4 + 11) + rX12_told.locals ≤ rm.locals) (hd : decode cc pc = .ok (.invokevirtual idx, 3)) (hp : pc + 3 = pc') (hf : f_X12_told z0 p1 p2 σ = some (r, σ')) (h : WW Γ cc nL own ret rm σ' pc' lv (.int r :: rest)) : WW Γ cc nL own ret rm σ pc lv (.int p2 :: .int p1 :: .ref (xd Γ (z0 + 1000)) :: .ref (xd Γ 58) :: rest) :=
  w_callV (nn := 3) (i := 58) (As := [.ref (xd Γ (z0 + 1000)), .int p1, .int p2]) (v := (some (.int r))) (T := TX12) (N := 32) (c_X12_told hf) hl mw_X12_told (by decide +kernel) ⟨rfl, rfl⟩ hR (lt_lit (by decide)) cel_58 rfl rfl hw hd rfl hp h
/-! WarByHoursModel.readFirst ()V -/
def rX12_readFirst : Room := { frames := 8, cells := 0, slots := 0, locals := 174 }
def f_X12_readFirst (σ : St) : Option (Unit × St) :=
  bd (f_X12_needs 6 σ) fun _ s2 =>
  bd (f_X12_told 7 (1 : Int32) (60 : Int32) s2) fun r4 s5 =>
  gd (inb (0 : Int32) (ln 64)) <|
  bnd (sr s5 64 (0 : Int32).toNatClampNeg r4) fun s8 =>
  gd (inb (0 : Int32) (ln 64)) <|
  bd (f_X12_told 8 (0 : Int32) ((gr s8 64 (0 : Int32).toNatClampNeg) - (1 : Int32)) s8) fun r10 s11 =>
  gd (inb (1 : Int32) (ln 64)) <|
  bnd (sr s11 64 (1 : Int32).toNatClampNeg r10) fun s14 =>
  bd (f_X12_told 9 (0 : Int32) (60 : Int32) s14) fun r15 s16 =>
  gd (inb (2 : Int32) (ln 64)) <|
  bnd (sr s16 64 (2 : Int32).toNatClampNeg r15) fun s19 =>
  bd (f_X12_told 10 (0 : Int32) (100 : Int32) s19) fun r20 s21 =>
  gd (inb (3 : Int32) (ln 64)) <|
  bnd (sr s21 64 (3 : Int32).toNatClampNeg r20) fun s24 =>
  some ((), s24)
theorem e_X12_readFirst {Γ : CX} (σ : St) (h : RR vU Γ (f_X12_readFirst σ)) : WW Γ cX12_readFirst 1 RX12 none rX12_readFirst σ 0 [(0, .ref (xd Γ 58))] [] := by
  unfold f_X12_readFirst at h
  refine w_aload_n 0 dX12_readFirst_0 rfl rfl rfl ?_
  refine w_ldcS (k := 6) (tx := "war") (List.mem_of_getElem? (i := 21) rfl) dX12_readFirst_1 rfl ?_
  obtain ⟨r1, s2, h3, h⟩ := h.bd
  refine k_X12_needs ml_RX12_154 (Nat.le_of_ble_eq_true rfl) ⟨Nat.le_of_ble_eq_true rfl, Nat.le_of_ble_eq_true rfl⟩ dX12_readFirst_3 rfl h3 ?_
  refine w_aload_n 0 dX12_readFirst_6 rfl rfl rfl ?_
  refine gf_RX12_31 dX12_readFirst_7 rfl ?_
  refine w_iconst (0 : Int32) dX12_readFirst_10 ic_iconst_0 rfl ?_
  refine w_aload_n 0 dX12_readFirst_11 rfl rfl rfl ?_
  refine w_ldcS (k := 7) (tx := "minutes") (List.mem_of_getElem? (i := 22) rfl) dX12_readFirst_12 rfl ?_
  refine w_iconst (1 : Int32) dX12_readFirst_14 ic_iconst_1 rfl ?_
  refine w_bipush (60 : Int32) dX12_readFirst_15 ic_bipush_60 rfl ?_
  obtain ⟨r4, s5, h6, h⟩ := h.bd
  refine k_X12_told ml_RX12_165 (Nat.le_of_ble_eq_true rfl) ⟨Nat.le_of_ble_eq_true rfl, Nat.le_of_ble_eq_true rfl⟩ dX12_readFirst_17 rfl h6 ?_
  obtain ⟨hi7, h⟩ := h.gd
  refine w_iast (i := 64) (lt_lit (by decide)) rfl hi7 dX12_readFirst_20 rfl ?_
  obtain ⟨s8, es8⟩ : ∃ y : St, y = (sr s5 64 (0 : Int32).toNatClampNeg r4) := ⟨_, rfl⟩
  rw [← es8]
  replace h := h.bnd es8
  clear es8
  refine w_aload_n 0 dX12_readFirst_21 rfl rfl rfl ?_
  refine gf_RX12_31 dX12_readFirst_22 rfl ?_
  refine w_iconst (1 : Int32) dX12_readFirst_25 ic_iconst_1 rfl ?_
  refine w_aload_n 0 dX12_readFirst_26 rfl rfl rfl ?_
  refine w_ldcS (k := 8) (tx := "late") (List.mem_of_getElem? (i := 23) rfl) dX12_readFirst_27 rfl ?_
  refine w_iconst (0 : Int32) dX12_readFirst_29 ic_iconst_0 rfl ?_
  refine w_aload_n 0 dX12_readFirst_30 rfl rfl rfl ?_
  refine gf_RX12_31 dX12_readFirst_31 rfl ?_
  refine w_iconst (0 : Int32) dX12_readFirst_34 ic_iconst_0 rfl ?_
  obtain ⟨hi9, h⟩ := h.gd
  refine w_iald (i := 64) (lt_lit (by decide)) rfl hi9 dX12_readFirst_35 rfl ?_
  refine w_iconst (1 : Int32) dX12_readFirst_36 ic_iconst_1 rfl ?_
  refine w_isub dX12_readFirst_37 rfl ?_
  obtain ⟨r10, s11, h12, h⟩ := h.bd
  refine k_X12_told ml_RX12_165 (Nat.le_of_ble_eq_true rfl) ⟨Nat.le_of_ble_eq_true rfl, Nat.le_of_ble_eq_true rfl⟩ dX12_readFirst_38 rfl h12 ?_
  obtain ⟨hi13, h⟩ := h.gd
  refine w_iast (i := 64) (lt_lit (by decide)) rfl hi13 dX12_readFirst_41 rfl ?_
  obtain ⟨s14, es14⟩ : ∃ y : St, y = (sr s11 64 (1 : Int32).toNatClampNeg r10) := ⟨_, rfl⟩
  rw [← es14]
  replace h := h.bnd es14
  clear es14
  refine w_aload_n 0 dX12_readFirst_42 rfl rfl rfl ?_
  refine gf_RX12_31 dX12_readFirst_43 rfl ?_
  refine w_iconst (2 : Int32) dX12_readFirst_46 ic_iconst_2 rfl ?_
  refine w_aload_n 0 dX12_readFirst_47 rfl rfl rfl ?_
  refine w_ldcS (k := 9) (tx := "peace") (List.mem_of_getElem? (i := 24) rfl) dX12_readFirst_48 rfl ?_
  refine w_iconst (0 : Int32) dX12_readFirst_50 ic_iconst_0 rfl ?_
  refine w_bipush (60 : Int32) dX12_readFirst_51 ic_bipush_60 rfl ?_
  obtain ⟨r15, s16, h17, h⟩ := h.bd
  refine k_X12_told ml_RX12_165 (Nat.le_of_ble_eq_true rfl) ⟨Nat.le_of_ble_eq_true rfl, Nat.le_of_ble_eq_true rfl⟩ dX12_readFirst_53 rfl h17 ?_
  obtain ⟨hi18, h⟩ := h.gd
  refine w_iast (i := 64) (lt_lit (by decide)) rfl hi18 dX12_readFirst_56 rfl ?_
  obtain ⟨s19, es19⟩ : ∃ y : St, y = (sr s16 64 (2 : Int32).toNatClampNeg r15) := ⟨_, rfl⟩
  rw [← es19]
  replace h := h.bnd es19
  clear es19
  refine w_aload_n 0 dX12_readFirst_57 rfl rfl rfl ?_
  refine gf_RX12_31 dX12_readFirst_58 rfl ?_
  refine w_iconst (3 : Int32) dX12_readFirst_61 ic_iconst_3 rfl ?_
  refine w_aload_n 0 dX12_readFirst_62 rfl rfl rfl ?_
  refine w_ldcS (k := 10) (tx := "rain") (List.mem_of_getElem? (i := 25) rfl) dX12_readFirst_63 rfl ?_
  refine w_iconst (0 : Int32) dX12_readFirst_65 ic_iconst_0 rfl ?_
  refine w_bipush (100 : Int32) dX12_readFirst_66 ic_bipush_100 rfl ?_
  obtain ⟨r20, s21, h22, h⟩ := h.bd
  refine k_X12_told ml_RX12_165 (Nat.le_of_ble_eq_true rfl) ⟨Nat.le_of_ble_eq_true rfl, Nat.le_of_ble_eq_true rfl⟩ dX12_readFirst_68 rfl h22 ?_
  obtain ⟨hi23, h⟩ := h.gd
  refine w_iast (i := 64) (lt_lit (by decide)) rfl hi23 dX12_readFirst_71 rfl ?_
  obtain ⟨s24, es24⟩ : ∃ y : St, y = (sr s21 64 (3 : Int32).toNatClampNeg r20) := ⟨_, rfl⟩
  rw [← es24]
  replace h := h.bnd es24
  clear es24
  exact w_return dX12_readFirst_72 h
theorem c_X12_readFirst {l : Launch} {D : va_G} {cy : Nat → ClassId} {ad : Nat → Nat}  {σ σ' : St} {r : Unit} (hf : f_X12_readFirst σ = some (r, σ')) : CT l D cy ad yX12_readFirst cX12_readFirst 1 none rX12_readFirst [.ref (ad 58)] σ none σ' :=
  ct_of (by decide) (Nat.le_of_ble_eq_true rfl) (fun p e s m args below meth c A => e_X12_readFirst (Γ := (p, l, e, rX12_readFirst, s, m, args, below, meth, c, D, cy, ad, A, 0, 0, MQ below (QC D cy ad none σ' A) args s 0 0 A)) σ ⟨_, hf, rfl⟩)
theorem k_X12_readFirst {Γ : CX} {cc : ByteArray} {nL : Nat} {own : String} {ret : Option FieldType} {rm : Room} {σ σ' : St} {pc pc' idx : Nat} {lv : List (Nat × Value)} {rest : List Value}  {r : Unit} (hl : Cond.methodLink own idx yX12_readFirst ∈ TB) (hw : (rest.map fun v => v.category).sum ≤ 8) (hR : rX12_readFirst.frames + 1 ≤ rm.frames ∧ 8 + (1 + 11) + rX12_readFirst.locals ≤ rm.locals) (hd : decode cc pc = .ok (.invokevirtual idx, 3)) (hp : pc + 3 = pc') (hf : f_X12_readFirst σ = some (r, σ')) (h : WW Γ cc nL own ret rm σ' pc' lv (rest)) : WW Γ cc nL own ret rm σ pc lv (.ref (xd Γ 58) :: rest) :=
  w_callV (nn := 0) (i := 58) (As := []) (v := none) (T := TX12) (N := 32) (c_X12_readFirst hf) hl mw_X12_readFirst (by decide +kernel) ⟨rfl, rfl⟩ hR (lt_lit (by decide)) cel_58 rfl rfl hw hd rfl hp h
/-! WarByHoursModel.readTrain ()V -/
def rX12_readTrain : Room := { frames := 8, cells := 0, slots := 0, locals := 174 }
def f_X12_readTrain (σ : St) : Option (Unit × St) :=
  gd (inb (4 : Int32) (ln 64)) <|
  bnd (((13 : Int32) + ((6 : Int32) * (gr σ 64 (4 : Int32).toNatClampNeg)))) fun x2 =>
  bd (f_X12_number (0 : Int32) (1 : Int32) σ) fun r3 s4 =>
  gd (inb (x2 + (0 : Int32)) (ln 64)) <|
  bnd (sr s4 64 (x2 + (0 : Int32)).toNatClampNeg r3) fun s7 =>
  bd (f_X12_told 11 (1 : Int32) (99 : Int32) s7) fun r8 s9 =>
  gd (inb (x2 + (1 : Int32)) (ln 64)) <|
  bnd (sr s9 64 (x2 + (1 : Int32)).toNatClampNeg r8) fun s12 =>
  bd (f_X12_told 12 (0 : Int32) (59 : Int32) s12) fun r13 s14 =>
  gd (inb (x2 + (2 : Int32)) (ln 64)) <|
  bnd (sr s14 64 (x2 + (2 : Int32)).toNatClampNeg r13) fun s17 =>
  bd (f_X12_told 13 (0 : Int32) (100 : Int32) s17) fun r18 s19 =>
  gd (inb (x2 + (3 : Int32)) (ln 64)) <|
  bnd (sr s19 64 (x2 + (3 : Int32)).toNatClampNeg r18) fun s22 =>
  bd (f_X12_told 14 (1 : Int32) (30 : Int32) s22) fun r23 s24 =>
  gd (inb (x2 + (4 : Int32)) (ln 64)) <|
  bnd (sr s24 64 (x2 + (4 : Int32)).toNatClampNeg r23) fun s27 =>
  bd (f_X12_told 15 (0 : Int32) (999 : Int32) s27) fun r28 s29 =>
  gd (inb (x2 + (5 : Int32)) (ln 64)) <|
  bnd (sr s29 64 (x2 + (5 : Int32)).toNatClampNeg r28) fun s32 =>
  gd (inb (4 : Int32) (ln 64)) <|
  gd (inb (4 : Int32) (ln 64)) <|
  bnd (sr s32 64 (4 : Int32).toNatClampNeg ((gr s32 64 (4 : Int32).toNatClampNeg) + (1 : Int32))) fun s35 =>
  some ((), s35)
theorem e_X12_readTrain {Γ : CX} (σ : St) (h : RR vU Γ (f_X12_readTrain σ)) : WW Γ cX12_readTrain 2 RX12 none rX12_readTrain σ 0 [(0, .ref (xd Γ 58))] [] := by
  unfold f_X12_readTrain at h
  refine w_bipush (13 : Int32) dX12_readTrain_0 ic_bipush_13 rfl ?_
  refine w_bipush (6 : Int32) dX12_readTrain_2 ic_bipush_6 rfl ?_
  refine w_aload_n 0 dX12_readTrain_4 rfl rfl rfl ?_
  refine gf_RX12_31 dX12_readTrain_5 rfl ?_
  refine w_iconst (4 : Int32) dX12_readTrain_8 ic_iconst_4 rfl ?_
  obtain ⟨hi1, h⟩ := h.gd
  refine w_iald (i := 64) (lt_lit (by decide)) rfl hi1 dX12_readTrain_9 rfl ?_
  refine w_imul dX12_readTrain_10 rfl ?_
  refine w_iadd dX12_readTrain_11 rfl ?_
  refine w_nmI (fun x2 ex2 => ?_)
  replace h := h.bnd ex2
  clear ex2
  refine w_istore_n [(1, .int x2), (0, .ref (xd Γ 58))] dX12_readTrain_12 rfl (by decide) rfl rfl ?_
  refine w_aload_n 1 dX12_readTrain_13 rfl rfl rfl ?_
  refine gf_RX12_31 dX12_readTrain_14 rfl ?_
  refine w_iload_n 0 dX12_readTrain_17 rfl rfl rfl ?_
  refine w_iconst (0 : Int32) dX12_readTrain_18 ic_iconst_0 rfl ?_
  refine w_iadd dX12_readTrain_19 rfl ?_
  refine w_aload_n 1 dX12_readTrain_20 rfl rfl rfl ?_
  refine w_iconst (0 : Int32) dX12_readTrain_21 ic_iconst_0 rfl ?_
  refine w_iconst (1 : Int32) dX12_readTrain_22 ic_iconst_1 rfl ?_
  obtain ⟨r3, s4, h5, h⟩ := h.bd
  refine k_X12_number ml_RX12_158 (Nat.le_of_ble_eq_true rfl) ⟨Nat.le_of_ble_eq_true rfl, Nat.le_of_ble_eq_true rfl⟩ dX12_readTrain_23 rfl h5 ?_
  obtain ⟨hi6, h⟩ := h.gd
  refine w_iast (i := 64) (lt_lit (by decide)) rfl hi6 dX12_readTrain_26 rfl ?_
  obtain ⟨s7, es7⟩ : ∃ y : St, y = (sr s4 64 (x2 + (0 : Int32)).toNatClampNeg r3) := ⟨_, rfl⟩
  rw [← es7]
  replace h := h.bnd es7
  clear es7
  refine w_aload_n 1 dX12_readTrain_27 rfl rfl rfl ?_
  refine gf_RX12_31 dX12_readTrain_28 rfl ?_
  refine w_iload_n 0 dX12_readTrain_31 rfl rfl rfl ?_
  refine w_iconst (1 : Int32) dX12_readTrain_32 ic_iconst_1 rfl ?_
  refine w_iadd dX12_readTrain_33 rfl ?_
  refine w_aload_n 1 dX12_readTrain_34 rfl rfl rfl ?_
  refine w_ldcS (k := 11) (tx := "men") (List.mem_of_getElem? (i := 26) rfl) dX12_readTrain_35 rfl ?_
  refine w_iconst (1 : Int32) dX12_readTrain_37 ic_iconst_1 rfl ?_
  refine w_bipush (99 : Int32) dX12_readTrain_38 ic_bipush_99 rfl ?_
  obtain ⟨r8, s9, h10, h⟩ := h.bd
  refine k_X12_told ml_RX12_165 (Nat.le_of_ble_eq_true rfl) ⟨Nat.le_of_ble_eq_true rfl, Nat.le_of_ble_eq_true rfl⟩ dX12_readTrain_40 rfl h10 ?_
  obtain ⟨hi11, h⟩ := h.gd
  refine w_iast (i := 64) (lt_lit (by decide)) rfl hi11 dX12_readTrain_43 rfl ?_
  obtain ⟨s12, es12⟩ : ∃ y : St, y = (sr s9 64 (x2 + (1 : Int32)).toNatClampNeg r8) := ⟨_, rfl⟩
  rw [← es12]
  replace h := h.bnd es12
  clear es12
  refine w_aload_n 1 dX12_readTrain_44 rfl rfl rfl ?_
  refine gf_RX12_31 dX12_readTrain_45 rfl ?_
  refine w_iload_n 0 dX12_readTrain_48 rfl rfl rfl ?_
  refine w_iconst (2 : Int32) dX12_readTrain_49 ic_iconst_2 rfl ?_
  refine w_iadd dX12_readTrain_50 rfl ?_
  refine w_aload_n 1 dX12_readTrain_51 rfl rfl rfl ?_
  refine w_ldcS (k := 12) (tx := "due") (List.mem_of_getElem? (i := 27) rfl) dX12_readTrain_52 rfl ?_
  refine w_iconst (0 : Int32) dX12_readTrain_54 ic_iconst_0 rfl ?_
  refine w_bipush (59 : Int32) dX12_readTrain_55 ic_bipush_59 rfl ?_
  obtain ⟨r13, s14, h15, h⟩ := h.bd
  refine k_X12_told ml_RX12_165 (Nat.le_of_ble_eq_true rfl) ⟨Nat.le_of_ble_eq_true rfl, Nat.le_of_ble_eq_true rfl⟩ dX12_readTrain_57 rfl h15 ?_
  obtain ⟨hi16, h⟩ := h.gd
  refine w_iast (i := 64) (lt_lit (by decide)) rfl hi16 dX12_readTrain_60 rfl ?_
  obtain ⟨s17, es17⟩ : ∃ y : St, y = (sr s14 64 (x2 + (2 : Int32)).toNatClampNeg r13) := ⟨_, rfl⟩
  rw [← es17]
  replace h := h.bnd es17
  clear es17
  refine w_aload_n 1 dX12_readTrain_61 rfl rfl rfl ?_
  refine gf_RX12_31 dX12_readTrain_62 rfl ?_
  refine w_iload_n 0 dX12_readTrain_65 rfl rfl rfl ?_
  refine w_iconst (3 : Int32) dX12_readTrain_66 ic_iconst_3 rfl ?_
  refine w_iadd dX12_readTrain_67 rfl ?_
  refine w_aload_n 1 dX12_readTrain_68 rfl rfl rfl ?_
  refine w_ldcS (k := 13) (tx := "odds") (List.mem_of_getElem? (i := 28) rfl) dX12_readTrain_69 rfl ?_
  refine w_iconst (0 : Int32) dX12_readTrain_71 ic_iconst_0 rfl ?_
  refine w_bipush (100 : Int32) dX12_readTrain_72 ic_bipush_100 rfl ?_
  obtain ⟨r18, s19, h20, h⟩ := h.bd
  refine k_X12_told ml_RX12_165 (Nat.le_of_ble_eq_true rfl) ⟨Nat.le_of_ble_eq_true rfl, Nat.le_of_ble_eq_true rfl⟩ dX12_readTrain_74 rfl h20 ?_
  obtain ⟨hi21, h⟩ := h.gd
  refine w_iast (i := 64) (lt_lit (by decide)) rfl hi21 dX12_readTrain_77 rfl ?_
  obtain ⟨s22, es22⟩ : ∃ y : St, y = (sr s19 64 (x2 + (3 : Int32)).toNatClampNeg r18) := ⟨_, rfl⟩
  rw [← es22]
  replace h := h.bnd es22
  clear es22
  refine w_aload_n 1 dX12_readTrain_78 rfl rfl rfl ?_
  refine gf_RX12_31 dX12_readTrain_79 rfl ?_
  refine w_iload_n 0 dX12_readTrain_82 rfl rfl rfl ?_
  refine w_iconst (4 : Int32) dX12_readTrain_83 ic_iconst_4 rfl ?_
  refine w_iadd dX12_readTrain_84 rfl ?_
  refine w_aload_n 1 dX12_readTrain_85 rfl rfl rfl ?_
  refine w_ldcS (k := 14) (tx := "by") (List.mem_of_getElem? (i := 29) rfl) dX12_readTrain_86 rfl ?_
  refine w_iconst (1 : Int32) dX12_readTrain_88 ic_iconst_1 rfl ?_
  refine w_bipush (30 : Int32) dX12_readTrain_89 ic_bipush_30 rfl ?_
  obtain ⟨r23, s24, h25, h⟩ := h.bd
  refine k_X12_told ml_RX12_165 (Nat.le_of_ble_eq_true rfl) ⟨Nat.le_of_ble_eq_true rfl, Nat.le_of_ble_eq_true rfl⟩ dX12_readTrain_91 rfl h25 ?_
  obtain ⟨hi26, h⟩ := h.gd
  refine w_iast (i := 64) (lt_lit (by decide)) rfl hi26 dX12_readTrain_94 rfl ?_
  obtain ⟨s27, es27⟩ : ∃ y : St, y = (sr s24 64 (x2 + (4 : Int32)).toNatClampNeg r23) := ⟨_, rfl⟩
  rw [← es27]
  replace h := h.bnd es27
  clear es27
  refine w_aload_n 1 dX12_readTrain_95 rfl rfl rfl ?_
  refine gf_RX12_31 dX12_readTrain_96 rfl ?_
  refine w_iload_n 0 dX12_readTrain_99 rfl rfl rfl ?_
  refine w_iconst (5 : Int32) dX12_readTrain_100 ic_iconst_5 rfl ?_
  refine w_iadd dX12_readTrain_101 rfl ?_
  refine w_aload_n 1 dX12_readTrain_102 rfl rfl rfl ?_
  refine w_ldcS (k := 15) (tx := "price") (List.mem_of_getElem? (i := 30) rfl) dX12_readTrain_103 rfl ?_
  refine w_iconst (0 : Int32) dX12_readTrain_105 ic_iconst_0 rfl ?_
  refine w_sipush (999 : Int32) dX12_readTrain_106 ic_sipush_999 rfl ?_
  obtain ⟨r28, s29, h30, h⟩ := h.bd
  refine k_X12_told ml_RX12_165 (Nat.le_of_ble_eq_true rfl) ⟨Nat.le_of_ble_eq_true rfl, Nat.le_of_ble_eq_true rfl⟩ dX12_readTrain_109 rfl h30 ?_
  obtain ⟨hi31, h⟩ := h.gd
  refine w_iast (i := 64) (lt_lit (by decide)) rfl hi31 dX12_readTrain_112 rfl ?_
  obtain ⟨s32, es32⟩ : ∃ y : St, y = (sr s29 64 (x2 + (5 : Int32)).toNatClampNeg r28) := ⟨_, rfl⟩
  rw [← es32]
  replace h := h.bnd es32
  clear es32
  refine w_aload_n 1 dX12_readTrain_113 rfl rfl rfl ?_
  refine gf_RX12_31 dX12_readTrain_114 rfl ?_
  refine w_iconst (4 : Int32) dX12_readTrain_117 ic_iconst_4 rfl ?_
  refine w_dup2 dX12_readTrain_118 rfl rfl rfl ?_
  obtain ⟨hi33, h⟩ := h.gd
  refine w_iald (i := 64) (lt_lit (by decide)) rfl hi33 dX12_readTrain_119 rfl ?_
  refine w_iconst (1 : Int32) dX12_readTrain_120 ic_iconst_1 rfl ?_
  refine w_iadd dX12_readTrain_121 rfl ?_
  obtain ⟨hi34, h⟩ := h.gd
  refine w_iast (i := 64) (lt_lit (by decide)) rfl hi34 dX12_readTrain_122 rfl ?_
  obtain ⟨s35, es35⟩ : ∃ y : St, y = (sr s32 64 (4 : Int32).toNatClampNeg ((gr s32 64 (4 : Int32).toNatClampNeg) + (1 : Int32))) := ⟨_, rfl⟩
  rw [← es35]
  replace h := h.bnd es35
  clear es35
  exact w_return dX12_readTrain_123 h
theorem c_X12_readTrain {l : Launch} {D : va_G} {cy : Nat → ClassId} {ad : Nat → Nat}  {σ σ' : St} {r : Unit} (hf : f_X12_readTrain σ = some (r, σ')) : CT l D cy ad yX12_readTrain cX12_readTrain 2 none rX12_readTrain [.ref (ad 58)] σ none σ' :=
  ct_of (by decide) (Nat.le_of_ble_eq_true rfl) (fun p e s m args below meth c A => e_X12_readTrain (Γ := (p, l, e, rX12_readTrain, s, m, args, below, meth, c, D, cy, ad, A, 0, 0, MQ below (QC D cy ad none σ' A) args s 0 0 A)) σ ⟨_, hf, rfl⟩)
theorem k_X12_readTrain {Γ : CX} {cc : ByteArray} {nL : Nat} {own : String} {ret : Option FieldType} {rm : Room} {σ σ' : St} {pc pc' idx : Nat} {lv : List (Nat × Value)} {rest : List Value}  {r : Unit} (hl : Cond.methodLink own idx yX12_readTrain ∈ TB) (hw : (rest.map fun v => v.category).sum ≤ 8) (hR : rX12_readTrain.frames + 1 ≤ rm.frames ∧ 8 + (2 + 11) + rX12_readTrain.locals ≤ rm.locals) (hd : decode cc pc = .ok (.invokevirtual idx, 3)) (hp : pc + 3 = pc') (hf : f_X12_readTrain σ = some (r, σ')) (h : WW Γ cc nL own ret rm σ' pc' lv (rest)) : WW Γ cc nL own ret rm σ pc lv (.ref (xd Γ 58) :: rest) :=
  w_callV (nn := 0) (i := 58) (As := []) (v := none) (T := TX12) (N := 32) (c_X12_readTrain hf) hl mw_X12_readTrain (by decide +kernel) ⟨rfl, rfl⟩ hR (lt_lit (by decide)) cel_58 rfl rfl hw hd rfl hp h
/-! WarByHoursModel.readBounds (I)V -/
def rX12_readBounds : Room := { frames := 8, cells := 0, slots := 0, locals := 174 }
def f_X12_readBounds (p0 : Int32) (σ : St) : Option (Unit × St) :=
  bd (f_X12_number (0 : Int32) (59 : Int32) σ) fun r1 s2 =>
  gd (inb p0 (ln 64)) <|
  bnd (sr s2 64 p0.toNatClampNeg r1) fun s5 =>
  gd (inb p0 (ln 64)) <|
  bd (f_X12_told 16 (gr s5 64 p0.toNatClampNeg) (59 : Int32) s5) fun r7 s8 =>
  gd (inb (p0 + (1 : Int32)) (ln 64)) <|
  bnd (sr s8 64 (p0 + (1 : Int32)).toNatClampNeg r7) fun s11 =>
  some ((), s11)
theorem e_X12_readBounds {Γ : CX} (p0 : Int32) (σ : St) (h : RR vU Γ (f_X12_readBounds p0 σ)) : WW Γ cX12_readBounds 2 RX12 none rX12_readBounds σ 0 [(0, .ref (xd Γ 58)), (1, .int p0)] [] := by
  unfold f_X12_readBounds at h
  refine w_aload_n 0 dX12_readBounds_0 rfl rfl rfl ?_
  refine gf_RX12_31 dX12_readBounds_1 rfl ?_
  refine w_iload_n 1 dX12_readBounds_4 rfl rfl rfl ?_
  refine w_aload_n 0 dX12_readBounds_5 rfl rfl rfl ?_
  refine w_iconst (0 : Int32) dX12_readBounds_6 ic_iconst_0 rfl ?_
  refine w_bipush (59 : Int32) dX12_readBounds_7 ic_bipush_59 rfl ?_
  obtain ⟨r1, s2, h3, h⟩ := h.bd
  refine k_X12_number ml_RX12_158 (Nat.le_of_ble_eq_true rfl) ⟨Nat.le_of_ble_eq_true rfl, Nat.le_of_ble_eq_true rfl⟩ dX12_readBounds_9 rfl h3 ?_
  obtain ⟨hi4, h⟩ := h.gd
  refine w_iast (i := 64) (lt_lit (by decide)) rfl hi4 dX12_readBounds_12 rfl ?_
  obtain ⟨s5, es5⟩ : ∃ y : St, y = (sr s2 64 p0.toNatClampNeg r1) := ⟨_, rfl⟩
  rw [← es5]
  replace h := h.bnd es5
  clear es5
  refine w_aload_n 0 dX12_readBounds_13 rfl rfl rfl ?_
  refine gf_RX12_31 dX12_readBounds_14 rfl ?_
  refine w_iload_n 1 dX12_readBounds_17 rfl rfl rfl ?_
  refine w_iconst (1 : Int32) dX12_readBounds_18 ic_iconst_1 rfl ?_
  refine w_iadd dX12_readBounds_19 rfl ?_
  refine w_aload_n 0 dX12_readBounds_20 rfl rfl rfl ?_
  refine w_ldcS (k := 16) (tx := "to") (List.mem_of_getElem? (i := 31) rfl) dX12_readBounds_21 rfl ?_
  refine w_aload_n 0 dX12_readBounds_23 rfl rfl rfl ?_
  refine gf_RX12_31 dX12_readBounds_24 rfl ?_
  refine w_iload_n 1 dX12_readBounds_27 rfl rfl rfl ?_
  obtain ⟨hi6, h⟩ := h.gd
  refine w_iald (i := 64) (lt_lit (by decide)) rfl hi6 dX12_readBounds_28 rfl ?_
  refine w_bipush (59 : Int32) dX12_readBounds_29 ic_bipush_59 rfl ?_
  obtain ⟨r7, s8, h9, h⟩ := h.bd
  refine k_X12_told ml_RX12_165 (Nat.le_of_ble_eq_true rfl) ⟨Nat.le_of_ble_eq_true rfl, Nat.le_of_ble_eq_true rfl⟩ dX12_readBounds_31 rfl h9 ?_
  obtain ⟨hi10, h⟩ := h.gd
  refine w_iast (i := 64) (lt_lit (by decide)) rfl hi10 dX12_readBounds_34 rfl ?_
  obtain ⟨s11, es11⟩ : ∃ y : St, y = (sr s8 64 (p0 + (1 : Int32)).toNatClampNeg r7) := ⟨_, rfl⟩
  rw [← es11]
  replace h := h.bnd es11
  clear es11
  exact w_return dX12_readBounds_35 h
theorem c_X12_readBounds {l : Launch} {D : va_G} {cy : Nat → ClassId} {ad : Nat → Nat} {p0 : Int32} {σ σ' : St} {r : Unit} (hf : f_X12_readBounds p0 σ = some (r, σ')) : CT l D cy ad yX12_readBounds cX12_readBounds 2 none rX12_readBounds [.ref (ad 58), .int p0] σ none σ' :=
  ct_of (by decide) (Nat.le_of_ble_eq_true rfl) (fun p e s m args below meth c A => e_X12_readBounds (Γ := (p, l, e, rX12_readBounds, s, m, args, below, meth, c, D, cy, ad, A, 0, 0, MQ below (QC D cy ad none σ' A) args s 0 0 A)) p0 σ ⟨_, hf, rfl⟩)
theorem k_X12_readBounds {Γ : CX} {cc : ByteArray} {nL : Nat} {own : String} {ret : Option FieldType} {rm : Room} {σ σ' : St} {pc pc' idx : Nat} {lv : List (Nat × Value)} {rest : List Value} {p0 : Int32} {r : Unit} (hl : Cond.methodLink own idx yX12_readBounds ∈ TB) (hw : (rest.map fun v => v.category).sum ≤ 8) (hR : rX12_readBounds.frames + 1 ≤ rm.frames ∧ 8 + (2 + 11) + rX12_readBounds.locals ≤ rm.locals) (hd : decode cc pc = .ok (.invokevirtual idx, 3)) (hp : pc + 3 = pc') (hf : f_X12_readBounds p0 σ = some (r, σ')) (h : WW Γ cc nL own ret rm σ' pc' lv (rest)) : WW Γ cc nL own ret rm σ pc lv (.int p0 :: .ref (xd Γ 58) :: rest) :=
  w_callV (nn := 1) (i := 58) (As := [.int p0]) (v := none) (T := TX12) (N := 32) (c_X12_readBounds hf) hl mw_X12_readBounds (by decide +kernel) ⟨rfl, rfl⟩ hR (lt_lit (by decide)) cel_58 rfl rfl hw hd rfl hp h
/-! WarByHoursModel.readAsk ()V -/
def rX12_readAsk : Room := { frames := 8, cells := 0, slots := 0, locals := 174 }
def f_X12_readAsk (σ : St) : Option (Unit × St) :=
  gd (inb (6 : Int32) (ln 64)) <|
  bnd (((75 : Int32) + ((4 : Int32) * (gr σ 64 (6 : Int32).toNatClampNeg)))) fun x2 =>
  bd (f_X12_number (0 : Int32) (1 : Int32) σ) fun r3 s4 =>
  gd (inb x2 (ln 64)) <|
  bnd (sr s4 64 x2.toNatClampNeg r3) fun s7 =>
  bd (f_X12_told 17 (0 : Int32) (59 : Int32) s7) fun r8 s9 =>
  gd (inb (x2 + (1 : Int32)) (ln 64)) <|
  bnd (sr s9 64 (x2 + (1 : Int32)).toNatClampNeg r8) fun s12 =>
  bd (f_X12_told 18 (1 : Int32) (20 : Int32) s12) fun r13 s14 =>
  gd (inb (x2 + (2 : Int32)) (ln 64)) <|
  bnd (sr s14 64 (x2 + (2 : Int32)).toNatClampNeg r13) fun s17 =>
  bd (f_X12_told 19 (1 : Int32) (99 : Int32) s17) fun r18 s19 =>
  gd (inb (x2 + (3 : Int32)) (ln 64)) <|
  bnd (sr s19 64 (x2 + (3 : Int32)).toNatClampNeg r18) fun s22 =>
  gd (inb (6 : Int32) (ln 64)) <|
  gd (inb (6 : Int32) (ln 64)) <|
  bnd (sr s22 64 (6 : Int32).toNatClampNeg ((gr s22 64 (6 : Int32).toNatClampNeg) + (1 : Int32))) fun s25 =>
  some ((), s25)
theorem e_X12_readAsk {Γ : CX} (σ : St) (h : RR vU Γ (f_X12_readAsk σ)) : WW Γ cX12_readAsk 2 RX12 none rX12_readAsk σ 0 [(0, .ref (xd Γ 58))] [] := by
  unfold f_X12_readAsk at h
  refine w_bipush (75 : Int32) dX12_readAsk_0 ic_bipush_75 rfl ?_
  refine w_iconst (4 : Int32) dX12_readAsk_2 ic_iconst_4 rfl ?_
  refine w_aload_n 0 dX12_readAsk_3 rfl rfl rfl ?_
  refine gf_RX12_31 dX12_readAsk_4 rfl ?_
  refine w_bipush (6 : Int32) dX12_readAsk_7 ic_bipush_6 rfl ?_
  obtain ⟨hi1, h⟩ := h.gd
  refine w_iald (i := 64) (lt_lit (by decide)) rfl hi1 dX12_readAsk_9 rfl ?_
  refine w_imul dX12_readAsk_10 rfl ?_
  refine w_iadd dX12_readAsk_11 rfl ?_
  refine w_nmI (fun x2 ex2 => ?_)
  replace h := h.bnd ex2
  clear ex2
  refine w_istore_n [(1, .int x2), (0, .ref (xd Γ 58))] dX12_readAsk_12 rfl (by decide) rfl rfl ?_
  refine w_aload_n 1 dX12_readAsk_13 rfl rfl rfl ?_
  refine gf_RX12_31 dX12_readAsk_14 rfl ?_
  refine w_iload_n 0 dX12_readAsk_17 rfl rfl rfl ?_
  refine w_aload_n 1 dX12_readAsk_18 rfl rfl rfl ?_
  refine w_iconst (0 : Int32) dX12_readAsk_19 ic_iconst_0 rfl ?_
  refine w_iconst (1 : Int32) dX12_readAsk_20 ic_iconst_1 rfl ?_
  obtain ⟨r3, s4, h5, h⟩ := h.bd
  refine k_X12_number ml_RX12_158 (Nat.le_of_ble_eq_true rfl) ⟨Nat.le_of_ble_eq_true rfl, Nat.le_of_ble_eq_true rfl⟩ dX12_readAsk_21 rfl h5 ?_
  obtain ⟨hi6, h⟩ := h.gd
  refine w_iast (i := 64) (lt_lit (by decide)) rfl hi6 dX12_readAsk_24 rfl ?_
  obtain ⟨s7, es7⟩ : ∃ y : St, y = (sr s4 64 x2.toNatClampNeg r3) := ⟨_, rfl⟩
  rw [← es7]
  replace h := h.bnd es7
  clear es7
  refine w_aload_n 1 dX12_readAsk_25 rfl rfl rfl ?_
  refine gf_RX12_31 dX12_readAsk_26 rfl ?_
  refine w_iload_n 0 dX12_readAsk_29 rfl rfl rfl ?_
  refine w_iconst (1 : Int32) dX12_readAsk_30 ic_iconst_1 rfl ?_
  refine w_iadd dX12_readAsk_31 rfl ?_
  refine w_aload_n 1 dX12_readAsk_32 rfl rfl rfl ?_
  refine w_ldcS (k := 17) (tx := "at") (List.mem_of_getElem? (i := 32) rfl) dX12_readAsk_33 rfl ?_
  refine w_iconst (0 : Int32) dX12_readAsk_35 ic_iconst_0 rfl ?_
  refine w_bipush (59 : Int32) dX12_readAsk_36 ic_bipush_59 rfl ?_
  obtain ⟨r8, s9, h10, h⟩ := h.bd
  refine k_X12_told ml_RX12_165 (Nat.le_of_ble_eq_true rfl) ⟨Nat.le_of_ble_eq_true rfl, Nat.le_of_ble_eq_true rfl⟩ dX12_readAsk_38 rfl h10 ?_
  obtain ⟨hi11, h⟩ := h.gd
  refine w_iast (i := 64) (lt_lit (by decide)) rfl hi11 dX12_readAsk_41 rfl ?_
  obtain ⟨s12, es12⟩ : ∃ y : St, y = (sr s9 64 (x2 + (1 : Int32)).toNatClampNeg r8) := ⟨_, rfl⟩
  rw [← es12]
  replace h := h.bnd es12
  clear es12
  refine w_aload_n 1 dX12_readAsk_42 rfl rfl rfl ?_
  refine gf_RX12_31 dX12_readAsk_43 rfl ?_
  refine w_iload_n 0 dX12_readAsk_46 rfl rfl rfl ?_
  refine w_iconst (2 : Int32) dX12_readAsk_47 ic_iconst_2 rfl ?_
  refine w_iadd dX12_readAsk_48 rfl ?_
  refine w_aload_n 1 dX12_readAsk_49 rfl rfl rfl ?_
  refine w_ldcS (k := 18) (tx := "for") (List.mem_of_getElem? (i := 33) rfl) dX12_readAsk_50 rfl ?_
  refine w_iconst (1 : Int32) dX12_readAsk_52 ic_iconst_1 rfl ?_
  refine w_bipush (20 : Int32) dX12_readAsk_53 ic_bipush_20 rfl ?_
  obtain ⟨r13, s14, h15, h⟩ := h.bd
  refine k_X12_told ml_RX12_165 (Nat.le_of_ble_eq_true rfl) ⟨Nat.le_of_ble_eq_true rfl, Nat.le_of_ble_eq_true rfl⟩ dX12_readAsk_55 rfl h15 ?_
  obtain ⟨hi16, h⟩ := h.gd
  refine w_iast (i := 64) (lt_lit (by decide)) rfl hi16 dX12_readAsk_58 rfl ?_
  obtain ⟨s17, es17⟩ : ∃ y : St, y = (sr s14 64 (x2 + (2 : Int32)).toNatClampNeg r13) := ⟨_, rfl⟩
  rw [← es17]
  replace h := h.bnd es17
  clear es17
  refine w_aload_n 1 dX12_readAsk_59 rfl rfl rfl ?_
  refine gf_RX12_31 dX12_readAsk_60 rfl ?_
  refine w_iload_n 0 dX12_readAsk_63 rfl rfl rfl ?_
  refine w_iconst (3 : Int32) dX12_readAsk_64 ic_iconst_3 rfl ?_
  refine w_iadd dX12_readAsk_65 rfl ?_
  refine w_aload_n 1 dX12_readAsk_66 rfl rfl rfl ?_
  refine w_ldcS (k := 19) (tx := "worth") (List.mem_of_getElem? (i := 34) rfl) dX12_readAsk_67 rfl ?_
  refine w_iconst (1 : Int32) dX12_readAsk_69 ic_iconst_1 rfl ?_
  refine w_bipush (99 : Int32) dX12_readAsk_70 ic_bipush_99 rfl ?_
  obtain ⟨r18, s19, h20, h⟩ := h.bd
  refine k_X12_told ml_RX12_165 (Nat.le_of_ble_eq_true rfl) ⟨Nat.le_of_ble_eq_true rfl, Nat.le_of_ble_eq_true rfl⟩ dX12_readAsk_72 rfl h20 ?_
  obtain ⟨hi21, h⟩ := h.gd
  refine w_iast (i := 64) (lt_lit (by decide)) rfl hi21 dX12_readAsk_75 rfl ?_
  obtain ⟨s22, es22⟩ : ∃ y : St, y = (sr s19 64 (x2 + (3 : Int32)).toNatClampNeg r18) := ⟨_, rfl⟩
  rw [← es22]
  replace h := h.bnd es22
  clear es22
  refine w_aload_n 1 dX12_readAsk_76 rfl rfl rfl ?_
  refine gf_RX12_31 dX12_readAsk_77 rfl ?_
  refine w_bipush (6 : Int32) dX12_readAsk_80 ic_bipush_6 rfl ?_
  refine w_dup2 dX12_readAsk_82 rfl rfl rfl ?_
  obtain ⟨hi23, h⟩ := h.gd
  refine w_iald (i := 64) (lt_lit (by decide)) rfl hi23 dX12_readAsk_83 rfl ?_
  refine w_iconst (1 : Int32) dX12_readAsk_84 ic_iconst_1 rfl ?_
  refine w_iadd dX12_readAsk_85 rfl ?_
  obtain ⟨hi24, h⟩ := h.gd
  refine w_iast (i := 64) (lt_lit (by decide)) rfl hi24 dX12_readAsk_86 rfl ?_
  obtain ⟨s25, es25⟩ : ∃ y : St, y = (sr s22 64 (6 : Int32).toNatClampNeg ((gr s22 64 (6 : Int32).toNatClampNeg) + (1 : Int32))) := ⟨_, rfl⟩
  rw [← es25]
  replace h := h.bnd es25
  clear es25
  exact w_return dX12_readAsk_87 h
theorem c_X12_readAsk {l : Launch} {D : va_G} {cy : Nat → ClassId} {ad : Nat → Nat}  {σ σ' : St} {r : Unit} (hf : f_X12_readAsk σ = some (r, σ')) : CT l D cy ad yX12_readAsk cX12_readAsk 2 none rX12_readAsk [.ref (ad 58)] σ none σ' :=
  ct_of (by decide) (Nat.le_of_ble_eq_true rfl) (fun p e s m args below meth c A => e_X12_readAsk (Γ := (p, l, e, rX12_readAsk, s, m, args, below, meth, c, D, cy, ad, A, 0, 0, MQ below (QC D cy ad none σ' A) args s 0 0 A)) σ ⟨_, hf, rfl⟩)
theorem k_X12_readAsk {Γ : CX} {cc : ByteArray} {nL : Nat} {own : String} {ret : Option FieldType} {rm : Room} {σ σ' : St} {pc pc' idx : Nat} {lv : List (Nat × Value)} {rest : List Value}  {r : Unit} (hl : Cond.methodLink own idx yX12_readAsk ∈ TB) (hw : (rest.map fun v => v.category).sum ≤ 8) (hR : rX12_readAsk.frames + 1 ≤ rm.frames ∧ 8 + (2 + 11) + rX12_readAsk.locals ≤ rm.locals) (hd : decode cc pc = .ok (.invokevirtual idx, 3)) (hp : pc + 3 = pc') (hf : f_X12_readAsk σ = some (r, σ')) (h : WW Γ cc nL own ret rm σ' pc' lv (rest)) : WW Γ cc nL own ret rm σ pc lv (.ref (xd Γ 58) :: rest) :=
  w_callV (nn := 0) (i := 58) (As := []) (v := none) (T := TX12) (N := 32) (c_X12_readAsk hf) hl mw_X12_readAsk (by decide +kernel) ⟨rfl, rfl⟩ hR (lt_lit (by decide)) cel_58 rfl rfl hw hd rfl hp h
/-! WarByHoursModel.readSpy ()V -/
def rX12_readSpy : Room := { frames := 7, cells := 0, slots := 0, locals := 151 }
def g_X12_readSpy_8 (K8 : Int32 × St → Option (Unit × St)) (x : Int32 × St) : Option (Unit × St) := match x with
  | (v1, σ) =>
  gd (inb (4 : Int32) (ln 64)) <|
  bd (f_X12_number (0 : Int32) ((gr σ 64 (4 : Int32).toNatClampNeg) - (1 : Int32)) σ) fun r2 s3 =>
  bd (f_X12_good s3) fun r5 s6 =>
  if r5 = 0 then
    some ((), s6)
  else
    bnd ((v1 ||| ((1 : Int32) <<< (r2 &&& 31)))) fun x8 =>
    if (gf s6 58 10) = (3 : Int32) then
      gd (inb (8 : Int32) (ln 64)) <|
      gd (inb ((115 : Int32) + (gr s6 64 (8 : Int32).toNatClampNeg)) (ln 64)) <|
      bnd (sr s6 64 ((115 : Int32) + (gr s6 64 (8 : Int32).toNatClampNeg)).toNatClampNeg x8) fun s11 =>
      gd (inb (8 : Int32) (ln 64)) <|
      gd (inb (8 : Int32) (ln 64)) <|
      bnd (sr s11 64 (8 : Int32).toNatClampNeg ((gr s11 64 (8 : Int32).toNatClampNeg) + (1 : Int32))) fun s14 =>
      some ((), s14)
    else
      K8 (x8, s6)
theorem l_X12_readSpy_8 {Γ : CX} : ∀ (n : Nat) (v1 : Int32) (σ : St), RR vU Γ (itr (g_X12_readSpy_8) n (v1, σ)) → WW Γ cX12_readSpy 3 RX12 none rX12_readSpy σ 8 [(0, .ref (xd Γ 58)), (1, .int v1)] [] := by
  intro n
  induction n with
  | zero => intro v1 σ h; exact RR.no h
  | succ n hK8 =>
  intro v1 σ h
  have h : RR vU Γ (g_X12_readSpy_8 (itr (g_X12_readSpy_8) n) (v1, σ)) := h
  generalize itr (g_X12_readSpy_8) n = K8 at h hK8
  unfold g_X12_readSpy_8 at h
  dsimp only at h
  refine w_aload_n 0 dX12_readSpy_8 rfl rfl rfl ?_
  refine w_iconst (0 : Int32) dX12_readSpy_9 ic_iconst_0 rfl ?_
  refine w_aload_n 0 dX12_readSpy_10 rfl rfl rfl ?_
  refine gf_RX12_31 dX12_readSpy_11 rfl ?_
  refine w_iconst (4 : Int32) dX12_readSpy_14 ic_iconst_4 rfl ?_
  obtain ⟨hi1, h⟩ := h.gd
  refine w_iald (i := 64) (lt_lit (by decide)) rfl hi1 dX12_readSpy_15 rfl ?_
  refine w_iconst (1 : Int32) dX12_readSpy_16 ic_iconst_1 rfl ?_
  refine w_isub dX12_readSpy_17 rfl ?_
  obtain ⟨r2, s3, h4, h⟩ := h.bd
  refine k_X12_number ml_RX12_158 (Nat.le_of_ble_eq_true rfl) ⟨Nat.le_of_ble_eq_true rfl, Nat.le_of_ble_eq_true rfl⟩ dX12_readSpy_18 rfl h4 ?_
  refine w_istore_n [(2, .int r2), (0, .ref (xd Γ 58)), (1, .int v1)] dX12_readSpy_21 rfl (by decide) rfl rfl ?_
  refine w_aload_n 1 dX12_readSpy_22 rfl rfl rfl ?_
  obtain ⟨r5, s6, h7, h⟩ := h.bd
  refine k_X12_good ml_RX12_128 (Nat.le_of_ble_eq_true rfl) ⟨Nat.le_of_ble_eq_true rfl, Nat.le_of_ble_eq_true rfl⟩ dX12_readSpy_23 rfl h7 ?_
  refine w_if_ne (tgt := 30) dX12_readSpy_26 (by decide) rfl (fun q => ?_) (fun q => ?_)
  · have h := h.ff q
    refine w_iload_n 2 dX12_readSpy_30 rfl rfl rfl ?_
    refine w_iconst (1 : Int32) dX12_readSpy_31 ic_iconst_1 rfl ?_
    refine w_iload_n 0 dX12_readSpy_32 rfl rfl rfl ?_
    refine w_ishl dX12_readSpy_33 rfl ?_
    refine w_ior dX12_readSpy_34 rfl ?_
    refine w_nmI (fun x8 ex8 => ?_)
    replace h := h.bnd ex8
    clear ex8
    refine w_istore_n [(1, .int x8), (2, .int r2), (0, .ref (xd Γ 58))] dX12_readSpy_35 rfl (by decide) rfl rfl ?_
    refine w_aload_n 2 dX12_readSpy_36 rfl rfl rfl ?_
    refine gf_RX12_105 dX12_readSpy_37 rfl ?_
    refine w_iconst (3 : Int32) dX12_readSpy_40 ic_iconst_3 rfl ?_
    refine w_icmp_ne (tgt := 8) dX12_readSpy_41 (by decide) rfl (fun q => ?_) (fun q => ?_)
    · have h := h.ff q
      exact w_sub [2, 0] rfl (hK8 x8 s6 h)
    · have h := h.tt q
      refine w_aload_n 2 dX12_readSpy_44 rfl rfl rfl ?_
      refine gf_RX12_31 dX12_readSpy_45 rfl ?_
      refine w_bipush (115 : Int32) dX12_readSpy_48 ic_bipush_115 rfl ?_
      refine w_aload_n 2 dX12_readSpy_50 rfl rfl rfl ?_
      refine gf_RX12_31 dX12_readSpy_51 rfl ?_
      refine w_bipush (8 : Int32) dX12_readSpy_54 ic_bipush_8 rfl ?_
      obtain ⟨hi9, h⟩ := h.gd
      refine w_iald (i := 64) (lt_lit (by decide)) rfl hi9 dX12_readSpy_56 rfl ?_
      refine w_iadd dX12_readSpy_57 rfl ?_
      refine w_iload_n 0 dX12_readSpy_58 rfl rfl rfl ?_
      obtain ⟨hi10, h⟩ := h.gd
      refine w_iast (i := 64) (lt_lit (by decide)) rfl hi10 dX12_readSpy_59 rfl ?_
      obtain ⟨s11, es11⟩ : ∃ y : St, y = (sr s6 64 ((115 : Int32) + (gr s6 64 (8 : Int32).toNatClampNeg)).toNatClampNeg x8) := ⟨_, rfl⟩
      rw [← es11]
      replace h := h.bnd es11
      clear es11
      refine w_aload_n 2 dX12_readSpy_60 rfl rfl rfl ?_
      refine gf_RX12_31 dX12_readSpy_61 rfl ?_
      refine w_bipush (8 : Int32) dX12_readSpy_64 ic_bipush_8 rfl ?_
      refine w_dup2 dX12_readSpy_66 rfl rfl rfl ?_
      obtain ⟨hi12, h⟩ := h.gd
      refine w_iald (i := 64) (lt_lit (by decide)) rfl hi12 dX12_readSpy_67 rfl ?_
      refine w_iconst (1 : Int32) dX12_readSpy_68 ic_iconst_1 rfl ?_
      refine w_iadd dX12_readSpy_69 rfl ?_
      obtain ⟨hi13, h⟩ := h.gd
      refine w_iast (i := 64) (lt_lit (by decide)) rfl hi13 dX12_readSpy_70 rfl ?_
      obtain ⟨s14, es14⟩ : ∃ y : St, y = (sr s11 64 (8 : Int32).toNatClampNeg ((gr s11 64 (8 : Int32).toNatClampNeg) + (1 : Int32))) := ⟨_, rfl⟩
      rw [← es14]
      replace h := h.bnd es14
      clear es14
      exact w_return dX12_readSpy_71 h
  · have h := h.tt q
    exact w_return dX12_readSpy_29 h
def f_X12_readSpy (σ : St) : Option (Unit × St) :=
  bd (f_X12_needs 20 σ) fun _ s2 =>
  itr (g_X12_readSpy_8) FU ((0 : Int32), s2)
theorem e_X12_readSpy {Γ : CX} (σ : St) (h : RR vU Γ (f_X12_readSpy σ)) : WW Γ cX12_readSpy 3 RX12 none rX12_readSpy σ 0 [(0, .ref (xd Γ 58))] [] := by
  unfold f_X12_readSpy at h
  refine w_aload_n 0 dX12_readSpy_0 rfl rfl rfl ?_
  refine w_ldcS (k := 20) (tx := "knows") (List.mem_of_getElem? (i := 35) rfl) dX12_readSpy_1 rfl ?_
  obtain ⟨r1, s2, h3, h⟩ := h.bd
  refine k_X12_needs ml_RX12_154 (Nat.le_of_ble_eq_true rfl) ⟨Nat.le_of_ble_eq_true rfl, Nat.le_of_ble_eq_true rfl⟩ dX12_readSpy_3 rfl h3 ?_
  refine w_iconst (0 : Int32) dX12_readSpy_6 ic_iconst_0 rfl ?_
  refine w_istore_n [(1, .int (0 : Int32)), (0, .ref (xd Γ 58))] dX12_readSpy_7 rfl (by decide) rfl rfl ?_
  exact w_sub [1, 0] rfl (l_X12_readSpy_8 FU (0 : Int32) s2 h)
theorem c_X12_readSpy {l : Launch} {D : va_G} {cy : Nat → ClassId} {ad : Nat → Nat}  {σ σ' : St} {r : Unit} (hf : f_X12_readSpy σ = some (r, σ')) : CT l D cy ad yX12_readSpy cX12_readSpy 3 none rX12_readSpy [.ref (ad 58)] σ none σ' :=
  ct_of (by decide) (Nat.le_of_ble_eq_true rfl) (fun p e s m args below meth c A => e_X12_readSpy (Γ := (p, l, e, rX12_readSpy, s, m, args, below, meth, c, D, cy, ad, A, 0, 0, MQ below (QC D cy ad none σ' A) args s 0 0 A)) σ ⟨_, hf, rfl⟩)
theorem k_X12_readSpy {Γ : CX} {cc : ByteArray} {nL : Nat} {own : String} {ret : Option FieldType} {rm : Room} {σ σ' : St} {pc pc' idx : Nat} {lv : List (Nat × Value)} {rest : List Value}  {r : Unit} (hl : Cond.methodLink own idx yX12_readSpy ∈ TB) (hw : (rest.map fun v => v.category).sum ≤ 8) (hR : rX12_readSpy.frames + 1 ≤ rm.frames ∧ 8 + (3 + 11) + rX12_readSpy.locals ≤ rm.locals) (hd : decode cc pc = .ok (.invokevirtual idx, 3)) (hp : pc + 3 = pc') (hf : f_X12_readSpy σ = some (r, σ')) (h : WW Γ cc nL own ret rm σ' pc' lv (rest)) : WW Γ cc nL own ret rm σ pc lv (.ref (xd Γ 58) :: rest) :=
  w_callV (nn := 0) (i := 58) (As := []) (v := none) (T := TX12) (N := 32) (c_X12_readSpy hf) hl mw_X12_readSpy (by decide +kernel) ⟨rfl, rfl⟩ hR (lt_lit (by decide)) cel_58 rfl rfl hw hd rfl hp h
/-! WarByHoursModel.readNext ()V -/
def rX12_readNext : Room := { frames := 9, cells := 0, slots := 0, locals := 195 }
def f_X12_readNext_319 (σ : St) : Option (Unit × St) :=
  some ((), σ)
theorem b_X12_readNext_319 {Γ : CX} (σ : St) (h : RR vU Γ (f_X12_readNext_319 σ)) : WW Γ cX12_readNext 2 RX12 none rX12_readNext σ 319 [] [] := by
  unfold f_X12_readNext_319 at h
  exact w_return dX12_readNext_319 h
def f_X12_readNext_179 (σ : St) : Option (Unit × St) :=
  bd (f_X12_good σ) fun r1 s2 =>
  if r1 = 0 then
    some ((), s2)
  else
    bd (f_X12_takes 0 s2) fun r4 s5 =>
    if r4 = 0 then
      bd (f_X12_takes 1 s5) fun r7 s8 =>
      if r7 = 0 then
        bd (f_X12_takes 2 s8) fun r10 s11 =>
        if r10 = 0 then
          bd (f_X12_takes 3 s11) fun r13 s14 =>
          if r13 = 0 then
            bd (f_X12_takes 4 s14) fun r16 s17 =>
            if r16 = 0 then
              bd (f_X12_advance s17) fun _ s20 =>
              bd (f_X12_readSpy s20) fun _ s23 =>
              f_X12_readNext_319 s23
            else
              gd (inb (7 : Int32) (ln 64)) <|
              bd (f_X12_readBounds ((107 : Int32) + ((2 : Int32) * (gr s17 64 (7 : Int32).toNatClampNeg))) s17) fun _ s27 =>
              gd (inb (7 : Int32) (ln 64)) <|
              gd (inb (7 : Int32) (ln 64)) <|
              bnd (sr s27 64 (7 : Int32).toNatClampNeg ((gr s27 64 (7 : Int32).toNatClampNeg) + (1 : Int32))) fun s31 =>
              f_X12_readNext_319 s31
          else
            bd (f_X12_readAsk s14) fun _ s33 =>
            f_X12_readNext_319 s33
        else
          gd (inb (5 : Int32) (ln 64)) <|
          bd (f_X12_readBounds ((67 : Int32) + ((2 : Int32) * (gr s11 64 (5 : Int32).toNatClampNeg))) s11) fun _ s37 =>
          gd (inb (5 : Int32) (ln 64)) <|
          gd (inb (5 : Int32) (ln 64)) <|
          bnd (sr s37 64 (5 : Int32).toNatClampNeg ((gr s37 64 (5 : Int32).toNatClampNeg) + (1 : Int32))) fun s41 =>
          f_X12_readNext_319 s41
      else
        bd (f_X12_readTrain s8) fun _ s43 =>
        f_X12_readNext_319 s43
    else
      bd (f_X12_readNeed s5) fun _ s46 =>
      f_X12_readNext_319 s46
theorem b_X12_readNext_179 {Γ : CX} (σ : St) (h : RR vU Γ (f_X12_readNext_179 σ)) : WW Γ cX12_readNext 2 RX12 none rX12_readNext σ 179 [(0, .ref (xd Γ 58))] [] := by
  unfold f_X12_readNext_179 at h
  refine w_aload_n 0 dX12_readNext_179 rfl rfl rfl ?_
  obtain ⟨r1, s2, h3, h⟩ := h.bd
  refine k_X12_good ml_RX12_128 (Nat.le_of_ble_eq_true rfl) ⟨Nat.le_of_ble_eq_true rfl, Nat.le_of_ble_eq_true rfl⟩ dX12_readNext_180 rfl h3 ?_
  refine w_if_ne (tgt := 187) dX12_readNext_183 (by decide) rfl (fun q => ?_) (fun q => ?_)
  · have h := h.ff q
    refine w_aload_n 0 dX12_readNext_187 rfl rfl rfl ?_
    refine w_ldcS (k := 0) (tx := "need") (List.mem_of_getElem? (i := 36) rfl) dX12_readNext_188 rfl ?_
    obtain ⟨r4, s5, h6, h⟩ := h.bd
    refine k_X12_takes ml_RX12_147 (Nat.le_of_ble_eq_true rfl) ⟨Nat.le_of_ble_eq_true rfl, Nat.le_of_ble_eq_true rfl⟩ dX12_readNext_190 rfl h6 ?_
    refine w_if_eq (tgt := 203) dX12_readNext_193 (by decide) rfl (fun q => ?_) (fun q => ?_)
    · have h := h.tt q
      refine w_aload_n 0 dX12_readNext_203 rfl rfl rfl ?_
      refine w_ldcS (k := 1) (tx := "train") (List.mem_of_getElem? (i := 37) rfl) dX12_readNext_204 rfl ?_
      obtain ⟨r7, s8, h9, h⟩ := h.bd
      refine k_X12_takes ml_RX12_147 (Nat.le_of_ble_eq_true rfl) ⟨Nat.le_of_ble_eq_true rfl, Nat.le_of_ble_eq_true rfl⟩ dX12_readNext_206 rfl h9 ?_
      refine w_if_eq (tgt := 219) dX12_readNext_209 (by decide) rfl (fun q => ?_) (fun q => ?_)
      · have h := h.tt q
        refine w_aload_n 0 dX12_readNext_219 rfl rfl rfl ?_
        refine w_ldcS (k := 2) (tx := "tea") (List.mem_of_getElem? (i := 38) rfl) dX12_readNext_220 rfl ?_
        obtain ⟨r10, s11, h12, h⟩ := h.bd
        refine k_X12_takes ml_RX12_147 (Nat.le_of_ble_eq_true rfl) ⟨Nat.le_of_ble_eq_true rfl, Nat.le_of_ble_eq_true rfl⟩ dX12_readNext_222 rfl h12 ?_
        refine w_if_eq (tgt := 256) dX12_readNext_225 (by decide) rfl (fun q => ?_) (fun q => ?_)
        · have h := h.tt q
          refine w_aload_n 0 dX12_readNext_256 rfl rfl rfl ?_
          refine w_ldcS (k := 3) (tx := "cannon") (List.mem_of_getElem? (i := 39) rfl) dX12_readNext_257 rfl ?_
          obtain ⟨r13, s14, h15, h⟩ := h.bd
          refine k_X12_takes ml_RX12_147 (Nat.le_of_ble_eq_true rfl) ⟨Nat.le_of_ble_eq_true rfl, Nat.le_of_ble_eq_true rfl⟩ dX12_readNext_259 rfl h15 ?_
          refine w_if_eq (tgt := 272) dX12_readNext_262 (by decide) rfl (fun q => ?_) (fun q => ?_)
          · have h := h.tt q
            refine w_aload_n 0 dX12_readNext_272 rfl rfl rfl ?_
            refine w_ldcS (k := 4) (tx := "rule") (List.mem_of_getElem? (i := 40) rfl) dX12_readNext_273 rfl ?_
            obtain ⟨r16, s17, h18, h⟩ := h.bd
            refine k_X12_takes ml_RX12_147 (Nat.le_of_ble_eq_true rfl) ⟨Nat.le_of_ble_eq_true rfl, Nat.le_of_ble_eq_true rfl⟩ dX12_readNext_275 rfl h18 ?_
            refine w_if_eq (tgt := 311) dX12_readNext_278 (by decide) rfl (fun q => ?_) (fun q => ?_)
            · have h := h.tt q
              refine w_aload_n 0 dX12_readNext_311 rfl rfl rfl ?_
              obtain ⟨r19, s20, h21, h⟩ := h.bd
              refine k_X12_advance ml_RX12_144 (Nat.le_of_ble_eq_true rfl) ⟨Nat.le_of_ble_eq_true rfl, Nat.le_of_ble_eq_true rfl⟩ dX12_readNext_312 rfl h21 ?_
              refine w_aload_n 0 dX12_readNext_315 rfl rfl rfl ?_
              obtain ⟨r22, s23, h24, h⟩ := h.bd
              refine k_X12_readSpy ml_RX12_218 (Nat.le_of_ble_eq_true rfl) ⟨Nat.le_of_ble_eq_true rfl, Nat.le_of_ble_eq_true rfl⟩ dX12_readNext_316 rfl h24 ?_
              exact w_sub [] rfl (b_X12_readNext_319 s23 h)
            · have h := h.ff q
              refine w_aload_n 0 dX12_readNext_281 rfl rfl rfl ?_
              refine w_bipush (107 : Int32) dX12_readNext_282 ic_bipush_107 rfl ?_
              refine w_iconst (2 : Int32) dX12_readNext_284 ic_iconst_2 rfl ?_
              refine w_aload_n 0 dX12_readNext_285 rfl rfl rfl ?_
              refine gf_RX12_31 dX12_readNext_286 rfl ?_
              refine w_bipush (7 : Int32) dX12_readNext_289 ic_bipush_7 rfl ?_
              obtain ⟨hi25, h⟩ := h.gd
              refine w_iald (i := 64) (lt_lit (by decide)) rfl hi25 dX12_readNext_291 rfl ?_
              refine w_imul dX12_readNext_292 rfl ?_
              refine w_iadd dX12_readNext_293 rfl ?_
              obtain ⟨r26, s27, h28, h⟩ := h.bd
              refine k_X12_readBounds ml_RX12_212 (Nat.le_of_ble_eq_true rfl) ⟨Nat.le_of_ble_eq_true rfl, Nat.le_of_ble_eq_true rfl⟩ dX12_readNext_294 rfl h28 ?_
              refine w_aload_n 0 dX12_readNext_297 rfl rfl rfl ?_
              refine gf_RX12_31 dX12_readNext_298 rfl ?_
              refine w_bipush (7 : Int32) dX12_readNext_301 ic_bipush_7 rfl ?_
              refine w_dup2 dX12_readNext_303 rfl rfl rfl ?_
              obtain ⟨hi29, h⟩ := h.gd
              refine w_iald (i := 64) (lt_lit (by decide)) rfl hi29 dX12_readNext_304 rfl ?_
              refine w_iconst (1 : Int32) dX12_readNext_305 ic_iconst_1 rfl ?_
              refine w_iadd dX12_readNext_306 rfl ?_
              obtain ⟨hi30, h⟩ := h.gd
              refine w_iast (i := 64) (lt_lit (by decide)) rfl hi30 dX12_readNext_307 rfl ?_
              obtain ⟨s31, es31⟩ : ∃ y : St, y = (sr s27 64 (7 : Int32).toNatClampNeg ((gr s27 64 (7 : Int32).toNatClampNeg) + (1 : Int32))) := ⟨_, rfl⟩
              rw [← es31]
              replace h := h.bnd es31
              clear es31
              refine w_goto (tgt := 319) dX12_readNext_308 (by decide) ?_
              exact w_sub [] rfl (b_X12_readNext_319 s31 h)
          · have h := h.ff q
            refine w_aload_n 0 dX12_readNext_265 rfl rfl rfl ?_
            obtain ⟨r32, s33, h34, h⟩ := h.bd
            refine k_X12_readAsk ml_RX12_215 (Nat.le_of_ble_eq_true rfl) ⟨Nat.le_of_ble_eq_true rfl, Nat.le_of_ble_eq_true rfl⟩ dX12_readNext_266 rfl h34 ?_
            refine w_goto (tgt := 319) dX12_readNext_269 (by decide) ?_
            exact w_sub [] rfl (b_X12_readNext_319 s33 h)
        · have h := h.ff q
          refine w_aload_n 0 dX12_readNext_228 rfl rfl rfl ?_
          refine w_bipush (67 : Int32) dX12_readNext_229 ic_bipush_67 rfl ?_
          refine w_iconst (2 : Int32) dX12_readNext_231 ic_iconst_2 rfl ?_
          refine w_aload_n 0 dX12_readNext_232 rfl rfl rfl ?_
          refine gf_RX12_31 dX12_readNext_233 rfl ?_
          refine w_iconst (5 : Int32) dX12_readNext_236 ic_iconst_5 rfl ?_
          obtain ⟨hi35, h⟩ := h.gd
          refine w_iald (i := 64) (lt_lit (by decide)) rfl hi35 dX12_readNext_237 rfl ?_
          refine w_imul dX12_readNext_238 rfl ?_
          refine w_iadd dX12_readNext_239 rfl ?_
          obtain ⟨r36, s37, h38, h⟩ := h.bd
          refine k_X12_readBounds ml_RX12_212 (Nat.le_of_ble_eq_true rfl) ⟨Nat.le_of_ble_eq_true rfl, Nat.le_of_ble_eq_true rfl⟩ dX12_readNext_240 rfl h38 ?_
          refine w_aload_n 0 dX12_readNext_243 rfl rfl rfl ?_
          refine gf_RX12_31 dX12_readNext_244 rfl ?_
          refine w_iconst (5 : Int32) dX12_readNext_247 ic_iconst_5 rfl ?_
          refine w_dup2 dX12_readNext_248 rfl rfl rfl ?_
          obtain ⟨hi39, h⟩ := h.gd
          refine w_iald (i := 64) (lt_lit (by decide)) rfl hi39 dX12_readNext_249 rfl ?_
          refine w_iconst (1 : Int32) dX12_readNext_250 ic_iconst_1 rfl ?_
          refine w_iadd dX12_readNext_251 rfl ?_
          obtain ⟨hi40, h⟩ := h.gd
          refine w_iast (i := 64) (lt_lit (by decide)) rfl hi40 dX12_readNext_252 rfl ?_
          obtain ⟨s41, es41⟩ : ∃ y : St, y = (sr s37 64 (5 : Int32).toNatClampNeg ((gr s37 64 (5 : Int32).toNatClampNeg) + (1 : Int32))) := ⟨_, rfl⟩
          rw [← es41]
          replace h := h.bnd es41
          clear es41
          refine w_goto (tgt := 319) dX12_readNext_253 (by decide) ?_
          exact w_sub [] rfl (b_X12_readNext_319 s41 h)
      · have h := h.ff q
        refine w_aload_n 0 dX12_readNext_212 rfl rfl rfl ?_
        obtain ⟨r42, s43, h44, h⟩ := h.bd
        refine k_X12_readTrain ml_RX12_209 (Nat.le_of_ble_eq_true rfl) ⟨Nat.le_of_ble_eq_true rfl, Nat.le_of_ble_eq_true rfl⟩ dX12_readNext_213 rfl h44 ?_
        refine w_goto (tgt := 319) dX12_readNext_216 (by decide) ?_
        exact w_sub [] rfl (b_X12_readNext_319 s43 h)
    · have h := h.ff q
      refine w_aload_n 0 dX12_readNext_196 rfl rfl rfl ?_
      obtain ⟨r45, s46, h47, h⟩ := h.bd
      refine k_X12_readNeed ml_RX12_206 (Nat.le_of_ble_eq_true rfl) ⟨Nat.le_of_ble_eq_true rfl, Nat.le_of_ble_eq_true rfl⟩ dX12_readNext_197 rfl h47 ?_
      refine w_goto (tgt := 319) dX12_readNext_200 (by decide) ?_
      exact w_sub [] rfl (b_X12_readNext_319 s46 h)
  · have h := h.tt q
    exact w_return dX12_readNext_186 h
def f_X12_readNext_174 (σ : St) : Option (Unit × St) :=
  bd (f_X12_errs (3 : Int32) σ) fun _ s2 =>
  f_X12_readNext_179 s2
theorem b_X12_readNext_174 {Γ : CX} (σ : St) (h : RR vU Γ (f_X12_readNext_174 σ)) : WW Γ cX12_readNext 2 RX12 none rX12_readNext σ 174 [(0, .ref (xd Γ 58))] [] := by
  unfold f_X12_readNext_174 at h
  refine w_aload_n 0 dX12_readNext_174 rfl rfl rfl ?_
  refine w_iconst (3 : Int32) dX12_readNext_175 ic_iconst_3 rfl ?_
  obtain ⟨r1, s2, h3, h⟩ := h.bd
  refine k_X12_errs ml_RX12_150 (Nat.le_of_ble_eq_true rfl) ⟨Nat.le_of_ble_eq_true rfl, Nat.le_of_ble_eq_true rfl⟩ dX12_readNext_176 rfl h3 ?_
  exact w_sub [0] rfl (b_X12_readNext_179 s2 h)
def f_X12_readNext_154 (σ : St) : Option (Unit × St) :=
  bd (f_X12_is 5 σ) fun r1 s2 =>
  if r1 = 0 then
    f_X12_readNext_179 s2
  else
    gd (inb (8 : Int32) (ln 64)) <|
    if (gr s2 64 (8 : Int32).toNatClampNeg) = (5 : Int32) then
      f_X12_readNext_174 s2
    else
      f_X12_readNext_179 s2
theorem b_X12_readNext_154 {Γ : CX} (σ : St) (h : RR vU Γ (f_X12_readNext_154 σ)) : WW Γ cX12_readNext 2 RX12 none rX12_readNext σ 154 [(0, .ref (xd Γ 58))] [] := by
  unfold f_X12_readNext_154 at h
  refine w_aload_n 0 dX12_readNext_154 rfl rfl rfl ?_
  refine w_ldcS (k := 5) (tx := "spy") (List.mem_of_getElem? (i := 41) rfl) dX12_readNext_155 rfl ?_
  obtain ⟨r1, s2, h3, h⟩ := h.bd
  refine k_X12_is ml_RX12_140 (Nat.le_of_ble_eq_true rfl) ⟨Nat.le_of_ble_eq_true rfl, Nat.le_of_ble_eq_true rfl⟩ dX12_readNext_157 rfl h3 ?_
  refine w_if_eq (tgt := 179) dX12_readNext_160 (by decide) rfl (fun q => ?_) (fun q => ?_)
  · have h := h.tt q
    exact w_sub [0] rfl (b_X12_readNext_179 s2 h)
  · have h := h.ff q
    refine w_aload_n 0 dX12_readNext_163 rfl rfl rfl ?_
    refine gf_RX12_31 dX12_readNext_164 rfl ?_
    refine w_bipush (8 : Int32) dX12_readNext_167 ic_bipush_8 rfl ?_
    obtain ⟨hi4, h⟩ := h.gd
    refine w_iald (i := 64) (lt_lit (by decide)) rfl hi4 dX12_readNext_169 rfl ?_
    refine w_iconst (5 : Int32) dX12_readNext_170 ic_iconst_5 rfl ?_
    refine w_icmp_ne (tgt := 179) dX12_readNext_171 (by decide) rfl (fun q => ?_) (fun q => ?_)
    · have h := h.ff q
      exact w_sub [0] rfl (b_X12_readNext_179 s2 h)
    · have h := h.tt q
      exact w_sub [0] rfl (b_X12_readNext_174 s2 h)
def f_X12_readNext_134 (σ : St) : Option (Unit × St) :=
  bd (f_X12_is 4 σ) fun r1 s2 =>
  if r1 = 0 then
    f_X12_readNext_154 s2
  else
    gd (inb (7 : Int32) (ln 64)) <|
    if (gr s2 64 (7 : Int32).toNatClampNeg) = (4 : Int32) then
      f_X12_readNext_174 s2
    else
      f_X12_readNext_154 s2
theorem b_X12_readNext_134 {Γ : CX} (σ : St) (h : RR vU Γ (f_X12_readNext_134 σ)) : WW Γ cX12_readNext 2 RX12 none rX12_readNext σ 134 [(0, .ref (xd Γ 58))] [] := by
  unfold f_X12_readNext_134 at h
  refine w_aload_n 0 dX12_readNext_134 rfl rfl rfl ?_
  refine w_ldcS (k := 4) (tx := "rule") (List.mem_of_getElem? (i := 40) rfl) dX12_readNext_135 rfl ?_
  obtain ⟨r1, s2, h3, h⟩ := h.bd
  refine k_X12_is ml_RX12_140 (Nat.le_of_ble_eq_true rfl) ⟨Nat.le_of_ble_eq_true rfl, Nat.le_of_ble_eq_true rfl⟩ dX12_readNext_137 rfl h3 ?_
  refine w_if_eq (tgt := 154) dX12_readNext_140 (by decide) rfl (fun q => ?_) (fun q => ?_)
  · have h := h.tt q
    exact w_sub [0] rfl (b_X12_readNext_154 s2 h)
  · have h := h.ff q
    refine w_aload_n 0 dX12_readNext_143 rfl rfl rfl ?_
    refine gf_RX12_31 dX12_readNext_144 rfl ?_
    refine w_bipush (7 : Int32) dX12_readNext_147 ic_bipush_7 rfl ?_
    obtain ⟨hi4, h⟩ := h.gd
    refine w_iald (i := 64) (lt_lit (by decide)) rfl hi4 dX12_readNext_149 rfl ?_
    refine w_iconst (4 : Int32) dX12_readNext_150 ic_iconst_4 rfl ?_
    refine w_icmp_eq (tgt := 174) dX12_readNext_151 (by decide) rfl (fun q => ?_) (fun q => ?_)
    · have h := h.tt q
      exact w_sub [0] rfl (b_X12_readNext_174 s2 h)
    · have h := h.ff q
      exact w_sub [0] rfl (b_X12_readNext_154 s2 h)
def f_X12_readNext_129 (σ : St) : Option (Unit × St) :=
  bd (f_X12_errs (3 : Int32) σ) fun _ s2 =>
  f_X12_readNext_134 s2
theorem b_X12_readNext_129 {Γ : CX} (σ : St) (h : RR vU Γ (f_X12_readNext_129 σ)) : WW Γ cX12_readNext 2 RX12 none rX12_readNext σ 129 [(0, .ref (xd Γ 58))] [] := by
  unfold f_X12_readNext_129 at h
  refine w_aload_n 0 dX12_readNext_129 rfl rfl rfl ?_
  refine w_iconst (3 : Int32) dX12_readNext_130 ic_iconst_3 rfl ?_
  obtain ⟨r1, s2, h3, h⟩ := h.bd
  refine k_X12_errs ml_RX12_150 (Nat.le_of_ble_eq_true rfl) ⟨Nat.le_of_ble_eq_true rfl, Nat.le_of_ble_eq_true rfl⟩ dX12_readNext_131 rfl h3 ?_
  exact w_sub [0] rfl (b_X12_readNext_134 s2 h)
def f_X12_readNext_108 (σ : St) : Option (Unit × St) :=
  bd (f_X12_is 3 σ) fun r1 s2 =>
  if r1 = 0 then
    f_X12_readNext_134 s2
  else
    gd (inb (6 : Int32) (ln 64)) <|
    if (gr s2 64 (6 : Int32).toNatClampNeg) = (8 : Int32) then
      f_X12_readNext_129 s2
    else
      f_X12_readNext_134 s2
theorem b_X12_readNext_108 {Γ : CX} (σ : St) (h : RR vU Γ (f_X12_readNext_108 σ)) : WW Γ cX12_readNext 2 RX12 none rX12_readNext σ 108 [(0, .ref (xd Γ 58))] [] := by
  unfold f_X12_readNext_108 at h
  refine w_aload_n 0 dX12_readNext_108 rfl rfl rfl ?_
  refine w_ldcS (k := 3) (tx := "cannon") (List.mem_of_getElem? (i := 39) rfl) dX12_readNext_109 rfl ?_
  obtain ⟨r1, s2, h3, h⟩ := h.bd
  refine k_X12_is ml_RX12_140 (Nat.le_of_ble_eq_true rfl) ⟨Nat.le_of_ble_eq_true rfl, Nat.le_of_ble_eq_true rfl⟩ dX12_readNext_111 rfl h3 ?_
  refine w_if_eq (tgt := 134) dX12_readNext_114 (by decide) rfl (fun q => ?_) (fun q => ?_)
  · have h := h.tt q
    exact w_sub [0] rfl (b_X12_readNext_134 s2 h)
  · have h := h.ff q
    refine w_aload_n 0 dX12_readNext_117 rfl rfl rfl ?_
    refine gf_RX12_31 dX12_readNext_118 rfl ?_
    refine w_bipush (6 : Int32) dX12_readNext_121 ic_bipush_6 rfl ?_
    obtain ⟨hi4, h⟩ := h.gd
    refine w_iald (i := 64) (lt_lit (by decide)) rfl hi4 dX12_readNext_123 rfl ?_
    refine w_bipush (8 : Int32) dX12_readNext_124 ic_bipush_8 rfl ?_
    refine w_icmp_ne (tgt := 134) dX12_readNext_126 (by decide) rfl (fun q => ?_) (fun q => ?_)
    · have h := h.ff q
      exact w_sub [0] rfl (b_X12_readNext_134 s2 h)
    · have h := h.tt q
      exact w_sub [0] rfl (b_X12_readNext_129 s2 h)
def f_X12_readNext_89 (σ : St) : Option (Unit × St) :=
  bd (f_X12_is 2 σ) fun r1 s2 =>
  if r1 = 0 then
    f_X12_readNext_108 s2
  else
    gd (inb (5 : Int32) (ln 64)) <|
    if (gr s2 64 (5 : Int32).toNatClampNeg) = (4 : Int32) then
      f_X12_readNext_129 s2
    else
      f_X12_readNext_108 s2
theorem b_X12_readNext_89 {Γ : CX} (σ : St) (h : RR vU Γ (f_X12_readNext_89 σ)) : WW Γ cX12_readNext 2 RX12 none rX12_readNext σ 89 [(0, .ref (xd Γ 58))] [] := by
  unfold f_X12_readNext_89 at h
  refine w_aload_n 0 dX12_readNext_89 rfl rfl rfl ?_
  refine w_ldcS (k := 2) (tx := "tea") (List.mem_of_getElem? (i := 38) rfl) dX12_readNext_90 rfl ?_
  obtain ⟨r1, s2, h3, h⟩ := h.bd
  refine k_X12_is ml_RX12_140 (Nat.le_of_ble_eq_true rfl) ⟨Nat.le_of_ble_eq_true rfl, Nat.le_of_ble_eq_true rfl⟩ dX12_readNext_92 rfl h3 ?_
  refine w_if_eq (tgt := 108) dX12_readNext_95 (by decide) rfl (fun q => ?_) (fun q => ?_)
  · have h := h.tt q
    exact w_sub [0] rfl (b_X12_readNext_108 s2 h)
  · have h := h.ff q
    refine w_aload_n 0 dX12_readNext_98 rfl rfl rfl ?_
    refine gf_RX12_31 dX12_readNext_99 rfl ?_
    refine w_iconst (5 : Int32) dX12_readNext_102 ic_iconst_5 rfl ?_
    obtain ⟨hi4, h⟩ := h.gd
    refine w_iald (i := 64) (lt_lit (by decide)) rfl hi4 dX12_readNext_103 rfl ?_
    refine w_iconst (4 : Int32) dX12_readNext_104 ic_iconst_4 rfl ?_
    refine w_icmp_eq (tgt := 129) dX12_readNext_105 (by decide) rfl (fun q => ?_) (fun q => ?_)
    · have h := h.tt q
      exact w_sub [0] rfl (b_X12_readNext_129 s2 h)
    · have h := h.ff q
      exact w_sub [0] rfl (b_X12_readNext_108 s2 h)
def f_X12_readNext_69 (σ : St) : Option (Unit × St) :=
  bd (f_X12_is 1 σ) fun r1 s2 =>
  if r1 = 0 then
    f_X12_readNext_89 s2
  else
    gd (inb (4 : Int32) (ln 64)) <|
    if (gr s2 64 (4 : Int32).toNatClampNeg) = (9 : Int32) then
      f_X12_readNext_129 s2
    else
      f_X12_readNext_89 s2
theorem b_X12_readNext_69 {Γ : CX} (σ : St) (h : RR vU Γ (f_X12_readNext_69 σ)) : WW Γ cX12_readNext 2 RX12 none rX12_readNext σ 69 [(0, .ref (xd Γ 58))] [] := by
  unfold f_X12_readNext_69 at h
  refine w_aload_n 0 dX12_readNext_69 rfl rfl rfl ?_
  refine w_ldcS (k := 1) (tx := "train") (List.mem_of_getElem? (i := 37) rfl) dX12_readNext_70 rfl ?_
  obtain ⟨r1, s2, h3, h⟩ := h.bd
  refine k_X12_is ml_RX12_140 (Nat.le_of_ble_eq_true rfl) ⟨Nat.le_of_ble_eq_true rfl, Nat.le_of_ble_eq_true rfl⟩ dX12_readNext_72 rfl h3 ?_
  refine w_if_eq (tgt := 89) dX12_readNext_75 (by decide) rfl (fun q => ?_) (fun q => ?_)
  · have h := h.tt q
    exact w_sub [0] rfl (b_X12_readNext_89 s2 h)
  · have h := h.ff q
    refine w_aload_n 0 dX12_readNext_78 rfl rfl rfl ?_
    refine gf_RX12_31 dX12_readNext_79 rfl ?_
    refine w_iconst (4 : Int32) dX12_readNext_82 ic_iconst_4 rfl ?_
    obtain ⟨hi4, h⟩ := h.gd
    refine w_iald (i := 64) (lt_lit (by decide)) rfl hi4 dX12_readNext_83 rfl ?_
    refine w_bipush (9 : Int32) dX12_readNext_84 ic_bipush_9 rfl ?_
    refine w_icmp_eq (tgt := 129) dX12_readNext_86 (by decide) rfl (fun q => ?_) (fun q => ?_)
    · have h := h.tt q
      exact w_sub [0] rfl (b_X12_readNext_129 s2 h)
    · have h := h.ff q
      exact w_sub [0] rfl (b_X12_readNext_89 s2 h)
def f_X12_readNext_59 (k0 : Int32) (σ : St) : Option (Unit × St) :=
  if k0 = 0 then
    bd (f_X12_errs (1 : Int32) σ) fun _ s2 =>
    f_X12_readNext_69 s2
  else
    f_X12_readNext_69 σ
theorem b_X12_readNext_59 {Γ : CX} (k0 : Int32) (σ : St) (h : RR vU Γ (f_X12_readNext_59 k0 σ)) : WW Γ cX12_readNext 2 RX12 none rX12_readNext σ 59 [(0, .ref (xd Γ 58))] [.int k0] := by
  unfold f_X12_readNext_59 at h
  refine w_istore_n [(1, .int k0), (0, .ref (xd Γ 58))] dX12_readNext_59 rfl (by decide) rfl rfl ?_
  refine w_iload_n 0 dX12_readNext_60 rfl rfl rfl ?_
  refine w_if_ne (tgt := 69) dX12_readNext_61 (by decide) rfl (fun q => ?_) (fun q => ?_)
  · have h := h.ff q
    exact w_sub [1] rfl (b_X12_readNext_69 σ h)
  · have h := h.tt q
    refine w_aload_n 1 dX12_readNext_64 rfl rfl rfl ?_
    refine w_iconst (1 : Int32) dX12_readNext_65 ic_iconst_1 rfl ?_
    obtain ⟨r1, s2, h3, h⟩ := h.bd
    refine k_X12_errs ml_RX12_150 (Nat.le_of_ble_eq_true rfl) ⟨Nat.le_of_ble_eq_true rfl, Nat.le_of_ble_eq_true rfl⟩ dX12_readNext_66 rfl h3 ?_
    exact w_sub [1] rfl (b_X12_readNext_69 s2 h)
def f_X12_readNext_54 (σ : St) : Option (Unit × St) :=
  f_X12_readNext_59 (1 : Int32) σ
theorem b_X12_readNext_54 {Γ : CX} (σ : St) (h : RR vU Γ (f_X12_readNext_54 σ)) : WW Γ cX12_readNext 2 RX12 none rX12_readNext σ 54 [(0, .ref (xd Γ 58))] [] := by
  unfold f_X12_readNext_54 at h
  refine w_iconst (1 : Int32) dX12_readNext_54 ic_iconst_1 rfl ?_
  refine w_goto (tgt := 59) dX12_readNext_55 (by decide) ?_
  exact w_sub [0] rfl (b_X12_readNext_59 (1 : Int32) σ h)
def f_X12_readNext (σ : St) : Option (Unit × St) :=
  bd (f_X12_is 0 σ) fun r1 s2 =>
  if r1 = 0 then
    bd (f_X12_is 1 s2) fun r4 s5 =>
    if r4 = 0 then
      bd (f_X12_is 2 s5) fun r7 s8 =>
      if r7 = 0 then
        bd (f_X12_is 3 s8) fun r10 s11 =>
        if r10 = 0 then
          bd (f_X12_is 4 s11) fun r13 s14 =>
          if r13 = 0 then
            bd (f_X12_is 5 s14) fun r16 s17 =>
            if r16 = 0 then
              f_X12_readNext_59 (0 : Int32) s17
            else
              f_X12_readNext_54 s17
          else
            f_X12_readNext_54 s14
        else
          f_X12_readNext_54 s11
      else
        f_X12_readNext_54 s8
    else
      f_X12_readNext_54 s5
  else
    f_X12_readNext_54 s2
theorem e_X12_readNext {Γ : CX} (σ : St) (h : RR vU Γ (f_X12_readNext σ)) : WW Γ cX12_readNext 2 RX12 none rX12_readNext σ 0 [(0, .ref (xd Γ 58))] [] := by
  unfold f_X12_readNext at h
  refine w_aload_n 0 dX12_readNext_0 rfl rfl rfl ?_
  refine w_ldcS (k := 0) (tx := "need") (List.mem_of_getElem? (i := 36) rfl) dX12_readNext_1 rfl ?_
  obtain ⟨r1, s2, h3, h⟩ := h.bd
  refine k_X12_is ml_RX12_140 (Nat.le_of_ble_eq_true rfl) ⟨Nat.le_of_ble_eq_true rfl, Nat.le_of_ble_eq_true rfl⟩ dX12_readNext_3 rfl h3 ?_
  refine w_if_ne (tgt := 54) dX12_readNext_6 (by decide) rfl (fun q => ?_) (fun q => ?_)
  · have h := h.ff q
    exact w_sub [0] rfl (b_X12_readNext_54 s2 h)
  · have h := h.tt q
    refine w_aload_n 0 dX12_readNext_9 rfl rfl rfl ?_
    refine w_ldcS (k := 1) (tx := "train") (List.mem_of_getElem? (i := 37) rfl) dX12_readNext_10 rfl ?_
    obtain ⟨r4, s5, h6, h⟩ := h.bd
    refine k_X12_is ml_RX12_140 (Nat.le_of_ble_eq_true rfl) ⟨Nat.le_of_ble_eq_true rfl, Nat.le_of_ble_eq_true rfl⟩ dX12_readNext_12 rfl h6 ?_
    refine w_if_ne (tgt := 54) dX12_readNext_15 (by decide) rfl (fun q => ?_) (fun q => ?_)
    · have h := h.ff q
      exact w_sub [0] rfl (b_X12_readNext_54 s5 h)
    · have h := h.tt q
      refine w_aload_n 0 dX12_readNext_18 rfl rfl rfl ?_
      refine w_ldcS (k := 2) (tx := "tea") (List.mem_of_getElem? (i := 38) rfl) dX12_readNext_19 rfl ?_
      obtain ⟨r7, s8, h9, h⟩ := h.bd
      refine k_X12_is ml_RX12_140 (Nat.le_of_ble_eq_true rfl) ⟨Nat.le_of_ble_eq_true rfl, Nat.le_of_ble_eq_true rfl⟩ dX12_readNext_21 rfl h9 ?_
      refine w_if_ne (tgt := 54) dX12_readNext_24 (by decide) rfl (fun q => ?_) (fun q => ?_)
      · have h := h.ff q
        exact w_sub [0] rfl (b_X12_readNext_54 s8 h)
      · have h := h.tt q
        refine w_aload_n 0 dX12_readNext_27 rfl rfl rfl ?_
        refine w_ldcS (k := 3) (tx := "cannon") (List.mem_of_getElem? (i := 39) rfl) dX12_readNext_28 rfl ?_
        obtain ⟨r10, s11, h12, h⟩ := h.bd
        refine k_X12_is ml_RX12_140 (Nat.le_of_ble_eq_true rfl) ⟨Nat.le_of_ble_eq_true rfl, Nat.le_of_ble_eq_true rfl⟩ dX12_readNext_30 rfl h12 ?_
        refine w_if_ne (tgt := 54) dX12_readNext_33 (by decide) rfl (fun q => ?_) (fun q => ?_)
        · have h := h.ff q
          exact w_sub [0] rfl (b_X12_readNext_54 s11 h)
        · have h := h.tt q
          refine w_aload_n 0 dX12_readNext_36 rfl rfl rfl ?_
          refine w_ldcS (k := 4) (tx := "rule") (List.mem_of_getElem? (i := 40) rfl) dX12_readNext_37 rfl ?_
          obtain ⟨r13, s14, h15, h⟩ := h.bd
          refine k_X12_is ml_RX12_140 (Nat.le_of_ble_eq_true rfl) ⟨Nat.le_of_ble_eq_true rfl, Nat.le_of_ble_eq_true rfl⟩ dX12_readNext_39 rfl h15 ?_
          refine w_if_ne (tgt := 54) dX12_readNext_42 (by decide) rfl (fun q => ?_) (fun q => ?_)
          · have h := h.ff q
            exact w_sub [0] rfl (b_X12_readNext_54 s14 h)
          · have h := h.tt q
            refine w_aload_n 0 dX12_readNext_45 rfl rfl rfl ?_
            refine w_ldcS (k := 5) (tx := "spy") (List.mem_of_getElem? (i := 41) rfl) dX12_readNext_46 rfl ?_
            obtain ⟨r16, s17, h18, h⟩ := h.bd
            refine k_X12_is ml_RX12_140 (Nat.le_of_ble_eq_true rfl) ⟨Nat.le_of_ble_eq_true rfl, Nat.le_of_ble_eq_true rfl⟩ dX12_readNext_48 rfl h18 ?_
            refine w_if_eq (tgt := 58) dX12_readNext_51 (by decide) rfl (fun q => ?_) (fun q => ?_)
            · have h := h.tt q
              refine w_iconst (0 : Int32) dX12_readNext_58 ic_iconst_0 rfl ?_
              exact w_sub [0] rfl (b_X12_readNext_59 (0 : Int32) s17 h)
            · have h := h.ff q
              exact w_sub [0] rfl (b_X12_readNext_54 s17 h)
theorem c_X12_readNext {l : Launch} {D : va_G} {cy : Nat → ClassId} {ad : Nat → Nat}  {σ σ' : St} {r : Unit} (hf : f_X12_readNext σ = some (r, σ')) : CT l D cy ad yX12_readNext cX12_readNext 2 none rX12_readNext [.ref (ad 58)] σ none σ' :=
  ct_of (by decide) (Nat.le_of_ble_eq_true rfl) (fun p e s m args below meth c A => e_X12_readNext (Γ := (p, l, e, rX12_readNext, s, m, args, below, meth, c, D, cy, ad, A, 0, 0, MQ below (QC D cy ad none σ' A) args s 0 0 A)) σ ⟨_, hf, rfl⟩)
theorem k_X12_readNext {Γ : CX} {cc : ByteArray} {nL : Nat} {own : String} {ret : Option FieldType} {rm : Room} {σ σ' : St} {pc pc' idx : Nat} {lv : List (Nat × Value)} {rest : List Value}  {r : Unit} (hl : Cond.methodLink own idx yX12_readNext ∈ TB) (hw : (rest.map fun v => v.category).sum ≤ 8) (hR : rX12_readNext.frames + 1 ≤ rm.frames ∧ 8 + (2 + 11) + rX12_readNext.locals ≤ rm.locals) (hd : decode cc pc = .ok (.invokevirtual idx, 3)) (hp : pc + 3 = pc') (hf : f_X12_readNext σ = some (r, σ')) (h : WW Γ cc nL own ret rm σ' pc' lv (rest)) : WW Γ cc nL own ret rm σ pc lv (.ref (xd Γ 58) :: rest) :=
  w_callV (nn := 0) (i := 58) (As := []) (v := none) (T := TX12) (N := 32) (c_X12_readNext hf) hl mw_X12_readNext (by decide +kernel) ⟨rfl, rfl⟩ hR (lt_lit (by decide)) cel_58 rfl rfl hw hd rfl hp h
/-! WarByHoursModel.readLine ()V -/
def rX12_readLine : Room := { frames := 10, cells := 0, slots := 0, locals := 216 }
def f_X12_readLine_52 (σ : St) : Option (Unit × St) :=
  gd (inb (9 : Int32) (ln 64)) <|
  gd (inb (9 : Int32) (ln 64)) <|
  bnd (sr σ 64 (9 : Int32).toNatClampNeg ((gr σ 64 (9 : Int32).toNatClampNeg) + (1 : Int32))) fun s3 =>
  some ((), s3)
theorem b_X12_readLine_52 {Γ : CX} (σ : St) (h : RR vU Γ (f_X12_readLine_52 σ)) : WW Γ cX12_readLine 1 RX12 none rX12_readLine σ 52 [(0, .ref (xd Γ 58))] [] := by
  unfold f_X12_readLine_52 at h
  refine w_aload_n 0 dX12_readLine_52 rfl rfl rfl ?_
  refine gf_RX12_31 dX12_readLine_53 rfl ?_
  refine w_bipush (9 : Int32) dX12_readLine_56 ic_bipush_9 rfl ?_
  refine w_dup2 dX12_readLine_58 rfl rfl rfl ?_
  obtain ⟨hi1, h⟩ := h.gd
  refine w_iald (i := 64) (lt_lit (by decide)) rfl hi1 dX12_readLine_59 rfl ?_
  refine w_iconst (1 : Int32) dX12_readLine_60 ic_iconst_1 rfl ?_
  refine w_iadd dX12_readLine_61 rfl ?_
  obtain ⟨hi2, h⟩ := h.gd
  refine w_iast (i := 64) (lt_lit (by decide)) rfl hi2 dX12_readLine_62 rfl ?_
  obtain ⟨s3, es3⟩ : ∃ y : St, y = (sr σ 64 (9 : Int32).toNatClampNeg ((gr σ 64 (9 : Int32).toNatClampNeg) + (1 : Int32))) := ⟨_, rfl⟩
  rw [← es3]
  replace h := h.bnd es3
  clear es3
  exact w_return dX12_readLine_63 h
def f_X12_readLine_41 (σ : St) : Option (Unit × St) :=
  bd (f_X12_good σ) fun r1 s2 =>
  if r1 = 0 then
    f_X12_readLine_52 s2
  else
    bd (f_X12_advance s2) fun _ s5 =>
    f_X12_readLine_52 s5
theorem b_X12_readLine_41 {Γ : CX} (σ : St) (h : RR vU Γ (f_X12_readLine_41 σ)) : WW Γ cX12_readLine 1 RX12 none rX12_readLine σ 41 [(0, .ref (xd Γ 58))] [] := by
  unfold f_X12_readLine_41 at h
  refine w_aload_n 0 dX12_readLine_41 rfl rfl rfl ?_
  obtain ⟨r1, s2, h3, h⟩ := h.bd
  refine k_X12_good ml_RX12_128 (Nat.le_of_ble_eq_true rfl) ⟨Nat.le_of_ble_eq_true rfl, Nat.le_of_ble_eq_true rfl⟩ dX12_readLine_42 rfl h3 ?_
  refine w_if_eq (tgt := 52) dX12_readLine_45 (by decide) rfl (fun q => ?_) (fun q => ?_)
  · have h := h.tt q
    exact w_sub [0] rfl (b_X12_readLine_52 s2 h)
  · have h := h.ff q
    refine w_aload_n 0 dX12_readLine_48 rfl rfl rfl ?_
    obtain ⟨r4, s5, h6, h⟩ := h.bd
    refine k_X12_advance ml_RX12_144 (Nat.le_of_ble_eq_true rfl) ⟨Nat.le_of_ble_eq_true rfl, Nat.le_of_ble_eq_true rfl⟩ dX12_readLine_49 rfl h6 ?_
    exact w_sub [0] rfl (b_X12_readLine_52 s5 h)
def f_X12_readLine_21 (σ : St) : Option (Unit × St) :=
  bd (f_X12_good σ) fun r1 s2 =>
  if r1 = 0 then
    f_X12_readLine_41 s2
  else
    if (gf s2 58 10) = (3 : Int32) then
      f_X12_readLine_41 s2
    else
      bd (f_X12_errs (1 : Int32) s2) fun _ s5 =>
      f_X12_readLine_41 s5
theorem b_X12_readLine_21 {Γ : CX} (σ : St) (h : RR vU Γ (f_X12_readLine_21 σ)) : WW Γ cX12_readLine 1 RX12 none rX12_readLine σ 21 [(0, .ref (xd Γ 58))] [] := by
  unfold f_X12_readLine_21 at h
  refine w_aload_n 0 dX12_readLine_21 rfl rfl rfl ?_
  obtain ⟨r1, s2, h3, h⟩ := h.bd
  refine k_X12_good ml_RX12_128 (Nat.le_of_ble_eq_true rfl) ⟨Nat.le_of_ble_eq_true rfl, Nat.le_of_ble_eq_true rfl⟩ dX12_readLine_22 rfl h3 ?_
  refine w_if_eq (tgt := 41) dX12_readLine_25 (by decide) rfl (fun q => ?_) (fun q => ?_)
  · have h := h.tt q
    exact w_sub [0] rfl (b_X12_readLine_41 s2 h)
  · have h := h.ff q
    refine w_aload_n 0 dX12_readLine_28 rfl rfl rfl ?_
    refine gf_RX12_105 dX12_readLine_29 rfl ?_
    refine w_iconst (3 : Int32) dX12_readLine_32 ic_iconst_3 rfl ?_
    refine w_icmp_eq (tgt := 41) dX12_readLine_33 (by decide) rfl (fun q => ?_) (fun q => ?_)
    · have h := h.tt q
      exact w_sub [0] rfl (b_X12_readLine_41 s2 h)
    · have h := h.ff q
      refine w_aload_n 0 dX12_readLine_36 rfl rfl rfl ?_
      refine w_iconst (1 : Int32) dX12_readLine_37 ic_iconst_1 rfl ?_
      obtain ⟨r4, s5, h6, h⟩ := h.bd
      refine k_X12_errs ml_RX12_150 (Nat.le_of_ble_eq_true rfl) ⟨Nat.le_of_ble_eq_true rfl, Nat.le_of_ble_eq_true rfl⟩ dX12_readLine_38 rfl h6 ?_
      exact w_sub [0] rfl (b_X12_readLine_41 s5 h)
def f_X12_readLine (σ : St) : Option (Unit × St) :=
  gd (inb (9 : Int32) (ln 64)) <|
  if (gr σ 64 (9 : Int32).toNatClampNeg) = 0 then
    bd (f_X12_readFirst σ) fun _ s6 =>
    f_X12_readLine_21 s6
  else
    bd (f_X12_readNext σ) fun _ s3 =>
    f_X12_readLine_21 s3
theorem e_X12_readLine {Γ : CX} (σ : St) (h : RR vU Γ (f_X12_readLine σ)) : WW Γ cX12_readLine 1 RX12 none rX12_readLine σ 0 [(0, .ref (xd Γ 58))] [] := by
  unfold f_X12_readLine at h
  refine w_aload_n 0 dX12_readLine_0 rfl rfl rfl ?_
  refine gf_RX12_31 dX12_readLine_1 rfl ?_
  refine w_bipush (9 : Int32) dX12_readLine_4 ic_bipush_9 rfl ?_
  obtain ⟨hi1, h⟩ := h.gd
  refine w_iald (i := 64) (lt_lit (by decide)) rfl hi1 dX12_readLine_6 rfl ?_
  refine w_if_ne (tgt := 17) dX12_readLine_7 (by decide) rfl (fun q => ?_) (fun q => ?_)
  · have h := h.ff q
    refine w_aload_n 0 dX12_readLine_17 rfl rfl rfl ?_
    obtain ⟨r2, s3, h4, h⟩ := h.bd
    refine k_X12_readNext ml_RX12_224 (Nat.le_of_ble_eq_true rfl) ⟨Nat.le_of_ble_eq_true rfl, Nat.le_of_ble_eq_true rfl⟩ dX12_readLine_18 rfl h4 ?_
    exact w_sub [0] rfl (b_X12_readLine_21 s3 h)
  · have h := h.tt q
    refine w_aload_n 0 dX12_readLine_10 rfl rfl rfl ?_
    obtain ⟨r5, s6, h7, h⟩ := h.bd
    refine k_X12_readFirst ml_RX12_221 (Nat.le_of_ble_eq_true rfl) ⟨Nat.le_of_ble_eq_true rfl, Nat.le_of_ble_eq_true rfl⟩ dX12_readLine_11 rfl h7 ?_
    refine w_goto (tgt := 21) dX12_readLine_14 (by decide) ?_
    exact w_sub [0] rfl (b_X12_readLine_21 s6 h)
theorem c_X12_readLine {l : Launch} {D : va_G} {cy : Nat → ClassId} {ad : Nat → Nat}  {σ σ' : St} {r : Unit} (hf : f_X12_readLine σ = some (r, σ')) : CT l D cy ad yX12_readLine cX12_readLine 1 none rX12_readLine [.ref (ad 58)] σ none σ' :=
  ct_of (by decide) (Nat.le_of_ble_eq_true rfl) (fun p e s m args below meth c A => e_X12_readLine (Γ := (p, l, e, rX12_readLine, s, m, args, below, meth, c, D, cy, ad, A, 0, 0, MQ below (QC D cy ad none σ' A) args s 0 0 A)) σ ⟨_, hf, rfl⟩)
theorem k_X12_readLine {Γ : CX} {cc : ByteArray} {nL : Nat} {own : String} {ret : Option FieldType} {rm : Room} {σ σ' : St} {pc pc' idx : Nat} {lv : List (Nat × Value)} {rest : List Value}  {r : Unit} (hl : Cond.methodLink own idx yX12_readLine ∈ TB) (hw : (rest.map fun v => v.category).sum ≤ 8) (hR : rX12_readLine.frames + 1 ≤ rm.frames ∧ 8 + (1 + 11) + rX12_readLine.locals ≤ rm.locals) (hd : decode cc pc = .ok (.invokevirtual idx, 3)) (hp : pc + 3 = pc') (hf : f_X12_readLine σ = some (r, σ')) (h : WW Γ cc nL own ret rm σ' pc' lv (rest)) : WW Γ cc nL own ret rm σ pc lv (.ref (xd Γ 58) :: rest) :=
  w_callV (nn := 0) (i := 58) (As := []) (v := none) (T := TX12) (N := 32) (c_X12_readLine hf) hl mw_X12_readLine (by decide +kernel) ⟨rfl, rfl⟩ hR (lt_lit (by decide)) cel_58 rfl rfl hw hd rfl hp h
/-! WarByHoursModel.war ()I -/
def rX12_war : Room := { frames := 11, cells := 0, slots := 0, locals := 236 }
def g_X12_war_87 (K87 : Int32 × St → Option (Int32 × St)) (x : Int32 × St) : Option (Int32 × St) := match x with
  | (v1, σ) =>
  if (240 : Int32) ≤ v1 then
    gd (inb (9 : Int32) (ln 59)) <|
    some ((gr σ 59 (9 : Int32).toNatClampNeg), σ)
  else
    gd (inb v1 (ln 64)) <|
    gd (inb v1 (ln 59)) <|
    bnd (sr σ 59 v1.toNatClampNeg (gr σ 64 v1.toNatClampNeg)) fun s4 =>
    bnd (v1 + (1 : Int32)) fun x5 =>
    K87 (x5, s4)
theorem l_X12_war_87 {Γ : CX} : ∀ (n : Nat) (v1 : Int32) (σ : St), RR vI Γ (itr (g_X12_war_87) n (v1, σ)) → WW Γ cX12_war 2 RX12 (some .int) rX12_war σ 87 [(0, .ref (xd Γ 58)), (1, .int v1)] [] := by
  intro n
  induction n with
  | zero => intro v1 σ h; exact RR.no h
  | succ n hK87 =>
  intro v1 σ h
  have h : RR vI Γ (g_X12_war_87 (itr (g_X12_war_87) n) (v1, σ)) := h
  generalize itr (g_X12_war_87) n = K87 at h hK87
  unfold g_X12_war_87 at h
  dsimp only at h
  refine w_iload_n 1 dX12_war_87 rfl rfl rfl ?_
  refine w_sipush (240 : Int32) dX12_war_88 ic_sipush_240 rfl ?_
  refine w_icmp_ge (tgt := 112) dX12_war_91 (by decide) rfl (fun q => ?_) (fun q => ?_)
  · have h := h.tt q
    refine w_aload_n 0 dX12_war_112 rfl rfl rfl ?_
    refine gf_RX12_9 dX12_war_113 rfl ?_
    refine w_bipush (9 : Int32) dX12_war_116 ic_bipush_9 rfl ?_
    obtain ⟨hi1, h⟩ := h.gd
    refine w_iald (i := 59) (lt_lit (by decide)) rfl hi1 dX12_war_118 rfl ?_
    exact w_ireturn dX12_war_119 h
  · have h := h.ff q
    refine w_aload_n 0 dX12_war_94 rfl rfl rfl ?_
    refine gf_RX12_9 dX12_war_95 rfl ?_
    refine w_iload_n 1 dX12_war_98 rfl rfl rfl ?_
    refine w_aload_n 0 dX12_war_99 rfl rfl rfl ?_
    refine gf_RX12_31 dX12_war_100 rfl ?_
    refine w_iload_n 1 dX12_war_103 rfl rfl rfl ?_
    obtain ⟨hi2, h⟩ := h.gd
    refine w_iald (i := 64) (lt_lit (by decide)) rfl hi2 dX12_war_104 rfl ?_
    obtain ⟨hi3, h⟩ := h.gd
    refine w_iast (i := 59) (lt_lit (by decide)) rfl hi3 dX12_war_105 rfl ?_
    obtain ⟨s4, es4⟩ : ∃ y : St, y = (sr σ 59 v1.toNatClampNeg (gr σ 64 v1.toNatClampNeg)) := ⟨_, rfl⟩
    rw [← es4]
    replace h := h.bnd es4
    clear es4
    obtain ⟨x5, ex5⟩ : ∃ y : Int32, y = (v1 + (1 : Int32)) := ⟨_, rfl⟩
    replace h := h.bnd ex5
    refine w_iinc 1 x5 [(1, .int x5), (0, .ref (xd Γ 58))] dX12_war_106 rfl (by rw [ex5, ic_iconst_1]) (by decide) rfl rfl ?_
    clear ex5
    refine w_goto (tgt := 87) dX12_war_109 (by decide) ?_
    exact w_sub [1, 0] rfl (hK87 x5 s4 h)
def f_X12_war_75 (σ : St) : Option (Int32 × St) :=
  bd (f_X12_good σ) fun r1 s2 =>
  if r1 = 0 then
    some ((-4 : Int32), s2)
  else
    itr (g_X12_war_87) FU ((0 : Int32), s2)
theorem b_X12_war_75 {Γ : CX} (σ : St) (h : RR vI Γ (f_X12_war_75 σ)) : WW Γ cX12_war 2 RX12 (some .int) rX12_war σ 75 [(0, .ref (xd Γ 58))] [] := by
  unfold f_X12_war_75 at h
  refine w_aload_n 0 dX12_war_75 rfl rfl rfl ?_
  obtain ⟨r1, s2, h3, h⟩ := h.bd
  refine k_X12_good ml_RX12_128 (Nat.le_of_ble_eq_true rfl) ⟨Nat.le_of_ble_eq_true rfl, Nat.le_of_ble_eq_true rfl⟩ dX12_war_76 rfl h3 ?_
  refine w_if_ne (tgt := 85) dX12_war_79 (by decide) rfl (fun q => ?_) (fun q => ?_)
  · have h := h.ff q
    refine w_iconst (0 : Int32) dX12_war_85 ic_iconst_0 rfl ?_
    refine w_istore_n [(1, .int (0 : Int32)), (0, .ref (xd Γ 58))] dX12_war_86 rfl (by decide) rfl rfl ?_
    exact w_sub [1, 0] rfl (l_X12_war_87 FU (0 : Int32) s2 h)
  · have h := h.tt q
    refine w_bipush (-4 : Int32) dX12_war_82 ic_bipush_m4 rfl ?_
    exact w_ireturn dX12_war_84 h
def g_X12_war_54 (K54 : St → Option (Int32 × St)) (x : St) : Option (Int32 × St) := match x with
  | (σ) =>
  bd (f_X12_good σ) fun r1 s2 =>
  if r1 = 0 then
    f_X12_war_75 s2
  else
    if (gf s2 58 10) = 0 then
      f_X12_war_75 s2
    else
      bd (f_X12_readLine s2) fun _ s5 =>
      K54 (s5)
theorem l_X12_war_54 {Γ : CX} : ∀ (n : Nat) (σ : St), RR vI Γ (itr (g_X12_war_54) n (σ)) → WW Γ cX12_war 2 RX12 (some .int) rX12_war σ 54 [(0, .ref (xd Γ 58))] [] := by
  intro n
  induction n with
  | zero => intro  σ h; exact RR.no h
  | succ n hK54 =>
  intro  σ h
  have h : RR vI Γ (g_X12_war_54 (itr (g_X12_war_54) n) (σ)) := h
  generalize itr (g_X12_war_54) n = K54 at h hK54
  unfold g_X12_war_54 at h
  dsimp only at h
  refine w_aload_n 0 dX12_war_54 rfl rfl rfl ?_
  obtain ⟨r1, s2, h3, h⟩ := h.bd
  refine k_X12_good ml_RX12_128 (Nat.le_of_ble_eq_true rfl) ⟨Nat.le_of_ble_eq_true rfl, Nat.le_of_ble_eq_true rfl⟩ dX12_war_55 rfl h3 ?_
  refine w_if_eq (tgt := 75) dX12_war_58 (by decide) rfl (fun q => ?_) (fun q => ?_)
  · have h := h.tt q
    exact w_sub [0] rfl (b_X12_war_75 s2 h)
  · have h := h.ff q
    refine w_aload_n 0 dX12_war_61 rfl rfl rfl ?_
    refine gf_RX12_105 dX12_war_62 rfl ?_
    refine w_if_eq (tgt := 75) dX12_war_65 (by decide) rfl (fun q => ?_) (fun q => ?_)
    · have h := h.tt q
      exact w_sub [0] rfl (b_X12_war_75 s2 h)
    · have h := h.ff q
      refine w_aload_n 0 dX12_war_68 rfl rfl rfl ?_
      obtain ⟨r4, s5, h6, h⟩ := h.bd
      refine k_X12_readLine ml_RX12_227 (Nat.le_of_ble_eq_true rfl) ⟨Nat.le_of_ble_eq_true rfl, Nat.le_of_ble_eq_true rfl⟩ dX12_war_69 rfl h6 ?_
      refine w_goto (tgt := 54) dX12_war_72 (by decide) ?_
      exact w_sub [0] rfl (hK54 s5 h)
def g_X12_war_30 (K30 : Int32 × St → Option (Int32 × St)) (x : Int32 × St) : Option (Int32 × St) := match x with
  | (v1, σ) =>
  if (240 : Int32) ≤ v1 then
    bd (f_X12_advance σ) fun _ s2 =>
    itr (g_X12_war_54) FU (s2)
  else
    gd (inb v1 (ln 64)) <|
    bnd (sr σ 64 v1.toNatClampNeg (0 : Int32)) fun s5 =>
    bnd (v1 + (1 : Int32)) fun x6 =>
    K30 (x6, s5)
theorem l_X12_war_30 {Γ : CX} : ∀ (n : Nat) (v1 : Int32) (σ : St), RR vI Γ (itr (g_X12_war_30) n (v1, σ)) → WW Γ cX12_war 2 RX12 (some .int) rX12_war σ 30 [(0, .ref (xd Γ 58)), (1, .int v1)] [] := by
  intro n
  induction n with
  | zero => intro v1 σ h; exact RR.no h
  | succ n hK30 =>
  intro v1 σ h
  have h : RR vI Γ (g_X12_war_30 (itr (g_X12_war_30) n) (v1, σ)) := h
  generalize itr (g_X12_war_30) n = K30 at h hK30
  unfold g_X12_war_30 at h
  dsimp only at h
  refine w_iload_n 1 dX12_war_30 rfl rfl rfl ?_
  refine w_sipush (240 : Int32) dX12_war_31 ic_sipush_240 rfl ?_
  refine w_icmp_ge (tgt := 50) dX12_war_34 (by decide) rfl (fun q => ?_) (fun q => ?_)
  · have h := h.tt q
    refine w_aload_n 0 dX12_war_50 rfl rfl rfl ?_
    obtain ⟨r1, s2, h3, h⟩ := h.bd
    refine k_X12_advance ml_RX12_144 (Nat.le_of_ble_eq_true rfl) ⟨Nat.le_of_ble_eq_true rfl, Nat.le_of_ble_eq_true rfl⟩ dX12_war_51 rfl h3 ?_
    exact w_sub [0] rfl (l_X12_war_54 FU s2 h)
  · have h := h.ff q
    refine w_aload_n 0 dX12_war_37 rfl rfl rfl ?_
    refine gf_RX12_31 dX12_war_38 rfl ?_
    refine w_iload_n 1 dX12_war_41 rfl rfl rfl ?_
    refine w_iconst (0 : Int32) dX12_war_42 ic_iconst_0 rfl ?_
    obtain ⟨hi4, h⟩ := h.gd
    refine w_iast (i := 64) (lt_lit (by decide)) rfl hi4 dX12_war_43 rfl ?_
    obtain ⟨s5, es5⟩ : ∃ y : St, y = (sr σ 64 v1.toNatClampNeg (0 : Int32)) := ⟨_, rfl⟩
    rw [← es5]
    replace h := h.bnd es5
    clear es5
    obtain ⟨x6, ex6⟩ : ∃ y : Int32, y = (v1 + (1 : Int32)) := ⟨_, rfl⟩
    replace h := h.bnd ex6
    refine w_iinc 1 x6 [(1, .int x6), (0, .ref (xd Γ 58))] dX12_war_44 rfl (by rw [ex6, ic_iconst_1]) (by decide) rfl rfl ?_
    clear ex6
    refine w_goto (tgt := 30) dX12_war_47 (by decide) ?_
    exact w_sub [1, 0] rfl (hK30 x6 s5 h)
def f_X12_war (σ : St) : Option (Int32 × St) :=
  bnd (sf σ 58 7 (gf σ 58 5)) fun s1 =>
  bnd (sf s1 58 5 (0 : Int32)) fun s2 =>
  bnd (sf s2 58 8 (0 : Int32)) fun s3 =>
  bnd (sf s3 58 12 (0 : Int32)) fun s4 =>
  bnd (sf s4 58 13 (-1 : Int32)) fun s5 =>
  itr (g_X12_war_30) FU ((0 : Int32), s5)
theorem e_X12_war {Γ : CX} (σ : St) (h : RR vI Γ (f_X12_war σ)) : WW Γ cX12_war 2 RX12 (some .int) rX12_war σ 0 [(0, .ref (xd Γ 58))] [] := by
  unfold f_X12_war at h
  refine w_aload_n 0 dX12_war_0 rfl rfl rfl ?_
  refine w_aload_n 0 dX12_war_1 rfl rfl rfl ?_
  refine gf_RX12_89 dX12_war_2 rfl ?_
  refine pf_RX12_92 dX12_war_5 rfl ?_
  obtain ⟨s1, es1⟩ : ∃ y : St, y = (sf σ 58 7 (gf σ 58 5)) := ⟨_, rfl⟩
  rw [← es1]
  replace h := h.bnd es1
  clear es1
  refine w_aload_n 0 dX12_war_8 rfl rfl rfl ?_
  refine w_iconst (0 : Int32) dX12_war_9 ic_iconst_0 rfl ?_
  refine pf_RX12_89 dX12_war_10 rfl ?_
  obtain ⟨s2, es2⟩ : ∃ y : St, y = (sf s1 58 5 (0 : Int32)) := ⟨_, rfl⟩
  rw [← es2]
  replace h := h.bnd es2
  clear es2
  refine w_aload_n 0 dX12_war_13 rfl rfl rfl ?_
  refine w_iconst (0 : Int32) dX12_war_14 ic_iconst_0 rfl ?_
  refine pf_RX12_95 dX12_war_15 rfl ?_
  obtain ⟨s3, es3⟩ : ∃ y : St, y = (sf s2 58 8 (0 : Int32)) := ⟨_, rfl⟩
  rw [← es3]
  replace h := h.bnd es3
  clear es3
  refine w_aload_n 0 dX12_war_18 rfl rfl rfl ?_
  refine w_iconst (0 : Int32) dX12_war_19 ic_iconst_0 rfl ?_
  refine pf_RX12_125 dX12_war_20 rfl ?_
  obtain ⟨s4, es4⟩ : ∃ y : St, y = (sf s3 58 12 (0 : Int32)) := ⟨_, rfl⟩
  rw [← es4]
  replace h := h.bnd es4
  clear es4
  refine w_aload_n 0 dX12_war_23 rfl rfl rfl ?_
  refine w_iconst (-1 : Int32) dX12_war_24 ic_iconst_m1 rfl ?_
  refine pf_RX12_27 dX12_war_25 rfl ?_
  obtain ⟨s5, es5⟩ : ∃ y : St, y = (sf s4 58 13 (-1 : Int32)) := ⟨_, rfl⟩
  rw [← es5]
  replace h := h.bnd es5
  clear es5
  refine w_iconst (0 : Int32) dX12_war_28 ic_iconst_0 rfl ?_
  refine w_istore_n [(1, .int (0 : Int32)), (0, .ref (xd Γ 58))] dX12_war_29 rfl (by decide) rfl rfl ?_
  exact w_sub [1, 0] rfl (l_X12_war_30 FU (0 : Int32) s5 h)
theorem c_X12_war {l : Launch} {D : va_G} {cy : Nat → ClassId} {ad : Nat → Nat}  {σ σ' : St} {r : Int32} (hf : f_X12_war σ = some (r, σ')) : CT l D cy ad yX12_war cX12_war 2 (some .int) rX12_war [.ref (ad 58)] σ (some (.int r)) σ' :=
  ct_of (by decide) (Nat.le_of_ble_eq_true rfl) (fun p e s m args below meth c A => e_X12_war (Γ := (p, l, e, rX12_war, s, m, args, below, meth, c, D, cy, ad, A, 0, 0, MQ below (QC D cy ad (some (.int r)) σ' A) args s 0 0 A)) σ ⟨_, hf, rfl⟩)
theorem k_X12_war {Γ : CX} {cc : ByteArray} {nL : Nat} {own : String} {ret : Option FieldType} {rm : Room} {σ σ' : St} {pc pc' idx : Nat} {lv : List (Nat × Value)} {rest : List Value}  {r : Int32} (hl : Cond.methodLink own idx yX12_war ∈ TB) (hw : (rest.map fun v => v.category).sum ≤ 8) (hR : rX12_war.frames + 1 ≤ rm.frames ∧ 8 + (2 + 11) + rX12_war.locals ≤ rm.locals) (hd : decode cc pc = .ok (.invokevirtual idx, 3)) (hp : pc + 3 = pc') (hf : f_X12_war σ = some (r, σ')) (h : WW Γ cc nL own ret rm σ' pc' lv (.int r :: rest)) : WW Γ cc nL own ret rm σ pc lv (.ref (xd Γ 58) :: rest) :=
  w_callV (nn := 0) (i := 58) (As := []) (v := (some (.int r))) (T := TX12) (N := 32) (c_X12_war hf) hl mw_X12_war (by decide +kernel) ⟨rfl, rfl⟩ hR (lt_lit (by decide)) cel_58 rfl rfl hw hd rfl hp h
/-! WarByHours.Course.worstSet (I)I -/
def rX2_worstSet : Room := { frames := 6, cells := 0, slots := 0, locals := 138 }
def f_X2_worstSet_57 (K8 : Int32 × Int32 × Int32 × St → Option (Int32 × St)) (v1 : Int32) (v2 : Int32) (v3 : Int32) (σ : St) : Option (Int32 × St) :=
  bnd (v3 + (1 : Int32)) fun x1 =>
  K8 (v1, v2, x1, σ)
theorem b_X2_worstSet_57 {Γ : CX} (K8 : Int32 × Int32 × Int32 × St → Option (Int32 × St)) (hK8 : ∀ (v1 : Int32) (v2 : Int32) (v3 : Int32) (σ : St), RR vI Γ (K8 (v1, v2, v3, σ)) → WW Γ cX2_worstSet 5 RX2 (some .int) rX2_worstSet σ 8 [(0, .ref (xd Γ 31)), (1, .int v1), (2, .int v2), (3, .int v3)] []) (v1 : Int32) (v2 : Int32) (v3 : Int32) (σ : St) (h : RR vI Γ (f_X2_worstSet_57 K8 v1 v2 v3 σ)) : WW Γ cX2_worstSet 5 RX2 (some .int) rX2_worstSet σ 57 [(0, .ref (xd Γ 31)), (1, .int v1), (2, .int v2), (3, .int v3)] [] := by
  unfold f_X2_worstSet_57 at h
  obtain ⟨x1, ex1⟩ : ∃ y : Int32, y = (v3 + (1 : Int32)) := ⟨_, rfl⟩
  replace h := h.bnd ex1
  refine w_iinc 3 x1 [(3, .int x1), (0, .ref (xd Γ 31)), (1, .int v1), (2, .int v2)] dX2_worstSet_57 rfl (by rw [ex1, ic_iconst_1]) (by decide) rfl rfl ?_
  clear ex1
  refine w_goto (tgt := 8) dX2_worstSet_60 (by decide) ?_
  exact w_sub [1, 2, 3, 0] rfl (hK8 v1 v2 x1 σ h)
def f_X2_worstSet_55 (K8 : Int32 × Int32 × Int32 × St → Option (Int32 × St)) (v1 : Int32) (v3 : Int32) (σ : St) : Option (Int32 × St) :=
  f_X2_worstSet_57 K8 v1 v3 v3 σ
theorem b_X2_worstSet_55 {Γ : CX} (K8 : Int32 × Int32 × Int32 × St → Option (Int32 × St)) (hK8 : ∀ (v1 : Int32) (v2 : Int32) (v3 : Int32) (σ : St), RR vI Γ (K8 (v1, v2, v3, σ)) → WW Γ cX2_worstSet 5 RX2 (some .int) rX2_worstSet σ 8 [(0, .ref (xd Γ 31)), (1, .int v1), (2, .int v2), (3, .int v3)] []) (v1 : Int32) (v3 : Int32) (σ : St) (h : RR vI Γ (f_X2_worstSet_55 K8 v1 v3 σ)) : WW Γ cX2_worstSet 5 RX2 (some .int) rX2_worstSet σ 55 [(0, .ref (xd Γ 31)), (1, .int v1), (3, .int v3)] [] := by
  unfold f_X2_worstSet_55 at h
  refine w_iload_n 2 dX2_worstSet_55 rfl rfl rfl ?_
  refine w_istore_n [(2, .int v3), (0, .ref (xd Γ 31)), (1, .int v1), (3, .int v3)] dX2_worstSet_56 rfl (by decide) rfl rfl ?_
  exact w_sub [1, 2, 0, 3] rfl (b_X2_worstSet_57 K8 hK8 v1 v3 v3 σ h)
def g_X2_worstSet_8 (K8 : Int32 × Int32 × Int32 × St → Option (Int32 × St)) (x : Int32 × Int32 × Int32 × St) : Option (Int32 × St) := match x with
  | (v1, v2, v3, σ) =>
  bd (f_X10_sets 1 σ) fun r1 s2 =>
  if r1 ≤ v3 then
    some (v2, s2)
  else
    bd (f_X2_goodAtEnd v1 v2 s2) fun r4 s5 =>
    bd (f_X2_goodAtEnd v1 v3 s5) fun r7 s8 =>
    bnd ((r4 - r7)) fun x10 =>
    if 0 < x10 then
      f_X2_worstSet_55 K8 v1 v3 s8
    else
      if x10 = 0 then
        bd (f_J6_bitCount_0f7a4 v3 s8) fun r11 s12 =>
        bd (f_J6_bitCount_0f7a4 v2 s12) fun r14 s15 =>
        if r14 ≤ r11 then
          f_X2_worstSet_57 K8 v1 v2 v3 s15
        else
          f_X2_worstSet_55 K8 v1 v3 s15
      else
        f_X2_worstSet_57 K8 v1 v2 v3 s8
theorem l_X2_worstSet_8 {Γ : CX} : ∀ (n : Nat) (v1 : Int32) (v2 : Int32) (v3 : Int32) (σ : St), RR vI Γ (itr (g_X2_worstSet_8) n (v1, v2, v3, σ)) → WW Γ cX2_worstSet 5 RX2 (some .int) rX2_worstSet σ 8 [(0, .ref (xd Γ 31)), (1, .int v1), (2, .int v2), (3, .int v3)] [] := by
  intro n
  induction n with
  | zero => intro v1 v2 v3 σ h; exact RR.no h
  | succ n hK8 =>
  intro v1 v2 v3 σ h
  have h : RR vI Γ (g_X2_worstSet_8 (itr (g_X2_worstSet_8) n) (v1, v2, v3, σ)) := h
  generalize itr (g_X2_worstSet_8) n = K8 at h hK8
  unfold g_X2_worstSet_8 at h
  dsimp only at h
  refine w_iload_n 3 dX2_worstSet_8 rfl rfl rfl ?_
  refine w_aload_n 0 dX2_worstSet_9 rfl rfl rfl ?_
  refine gf_RX2_24 dX2_worstSet_10 rfl ?_
  obtain ⟨r1, s2, h3, h⟩ := h.bd
  refine k_X10_sets ml_RX2_83 (Nat.le_of_ble_eq_true rfl) ⟨Nat.le_of_ble_eq_true rfl, Nat.le_of_ble_eq_true rfl⟩ dX2_worstSet_13 rfl h3 ?_
  refine w_icmp_ge (tgt := 63) dX2_worstSet_16 (by decide) rfl (fun q => ?_) (fun q => ?_)
  · have h := h.tt q
    refine w_iload_n 2 dX2_worstSet_63 rfl rfl rfl ?_
    exact w_ireturn dX2_worstSet_64 h
  · have h := h.ff q
    refine w_aload_n 0 dX2_worstSet_19 rfl rfl rfl ?_
    refine w_iload_n 1 dX2_worstSet_20 rfl rfl rfl ?_
    refine w_iload_n 2 dX2_worstSet_21 rfl rfl rfl ?_
    obtain ⟨r4, s5, h6, h⟩ := h.bd
    refine k_X2_goodAtEnd ml_RX2_87 (Nat.le_of_ble_eq_true rfl) ⟨Nat.le_of_ble_eq_true rfl, Nat.le_of_ble_eq_true rfl⟩ dX2_worstSet_22 rfl h6 ?_
    refine w_aload_n 0 dX2_worstSet_25 rfl rfl rfl ?_
    refine w_iload_n 1 dX2_worstSet_26 rfl rfl rfl ?_
    refine w_iload_n 3 dX2_worstSet_27 rfl rfl rfl ?_
    obtain ⟨r7, s8, h9, h⟩ := h.bd
    refine k_X2_goodAtEnd ml_RX2_87 (Nat.le_of_ble_eq_true rfl) ⟨Nat.le_of_ble_eq_true rfl, Nat.le_of_ble_eq_true rfl⟩ dX2_worstSet_28 rfl h9 ?_
    refine w_isub dX2_worstSet_31 rfl ?_
    refine w_nmI (fun x10 ex10 => ?_)
    replace h := h.bnd ex10
    clear ex10
    refine w_istore [(4, .int x10), (0, .ref (xd Γ 31)), (1, .int v1), (2, .int v2), (3, .int v3)] dX2_worstSet_32 (by decide) rfl rfl ?_
    refine w_iload 0 dX2_worstSet_34 rfl rfl ?_
    refine w_if_gt (tgt := 55) dX2_worstSet_36 (by decide) rfl (fun q => ?_) (fun q => ?_)
    · have h := h.tt q
      exact w_sub [1, 2, 4] rfl (b_X2_worstSet_55 K8 hK8 v1 v3 s8 h)
    · have h := h.ff q
      refine w_iload 0 dX2_worstSet_39 rfl rfl ?_
      refine w_if_ne (tgt := 57) dX2_worstSet_41 (by decide) rfl (fun q => ?_) (fun q => ?_)
      · have h := h.ff q
        exact w_sub [1, 2, 3, 4] rfl (b_X2_worstSet_57 K8 hK8 v1 v2 v3 s8 h)
      · have h := h.tt q
        refine w_iload_n 4 dX2_worstSet_44 rfl rfl rfl ?_
        obtain ⟨r11, s12, h13, h⟩ := h.bd
        refine k_J6_bitCount_0f7a4 ml_RX2_90 (Nat.le_of_ble_eq_true rfl) ⟨Nat.le_of_ble_eq_true rfl, Nat.le_of_ble_eq_true rfl⟩ dX2_worstSet_45 rfl h13 ?_
        refine w_iload_n 3 dX2_worstSet_48 rfl rfl rfl ?_
        obtain ⟨r14, s15, h16, h⟩ := h.bd
        refine k_J6_bitCount_0f7a4 ml_RX2_90 (Nat.le_of_ble_eq_true rfl) ⟨Nat.le_of_ble_eq_true rfl, Nat.le_of_ble_eq_true rfl⟩ dX2_worstSet_49 rfl h16 ?_
        refine w_icmp_ge (tgt := 57) dX2_worstSet_52 (by decide) rfl (fun q => ?_) (fun q => ?_)
        · have h := h.tt q
          exact w_sub [1, 2, 3, 4] rfl (b_X2_worstSet_57 K8 hK8 v1 v2 v3 s15 h)
        · have h := h.ff q
          exact w_sub [1, 2, 4] rfl (b_X2_worstSet_55 K8 hK8 v1 v3 s15 h)
def f_X2_worstSet (p0 : Int32) (σ : St) : Option (Int32 × St) :=
  bd (f_X2_reckon σ) fun _ s2 =>
  itr (g_X2_worstSet_8) FU (p0, (0 : Int32), (1 : Int32), s2)
theorem e_X2_worstSet {Γ : CX} (p0 : Int32) (σ : St) (h : RR vI Γ (f_X2_worstSet p0 σ)) : WW Γ cX2_worstSet 5 RX2 (some .int) rX2_worstSet σ 0 [(0, .ref (xd Γ 31)), (1, .int p0)] [] := by
  unfold f_X2_worstSet at h
  refine w_aload_n 0 dX2_worstSet_0 rfl rfl rfl ?_
  obtain ⟨r1, s2, h3, h⟩ := h.bd
  refine k_X2_reckon ml_RX2_80 (Nat.le_of_ble_eq_true rfl) ⟨Nat.le_of_ble_eq_true rfl, Nat.le_of_ble_eq_true rfl⟩ dX2_worstSet_1 rfl h3 ?_
  refine w_iconst (0 : Int32) dX2_worstSet_4 ic_iconst_0 rfl ?_
  refine w_istore_n [(2, .int (0 : Int32)), (0, .ref (xd Γ 31)), (1, .int p0)] dX2_worstSet_5 rfl (by decide) rfl rfl ?_
  refine w_iconst (1 : Int32) dX2_worstSet_6 ic_iconst_1 rfl ?_
  refine w_istore_n [(3, .int (1 : Int32)), (2, .int (0 : Int32)), (0, .ref (xd Γ 31)), (1, .int p0)] dX2_worstSet_7 rfl (by decide) rfl rfl ?_
  exact w_sub [2, 3, 1, 0] rfl (l_X2_worstSet_8 FU p0 (0 : Int32) (1 : Int32) s2 h)
theorem c_X2_worstSet {l : Launch} {D : va_G} {cy : Nat → ClassId} {ad : Nat → Nat} {p0 : Int32} {σ σ' : St} {r : Int32} (hf : f_X2_worstSet p0 σ = some (r, σ')) : CT l D cy ad yX2_worstSet cX2_worstSet 5 (some .int) rX2_worstSet [.ref (ad 31), .int p0] σ (some (.int r)) σ' :=
  ct_of (by decide) (Nat.le_of_ble_eq_true rfl) (fun p e s m args below meth c A => e_X2_worstSet (Γ := (p, l, e, rX2_worstSet, s, m, args, below, meth, c, D, cy, ad, A, 0, 0, MQ below (QC D cy ad (some (.int r)) σ' A) args s 0 0 A)) p0 σ ⟨_, hf, rfl⟩)
theorem k_X2_worstSet {Γ : CX} {cc : ByteArray} {nL : Nat} {own : String} {ret : Option FieldType} {rm : Room} {σ σ' : St} {pc pc' idx : Nat} {lv : List (Nat × Value)} {rest : List Value} {p0 : Int32} {r : Int32} (hl : Cond.methodLink own idx yX2_worstSet ∈ TB) (hw : (rest.map fun v => v.category).sum ≤ 8) (hR : rX2_worstSet.frames + 1 ≤ rm.frames ∧ 8 + (5 + 11) + rX2_worstSet.locals ≤ rm.locals) (hd : decode cc pc = .ok (.invokevirtual idx, 3)) (hp : pc + 3 = pc') (hf : f_X2_worstSet p0 σ = some (r, σ')) (h : WW Γ cc nL own ret rm σ' pc' lv (.int r :: rest)) : WW Γ cc nL own ret rm σ pc lv (.int p0 :: .ref (xd Γ 31) :: rest) :=
  w_callV (nn := 1) (i := 31) (As := [.int p0]) (v := (some (.int r))) (T := TX2) (N := 6) (c_X2_worstSet hf) hl mw_X2_worstSet (by decide +kernel) ⟨rfl, rfl⟩ hR (lt_lit (by decide)) cel_31 rfl rfl hw hd rfl hp h
/-! WarByHours.Course.countWays (I)I -/
def rX2_countWays : Room := { frames := 6, cells := 0, slots := 0, locals := 138 }
def f_X2_countWays_31 (K8 : Int32 × Int32 × Int32 × St → Option (Int32 × St)) (v1 : Int32) (v2 : Int32) (v3 : Int32) (σ : St) : Option (Int32 × St) :=
  bnd (v3 + (1 : Int32)) fun x1 =>
  K8 (v1, v2, x1, σ)
theorem b_X2_countWays_31 {Γ : CX} (K8 : Int32 × Int32 × Int32 × St → Option (Int32 × St)) (hK8 : ∀ (v1 : Int32) (v2 : Int32) (v3 : Int32) (σ : St), RR vI Γ (K8 (v1, v2, v3, σ)) → WW Γ cX2_countWays 4 RX2 (some .int) rX2_countWays σ 8 [(0, .ref (xd Γ 31)), (1, .int v1), (2, .int v2), (3, .int v3)] []) (v1 : Int32) (v2 : Int32) (v3 : Int32) (σ : St) (h : RR vI Γ (f_X2_countWays_31 K8 v1 v2 v3 σ)) : WW Γ cX2_countWays 4 RX2 (some .int) rX2_countWays σ 31 [(0, .ref (xd Γ 31)), (1, .int v1), (2, .int v2), (3, .int v3)] [] := by
  unfold f_X2_countWays_31 at h
  obtain ⟨x1, ex1⟩ : ∃ y : Int32, y = (v3 + (1 : Int32)) := ⟨_, rfl⟩
  replace h := h.bnd ex1
  refine w_iinc 3 x1 [(3, .int x1), (0, .ref (xd Γ 31)), (1, .int v1), (2, .int v2)] dX2_countWays_31 rfl (by rw [ex1, ic_iconst_1]) (by decide) rfl rfl ?_
  clear ex1
  refine w_goto (tgt := 8) dX2_countWays_34 (by decide) ?_
  exact w_sub [1, 2, 3, 0] rfl (hK8 v1 v2 x1 σ h)
def g_X2_countWays_8 (K8 : Int32 × Int32 × Int32 × St → Option (Int32 × St)) (x : Int32 × Int32 × Int32 × St) : Option (Int32 × St) := match x with
  | (v1, v2, v3, σ) =>
  bd (f_X10_sets 1 σ) fun r1 s2 =>
  if r1 ≤ v3 then
    some (v2, s2)
  else
    bd (f_X2_reckonedWinner v3 s2) fun r4 s5 =>
    if r4 = v1 then
      bnd (v2 + (1 : Int32)) fun x7 =>
      f_X2_countWays_31 K8 v1 x7 v3 s5
    else
      f_X2_countWays_31 K8 v1 v2 v3 s5
theorem l_X2_countWays_8 {Γ : CX} : ∀ (n : Nat) (v1 : Int32) (v2 : Int32) (v3 : Int32) (σ : St), RR vI Γ (itr (g_X2_countWays_8) n (v1, v2, v3, σ)) → WW Γ cX2_countWays 4 RX2 (some .int) rX2_countWays σ 8 [(0, .ref (xd Γ 31)), (1, .int v1), (2, .int v2), (3, .int v3)] [] := by
  intro n
  induction n with
  | zero => intro v1 v2 v3 σ h; exact RR.no h
  | succ n hK8 =>
  intro v1 v2 v3 σ h
  have h : RR vI Γ (g_X2_countWays_8 (itr (g_X2_countWays_8) n) (v1, v2, v3, σ)) := h
  generalize itr (g_X2_countWays_8) n = K8 at h hK8
  unfold g_X2_countWays_8 at h
  dsimp only at h
  refine w_iload_n 3 dX2_countWays_8 rfl rfl rfl ?_
  refine w_aload_n 0 dX2_countWays_9 rfl rfl rfl ?_
  refine gf_RX2_24 dX2_countWays_10 rfl ?_
  obtain ⟨r1, s2, h3, h⟩ := h.bd
  refine k_X10_sets ml_RX2_83 (Nat.le_of_ble_eq_true rfl) ⟨Nat.le_of_ble_eq_true rfl, Nat.le_of_ble_eq_true rfl⟩ dX2_countWays_13 rfl h3 ?_
  refine w_icmp_ge (tgt := 37) dX2_countWays_16 (by decide) rfl (fun q => ?_) (fun q => ?_)
  · have h := h.tt q
    refine w_iload_n 2 dX2_countWays_37 rfl rfl rfl ?_
    exact w_ireturn dX2_countWays_38 h
  · have h := h.ff q
    refine w_aload_n 0 dX2_countWays_19 rfl rfl rfl ?_
    refine w_iload_n 3 dX2_countWays_20 rfl rfl rfl ?_
    obtain ⟨r4, s5, h6, h⟩ := h.bd
    refine k_X2_reckonedWinner ml_RX2_95 (Nat.le_of_ble_eq_true rfl) ⟨Nat.le_of_ble_eq_true rfl, Nat.le_of_ble_eq_true rfl⟩ dX2_countWays_21 rfl h6 ?_
    refine w_iload_n 1 dX2_countWays_24 rfl rfl rfl ?_
    refine w_icmp_ne (tgt := 31) dX2_countWays_25 (by decide) rfl (fun q => ?_) (fun q => ?_)
    · have h := h.ff q
      exact w_sub [0, 1, 2, 3] rfl (b_X2_countWays_31 K8 hK8 v1 v2 v3 s5 h)
    · have h := h.tt q
      obtain ⟨x7, ex7⟩ : ∃ y : Int32, y = (v2 + (1 : Int32)) := ⟨_, rfl⟩
      replace h := h.bnd ex7
      refine w_iinc 2 x7 [(2, .int x7), (0, .ref (xd Γ 31)), (1, .int v1), (3, .int v3)] dX2_countWays_28 rfl (by rw [ex7, ic_iconst_1]) (by decide) rfl rfl ?_
      clear ex7
      exact w_sub [1, 2, 0, 3] rfl (b_X2_countWays_31 K8 hK8 v1 x7 v3 s5 h)
def f_X2_countWays (p0 : Int32) (σ : St) : Option (Int32 × St) :=
  bd (f_X2_reckon σ) fun _ s2 =>
  itr (g_X2_countWays_8) FU (p0, (0 : Int32), (0 : Int32), s2)
theorem e_X2_countWays {Γ : CX} (p0 : Int32) (σ : St) (h : RR vI Γ (f_X2_countWays p0 σ)) : WW Γ cX2_countWays 4 RX2 (some .int) rX2_countWays σ 0 [(0, .ref (xd Γ 31)), (1, .int p0)] [] := by
  unfold f_X2_countWays at h
  refine w_aload_n 0 dX2_countWays_0 rfl rfl rfl ?_
  obtain ⟨r1, s2, h3, h⟩ := h.bd
  refine k_X2_reckon ml_RX2_80 (Nat.le_of_ble_eq_true rfl) ⟨Nat.le_of_ble_eq_true rfl, Nat.le_of_ble_eq_true rfl⟩ dX2_countWays_1 rfl h3 ?_
  refine w_iconst (0 : Int32) dX2_countWays_4 ic_iconst_0 rfl ?_
  refine w_istore_n [(2, .int (0 : Int32)), (0, .ref (xd Γ 31)), (1, .int p0)] dX2_countWays_5 rfl (by decide) rfl rfl ?_
  refine w_iconst (0 : Int32) dX2_countWays_6 ic_iconst_0 rfl ?_
  refine w_istore_n [(3, .int (0 : Int32)), (2, .int (0 : Int32)), (0, .ref (xd Γ 31)), (1, .int p0)] dX2_countWays_7 rfl (by decide) rfl rfl ?_
  exact w_sub [2, 3, 1, 0] rfl (l_X2_countWays_8 FU p0 (0 : Int32) (0 : Int32) s2 h)
theorem c_X2_countWays {l : Launch} {D : va_G} {cy : Nat → ClassId} {ad : Nat → Nat} {p0 : Int32} {σ σ' : St} {r : Int32} (hf : f_X2_countWays p0 σ = some (r, σ')) : CT l D cy ad yX2_countWays cX2_countWays 4 (some .int) rX2_countWays [.ref (ad 31), .int p0] σ (some (.int r)) σ' :=
  ct_of (by decide) (Nat.le_of_ble_eq_true rfl) (fun p e s m args below meth c A => e_X2_countWays (Γ := (p, l, e, rX2_countWays, s, m, args, below, meth, c, D, cy, ad, A, 0, 0, MQ below (QC D cy ad (some (.int r)) σ' A) args s 0 0 A)) p0 σ ⟨_, hf, rfl⟩)
theorem k_X2_countWays {Γ : CX} {cc : ByteArray} {nL : Nat} {own : String} {ret : Option FieldType} {rm : Room} {σ σ' : St} {pc pc' idx : Nat} {lv : List (Nat × Value)} {rest : List Value} {p0 : Int32} {r : Int32} (hl : Cond.methodLink own idx yX2_countWays ∈ TB) (hw : (rest.map fun v => v.category).sum ≤ 8) (hR : rX2_countWays.frames + 1 ≤ rm.frames ∧ 8 + (4 + 11) + rX2_countWays.locals ≤ rm.locals) (hd : decode cc pc = .ok (.invokevirtual idx, 3)) (hp : pc + 3 = pc') (hf : f_X2_countWays p0 σ = some (r, σ')) (h : WW Γ cc nL own ret rm σ' pc' lv (.int r :: rest)) : WW Γ cc nL own ret rm σ pc lv (.int p0 :: .ref (xd Γ 31) :: rest) :=
  w_callV (nn := 1) (i := 31) (As := [.int p0]) (v := (some (.int r))) (T := TX2) (N := 6) (c_X2_countWays hf) hl mw_X2_countWays (by decide +kernel) ⟨rfl, rfl⟩ hR (lt_lit (by decide)) cel_31 rfl rfl hw hd rfl hp h
/-! WarByHours.Course.idleTrains ()I -/
def rX2_idleTrains : Room := { frames := 6, cells := 0, slots := 0, locals := 138 }
def f_X2_idleTrains_38 (K8 : Int32 × Int32 × St → Option (Int32 × St)) (v1 : Int32) (v2 : Int32) (σ : St) : Option (Int32 × St) :=
  bnd (v2 + (1 : Int32)) fun x1 =>
  K8 (v1, x1, σ)
theorem b_X2_idleTrains_38 {Γ : CX} (K8 : Int32 × Int32 × St → Option (Int32 × St)) (hK8 : ∀ (v1 : Int32) (v2 : Int32) (σ : St), RR vI Γ (K8 (v1, v2, σ)) → WW Γ cX2_idleTrains 3 RX2 (some .int) rX2_idleTrains σ 8 [(0, .ref (xd Γ 31)), (1, .int v1), (2, .int v2)] []) (v1 : Int32) (v2 : Int32) (σ : St) (h : RR vI Γ (f_X2_idleTrains_38 K8 v1 v2 σ)) : WW Γ cX2_idleTrains 3 RX2 (some .int) rX2_idleTrains σ 38 [(0, .ref (xd Γ 31)), (1, .int v1), (2, .int v2)] [] := by
  unfold f_X2_idleTrains_38 at h
  obtain ⟨x1, ex1⟩ : ∃ y : Int32, y = (v2 + (1 : Int32)) := ⟨_, rfl⟩
  replace h := h.bnd ex1
  refine w_iinc 2 x1 [(2, .int x1), (0, .ref (xd Γ 31)), (1, .int v1)] dX2_idleTrains_38 rfl (by rw [ex1, ic_iconst_1]) (by decide) rfl rfl ?_
  clear ex1
  refine w_goto (tgt := 8) dX2_idleTrains_41 (by decide) ?_
  exact w_sub [1, 2, 0] rfl (hK8 v1 x1 σ h)
def g_X2_idleTrains_8 (K8 : Int32 × Int32 × St → Option (Int32 × St)) (x : Int32 × Int32 × St) : Option (Int32 × St) := match x with
  | (v1, v2, σ) =>
  if (gf σ 3 3) ≤ v2 then
    some (v1, σ)
  else
    bd (f_X2_isIdle ((1 : Int32) <<< (v2 &&& 31)) σ) fun r1 s2 =>
    if r1 = 0 then
      f_X2_idleTrains_38 K8 v1 v2 s2
    else
      bnd ((v1 ||| ((1 : Int32) <<< (v2 &&& 31)))) fun x4 =>
      f_X2_idleTrains_38 K8 x4 v2 s2
theorem l_X2_idleTrains_8 {Γ : CX} : ∀ (n : Nat) (v1 : Int32) (v2 : Int32) (σ : St), RR vI Γ (itr (g_X2_idleTrains_8) n (v1, v2, σ)) → WW Γ cX2_idleTrains 3 RX2 (some .int) rX2_idleTrains σ 8 [(0, .ref (xd Γ 31)), (1, .int v1), (2, .int v2)] [] := by
  intro n
  induction n with
  | zero => intro v1 v2 σ h; exact RR.no h
  | succ n hK8 =>
  intro v1 v2 σ h
  have h : RR vI Γ (g_X2_idleTrains_8 (itr (g_X2_idleTrains_8) n) (v1, v2, σ)) := h
  generalize itr (g_X2_idleTrains_8) n = K8 at h hK8
  unfold g_X2_idleTrains_8 at h
  dsimp only at h
  refine w_iload_n 2 dX2_idleTrains_8 rfl rfl rfl ?_
  refine w_aload_n 0 dX2_idleTrains_9 rfl rfl rfl ?_
  refine gf_RX2_24 dX2_idleTrains_10 rfl ?_
  refine gf_RX2_98 (i := 1) (isW_lit (by decide)) dX2_idleTrains_13 rfl ?_
  refine gf_RX2_102 (i := 3) (isT_lit (by decide)) dX2_idleTrains_16 rfl ?_
  refine w_icmp_ge (tgt := 44) dX2_idleTrains_19 (by decide) rfl (fun q => ?_) (fun q => ?_)
  · have h := h.tt q
    refine w_iload_n 1 dX2_idleTrains_44 rfl rfl rfl ?_
    exact w_ireturn dX2_idleTrains_45 h
  · have h := h.ff q
    refine w_aload_n 0 dX2_idleTrains_22 rfl rfl rfl ?_
    refine w_iconst (1 : Int32) dX2_idleTrains_23 ic_iconst_1 rfl ?_
    refine w_iload_n 2 dX2_idleTrains_24 rfl rfl rfl ?_
    refine w_ishl dX2_idleTrains_25 rfl ?_
    obtain ⟨r1, s2, h3, h⟩ := h.bd
    refine k_X2_isIdle ml_RX2_107 (Nat.le_of_ble_eq_true rfl) ⟨Nat.le_of_ble_eq_true rfl, Nat.le_of_ble_eq_true rfl⟩ dX2_idleTrains_26 rfl h3 ?_
    refine w_if_eq (tgt := 38) dX2_idleTrains_29 (by decide) rfl (fun q => ?_) (fun q => ?_)
    · have h := h.tt q
      exact w_sub [0, 1, 2] rfl (b_X2_idleTrains_38 K8 hK8 v1 v2 s2 h)
    · have h := h.ff q
      refine w_iload_n 1 dX2_idleTrains_32 rfl rfl rfl ?_
      refine w_iconst (1 : Int32) dX2_idleTrains_33 ic_iconst_1 rfl ?_
      refine w_iload_n 2 dX2_idleTrains_34 rfl rfl rfl ?_
      refine w_ishl dX2_idleTrains_35 rfl ?_
      refine w_ior dX2_idleTrains_36 rfl ?_
      refine w_nmI (fun x4 ex4 => ?_)
      replace h := h.bnd ex4
      clear ex4
      refine w_istore_n [(1, .int x4), (0, .ref (xd Γ 31)), (2, .int v2)] dX2_idleTrains_37 rfl (by decide) rfl rfl ?_
      exact w_sub [1, 0, 2] rfl (b_X2_idleTrains_38 K8 hK8 x4 v2 s2 h)
def f_X2_idleTrains (σ : St) : Option (Int32 × St) :=
  bd (f_X2_reckon σ) fun _ s2 =>
  itr (g_X2_idleTrains_8) FU ((0 : Int32), (0 : Int32), s2)
theorem e_X2_idleTrains {Γ : CX} (σ : St) (h : RR vI Γ (f_X2_idleTrains σ)) : WW Γ cX2_idleTrains 3 RX2 (some .int) rX2_idleTrains σ 0 [(0, .ref (xd Γ 31))] [] := by
  unfold f_X2_idleTrains at h
  refine w_aload_n 0 dX2_idleTrains_0 rfl rfl rfl ?_
  obtain ⟨r1, s2, h3, h⟩ := h.bd
  refine k_X2_reckon ml_RX2_80 (Nat.le_of_ble_eq_true rfl) ⟨Nat.le_of_ble_eq_true rfl, Nat.le_of_ble_eq_true rfl⟩ dX2_idleTrains_1 rfl h3 ?_
  refine w_iconst (0 : Int32) dX2_idleTrains_4 ic_iconst_0 rfl ?_
  refine w_istore_n [(1, .int (0 : Int32)), (0, .ref (xd Γ 31))] dX2_idleTrains_5 rfl (by decide) rfl rfl ?_
  refine w_iconst (0 : Int32) dX2_idleTrains_6 ic_iconst_0 rfl ?_
  refine w_istore_n [(2, .int (0 : Int32)), (1, .int (0 : Int32)), (0, .ref (xd Γ 31))] dX2_idleTrains_7 rfl (by decide) rfl rfl ?_
  exact w_sub [2, 1, 0] rfl (l_X2_idleTrains_8 FU (0 : Int32) (0 : Int32) s2 h)
theorem c_X2_idleTrains {l : Launch} {D : va_G} {cy : Nat → ClassId} {ad : Nat → Nat}  {σ σ' : St} {r : Int32} (hf : f_X2_idleTrains σ = some (r, σ')) : CT l D cy ad yX2_idleTrains cX2_idleTrains 3 (some .int) rX2_idleTrains [.ref (ad 31)] σ (some (.int r)) σ' :=
  ct_of (by decide) (Nat.le_of_ble_eq_true rfl) (fun p e s m args below meth c A => e_X2_idleTrains (Γ := (p, l, e, rX2_idleTrains, s, m, args, below, meth, c, D, cy, ad, A, 0, 0, MQ below (QC D cy ad (some (.int r)) σ' A) args s 0 0 A)) σ ⟨_, hf, rfl⟩)
theorem k_X2_idleTrains {Γ : CX} {cc : ByteArray} {nL : Nat} {own : String} {ret : Option FieldType} {rm : Room} {σ σ' : St} {pc pc' idx : Nat} {lv : List (Nat × Value)} {rest : List Value}  {r : Int32} (hl : Cond.methodLink own idx yX2_idleTrains ∈ TB) (hw : (rest.map fun v => v.category).sum ≤ 8) (hR : rX2_idleTrains.frames + 1 ≤ rm.frames ∧ 8 + (3 + 11) + rX2_idleTrains.locals ≤ rm.locals) (hd : decode cc pc = .ok (.invokevirtual idx, 3)) (hp : pc + 3 = pc') (hf : f_X2_idleTrains σ = some (r, σ')) (h : WW Γ cc nL own ret rm σ' pc' lv (.int r :: rest)) : WW Γ cc nL own ret rm σ pc lv (.ref (xd Γ 31) :: rest) :=
  w_callV (nn := 0) (i := 31) (As := []) (v := (some (.int r))) (T := TX2) (N := 6) (c_X2_idleTrains hf) hl mw_X2_idleTrains (by decide +kernel) ⟨rfl, rfl⟩ hR (lt_lit (by decide)) cel_31 rfl rfl hw hd rfl hp h
/-! WarByHours.Course.winningParts (I)J -/
def rX2_winningParts : Room := { frames := 6, cells := 0, slots := 0, locals := 138 }
def f_X2_winningParts_43 (K9 : Int32 × Int64 × Int32 × St → Option (Int64 × St)) (v1 : Int32) (v2 : Int64) (v4 : Int32) (σ : St) : Option (Int64 × St) :=
  bnd (v4 + (1 : Int32)) fun x1 =>
  K9 (v1, v2, x1, σ)
theorem b_X2_winningParts_43 {Γ : CX} (K9 : Int32 × Int64 × Int32 × St → Option (Int64 × St)) (hK9 : ∀ (v1 : Int32) (v2 : Int64) (v4 : Int32) (σ : St), RR vL Γ (K9 (v1, v2, v4, σ)) → WW Γ cX2_winningParts 5 RX2 (some .long) rX2_winningParts σ 9 [(0, .ref (xd Γ 31)), (1, .int v1), (2, .long v2), (4, .int v4)] []) (v1 : Int32) (v2 : Int64) (v4 : Int32) (σ : St) (h : RR vL Γ (f_X2_winningParts_43 K9 v1 v2 v4 σ)) : WW Γ cX2_winningParts 5 RX2 (some .long) rX2_winningParts σ 43 [(0, .ref (xd Γ 31)), (1, .int v1), (2, .long v2), (4, .int v4)] [] := by
  unfold f_X2_winningParts_43 at h
  obtain ⟨x1, ex1⟩ : ∃ y : Int32, y = (v4 + (1 : Int32)) := ⟨_, rfl⟩
  replace h := h.bnd ex1
  refine w_iinc 3 x1 [(4, .int x1), (0, .ref (xd Γ 31)), (1, .int v1), (2, .long v2)] dX2_winningParts_43 rfl (by rw [ex1, ic_iconst_1]) (by decide) rfl rfl ?_
  clear ex1
  refine w_goto (tgt := 9) dX2_winningParts_46 (by decide) ?_
  exact w_sub [1, 2, 3, 0] rfl (hK9 v1 v2 x1 σ h)
def g_X2_winningParts_9 (K9 : Int32 × Int64 × Int32 × St → Option (Int64 × St)) (x : Int32 × Int64 × Int32 × St) : Option (Int64 × St) := match x with
  | (v1, v2, v4, σ) =>
  bd (f_X10_sets 1 σ) fun r1 s2 =>
  if r1 ≤ v4 then
    some (v2, s2)
  else
    bd (f_X2_reckonedWinner v4 s2) fun r4 s5 =>
    if r4 = v1 then
      bd (f_X1_delayParts 1 v4 s5) fun r7 s8 =>
      bnd ((v2 + r7)) fun x10 =>
      f_X2_winningParts_43 K9 v1 x10 v4 s8
    else
      f_X2_winningParts_43 K9 v1 v2 v4 s5
theorem l_X2_winningParts_9 {Γ : CX} : ∀ (n : Nat) (v1 : Int32) (v2 : Int64) (v4 : Int32) (σ : St), RR vL Γ (itr (g_X2_winningParts_9) n (v1, v2, v4, σ)) → WW Γ cX2_winningParts 5 RX2 (some .long) rX2_winningParts σ 9 [(0, .ref (xd Γ 31)), (1, .int v1), (2, .long v2), (4, .int v4)] [] := by
  intro n
  induction n with
  | zero => intro v1 v2 v4 σ h; exact RR.no h
  | succ n hK9 =>
  intro v1 v2 v4 σ h
  have h : RR vL Γ (g_X2_winningParts_9 (itr (g_X2_winningParts_9) n) (v1, v2, v4, σ)) := h
  generalize itr (g_X2_winningParts_9) n = K9 at h hK9
  unfold g_X2_winningParts_9 at h
  dsimp only at h
  refine w_iload 3 dX2_winningParts_9 rfl rfl ?_
  refine w_aload_n 0 dX2_winningParts_11 rfl rfl rfl ?_
  refine gf_RX2_24 dX2_winningParts_12 rfl ?_
  obtain ⟨r1, s2, h3, h⟩ := h.bd
  refine k_X10_sets ml_RX2_83 (Nat.le_of_ble_eq_true rfl) ⟨Nat.le_of_ble_eq_true rfl, Nat.le_of_ble_eq_true rfl⟩ dX2_winningParts_15 rfl h3 ?_
  refine w_icmp_ge (tgt := 49) dX2_winningParts_18 (by decide) rfl (fun q => ?_) (fun q => ?_)
  · have h := h.tt q
    refine w_lload_n 2 dX2_winningParts_49 rfl rfl rfl ?_
    exact w_lreturn dX2_winningParts_50 h
  · have h := h.ff q
    refine w_aload_n 0 dX2_winningParts_21 rfl rfl rfl ?_
    refine w_iload 3 dX2_winningParts_22 rfl rfl ?_
    obtain ⟨r4, s5, h6, h⟩ := h.bd
    refine k_X2_reckonedWinner ml_RX2_95 (Nat.le_of_ble_eq_true rfl) ⟨Nat.le_of_ble_eq_true rfl, Nat.le_of_ble_eq_true rfl⟩ dX2_winningParts_24 rfl h6 ?_
    refine w_iload_n 1 dX2_winningParts_27 rfl rfl rfl ?_
    refine w_icmp_ne (tgt := 43) dX2_winningParts_28 (by decide) rfl (fun q => ?_) (fun q => ?_)
    · have h := h.ff q
      exact w_sub [0, 1, 2, 3] rfl (b_X2_winningParts_43 K9 hK9 v1 v2 v4 s5 h)
    · have h := h.tt q
      refine w_lload_n 2 dX2_winningParts_31 rfl rfl rfl ?_
      refine w_aload_n 0 dX2_winningParts_32 rfl rfl rfl ?_
      refine gf_RX2_24 dX2_winningParts_33 rfl ?_
      refine w_iload 3 dX2_winningParts_36 rfl rfl ?_
      obtain ⟨r7, s8, h9, h⟩ := h.bd
      refine k_X1_delayParts ml_RX2_110 (Nat.le_of_ble_eq_true rfl) ⟨Nat.le_of_ble_eq_true rfl, Nat.le_of_ble_eq_true rfl⟩ dX2_winningParts_38 rfl h9 ?_
      refine w_ladd dX2_winningParts_41 rfl ?_
      refine w_nmL (fun x10 ex10 => ?_)
      replace h := h.bnd ex10
      clear ex10
      refine w_lstore_n [(2, .long x10), (0, .ref (xd Γ 31)), (1, .int v1), (4, .int v4)] dX2_winningParts_42 rfl (by decide) rfl rfl ?_
      exact w_sub [1, 2, 0, 3] rfl (b_X2_winningParts_43 K9 hK9 v1 x10 v4 s8 h)
def f_X2_winningParts (p0 : Int32) (σ : St) : Option (Int64 × St) :=
  bd (f_X2_reckon σ) fun _ s2 =>
  itr (g_X2_winningParts_9) FU (p0, (0 : Int64), (0 : Int32), s2)
theorem e_X2_winningParts {Γ : CX} (p0 : Int32) (σ : St) (h : RR vL Γ (f_X2_winningParts p0 σ)) : WW Γ cX2_winningParts 5 RX2 (some .long) rX2_winningParts σ 0 [(0, .ref (xd Γ 31)), (1, .int p0)] [] := by
  unfold f_X2_winningParts at h
  refine w_aload_n 0 dX2_winningParts_0 rfl rfl rfl ?_
  obtain ⟨r1, s2, h3, h⟩ := h.bd
  refine k_X2_reckon ml_RX2_80 (Nat.le_of_ble_eq_true rfl) ⟨Nat.le_of_ble_eq_true rfl, Nat.le_of_ble_eq_true rfl⟩ dX2_winningParts_1 rfl h3 ?_
  refine w_lconst (0 : Int64) dX2_winningParts_4 rfl rfl ?_
  refine w_lstore_n [(2, .long (0 : Int64)), (0, .ref (xd Γ 31)), (1, .int p0)] dX2_winningParts_5 rfl (by decide) rfl rfl ?_
  refine w_iconst (0 : Int32) dX2_winningParts_6 ic_iconst_0 rfl ?_
  refine w_istore [(4, .int (0 : Int32)), (2, .long (0 : Int64)), (0, .ref (xd Γ 31)), (1, .int p0)] dX2_winningParts_7 (by decide) rfl rfl ?_
  exact w_sub [2, 3, 1, 0] rfl (l_X2_winningParts_9 FU p0 (0 : Int64) (0 : Int32) s2 h)
theorem c_X2_winningParts {l : Launch} {D : va_G} {cy : Nat → ClassId} {ad : Nat → Nat} {p0 : Int32} {σ σ' : St} {r : Int64} (hf : f_X2_winningParts p0 σ = some (r, σ')) : CT l D cy ad yX2_winningParts cX2_winningParts 5 (some .long) rX2_winningParts [.ref (ad 31), .int p0] σ (some (.long r)) σ' :=
  ct_of (by decide) (Nat.le_of_ble_eq_true rfl) (fun p e s m args below meth c A => e_X2_winningParts (Γ := (p, l, e, rX2_winningParts, s, m, args, below, meth, c, D, cy, ad, A, 0, 0, MQ below (QC D cy ad (some (.long r)) σ' A) args s 0 0 A)) p0 σ ⟨_, hf, rfl⟩)
theorem k_X2_winningParts {Γ : CX} {cc : ByteArray} {nL : Nat} {own : String} {ret : Option FieldType} {rm : Room} {σ σ' : St} {pc pc' idx : Nat} {lv : List (Nat × Value)} {rest : List Value} {p0 : Int32} {r : Int64} (hl : Cond.methodLink own idx yX2_winningParts ∈ TB) (hw : (rest.map fun v => v.category).sum ≤ 8) (hR : rX2_winningParts.frames + 1 ≤ rm.frames ∧ 8 + (5 + 11) + rX2_winningParts.locals ≤ rm.locals) (hd : decode cc pc = .ok (.invokevirtual idx, 3)) (hp : pc + 3 = pc') (hf : f_X2_winningParts p0 σ = some (r, σ')) (h : WW Γ cc nL own ret rm σ' pc' lv (.long r :: rest)) : WW Γ cc nL own ret rm σ pc lv (.int p0 :: .ref (xd Γ 31) :: rest) :=
  w_callV (nn := 1) (i := 31) (As := [.int p0]) (v := (some (.long r))) (T := TX2) (N := 6) (c_X2_winningParts hf) hl mw_X2_winningParts (by decide +kernel) ⟨rfl, rfl⟩ hR (lt_lit (by decide)) cel_31 rfl rfl hw hd rfl hp h
/-! WarByHours.Fares.enoughParts (I)J -/
def rX3_enoughParts : Room := { frames := 4, cells := 0, slots := 0, locals := 92 }
def f_X3_enoughParts_31 (k0 : Int64) (σ : St) : Option (Int64 × St) :=
  some (k0, σ)
theorem b_X3_enoughParts_31 {Γ : CX} (k0 : Int64) (σ : St) (h : RR vL Γ (f_X3_enoughParts_31 k0 σ)) : WW Γ cX3_enoughParts 3 RX3 (some .long) rX3_enoughParts σ 31 [] [.long k0] := by
  unfold f_X3_enoughParts_31 at h
  exact w_lreturn dX3_enoughParts_31 h
def f_X3_enoughParts (p0 : Int32) (σ : St) : Option (Int64 × St) :=
  bd (f_X3_takeParts p0 σ) fun _ s2 =>
  bd (f_X10_trainsOf 1 p0 s2) fun r4 s5 =>
  if (512 : Int32) ≤ r4 then
    f_X3_enoughParts_31 (0 : Int64) s5
  else
    gd (inb r4 (ln 39)) <|
    f_X3_enoughParts_31 (gj s5 39 r4.toNatClampNeg) s5
theorem e_X3_enoughParts {Γ : CX} (p0 : Int32) (σ : St) (h : RR vL Γ (f_X3_enoughParts p0 σ)) : WW Γ cX3_enoughParts 3 RX3 (some .long) rX3_enoughParts σ 0 [(0, .ref (xd Γ 36)), (1, .int p0)] [] := by
  unfold f_X3_enoughParts at h
  refine w_aload_n 0 dX3_enoughParts_0 rfl rfl rfl ?_
  refine w_iload_n 1 dX3_enoughParts_1 rfl rfl rfl ?_
  obtain ⟨r1, s2, h3, h⟩ := h.bd
  refine k_X3_takeParts ml_RX3_40 (Nat.le_of_ble_eq_true rfl) ⟨Nat.le_of_ble_eq_true rfl, Nat.le_of_ble_eq_true rfl⟩ dX3_enoughParts_2 rfl h3 ?_
  refine w_aload_n 0 dX3_enoughParts_5 rfl rfl rfl ?_
  refine gf_RX3_32 dX3_enoughParts_6 rfl ?_
  refine w_iload_n 1 dX3_enoughParts_9 rfl rfl rfl ?_
  obtain ⟨r4, s5, h6, h⟩ := h.bd
  refine k_X10_trainsOf ml_RX3_44 (Nat.le_of_ble_eq_true rfl) ⟨Nat.le_of_ble_eq_true rfl, Nat.le_of_ble_eq_true rfl⟩ dX3_enoughParts_10 rfl h6 ?_
  refine w_istore_n [(2, .int r4), (0, .ref (xd Γ 36)), (1, .int p0)] dX3_enoughParts_13 rfl (by decide) rfl rfl ?_
  refine w_iload_n 0 dX3_enoughParts_14 rfl rfl rfl ?_
  refine w_sipush (512 : Int32) dX3_enoughParts_15 ic_sipush_512 rfl ?_
  refine w_icmp_ge (tgt := 30) dX3_enoughParts_18 (by decide) rfl (fun q => ?_) (fun q => ?_)
  · have h := h.tt q
    refine w_lconst (0 : Int64) dX3_enoughParts_30 rfl rfl ?_
    exact w_sub [] rfl (b_X3_enoughParts_31 (0 : Int64) s5 h)
  · have h := h.ff q
    refine w_aload_n 1 dX3_enoughParts_21 rfl rfl rfl ?_
    refine gf_RX3_18 dX3_enoughParts_22 rfl ?_
    refine w_iload_n 0 dX3_enoughParts_25 rfl rfl rfl ?_
    obtain ⟨hi7, h⟩ := h.gd
    refine w_lald (i := 39) (lt_lit (by decide)) rfl hi7 dX3_enoughParts_26 rfl ?_
    refine w_goto (tgt := 31) dX3_enoughParts_27 (by decide) ?_
    exact w_sub [] rfl (b_X3_enoughParts_31 (gj s5 39 r4.toNatClampNeg) s5 h)
theorem c_X3_enoughParts {l : Launch} {D : va_G} {cy : Nat → ClassId} {ad : Nat → Nat} {p0 : Int32} {σ σ' : St} {r : Int64} (hf : f_X3_enoughParts p0 σ = some (r, σ')) : CT l D cy ad yX3_enoughParts cX3_enoughParts 3 (some .long) rX3_enoughParts [.ref (ad 36), .int p0] σ (some (.long r)) σ' :=
  ct_of (by decide) (Nat.le_of_ble_eq_true rfl) (fun p e s m args below meth c A => e_X3_enoughParts (Γ := (p, l, e, rX3_enoughParts, s, m, args, below, meth, c, D, cy, ad, A, 0, 0, MQ below (QC D cy ad (some (.long r)) σ' A) args s 0 0 A)) p0 σ ⟨_, hf, rfl⟩)
theorem k_X3_enoughParts {Γ : CX} {cc : ByteArray} {nL : Nat} {own : String} {ret : Option FieldType} {rm : Room} {σ σ' : St} {pc pc' idx : Nat} {lv : List (Nat × Value)} {rest : List Value} {p0 : Int32} {r : Int64} (hl : Cond.methodLink own idx yX3_enoughParts ∈ TB) (hw : (rest.map fun v => v.category).sum ≤ 8) (hR : rX3_enoughParts.frames + 1 ≤ rm.frames ∧ 8 + (3 + 11) + rX3_enoughParts.locals ≤ rm.locals) (hd : decode cc pc = .ok (.invokevirtual idx, 3)) (hp : pc + 3 = pc') (hf : f_X3_enoughParts p0 σ = some (r, σ')) (h : WW Γ cc nL own ret rm σ' pc' lv (.long r :: rest)) : WW Γ cc nL own ret rm σ pc lv (.int p0 :: .ref (xd Γ 36) :: rest) :=
  w_callV (nn := 1) (i := 36) (As := [.int p0]) (v := (some (.long r))) (T := TX3) (N := 8) (c_X3_enoughParts hf) hl mw_X3_enoughParts (by decide +kernel) ⟨rfl, rfl⟩ hR (lt_lit (by decide)) cel_36 rfl rfl hw hd rfl hp h
/-! WarByHours.Fares.answeredGood (II)I -/
def rX3_answeredGood : Room := { frames := 6, cells := 0, slots := 0, locals := 138 }
def f_X3_answeredGood_75 (K29 : Int32 × Int32 × Int32 × Int32 × St → Option (Int32 × St)) (v2 : Int32) (v3 : Int32) (v4 : Int32) (v5 : Int32) (σ : St) : Option (Int32 × St) :=
  bnd (v5 + (1 : Int32)) fun x1 =>
  K29 (v2, v3, v4, x1, σ)
theorem b_X3_answeredGood_75 {Γ : CX} (K29 : Int32 × Int32 × Int32 × Int32 × St → Option (Int32 × St)) (hK29 : ∀ (v2 : Int32) (v3 : Int32) (v4 : Int32) (v5 : Int32) (σ : St), RR vI Γ (K29 (v2, v3, v4, v5, σ)) → WW Γ cX3_answeredGood 6 RX3 (some .int) rX3_answeredGood σ 29 [(0, .ref (xd Γ 36)), (2, .int v2), (3, .int v3), (4, .int v4), (5, .int v5)] []) (v2 : Int32) (v3 : Int32) (v4 : Int32) (v5 : Int32) (σ : St) (h : RR vI Γ (f_X3_answeredGood_75 K29 v2 v3 v4 v5 σ)) : WW Γ cX3_answeredGood 6 RX3 (some .int) rX3_answeredGood σ 75 [(0, .ref (xd Γ 36)), (2, .int v2), (3, .int v3), (4, .int v4), (5, .int v5)] [] := by
  unfold f_X3_answeredGood_75 at h
  obtain ⟨x1, ex1⟩ : ∃ y : Int32, y = (v5 + (1 : Int32)) := ⟨_, rfl⟩
  replace h := h.bnd ex1
  refine w_iinc 4 x1 [(5, .int x1), (0, .ref (xd Γ 36)), (2, .int v2), (3, .int v3), (4, .int v4)] dX3_answeredGood_75 rfl (by rw [ex1, ic_iconst_1]) (by decide) rfl rfl ?_
  clear ex1
  refine w_goto (tgt := 29) dX3_answeredGood_78 (by decide) ?_
  exact w_sub [1, 2, 3, 4, 0] rfl (hK29 v2 v3 v4 x1 σ h)
def g_X3_answeredGood_29 (K29 : Int32 × Int32 × Int32 × Int32 × St → Option (Int32 × St)) (x : Int32 × Int32 × Int32 × Int32 × St) : Option (Int32 × St) := match x with
  | (v2, v3, v4, v5, σ) =>
  bd (f_X10_sets 1 σ) fun r1 s2 =>
  if r1 ≤ v5 then
    some (v4, s2)
  else
    if (v5 &&& (v3 ^^^ (-1 : Int32))) = 0 then
      gd (inb v5 (ln 37)) <|
      if v2 < (gr s2 37 v5.toNatClampNeg) then
        f_X3_answeredGood_75 K29 v2 v3 v4 v5 s2
      else
        gd (inb v5 (ln 41)) <|
        bnd ((if (gr s2 41 v5.toNatClampNeg) < v4 then (gr s2 41 v5.toNatClampNeg) else v4)) fun x6 =>
        f_X3_answeredGood_75 K29 v2 v3 x6 v5 s2
    else
      f_X3_answeredGood_75 K29 v2 v3 v4 v5 s2
theorem l_X3_answeredGood_29 {Γ : CX} : ∀ (n : Nat) (v2 : Int32) (v3 : Int32) (v4 : Int32) (v5 : Int32) (σ : St), RR vI Γ (itr (g_X3_answeredGood_29) n (v2, v3, v4, v5, σ)) → WW Γ cX3_answeredGood 6 RX3 (some .int) rX3_answeredGood σ 29 [(0, .ref (xd Γ 36)), (2, .int v2), (3, .int v3), (4, .int v4), (5, .int v5)] [] := by
  intro n
  induction n with
  | zero => intro v2 v3 v4 v5 σ h; exact RR.no h
  | succ n hK29 =>
  intro v2 v3 v4 v5 σ h
  have h : RR vI Γ (g_X3_answeredGood_29 (itr (g_X3_answeredGood_29) n) (v2, v3, v4, v5, σ)) := h
  generalize itr (g_X3_answeredGood_29) n = K29 at h hK29
  unfold g_X3_answeredGood_29 at h
  dsimp only at h
  refine w_iload 4 dX3_answeredGood_29 rfl rfl ?_
  refine w_aload_n 0 dX3_answeredGood_31 rfl rfl rfl ?_
  refine gf_RX3_32 dX3_answeredGood_32 rfl ?_
  obtain ⟨r1, s2, h3, h⟩ := h.bd
  refine k_X10_sets ml_RX3_58 (Nat.le_of_ble_eq_true rfl) ⟨Nat.le_of_ble_eq_true rfl, Nat.le_of_ble_eq_true rfl⟩ dX3_answeredGood_35 rfl h3 ?_
  refine w_icmp_ge (tgt := 81) dX3_answeredGood_38 (by decide) rfl (fun q => ?_) (fun q => ?_)
  · have h := h.tt q
    refine w_iload 3 dX3_answeredGood_81 rfl rfl ?_
    exact w_ireturn dX3_answeredGood_83 h
  · have h := h.ff q
    refine w_iload 4 dX3_answeredGood_41 rfl rfl ?_
    refine w_iload_n 2 dX3_answeredGood_43 rfl rfl rfl ?_
    refine w_iconst (-1 : Int32) dX3_answeredGood_44 ic_iconst_m1 rfl ?_
    refine w_ixor dX3_answeredGood_45 rfl ?_
    refine w_iand dX3_answeredGood_46 rfl ?_
    refine w_if_ne (tgt := 75) dX3_answeredGood_47 (by decide) rfl (fun q => ?_) (fun q => ?_)
    · have h := h.ff q
      exact w_sub [0, 1, 2, 3, 4] rfl (b_X3_answeredGood_75 K29 hK29 v2 v3 v4 v5 s2 h)
    · have h := h.tt q
      refine w_aload_n 0 dX3_answeredGood_50 rfl rfl rfl ?_
      refine gf_RX3_9 dX3_answeredGood_51 rfl ?_
      refine w_iload 4 dX3_answeredGood_54 rfl rfl ?_
      obtain ⟨hi4, h⟩ := h.gd
      refine w_iald (i := 37) (lt_lit (by decide)) rfl hi4 dX3_answeredGood_56 rfl ?_
      refine w_iload_n 1 dX3_answeredGood_57 rfl rfl rfl ?_
      refine w_icmp_gt (tgt := 75) dX3_answeredGood_58 (by decide) rfl (fun q => ?_) (fun q => ?_)
      · have h := h.tt q
        exact w_sub [0, 1, 2, 3, 4] rfl (b_X3_answeredGood_75 K29 hK29 v2 v3 v4 v5 s2 h)
      · have h := h.ff q
        refine w_iload 3 dX3_answeredGood_61 rfl rfl ?_
        refine w_aload_n 0 dX3_answeredGood_63 rfl rfl rfl ?_
        refine gf_RX3_26 dX3_answeredGood_64 rfl ?_
        refine w_iload 4 dX3_answeredGood_67 rfl rfl ?_
        obtain ⟨hi5, h⟩ := h.gd
        refine w_iald (i := 41) (lt_lit (by decide)) rfl hi5 dX3_answeredGood_69 rfl ?_
        refine w_mmin ml_RX3_105 (Nat.le_of_ble_eq_true rfl) ⟨Nat.le_of_ble_eq_true rfl, Nat.le_of_ble_eq_true rfl⟩ dX3_answeredGood_70 rfl ?_
        refine w_nmI (fun x6 ex6 => ?_)
        replace h := h.bnd ex6
        clear ex6
        refine w_istore [(4, .int x6), (0, .ref (xd Γ 36)), (2, .int v2), (3, .int v3), (5, .int v5)] dX3_answeredGood_73 (by decide) rfl rfl ?_
        exact w_sub [1, 2, 3, 0, 4] rfl (b_X3_answeredGood_75 K29 hK29 v2 v3 x6 v5 s2 h)
def f_X3_answeredGood (p0 : Int32) (p1 : Int32) (σ : St) : Option (Int32 × St) :=
  bd (f_X2_reckon σ) fun _ s2 =>
  bd (f_X3_meetAnswers p0 p1 s2) fun _ s5 =>
  bd (f_X10_trainsOf 1 p0 s5) fun r7 s8 =>
  itr (g_X3_answeredGood_29) FU (p1, r7, (1000000 : Int32), (0 : Int32), s8)
theorem e_X3_answeredGood {Γ : CX} (p0 : Int32) (p1 : Int32) (σ : St) (h : RR vI Γ (f_X3_answeredGood p0 p1 σ)) : WW Γ cX3_answeredGood 6 RX3 (some .int) rX3_answeredGood σ 0 [(0, .ref (xd Γ 36)), (1, .int p0), (2, .int p1)] [] := by
  unfold f_X3_answeredGood at h
  refine w_aload_n 0 dX3_answeredGood_0 rfl rfl rfl ?_
  refine gf_RX3_36 dX3_answeredGood_1 rfl ?_
  obtain ⟨r1, s2, h3, h⟩ := h.bd
  refine k_X2_reckon ml_RX3_93 (Nat.le_of_ble_eq_true rfl) ⟨Nat.le_of_ble_eq_true rfl, Nat.le_of_ble_eq_true rfl⟩ dX3_answeredGood_4 rfl h3 ?_
  refine w_aload_n 0 dX3_answeredGood_7 rfl rfl rfl ?_
  refine w_iload_n 1 dX3_answeredGood_8 rfl rfl rfl ?_
  refine w_iload_n 2 dX3_answeredGood_9 rfl rfl rfl ?_
  obtain ⟨r4, s5, h6, h⟩ := h.bd
  refine k_X3_meetAnswers ml_RX3_101 (Nat.le_of_ble_eq_true rfl) ⟨Nat.le_of_ble_eq_true rfl, Nat.le_of_ble_eq_true rfl⟩ dX3_answeredGood_10 rfl h6 ?_
  refine w_aload_n 0 dX3_answeredGood_13 rfl rfl rfl ?_
  refine gf_RX3_32 dX3_answeredGood_14 rfl ?_
  refine w_iload_n 1 dX3_answeredGood_17 rfl rfl rfl ?_
  obtain ⟨r7, s8, h9, h⟩ := h.bd
  refine k_X10_trainsOf ml_RX3_44 (Nat.le_of_ble_eq_true rfl) ⟨Nat.le_of_ble_eq_true rfl, Nat.le_of_ble_eq_true rfl⟩ dX3_answeredGood_18 rfl h9 ?_
  refine w_istore_n [(3, .int r7), (0, .ref (xd Γ 36)), (1, .int p0), (2, .int p1)] dX3_answeredGood_21 rfl (by decide) rfl rfl ?_
  refine w_ldc (1000000 : Int32) dX3_answeredGood_22 cn_RX3_104 rfl ?_
  refine w_istore [(4, .int (1000000 : Int32)), (3, .int r7), (0, .ref (xd Γ 36)), (1, .int p0), (2, .int p1)] dX3_answeredGood_24 (by decide) rfl rfl ?_
  refine w_iconst (0 : Int32) dX3_answeredGood_26 ic_iconst_0 rfl ?_
  refine w_istore [(5, .int (0 : Int32)), (4, .int (1000000 : Int32)), (3, .int r7), (0, .ref (xd Γ 36)), (1, .int p0), (2, .int p1)] dX3_answeredGood_27 (by decide) rfl rfl ?_
  exact w_sub [3, 5, 2, 1, 0] rfl (l_X3_answeredGood_29 FU p1 r7 (1000000 : Int32) (0 : Int32) s8 h)
theorem c_X3_answeredGood {l : Launch} {D : va_G} {cy : Nat → ClassId} {ad : Nat → Nat} {p0 : Int32} {p1 : Int32} {σ σ' : St} {r : Int32} (hf : f_X3_answeredGood p0 p1 σ = some (r, σ')) : CT l D cy ad yX3_answeredGood cX3_answeredGood 6 (some .int) rX3_answeredGood [.ref (ad 36), .int p0, .int p1] σ (some (.int r)) σ' :=
  ct_of (by decide) (Nat.le_of_ble_eq_true rfl) (fun p e s m args below meth c A => e_X3_answeredGood (Γ := (p, l, e, rX3_answeredGood, s, m, args, below, meth, c, D, cy, ad, A, 0, 0, MQ below (QC D cy ad (some (.int r)) σ' A) args s 0 0 A)) p0 p1 σ ⟨_, hf, rfl⟩)
theorem k_X3_answeredGood {Γ : CX} {cc : ByteArray} {nL : Nat} {own : String} {ret : Option FieldType} {rm : Room} {σ σ' : St} {pc pc' idx : Nat} {lv : List (Nat × Value)} {rest : List Value} {p0 : Int32} {p1 : Int32} {r : Int32} (hl : Cond.methodLink own idx yX3_answeredGood ∈ TB) (hw : (rest.map fun v => v.category).sum ≤ 8) (hR : rX3_answeredGood.frames + 1 ≤ rm.frames ∧ 8 + (6 + 11) + rX3_answeredGood.locals ≤ rm.locals) (hd : decode cc pc = .ok (.invokevirtual idx, 3)) (hp : pc + 3 = pc') (hf : f_X3_answeredGood p0 p1 σ = some (r, σ')) (h : WW Γ cc nL own ret rm σ' pc' lv (.int r :: rest)) : WW Γ cc nL own ret rm σ pc lv (.int p1 :: .int p0 :: .ref (xd Γ 36) :: rest) :=
  w_callV (nn := 2) (i := 36) (As := [.int p0, .int p1]) (v := (some (.int r))) (T := TX3) (N := 8) (c_X3_answeredGood hf) hl mw_X3_answeredGood (by decide +kernel) ⟨rfl, rfl⟩ hR (lt_lit (by decide)) cel_36 rfl rfl hw hd rfl hp h
/-! WarByHours.Fares.countRests (I)I -/
def rX3_countRests : Room := { frames := 6, cells := 0, slots := 0, locals := 138 }
def f_X3_countRests_95 (K27 : Int32 × Int32 × Int32 × Int32 × St → Option (Int32 × St)) (v1 : Int32) (v2 : Int32) (v3 : Int32) (v4 : Int32) (σ : St) : Option (Int32 × St) :=
  bnd (v4 + (1 : Int32)) fun x1 =>
  K27 (v1, v2, v3, x1, σ)
theorem b_X3_countRests_95 {Γ : CX} (K27 : Int32 × Int32 × Int32 × Int32 × St → Option (Int32 × St)) (hK27 : ∀ (v1 : Int32) (v2 : Int32) (v3 : Int32) (v4 : Int32) (σ : St), RR vI Γ (K27 (v1, v2, v3, v4, σ)) → WW Γ cX3_countRests 6 RX3 (some .int) rX3_countRests σ 27 [(0, .ref (xd Γ 36)), (1, .int v1), (2, .int v2), (3, .int v3), (4, .int v4)] []) (v1 : Int32) (v2 : Int32) (v3 : Int32) (v4 : Int32) (σ : St) (h : RR vI Γ (f_X3_countRests_95 K27 v1 v2 v3 v4 σ)) : WW Γ cX3_countRests 6 RX3 (some .int) rX3_countRests σ 95 [(0, .ref (xd Γ 36)), (1, .int v1), (2, .int v2), (3, .int v3), (4, .int v4)] [] := by
  unfold f_X3_countRests_95 at h
  obtain ⟨x1, ex1⟩ : ∃ y : Int32, y = (v4 + (1 : Int32)) := ⟨_, rfl⟩
  replace h := h.bnd ex1
  refine w_iinc 4 x1 [(4, .int x1), (0, .ref (xd Γ 36)), (1, .int v1), (2, .int v2), (3, .int v3)] dX3_countRests_95 rfl (by rw [ex1, ic_iconst_1]) (by decide) rfl rfl ?_
  clear ex1
  refine w_goto (tgt := 27) dX3_countRests_98 (by decide) ?_
  exact w_sub [1, 2, 3, 4, 0] rfl (hK27 v1 v2 v3 x1 σ h)
def g_X3_countRests_27 (K27 : Int32 × Int32 × Int32 × Int32 × St → Option (Int32 × St)) (x : Int32 × Int32 × Int32 × Int32 × St) : Option (Int32 × St) := match x with
  | (v1, v2, v3, v4, σ) =>
  bd (f_X10_sets 1 σ) fun r1 s2 =>
  if r1 ≤ v4 then
    some (v3, s2)
  else
    bd (f_X2_goodAtEnd (0 : Int32) v4 s2) fun r4 s5 =>
    bd (f_X3_isBought v4 v2 v1 s5) fun r7 s8 =>
    if r7 = 0 then
      f_X3_countRests_95 K27 v1 v2 v3 v4 s8
    else
      gd (inb (v4 &&& v2) (ln 41)) <|
      if r4 = (gr s8 41 (v4 &&& v2).toNatClampNeg) then
        gd (inb (v4 &&& (v2 ^^^ (-1 : Int32))) (ln 42)) <|
        if r4 = (gr s8 42 (v4 &&& (v2 ^^^ (-1 : Int32))).toNatClampNeg) then
          bnd (v3 + (1 : Int32)) fun x12 =>
          f_X3_countRests_95 K27 v1 v2 x12 v4 s8
        else
          f_X3_countRests_95 K27 v1 v2 v3 v4 s8
      else
        f_X3_countRests_95 K27 v1 v2 v3 v4 s8
theorem l_X3_countRests_27 {Γ : CX} : ∀ (n : Nat) (v1 : Int32) (v2 : Int32) (v3 : Int32) (v4 : Int32) (σ : St), RR vI Γ (itr (g_X3_countRests_27) n (v1, v2, v3, v4, σ)) → WW Γ cX3_countRests 6 RX3 (some .int) rX3_countRests σ 27 [(0, .ref (xd Γ 36)), (1, .int v1), (2, .int v2), (3, .int v3), (4, .int v4)] [] := by
  intro n
  induction n with
  | zero => intro v1 v2 v3 v4 σ h; exact RR.no h
  | succ n hK27 =>
  intro v1 v2 v3 v4 σ h
  have h : RR vI Γ (g_X3_countRests_27 (itr (g_X3_countRests_27) n) (v1, v2, v3, v4, σ)) := h
  generalize itr (g_X3_countRests_27) n = K27 at h hK27
  unfold g_X3_countRests_27 at h
  dsimp only at h
  refine w_iload 4 dX3_countRests_27 rfl rfl ?_
  refine w_aload_n 0 dX3_countRests_29 rfl rfl rfl ?_
  refine gf_RX3_32 dX3_countRests_30 rfl ?_
  obtain ⟨r1, s2, h3, h⟩ := h.bd
  refine k_X10_sets ml_RX3_58 (Nat.le_of_ble_eq_true rfl) ⟨Nat.le_of_ble_eq_true rfl, Nat.le_of_ble_eq_true rfl⟩ dX3_countRests_33 rfl h3 ?_
  refine w_icmp_ge (tgt := 101) dX3_countRests_36 (by decide) rfl (fun q => ?_) (fun q => ?_)
  · have h := h.tt q
    refine w_iload_n 3 dX3_countRests_101 rfl rfl rfl ?_
    exact w_ireturn dX3_countRests_102 h
  · have h := h.ff q
    refine w_aload_n 0 dX3_countRests_39 rfl rfl rfl ?_
    refine gf_RX3_36 dX3_countRests_40 rfl ?_
    refine w_iconst (0 : Int32) dX3_countRests_43 ic_iconst_0 rfl ?_
    refine w_iload 4 dX3_countRests_44 rfl rfl ?_
    obtain ⟨r4, s5, h6, h⟩ := h.bd
    refine k_X2_goodAtEnd ml_RX3_98 (Nat.le_of_ble_eq_true rfl) ⟨Nat.le_of_ble_eq_true rfl, Nat.le_of_ble_eq_true rfl⟩ dX3_countRests_46 rfl h6 ?_
    refine w_istore [(5, .int r4), (0, .ref (xd Γ 36)), (1, .int v1), (2, .int v2), (3, .int v3), (4, .int v4)] dX3_countRests_49 (by decide) rfl rfl ?_
    refine w_aload_n 1 dX3_countRests_51 rfl rfl rfl ?_
    refine w_iload 5 dX3_countRests_52 rfl rfl ?_
    refine w_iload_n 3 dX3_countRests_54 rfl rfl rfl ?_
    refine w_iload_n 2 dX3_countRests_55 rfl rfl rfl ?_
    obtain ⟨r7, s8, h9, h⟩ := h.bd
    refine k_X3_isBought ml_RX3_110 (Nat.le_of_ble_eq_true rfl) ⟨Nat.le_of_ble_eq_true rfl, Nat.le_of_ble_eq_true rfl⟩ dX3_countRests_56 rfl h9 ?_
    refine w_if_eq (tgt := 95) dX3_countRests_59 (by decide) rfl (fun q => ?_) (fun q => ?_)
    · have h := h.tt q
      exact w_sub [1, 2, 3, 4, 5] rfl (b_X3_countRests_95 K27 hK27 v1 v2 v3 v4 s8 h)
    · have h := h.ff q
      refine w_iload 0 dX3_countRests_62 rfl rfl ?_
      refine w_aload_n 1 dX3_countRests_64 rfl rfl rfl ?_
      refine gf_RX3_26 dX3_countRests_65 rfl ?_
      refine w_iload 5 dX3_countRests_68 rfl rfl ?_
      refine w_iload_n 3 dX3_countRests_70 rfl rfl rfl ?_
      refine w_iand dX3_countRests_71 rfl ?_
      obtain ⟨hi10, h⟩ := h.gd
      refine w_iald (i := 41) (lt_lit (by decide)) rfl hi10 dX3_countRests_72 rfl ?_
      refine w_icmp_ne (tgt := 95) dX3_countRests_73 (by decide) rfl (fun q => ?_) (fun q => ?_)
      · have h := h.ff q
        exact w_sub [1, 2, 3, 4, 5] rfl (b_X3_countRests_95 K27 hK27 v1 v2 v3 v4 s8 h)
      · have h := h.tt q
        refine w_iload 0 dX3_countRests_76 rfl rfl ?_
        refine w_aload_n 1 dX3_countRests_78 rfl rfl rfl ?_
        refine gf_RX3_29 dX3_countRests_79 rfl ?_
        refine w_iload 5 dX3_countRests_82 rfl rfl ?_
        refine w_iload_n 3 dX3_countRests_84 rfl rfl rfl ?_
        refine w_iconst (-1 : Int32) dX3_countRests_85 ic_iconst_m1 rfl ?_
        refine w_ixor dX3_countRests_86 rfl ?_
        refine w_iand dX3_countRests_87 rfl ?_
        obtain ⟨hi11, h⟩ := h.gd
        refine w_iald (i := 42) (lt_lit (by decide)) rfl hi11 dX3_countRests_88 rfl ?_
        refine w_icmp_ne (tgt := 95) dX3_countRests_89 (by decide) rfl (fun q => ?_) (fun q => ?_)
        · have h := h.ff q
          exact w_sub [1, 2, 3, 4, 5] rfl (b_X3_countRests_95 K27 hK27 v1 v2 v3 v4 s8 h)
        · have h := h.tt q
          obtain ⟨x12, ex12⟩ : ∃ y : Int32, y = (v3 + (1 : Int32)) := ⟨_, rfl⟩
          replace h := h.bnd ex12
          refine w_iinc 4 x12 [(3, .int x12), (5, .int r4), (0, .ref (xd Γ 36)), (1, .int v1), (2, .int v2), (4, .int v4)] dX3_countRests_92 rfl (by rw [ex12, ic_iconst_1]) (by decide) rfl rfl ?_
          clear ex12
          exact w_sub [2, 3, 4, 0, 5] rfl (b_X3_countRests_95 K27 hK27 v1 v2 x12 v4 s8 h)
def f_X3_countRests (p0 : Int32) (σ : St) : Option (Int32 × St) :=
  bd (f_X2_reckon σ) fun _ s2 =>
  bd (f_X3_meetAnswers (0 : Int32) p0 s2) fun _ s5 =>
  bd (f_X10_trainsOf 1 (0 : Int32) s5) fun r7 s8 =>
  itr (g_X3_countRests_27) FU (p0, r7, (0 : Int32), (0 : Int32), s8)
theorem e_X3_countRests {Γ : CX} (p0 : Int32) (σ : St) (h : RR vI Γ (f_X3_countRests p0 σ)) : WW Γ cX3_countRests 6 RX3 (some .int) rX3_countRests σ 0 [(0, .ref (xd Γ 36)), (1, .int p0)] [] := by
  unfold f_X3_countRests at h
  refine w_aload_n 0 dX3_countRests_0 rfl rfl rfl ?_
  refine gf_RX3_36 dX3_countRests_1 rfl ?_
  obtain ⟨r1, s2, h3, h⟩ := h.bd
  refine k_X2_reckon ml_RX3_93 (Nat.le_of_ble_eq_true rfl) ⟨Nat.le_of_ble_eq_true rfl, Nat.le_of_ble_eq_true rfl⟩ dX3_countRests_4 rfl h3 ?_
  refine w_aload_n 0 dX3_countRests_7 rfl rfl rfl ?_
  refine w_iconst (0 : Int32) dX3_countRests_8 ic_iconst_0 rfl ?_
  refine w_iload_n 1 dX3_countRests_9 rfl rfl rfl ?_
  obtain ⟨r4, s5, h6, h⟩ := h.bd
  refine k_X3_meetAnswers ml_RX3_101 (Nat.le_of_ble_eq_true rfl) ⟨Nat.le_of_ble_eq_true rfl, Nat.le_of_ble_eq_true rfl⟩ dX3_countRests_10 rfl h6 ?_
  refine w_aload_n 0 dX3_countRests_13 rfl rfl rfl ?_
  refine gf_RX3_32 dX3_countRests_14 rfl ?_
  refine w_iconst (0 : Int32) dX3_countRests_17 ic_iconst_0 rfl ?_
  obtain ⟨r7, s8, h9, h⟩ := h.bd
  refine k_X10_trainsOf ml_RX3_44 (Nat.le_of_ble_eq_true rfl) ⟨Nat.le_of_ble_eq_true rfl, Nat.le_of_ble_eq_true rfl⟩ dX3_countRests_18 rfl h9 ?_
  refine w_istore_n [(2, .int r7), (0, .ref (xd Γ 36)), (1, .int p0)] dX3_countRests_21 rfl (by decide) rfl rfl ?_
  refine w_iconst (0 : Int32) dX3_countRests_22 ic_iconst_0 rfl ?_
  refine w_istore_n [(3, .int (0 : Int32)), (2, .int r7), (0, .ref (xd Γ 36)), (1, .int p0)] dX3_countRests_23 rfl (by decide) rfl rfl ?_
  refine w_iconst (0 : Int32) dX3_countRests_24 ic_iconst_0 rfl ?_
  refine w_istore [(4, .int (0 : Int32)), (3, .int (0 : Int32)), (2, .int r7), (0, .ref (xd Γ 36)), (1, .int p0)] dX3_countRests_25 (by decide) rfl rfl ?_
  exact w_sub [3, 4, 2, 1, 0] rfl (l_X3_countRests_27 FU p0 r7 (0 : Int32) (0 : Int32) s8 h)
theorem c_X3_countRests {l : Launch} {D : va_G} {cy : Nat → ClassId} {ad : Nat → Nat} {p0 : Int32} {σ σ' : St} {r : Int32} (hf : f_X3_countRests p0 σ = some (r, σ')) : CT l D cy ad yX3_countRests cX3_countRests 6 (some .int) rX3_countRests [.ref (ad 36), .int p0] σ (some (.int r)) σ' :=
  ct_of (by decide) (Nat.le_of_ble_eq_true rfl) (fun p e s m args below meth c A => e_X3_countRests (Γ := (p, l, e, rX3_countRests, s, m, args, below, meth, c, D, cy, ad, A, 0, 0, MQ below (QC D cy ad (some (.int r)) σ' A) args s 0 0 A)) p0 σ ⟨_, hf, rfl⟩)
theorem k_X3_countRests {Γ : CX} {cc : ByteArray} {nL : Nat} {own : String} {ret : Option FieldType} {rm : Room} {σ σ' : St} {pc pc' idx : Nat} {lv : List (Nat × Value)} {rest : List Value} {p0 : Int32} {r : Int32} (hl : Cond.methodLink own idx yX3_countRests ∈ TB) (hw : (rest.map fun v => v.category).sum ≤ 8) (hR : rX3_countRests.frames + 1 ≤ rm.frames ∧ 8 + (6 + 11) + rX3_countRests.locals ≤ rm.locals) (hd : decode cc pc = .ok (.invokevirtual idx, 3)) (hp : pc + 3 = pc') (hf : f_X3_countRests p0 σ = some (r, σ')) (h : WW Γ cc nL own ret rm σ' pc' lv (.int r :: rest)) : WW Γ cc nL own ret rm σ pc lv (.int p0 :: .ref (xd Γ 36) :: rest) :=
  w_callV (nn := 1) (i := 36) (As := [.int p0]) (v := (some (.int r))) (T := TX3) (N := 8) (c_X3_countRests hf) hl mw_X3_countRests (by decide +kernel) ⟨rfl, rfl⟩ hR (lt_lit (by decide)) cel_36 rfl rfl hw hd rfl hp h
/-! WarByHours.Fares.fitByChance (II)V -/
def rX3_fitByChance : Room := { frames := 4, cells := 0, slots := 0, locals := 92 }
def f_X3_fitByChance_77 (K34 : Int32 × Int32 × St → Option (Unit × St)) (v2 : Int32) (v3 : Int32) (k0 : Int32) (k1 : Int32) (σ : St) : Option (Unit × St) :=
  gd (inb k1 (ln 40)) <|
  bnd (sr σ 40 k1.toNatClampNeg (vp_nar .boolean k0)) fun s2 =>
  bnd (v3 + (1 : Int32)) fun x3 =>
  K34 (v2, x3, s2)
theorem b_X3_fitByChance_77 {Γ : CX} (K34 : Int32 × Int32 × St → Option (Unit × St)) (hK34 : ∀ (v2 : Int32) (v3 : Int32) (σ : St), RR vU Γ (K34 (v2, v3, σ)) → WW Γ cX3_fitByChance 4 RX3 none rX3_fitByChance σ 34 [(0, .ref (xd Γ 36)), (2, .int v2), (3, .int v3)] []) (v2 : Int32) (v3 : Int32) (k0 : Int32) (k1 : Int32) (σ : St) (h : RR vU Γ (f_X3_fitByChance_77 K34 v2 v3 k0 k1 σ)) : WW Γ cX3_fitByChance 4 RX3 none rX3_fitByChance σ 77 [(0, .ref (xd Γ 36)), (2, .int v2), (3, .int v3)] [.int k0, .int k1, .ref (xd Γ 40)] := by
  unfold f_X3_fitByChance_77 at h
  obtain ⟨hi1, h⟩ := h.gd
  refine w_zast (i := 40) (lt_lit (by decide)) rfl hi1 dX3_fitByChance_77 rfl ?_
  obtain ⟨s2, es2⟩ : ∃ y : St, y = (sr σ 40 k1.toNatClampNeg (vp_nar .boolean k0)) := ⟨_, rfl⟩
  rw [← es2]
  replace h := h.bnd es2
  clear es2
  obtain ⟨x3, ex3⟩ : ∃ y : Int32, y = (v3 + (1 : Int32)) := ⟨_, rfl⟩
  replace h := h.bnd ex3
  refine w_iinc 2 x3 [(3, .int x3), (0, .ref (xd Γ 36)), (2, .int v2)] dX3_fitByChance_78 rfl (by rw [ex3, ic_iconst_1]) (by decide) rfl rfl ?_
  clear ex3
  refine w_goto (tgt := 34) dX3_fitByChance_81 (by decide) ?_
  exact w_sub [1, 2, 0] rfl (hK34 v2 x3 s2 h)
def g_X3_fitByChance_34 (K34 : Int32 × Int32 × St → Option (Unit × St)) (x : Int32 × Int32 × St) : Option (Unit × St) := match x with
  | (v2, v3, σ) =>
  bd (f_X10_sets 1 σ) fun r1 s2 =>
  if r1 ≤ v3 then
    some ((), s2)
  else
    gd (inb v3 (ln 39)) <|
    bd (f_J6_bitCount_0f7a4 v3 s2) fun r5 s6 =>
    bd (f_X1_hundreds (r5 - (1 : Int32)) s6) fun r8 s9 =>
    if (lg_cmp (gj s2 39 v3.toNatClampNeg) (v2.toInt64 * r8)) < 0 then
      f_X3_fitByChance_77 K34 v2 v3 (0 : Int32) v3 s9
    else
      f_X3_fitByChance_77 K34 v2 v3 (1 : Int32) v3 s9
theorem l_X3_fitByChance_34 {Γ : CX} : ∀ (n : Nat) (v2 : Int32) (v3 : Int32) (σ : St), RR vU Γ (itr (g_X3_fitByChance_34) n (v2, v3, σ)) → WW Γ cX3_fitByChance 4 RX3 none rX3_fitByChance σ 34 [(0, .ref (xd Γ 36)), (2, .int v2), (3, .int v3)] [] := by
  intro n
  induction n with
  | zero => intro v2 v3 σ h; exact RR.no h
  | succ n hK34 =>
  intro v2 v3 σ h
  have h : RR vU Γ (g_X3_fitByChance_34 (itr (g_X3_fitByChance_34) n) (v2, v3, σ)) := h
  generalize itr (g_X3_fitByChance_34) n = K34 at h hK34
  unfold g_X3_fitByChance_34 at h
  dsimp only at h
  refine w_iload_n 2 dX3_fitByChance_34 rfl rfl rfl ?_
  refine w_aload_n 0 dX3_fitByChance_35 rfl rfl rfl ?_
  refine gf_RX3_32 dX3_fitByChance_36 rfl ?_
  obtain ⟨r1, s2, h3, h⟩ := h.bd
  refine k_X10_sets ml_RX3_58 (Nat.le_of_ble_eq_true rfl) ⟨Nat.le_of_ble_eq_true rfl, Nat.le_of_ble_eq_true rfl⟩ dX3_fitByChance_39 rfl h3 ?_
  refine w_icmp_ge (tgt := 84) dX3_fitByChance_42 (by decide) rfl (fun q => ?_) (fun q => ?_)
  · have h := h.tt q
    exact w_return dX3_fitByChance_84 h
  · have h := h.ff q
    refine w_aload_n 0 dX3_fitByChance_45 rfl rfl rfl ?_
    refine gf_RX3_22 dX3_fitByChance_46 rfl ?_
    refine w_iload_n 2 dX3_fitByChance_49 rfl rfl rfl ?_
    refine w_aload_n 0 dX3_fitByChance_50 rfl rfl rfl ?_
    refine gf_RX3_18 dX3_fitByChance_51 rfl ?_
    refine w_iload_n 2 dX3_fitByChance_54 rfl rfl rfl ?_
    obtain ⟨hi4, h⟩ := h.gd
    refine w_lald (i := 39) (lt_lit (by decide)) rfl hi4 dX3_fitByChance_55 rfl ?_
    refine w_iload_n 1 dX3_fitByChance_56 rfl rfl rfl ?_
    refine w_i2l dX3_fitByChance_57 rfl ?_
    refine w_iload_n 2 dX3_fitByChance_58 rfl rfl rfl ?_
    obtain ⟨r5, s6, h7, h⟩ := h.bd
    refine k_J6_bitCount_0f7a4 ml_RX3_62 (Nat.le_of_ble_eq_true rfl) ⟨Nat.le_of_ble_eq_true rfl, Nat.le_of_ble_eq_true rfl⟩ dX3_fitByChance_59 rfl h7 ?_
    refine w_iconst (1 : Int32) dX3_fitByChance_62 ic_iconst_1 rfl ?_
    refine w_isub dX3_fitByChance_63 rfl ?_
    obtain ⟨r8, s9, h10, h⟩ := h.bd
    refine k_X1_hundreds ml_RX3_146 (Nat.le_of_ble_eq_true rfl) ⟨Nat.le_of_ble_eq_true rfl, Nat.le_of_ble_eq_true rfl⟩ dX3_fitByChance_64 rfl h10 ?_
    refine w_lmul dX3_fitByChance_67 rfl ?_
    refine w_lcmp dX3_fitByChance_68 rfl ?_
    refine w_if_lt (tgt := 76) dX3_fitByChance_69 (by decide) rfl (fun q => ?_) (fun q => ?_)
    · have h := h.tt q
      refine w_iconst (0 : Int32) dX3_fitByChance_76 ic_iconst_0 rfl ?_
      exact w_sub [0, 1, 2] rfl (b_X3_fitByChance_77 K34 hK34 v2 v3 (0 : Int32) v3 s9 h)
    · have h := h.ff q
      refine w_iconst (1 : Int32) dX3_fitByChance_72 ic_iconst_1 rfl ?_
      refine w_goto (tgt := 77) dX3_fitByChance_73 (by decide) ?_
      exact w_sub [0, 1, 2] rfl (b_X3_fitByChance_77 K34 hK34 v2 v3 (1 : Int32) v3 s9 h)
def f_X3_fitByChance_31 (v2 : Int32) (k0 : Int32) (k1 : Int32) (σ : St) : Option (Unit × St) :=
  gd (inb k1 (ln 40)) <|
  bnd (sr σ 40 k1.toNatClampNeg (vp_nar .boolean k0)) fun s2 =>
  itr (g_X3_fitByChance_34) FU (v2, (1 : Int32), s2)
theorem b_X3_fitByChance_31 {Γ : CX} (v2 : Int32) (k0 : Int32) (k1 : Int32) (σ : St) (h : RR vU Γ (f_X3_fitByChance_31 v2 k0 k1 σ)) : WW Γ cX3_fitByChance 4 RX3 none rX3_fitByChance σ 31 [(0, .ref (xd Γ 36)), (2, .int v2)] [.int k0, .int k1, .ref (xd Γ 40)] := by
  unfold f_X3_fitByChance_31 at h
  obtain ⟨hi1, h⟩ := h.gd
  refine w_zast (i := 40) (lt_lit (by decide)) rfl hi1 dX3_fitByChance_31 rfl ?_
  obtain ⟨s2, es2⟩ : ∃ y : St, y = (sr σ 40 k1.toNatClampNeg (vp_nar .boolean k0)) := ⟨_, rfl⟩
  rw [← es2]
  replace h := h.bnd es2
  clear es2
  refine w_iconst (1 : Int32) dX3_fitByChance_32 ic_iconst_1 rfl ?_
  refine w_istore_n [(3, .int (1 : Int32)), (0, .ref (xd Γ 36)), (2, .int v2)] dX3_fitByChance_33 rfl (by decide) rfl rfl ?_
  exact w_sub [1, 2, 0] rfl (l_X3_fitByChance_34 FU v2 (1 : Int32) s2 h)
def f_X3_fitByChance (p0 : Int32) (p1 : Int32) (σ : St) : Option (Unit × St) :=
  bd (f_X3_takeParts p0 σ) fun _ s2 =>
  gd (inb (0 : Int32) (ln 39)) <|
  if (lg_cmp ((gj s2 39 (0 : Int32).toNatClampNeg) * (100 : Int64)) p1.toInt64) < 0 then
    f_X3_fitByChance_31 p1 (0 : Int32) (0 : Int32) s2
  else
    f_X3_fitByChance_31 p1 (1 : Int32) (0 : Int32) s2
theorem e_X3_fitByChance {Γ : CX} (p0 : Int32) (p1 : Int32) (σ : St) (h : RR vU Γ (f_X3_fitByChance p0 p1 σ)) : WW Γ cX3_fitByChance 4 RX3 none rX3_fitByChance σ 0 [(0, .ref (xd Γ 36)), (1, .int p0), (2, .int p1)] [] := by
  unfold f_X3_fitByChance at h
  refine w_aload_n 0 dX3_fitByChance_0 rfl rfl rfl ?_
  refine w_iload_n 1 dX3_fitByChance_1 rfl rfl rfl ?_
  obtain ⟨r1, s2, h3, h⟩ := h.bd
  refine k_X3_takeParts ml_RX3_40 (Nat.le_of_ble_eq_true rfl) ⟨Nat.le_of_ble_eq_true rfl, Nat.le_of_ble_eq_true rfl⟩ dX3_fitByChance_2 rfl h3 ?_
  refine w_aload_n 0 dX3_fitByChance_5 rfl rfl rfl ?_
  refine gf_RX3_22 dX3_fitByChance_6 rfl ?_
  refine w_iconst (0 : Int32) dX3_fitByChance_9 ic_iconst_0 rfl ?_
  refine w_aload_n 0 dX3_fitByChance_10 rfl rfl rfl ?_
  refine gf_RX3_18 dX3_fitByChance_11 rfl ?_
  refine w_iconst (0 : Int32) dX3_fitByChance_14 ic_iconst_0 rfl ?_
  obtain ⟨hi4, h⟩ := h.gd
  refine w_lald (i := 39) (lt_lit (by decide)) rfl hi4 dX3_fitByChance_15 rfl ?_
  refine w_ldc2_w (100 : Int64) dX3_fitByChance_16 cl_RX3_144 rfl ?_
  refine w_lmul dX3_fitByChance_19 rfl ?_
  refine w_iload_n 2 dX3_fitByChance_20 rfl rfl rfl ?_
  refine w_i2l dX3_fitByChance_21 rfl ?_
  refine w_lcmp dX3_fitByChance_22 rfl ?_
  refine w_if_lt (tgt := 30) dX3_fitByChance_23 (by decide) rfl (fun q => ?_) (fun q => ?_)
  · have h := h.tt q
    refine w_iconst (0 : Int32) dX3_fitByChance_30 ic_iconst_0 rfl ?_
    exact w_sub [0, 2] rfl (b_X3_fitByChance_31 p1 (0 : Int32) (0 : Int32) s2 h)
  · have h := h.ff q
    refine w_iconst (1 : Int32) dX3_fitByChance_26 ic_iconst_1 rfl ?_
    refine w_goto (tgt := 31) dX3_fitByChance_27 (by decide) ?_
    exact w_sub [0, 2] rfl (b_X3_fitByChance_31 p1 (1 : Int32) (0 : Int32) s2 h)
theorem c_X3_fitByChance {l : Launch} {D : va_G} {cy : Nat → ClassId} {ad : Nat → Nat} {p0 : Int32} {p1 : Int32} {σ σ' : St} {r : Unit} (hf : f_X3_fitByChance p0 p1 σ = some (r, σ')) : CT l D cy ad yX3_fitByChance cX3_fitByChance 4 none rX3_fitByChance [.ref (ad 36), .int p0, .int p1] σ none σ' :=
  ct_of (by decide) (Nat.le_of_ble_eq_true rfl) (fun p e s m args below meth c A => e_X3_fitByChance (Γ := (p, l, e, rX3_fitByChance, s, m, args, below, meth, c, D, cy, ad, A, 0, 0, MQ below (QC D cy ad none σ' A) args s 0 0 A)) p0 p1 σ ⟨_, hf, rfl⟩)
theorem k_X3_fitByChance {Γ : CX} {cc : ByteArray} {nL : Nat} {own : String} {ret : Option FieldType} {rm : Room} {σ σ' : St} {pc pc' idx : Nat} {lv : List (Nat × Value)} {rest : List Value} {p0 : Int32} {p1 : Int32} {r : Unit} (hl : Cond.methodLink own idx yX3_fitByChance ∈ TB) (hw : (rest.map fun v => v.category).sum ≤ 8) (hR : rX3_fitByChance.frames + 1 ≤ rm.frames ∧ 8 + (4 + 11) + rX3_fitByChance.locals ≤ rm.locals) (hd : decode cc pc = .ok (.invokevirtual idx, 3)) (hp : pc + 3 = pc') (hf : f_X3_fitByChance p0 p1 σ = some (r, σ')) (h : WW Γ cc nL own ret rm σ' pc' lv (rest)) : WW Γ cc nL own ret rm σ pc lv (.int p1 :: .int p0 :: .ref (xd Γ 36) :: rest) :=
  w_callV (nn := 2) (i := 36) (As := [.int p0, .int p1]) (v := none) (T := TX3) (N := 8) (c_X3_fitByChance hf) hl mw_X3_fitByChance (by decide +kernel) ⟨rfl, rfl⟩ hR (lt_lit (by decide)) cel_36 rfl rfl hw hd rfl hp h
/-! WarByHours.Reader.readNeed ()V -/
def rX6_readNeed : Room := { frames := 3, cells := 0, slots := 0, locals := 66 }
def f_X6_readNeed (σ : St) : Option (Unit × St) :=
  bd (f_X6_advance σ) fun _ s2 =>
  bd (f_X6_number (0 : Int32) (1 : Int32) s2) fun r4 s5 =>
  bd (f_X6_number (0 : Int32) (999 : Int32) s5) fun r7 s8 =>
  bd (f_X10_setNeed 15 r4 r7 s8) fun _ s11 =>
  some ((), s11)
theorem e_X6_readNeed {Γ : CX} (σ : St) (h : RR vU Γ (f_X6_readNeed σ)) : WW Γ cX6_readNeed 2 RX6 none rX6_readNeed σ 0 [(0, .ref (xd Γ 29))] [] := by
  unfold f_X6_readNeed at h
  refine w_aload_n 0 dX6_readNeed_0 rfl rfl rfl ?_
  obtain ⟨r1, s2, h3, h⟩ := h.bd
  refine k_X6_advance ml_RX6_37 (Nat.le_of_ble_eq_true rfl) ⟨Nat.le_of_ble_eq_true rfl, Nat.le_of_ble_eq_true rfl⟩ dX6_readNeed_1 rfl h3 ?_
  refine w_aload_n 0 dX6_readNeed_4 rfl rfl rfl ?_
  refine w_iconst (0 : Int32) dX6_readNeed_5 ic_iconst_0 rfl ?_
  refine w_iconst (1 : Int32) dX6_readNeed_6 ic_iconst_1 rfl ?_
  obtain ⟨r4, s5, h6, h⟩ := h.bd
  refine k_X6_number ml_RX6_105 (Nat.le_of_ble_eq_true rfl) ⟨Nat.le_of_ble_eq_true rfl, Nat.le_of_ble_eq_true rfl⟩ dX6_readNeed_7 rfl h6 ?_
  refine w_istore_n [(1, .int r4), (0, .ref (xd Γ 29))] dX6_readNeed_10 rfl (by decide) rfl rfl ?_
  refine w_aload_n 1 dX6_readNeed_11 rfl rfl rfl ?_
  refine gf_RX6_19 dX6_readNeed_12 rfl ?_
  refine w_iload_n 0 dX6_readNeed_15 rfl rfl rfl ?_
  refine w_aload_n 1 dX6_readNeed_16 rfl rfl rfl ?_
  refine w_iconst (0 : Int32) dX6_readNeed_17 ic_iconst_0 rfl ?_
  refine w_sipush (999 : Int32) dX6_readNeed_18 ic_sipush_999 rfl ?_
  obtain ⟨r7, s8, h9, h⟩ := h.bd
  refine k_X6_number ml_RX6_105 (Nat.le_of_ble_eq_true rfl) ⟨Nat.le_of_ble_eq_true rfl, Nat.le_of_ble_eq_true rfl⟩ dX6_readNeed_21 rfl h9 ?_
  obtain ⟨r10, s11, h12, h⟩ := h.bd
  refine k_X10_setNeed ml_RX6_124 (Nat.le_of_ble_eq_true rfl) ⟨Nat.le_of_ble_eq_true rfl, Nat.le_of_ble_eq_true rfl⟩ dX6_readNeed_24 rfl h12 ?_
  exact w_return dX6_readNeed_27 h
theorem c_X6_readNeed {l : Launch} {D : va_G} {cy : Nat → ClassId} {ad : Nat → Nat}  {σ σ' : St} {r : Unit} (hf : f_X6_readNeed σ = some (r, σ')) : CT l D cy ad yX6_readNeed cX6_readNeed 2 none rX6_readNeed [.ref (ad 29)] σ none σ' :=
  ct_of (by decide) (Nat.le_of_ble_eq_true rfl) (fun p e s m args below meth c A => e_X6_readNeed (Γ := (p, l, e, rX6_readNeed, s, m, args, below, meth, c, D, cy, ad, A, 0, 0, MQ below (QC D cy ad none σ' A) args s 0 0 A)) σ ⟨_, hf, rfl⟩)
theorem k_X6_readNeed {Γ : CX} {cc : ByteArray} {nL : Nat} {own : String} {ret : Option FieldType} {rm : Room} {σ σ' : St} {pc pc' idx : Nat} {lv : List (Nat × Value)} {rest : List Value}  {r : Unit} (hl : Cond.methodLink own idx yX6_readNeed ∈ TB) (hw : (rest.map fun v => v.category).sum ≤ 8) (hR : rX6_readNeed.frames + 1 ≤ rm.frames ∧ 8 + (2 + 11) + rX6_readNeed.locals ≤ rm.locals) (hd : decode cc pc = .ok (.invokevirtual idx, 3)) (hp : pc + 3 = pc') (hf : f_X6_readNeed σ = some (r, σ')) (h : WW Γ cc nL own ret rm σ' pc' lv (rest)) : WW Γ cc nL own ret rm σ pc lv (.ref (xd Γ 29) :: rest) :=
  w_callV (nn := 0) (i := 29) (As := []) (v := none) (T := TX6) (N := 9) (c_X6_readNeed hf) hl mw_X6_readNeed (by decide +kernel) ⟨rfl, rfl⟩ hR (lt_lit (by decide)) cel_29 rfl rfl hw hd rfl hp h
/-! WarByHours.Reader.cell (LWarByHours$Table;III)V -/
def rX6_cell : Room := { frames := 3, cells := 0, slots := 0, locals := 66 }
def f_X6_cell (u0 : Nat) (p1 : Int32) (p2 : Int32) (p3 : Int32) (σ : St) : Option (Unit × St) :=
  gd (isT σ u0) <|
  bd (f_X6_number p2 p3 σ) fun r1 s2 =>
  bd (f_X9_set u0 ((gf σ u0 3) - (1 : Int32)) p1 r1 s2) fun _ s5 =>
  some ((), s5)
theorem e_X6_cell {Γ : CX} (u0 : Nat) (p1 : Int32) (p2 : Int32) (p3 : Int32) (σ : St) (h : RR vU Γ (f_X6_cell u0 p1 p2 p3 σ)) : WW Γ cX6_cell 5 RX6 none rX6_cell σ 0 [(0, .ref (xd Γ 29)), (1, .ref (xd Γ u0)), (2, .int p1), (3, .int p2), (4, .int p3)] [] := by
  unfold f_X6_cell at h
  obtain ⟨hg_u0_σ, h⟩ := h.gd
  refine w_aload_n 1 dX6_cell_0 rfl rfl rfl ?_
  refine w_aload_n 1 dX6_cell_1 rfl rfl rfl ?_
  refine gf_RX6_149 (i := u0) hg_u0_σ dX6_cell_2 rfl ?_
  refine w_iconst (1 : Int32) dX6_cell_5 ic_iconst_1 rfl ?_
  refine w_isub dX6_cell_6 rfl ?_
  refine w_iload_n 2 dX6_cell_7 rfl rfl rfl ?_
  refine w_aload_n 0 dX6_cell_8 rfl rfl rfl ?_
  refine w_iload_n 3 dX6_cell_9 rfl rfl rfl ?_
  refine w_iload 4 dX6_cell_10 rfl rfl ?_
  obtain ⟨r1, s2, h3, h⟩ := h.bd
  refine k_X6_number ml_RX6_105 (Nat.le_of_ble_eq_true rfl) ⟨Nat.le_of_ble_eq_true rfl, Nat.le_of_ble_eq_true rfl⟩ dX6_cell_12 rfl h3 ?_
  obtain ⟨r4, s5, h6, h⟩ := h.bd
  refine k_X9_set ml_RX6_172 (Nat.le_of_ble_eq_true rfl) ⟨Nat.le_of_ble_eq_true rfl, Nat.le_of_ble_eq_true rfl⟩ dX6_cell_15 rfl h6 ?_
  exact w_return dX6_cell_18 h
theorem c_X6_cell {l : Launch} {D : va_G} {cy : Nat → ClassId} {ad : Nat → Nat} {u0 : Nat} {p1 : Int32} {p2 : Int32} {p3 : Int32} {σ σ' : St} {r : Unit} (hf : f_X6_cell u0 p1 p2 p3 σ = some (r, σ')) : CT l D cy ad yX6_cell cX6_cell 5 none rX6_cell [.ref (ad 29), .ref (ad u0), .int p1, .int p2, .int p3] σ none σ' :=
  ct_of (by decide) (Nat.le_of_ble_eq_true rfl) (fun p e s m args below meth c A => e_X6_cell (Γ := (p, l, e, rX6_cell, s, m, args, below, meth, c, D, cy, ad, A, 0, 0, MQ below (QC D cy ad none σ' A) args s 0 0 A)) u0 p1 p2 p3 σ ⟨_, hf, rfl⟩)
theorem k_X6_cell {Γ : CX} {cc : ByteArray} {nL : Nat} {own : String} {ret : Option FieldType} {rm : Room} {σ σ' : St} {pc pc' idx : Nat} {lv : List (Nat × Value)} {rest : List Value} {u0 : Nat} {p1 : Int32} {p2 : Int32} {p3 : Int32} {r : Unit} (hl : Cond.methodLink own idx yX6_cell ∈ TB) (hw : (rest.map fun v => v.category).sum ≤ 8) (hR : rX6_cell.frames + 1 ≤ rm.frames ∧ 8 + (5 + 11) + rX6_cell.locals ≤ rm.locals) (hd : decode cc pc = .ok (.invokevirtual idx, 3)) (hp : pc + 3 = pc') (hf : f_X6_cell u0 p1 p2 p3 σ = some (r, σ')) (h : WW Γ cc nL own ret rm σ' pc' lv (rest)) : WW Γ cc nL own ret rm σ pc lv (.int p3 :: .int p2 :: .int p1 :: .ref (xd Γ u0) :: .ref (xd Γ 29) :: rest) :=
  w_callV (nn := 4) (i := 29) (As := [.ref (xd Γ u0), .int p1, .int p2, .int p3]) (v := none) (T := TX6) (N := 9) (c_X6_cell hf) hl mw_X6_cell (by decide +kernel) ⟨rfl, rfl⟩ hR (lt_lit (by decide)) cel_29 rfl rfl hw hd rfl hp h
/-! WarByHours.Reader.word (Ljava/lang/String;)V -/
def rX6_word : Room := { frames := 5, cells := 0, slots := 0, locals := 107 }
def f_X6_word (z0 : Nat) (σ : St) : Option (Unit × St) :=
  gd (isS σ z0) <|
  bd (f_X6_sees z0 σ) fun r1 s2 =>
  if r1 = 0 then
    bd (f_X6_blame (1 : Int32) s2) fun _ s8 =>
    some ((), s8)
  else
    bd (f_X6_advance s2) fun _ s5 =>
    some ((), s5)
theorem e_X6_word {Γ : CX} (z0 : Nat) (σ : St) (h : RR vU Γ (f_X6_word z0 σ)) : WW Γ cX6_word 2 RX6 none rX6_word σ 0 [(0, .ref (xd Γ 29)), (1, .ref (xd Γ (z0 + 1000)))] [] := by
  unfold f_X6_word at h
  obtain ⟨hg_z0_σ, h⟩ := h.gd
  refine w_aload_n 0 dX6_word_0 rfl rfl rfl ?_
  refine w_aload_n 1 dX6_word_1 rfl rfl rfl ?_
  obtain ⟨r1, s2, h3, h⟩ := h.bd
  refine k_X6_sees ml_RX6_57 (Nat.le_of_ble_eq_true rfl) ⟨Nat.le_of_ble_eq_true rfl, Nat.le_of_ble_eq_true rfl⟩ dX6_word_2 rfl h3 ?_
  refine w_if_ne (tgt := 14) dX6_word_5 (by decide) rfl (fun q => ?_) (fun q => ?_)
  · have h := h.ff q
    refine w_aload_n 0 dX6_word_14 rfl rfl rfl ?_
    obtain ⟨r4, s5, h6, h⟩ := h.bd
    refine k_X6_advance ml_RX6_37 (Nat.le_of_ble_eq_true rfl) ⟨Nat.le_of_ble_eq_true rfl, Nat.le_of_ble_eq_true rfl⟩ dX6_word_15 rfl h6 ?_
    exact w_return dX6_word_18 h
  · have h := h.tt q
    refine w_aload_n 0 dX6_word_8 rfl rfl rfl ?_
    refine w_iconst (1 : Int32) dX6_word_9 ic_iconst_1 rfl ?_
    obtain ⟨r7, s8, h9, h⟩ := h.bd
    refine k_X6_blame ml_RX6_94 (Nat.le_of_ble_eq_true rfl) ⟨Nat.le_of_ble_eq_true rfl, Nat.le_of_ble_eq_true rfl⟩ dX6_word_10 rfl h9 ?_
    exact w_return dX6_word_13 h
theorem c_X6_word {l : Launch} {D : va_G} {cy : Nat → ClassId} {ad : Nat → Nat} {z0 : Nat} {σ σ' : St} {r : Unit} (hf : f_X6_word z0 σ = some (r, σ')) : CT l D cy ad yX6_word cX6_word 2 none rX6_word [.ref (ad 29), .ref (ad (z0 + 1000))] σ none σ' :=
  ct_of (by decide) (Nat.le_of_ble_eq_true rfl) (fun p e s m args below meth c A => e_X6_word (Γ := (p, l, e, rX6_word, s, m, args, below, meth, c, D, cy, ad, A, 0, 0, MQ below (QC D cy ad none σ' A) args s 0 0 A)) z0 σ ⟨_, hf, rfl⟩)
theorem k_X6_word {Γ : CX} {cc : ByteArray} {nL : Nat} {own : String} {ret : Option FieldType} {rm : Room} {σ σ' : St} {pc pc' idx : Nat} {lv : List (Nat × Value)} {rest : List Value} {z0 : Nat} {r : Unit} (hl : Cond.methodLink own idx yX6_word ∈ TB) (hw : (rest.map fun v => v.category).sum ≤ 8) (hR : rX6_word.frames + 1 ≤ rm.frames ∧ 8 + (2 + 11) + rX6_word.locals ≤ rm.locals) (hd : decode cc pc = .ok (.invokevirtual idx, 3)) (hp : pc + 3 = pc') (hf : f_X6_word z0 σ = some (r, σ')) (h : WW Γ cc nL own ret rm σ' pc' lv (rest)) : WW Γ cc nL own ret rm σ pc lv (.ref (xd Γ (z0 + 1000)) :: .ref (xd Γ 29) :: rest) :=
  w_callV (nn := 1) (i := 29) (As := [.ref (xd Γ (z0 + 1000))]) (v := none) (T := TX6) (N := 9) (c_X6_word hf) hl mw_X6_word (by decide +kernel) ⟨rfl, rfl⟩ hR (lt_lit (by decide)) cel_29 rfl rfl hw hd rfl hp h
/-! WarByHours.Suspects.trainToWatch (I)I -/
def rX8_trainToWatch : Room := { frames := 4, cells := 0, slots := 0, locals := 90 }
def f_X8_trainToWatch_59 (K14 : Int32 × Int32 × Int32 × Int32 × St → Option (Int32 × St)) (v1 : Int32) (v2 : Int32) (v3 : Int32) (v4 : Int32) (σ : St) : Option (Int32 × St) :=
  bnd (v4 + (1 : Int32)) fun x1 =>
  K14 (v1, v2, v3, x1, σ)
theorem b_X8_trainToWatch_59 {Γ : CX} (K14 : Int32 × Int32 × Int32 × Int32 × St → Option (Int32 × St)) (hK14 : ∀ (v1 : Int32) (v2 : Int32) (v3 : Int32) (v4 : Int32) (σ : St), RR vI Γ (K14 (v1, v2, v3, v4, σ)) → WW Γ cX8_trainToWatch 6 RX8 (some .int) rX8_trainToWatch σ 14 [(0, .ref (xd Γ 49)), (1, .int v1), (2, .int v2), (3, .int v3), (4, .int v4)] []) (v1 : Int32) (v2 : Int32) (v3 : Int32) (v4 : Int32) (σ : St) (h : RR vI Γ (f_X8_trainToWatch_59 K14 v1 v2 v3 v4 σ)) : WW Γ cX8_trainToWatch 6 RX8 (some .int) rX8_trainToWatch σ 59 [(0, .ref (xd Γ 49)), (1, .int v1), (2, .int v2), (3, .int v3), (4, .int v4)] [] := by
  unfold f_X8_trainToWatch_59 at h
  obtain ⟨x1, ex1⟩ : ∃ y : Int32, y = (v4 + (1 : Int32)) := ⟨_, rfl⟩
  replace h := h.bnd ex1
  refine w_iinc 4 x1 [(4, .int x1), (0, .ref (xd Γ 49)), (1, .int v1), (2, .int v2), (3, .int v3)] dX8_trainToWatch_59 rfl (by rw [ex1, ic_iconst_1]) (by decide) rfl rfl ?_
  clear ex1
  refine w_goto (tgt := 14) dX8_trainToWatch_62 (by decide) ?_
  exact w_sub [1, 2, 3, 4, 0] rfl (hK14 v1 v2 v3 x1 σ h)
def g_X8_trainToWatch_14 (K14 : Int32 × Int32 × Int32 × Int32 × St → Option (Int32 × St)) (x : Int32 × Int32 × Int32 × Int32 × St) : Option (Int32 × St) := match x with
  | (v1, v2, v3, v4, σ) =>
  if (gf σ 3 3) ≤ v4 then
    some (v2, σ)
  else
    bd (f_X8_leftAtWorst v1 v4 σ) fun r1 s2 =>
    bd (f_X10_isIn v1 v4 s2) fun r4 s5 =>
    if r4 = 0 then
      if v3 ≤ r1 then
        f_X8_trainToWatch_59 K14 v1 v2 v3 v4 s5
      else
        f_X8_trainToWatch_59 K14 v1 v4 r1 v4 s5
    else
      f_X8_trainToWatch_59 K14 v1 v2 v3 v4 s5
theorem l_X8_trainToWatch_14 {Γ : CX} : ∀ (n : Nat) (v1 : Int32) (v2 : Int32) (v3 : Int32) (v4 : Int32) (σ : St), RR vI Γ (itr (g_X8_trainToWatch_14) n (v1, v2, v3, v4, σ)) → WW Γ cX8_trainToWatch 6 RX8 (some .int) rX8_trainToWatch σ 14 [(0, .ref (xd Γ 49)), (1, .int v1), (2, .int v2), (3, .int v3), (4, .int v4)] [] := by
  intro n
  induction n with
  | zero => intro v1 v2 v3 v4 σ h; exact RR.no h
  | succ n hK14 =>
  intro v1 v2 v3 v4 σ h
  have h : RR vI Γ (g_X8_trainToWatch_14 (itr (g_X8_trainToWatch_14) n) (v1, v2, v3, v4, σ)) := h
  generalize itr (g_X8_trainToWatch_14) n = K14 at h hK14
  unfold g_X8_trainToWatch_14 at h
  dsimp only at h
  refine w_iload 4 dX8_trainToWatch_14 rfl rfl ?_
  refine w_aload_n 0 dX8_trainToWatch_16 rfl rfl rfl ?_
  refine gf_RX8_9 dX8_trainToWatch_17 rfl ?_
  refine gf_RX8_39 (i := 1) (isW_lit (by decide)) dX8_trainToWatch_20 rfl ?_
  refine gf_RX8_21 (i := 3) (isT_lit (by decide)) dX8_trainToWatch_23 rfl ?_
  refine w_icmp_ge (tgt := 65) dX8_trainToWatch_26 (by decide) rfl (fun q => ?_) (fun q => ?_)
  · have h := h.tt q
    refine w_iload_n 2 dX8_trainToWatch_65 rfl rfl rfl ?_
    exact w_ireturn dX8_trainToWatch_66 h
  · have h := h.ff q
    refine w_aload_n 0 dX8_trainToWatch_29 rfl rfl rfl ?_
    refine w_iload_n 1 dX8_trainToWatch_30 rfl rfl rfl ?_
    refine w_iload 4 dX8_trainToWatch_31 rfl rfl ?_
    obtain ⟨r1, s2, h3, h⟩ := h.bd
    refine k_X8_leftAtWorst ml_RX8_42 (Nat.le_of_ble_eq_true rfl) ⟨Nat.le_of_ble_eq_true rfl, Nat.le_of_ble_eq_true rfl⟩ dX8_trainToWatch_33 rfl h3 ?_
    refine w_istore [(5, .int r1), (0, .ref (xd Γ 49)), (1, .int v1), (2, .int v2), (3, .int v3), (4, .int v4)] dX8_trainToWatch_36 (by decide) rfl rfl ?_
    refine w_iload_n 2 dX8_trainToWatch_38 rfl rfl rfl ?_
    refine w_iload 5 dX8_trainToWatch_39 rfl rfl ?_
    obtain ⟨r4, s5, h6, h⟩ := h.bd
    refine k_X10_isIn ml_RX8_46 (Nat.le_of_ble_eq_true rfl) ⟨Nat.le_of_ble_eq_true rfl, Nat.le_of_ble_eq_true rfl⟩ dX8_trainToWatch_41 rfl h6 ?_
    refine w_if_ne (tgt := 59) dX8_trainToWatch_44 (by decide) rfl (fun q => ?_) (fun q => ?_)
    · have h := h.ff q
      exact w_sub [1, 2, 3, 4, 5] rfl (b_X8_trainToWatch_59 K14 hK14 v1 v2 v3 v4 s5 h)
    · have h := h.tt q
      refine w_iload 0 dX8_trainToWatch_47 rfl rfl ?_
      refine w_iload_n 4 dX8_trainToWatch_49 rfl rfl rfl ?_
      refine w_icmp_ge (tgt := 59) dX8_trainToWatch_50 (by decide) rfl (fun q => ?_) (fun q => ?_)
      · have h := h.tt q
        exact w_sub [1, 2, 3, 4, 5] rfl (b_X8_trainToWatch_59 K14 hK14 v1 v2 v3 v4 s5 h)
      · have h := h.ff q
        refine w_iload 0 dX8_trainToWatch_53 rfl rfl ?_
        refine w_istore_n [(3, .int r1), (5, .int r1), (0, .ref (xd Γ 49)), (1, .int v1), (2, .int v2), (4, .int v4)] dX8_trainToWatch_55 rfl (by decide) rfl rfl ?_
        refine w_iload 5 dX8_trainToWatch_56 rfl rfl ?_
        refine w_istore_n [(2, .int v4), (3, .int r1), (5, .int r1), (0, .ref (xd Γ 49)), (1, .int v1), (4, .int v4)] dX8_trainToWatch_58 rfl (by decide) rfl rfl ?_
        exact w_sub [3, 4, 0, 1, 5] rfl (b_X8_trainToWatch_59 K14 hK14 v1 v4 r1 v4 s5 h)
def f_X8_trainToWatch (p0 : Int32) (σ : St) : Option (Int32 × St) :=
  bd (f_X8_fitting p0 σ) fun r1 s2 =>
  bd (f_J6_bitCount_0f7a4 r1 s2) fun r4 s5 =>
  itr (g_X8_trainToWatch_14) FU (p0, (-1 : Int32), r4, (0 : Int32), s5)
theorem e_X8_trainToWatch {Γ : CX} (p0 : Int32) (σ : St) (h : RR vI Γ (f_X8_trainToWatch p0 σ)) : WW Γ cX8_trainToWatch 6 RX8 (some .int) rX8_trainToWatch σ 0 [(0, .ref (xd Γ 49)), (1, .int p0)] [] := by
  unfold f_X8_trainToWatch at h
  refine w_iconst (-1 : Int32) dX8_trainToWatch_0 ic_iconst_m1 rfl ?_
  refine w_istore_n [(2, .int (-1 : Int32)), (0, .ref (xd Γ 49)), (1, .int p0)] dX8_trainToWatch_1 rfl (by decide) rfl rfl ?_
  refine w_aload_n 1 dX8_trainToWatch_2 rfl rfl rfl ?_
  refine w_iload_n 2 dX8_trainToWatch_3 rfl rfl rfl ?_
  obtain ⟨r1, s2, h3, h⟩ := h.bd
  refine k_X8_fitting ml_RX8_31 (Nat.le_of_ble_eq_true rfl) ⟨Nat.le_of_ble_eq_true rfl, Nat.le_of_ble_eq_true rfl⟩ dX8_trainToWatch_4 rfl h3 ?_
  obtain ⟨r4, s5, h6, h⟩ := h.bd
  refine k_J6_bitCount_0f7a4 ml_RX8_34 (Nat.le_of_ble_eq_true rfl) ⟨Nat.le_of_ble_eq_true rfl, Nat.le_of_ble_eq_true rfl⟩ dX8_trainToWatch_7 rfl h6 ?_
  refine w_istore_n [(3, .int r4), (2, .int (-1 : Int32)), (0, .ref (xd Γ 49)), (1, .int p0)] dX8_trainToWatch_10 rfl (by decide) rfl rfl ?_
  refine w_iconst (0 : Int32) dX8_trainToWatch_11 ic_iconst_0 rfl ?_
  refine w_istore [(4, .int (0 : Int32)), (3, .int r4), (2, .int (-1 : Int32)), (0, .ref (xd Γ 49)), (1, .int p0)] dX8_trainToWatch_12 (by decide) rfl rfl ?_
  exact w_sub [3, 4, 2, 1, 0] rfl (l_X8_trainToWatch_14 FU p0 (-1 : Int32) r4 (0 : Int32) s5 h)
theorem c_X8_trainToWatch {l : Launch} {D : va_G} {cy : Nat → ClassId} {ad : Nat → Nat} {p0 : Int32} {σ σ' : St} {r : Int32} (hf : f_X8_trainToWatch p0 σ = some (r, σ')) : CT l D cy ad yX8_trainToWatch cX8_trainToWatch 6 (some .int) rX8_trainToWatch [.ref (ad 49), .int p0] σ (some (.int r)) σ' :=
  ct_of (by decide) (Nat.le_of_ble_eq_true rfl) (fun p e s m args below meth c A => e_X8_trainToWatch (Γ := (p, l, e, rX8_trainToWatch, s, m, args, below, meth, c, D, cy, ad, A, 0, 0, MQ below (QC D cy ad (some (.int r)) σ' A) args s 0 0 A)) p0 σ ⟨_, hf, rfl⟩)
theorem k_X8_trainToWatch {Γ : CX} {cc : ByteArray} {nL : Nat} {own : String} {ret : Option FieldType} {rm : Room} {σ σ' : St} {pc pc' idx : Nat} {lv : List (Nat × Value)} {rest : List Value} {p0 : Int32} {r : Int32} (hl : Cond.methodLink own idx yX8_trainToWatch ∈ TB) (hw : (rest.map fun v => v.category).sum ≤ 8) (hR : rX8_trainToWatch.frames + 1 ≤ rm.frames ∧ 8 + (6 + 11) + rX8_trainToWatch.locals ≤ rm.locals) (hd : decode cc pc = .ok (.invokevirtual idx, 3)) (hp : pc + 3 = pc') (hf : f_X8_trainToWatch p0 σ = some (r, σ')) (h : WW Γ cc nL own ret rm σ' pc' lv (.int r :: rest)) : WW Γ cc nL own ret rm σ pc lv (.int p0 :: .ref (xd Γ 49) :: rest) :=
  w_callV (nn := 1) (i := 49) (As := [.int p0]) (v := (some (.int r))) (T := TX8) (N := 1) (c_X8_trainToWatch hf) hl mw_X8_trainToWatch (by decide +kernel) ⟨rfl, rfl⟩ hR (lt_lit (by decide)) cel_49 rfl rfl hw hd rfl hp h
/-! WarByHours.worst (I)I -/
def rX11_worst : Room := { frames := 7, cells := 0, slots := 0, locals := 162 }
def f_X11_worst_33 (k0 : Int32) (σ : St) : Option (Int32 × St) :=
  some (k0, σ)
theorem b_X11_worst_33 {Γ : CX} (k0 : Int32) (σ : St) (h : RR vI Γ (f_X11_worst_33 k0 σ)) : WW Γ cX11_worst 2 RX11 (some .int) rX11_worst σ 33 [] [.int k0] := by
  unfold f_X11_worst_33 at h
  exact w_ireturn dX11_worst_33 h
def f_X11_worst (p0 : Int32) (σ : St) : Option (Int32 × St) :=
  bd (f_X10_hasSide 1 p0 σ) fun r1 s2 =>
  if r1 = 0 then
    f_X11_worst_33 (-1000 : Int32) s2
  else
    bd (f_X2_worstSet p0 s2) fun r4 s5 =>
    bd (f_X2_goodAtEnd p0 r4 s5) fun r7 s8 =>
    f_X11_worst_33 r7 s8
theorem e_X11_worst {Γ : CX} (p0 : Int32) (σ : St) (h : RR vI Γ (f_X11_worst p0 σ)) : WW Γ cX11_worst 2 RX11 (some .int) rX11_worst σ 0 [(0, .ref (xd Γ 0)), (1, .int p0)] [] := by
  unfold f_X11_worst at h
  refine w_aload_n 0 dX11_worst_0 rfl rfl rfl ?_
  refine gf_RX11_10 dX11_worst_1 rfl ?_
  refine w_iload_n 1 dX11_worst_4 rfl rfl rfl ?_
  obtain ⟨r1, s2, h3, h⟩ := h.bd
  refine k_X10_hasSide ml_RX11_126 (Nat.le_of_ble_eq_true rfl) ⟨Nat.le_of_ble_eq_true rfl, Nat.le_of_ble_eq_true rfl⟩ dX11_worst_5 rfl h3 ?_
  refine w_if_eq (tgt := 30) dX11_worst_8 (by decide) rfl (fun q => ?_) (fun q => ?_)
  · have h := h.tt q
    refine w_sipush (-1000 : Int32) dX11_worst_30 ic_sipush_m1000 rfl ?_
    exact w_sub [] rfl (b_X11_worst_33 (-1000 : Int32) s2 h)
  · have h := h.ff q
    refine w_aload_n 0 dX11_worst_11 rfl rfl rfl ?_
    refine gf_RX11_31 dX11_worst_12 rfl ?_
    refine w_iload_n 1 dX11_worst_15 rfl rfl rfl ?_
    refine w_aload_n 0 dX11_worst_16 rfl rfl rfl ?_
    refine gf_RX11_31 dX11_worst_17 rfl ?_
    refine w_iload_n 1 dX11_worst_20 rfl rfl rfl ?_
    obtain ⟨r4, s5, h6, h⟩ := h.bd
    refine k_X2_worstSet ml_RX11_181 (Nat.le_of_ble_eq_true rfl) ⟨Nat.le_of_ble_eq_true rfl, Nat.le_of_ble_eq_true rfl⟩ dX11_worst_21 rfl h6 ?_
    obtain ⟨r7, s8, h9, h⟩ := h.bd
    refine k_X2_goodAtEnd ml_RX11_184 (Nat.le_of_ble_eq_true rfl) ⟨Nat.le_of_ble_eq_true rfl, Nat.le_of_ble_eq_true rfl⟩ dX11_worst_24 rfl h9 ?_
    refine w_goto (tgt := 33) dX11_worst_27 (by decide) ?_
    exact w_sub [] rfl (b_X11_worst_33 r7 s8 h)
theorem c_X11_worst {l : Launch} {D : va_G} {cy : Nat → ClassId} {ad : Nat → Nat} {p0 : Int32} {σ σ' : St} {r : Int32} (hf : f_X11_worst p0 σ = some (r, σ')) : CT l D cy ad yX11_worst cX11_worst 2 (some .int) rX11_worst [.ref (ad 0), .int p0] σ (some (.int r)) σ' :=
  ct_of (by decide) (Nat.le_of_ble_eq_true rfl) (fun p e s m args below meth c A => e_X11_worst (Γ := (p, l, e, rX11_worst, s, m, args, below, meth, c, D, cy, ad, A, 0, 0, MQ below (QC D cy ad (some (.int r)) σ' A) args s 0 0 A)) p0 σ ⟨_, hf, rfl⟩)
theorem k_X11_worst {Γ : CX} {cc : ByteArray} {nL : Nat} {own : String} {ret : Option FieldType} {rm : Room} {σ σ' : St} {pc pc' idx : Nat} {lv : List (Nat × Value)} {rest : List Value} {p0 : Int32} {r : Int32} (hl : Cond.methodLink own idx yX11_worst ∈ TB) (hw : (rest.map fun v => v.category).sum ≤ 8) (hR : rX11_worst.frames + 1 ≤ rm.frames ∧ 8 + (2 + 11) + rX11_worst.locals ≤ rm.locals) (hd : decode cc pc = .ok (.invokevirtual idx, 3)) (hp : pc + 3 = pc') (hf : f_X11_worst p0 σ = some (r, σ')) (h : WW Γ cc nL own ret rm σ' pc' lv (.int r :: rest)) : WW Γ cc nL own ret rm σ pc lv (.int p0 :: .ref (xd Γ 0) :: rest) :=
  w_callV (nn := 1) (i := 0) (As := [.int p0]) (v := (some (.int r))) (T := TX11) (N := 11) (c_X11_worst hf) hl mw_X11_worst (by decide +kernel) ⟨rfl, rfl⟩ hR (lt_lit (by decide)) cel_0 rfl rfl hw hd rfl hp h
/-! WarByHours.by (I)I -/
def rX11_by : Room := { frames := 7, cells := 0, slots := 0, locals := 162 }
def f_X11_by_24 (k0 : Int32) (σ : St) : Option (Int32 × St) :=
  some (k0, σ)
theorem b_X11_by_24 {Γ : CX} (k0 : Int32) (σ : St) (h : RR vI Γ (f_X11_by_24 k0 σ)) : WW Γ cX11_by 2 RX11 (some .int) rX11_by σ 24 [] [.int k0] := by
  unfold f_X11_by_24 at h
  exact w_ireturn dX11_by_24 h
def f_X11_by (p0 : Int32) (σ : St) : Option (Int32 × St) :=
  bd (f_X10_hasSide 1 p0 σ) fun r1 s2 =>
  if r1 = 0 then
    f_X11_by_24 (-2 : Int32) s2
  else
    bd (f_X2_worstSet p0 s2) fun r4 s5 =>
    f_X11_by_24 r4 s5
theorem e_X11_by {Γ : CX} (p0 : Int32) (σ : St) (h : RR vI Γ (f_X11_by p0 σ)) : WW Γ cX11_by 2 RX11 (some .int) rX11_by σ 0 [(0, .ref (xd Γ 0)), (1, .int p0)] [] := by
  unfold f_X11_by at h
  refine w_aload_n 0 dX11_by_0 rfl rfl rfl ?_
  refine gf_RX11_10 dX11_by_1 rfl ?_
  refine w_iload_n 1 dX11_by_4 rfl rfl rfl ?_
  obtain ⟨r1, s2, h3, h⟩ := h.bd
  refine k_X10_hasSide ml_RX11_126 (Nat.le_of_ble_eq_true rfl) ⟨Nat.le_of_ble_eq_true rfl, Nat.le_of_ble_eq_true rfl⟩ dX11_by_5 rfl h3 ?_
  refine w_if_eq (tgt := 22) dX11_by_8 (by decide) rfl (fun q => ?_) (fun q => ?_)
  · have h := h.tt q
    refine w_bipush (-2 : Int32) dX11_by_22 ic_bipush_m2 rfl ?_
    exact w_sub [] rfl (b_X11_by_24 (-2 : Int32) s2 h)
  · have h := h.ff q
    refine w_aload_n 0 dX11_by_11 rfl rfl rfl ?_
    refine gf_RX11_31 dX11_by_12 rfl ?_
    refine w_iload_n 1 dX11_by_15 rfl rfl rfl ?_
    obtain ⟨r4, s5, h6, h⟩ := h.bd
    refine k_X2_worstSet ml_RX11_181 (Nat.le_of_ble_eq_true rfl) ⟨Nat.le_of_ble_eq_true rfl, Nat.le_of_ble_eq_true rfl⟩ dX11_by_16 rfl h6 ?_
    refine w_goto (tgt := 24) dX11_by_19 (by decide) ?_
    exact w_sub [] rfl (b_X11_by_24 r4 s5 h)
theorem c_X11_by {l : Launch} {D : va_G} {cy : Nat → ClassId} {ad : Nat → Nat} {p0 : Int32} {σ σ' : St} {r : Int32} (hf : f_X11_by p0 σ = some (r, σ')) : CT l D cy ad yX11_by cX11_by 2 (some .int) rX11_by [.ref (ad 0), .int p0] σ (some (.int r)) σ' :=
  ct_of (by decide) (Nat.le_of_ble_eq_true rfl) (fun p e s m args below meth c A => e_X11_by (Γ := (p, l, e, rX11_by, s, m, args, below, meth, c, D, cy, ad, A, 0, 0, MQ below (QC D cy ad (some (.int r)) σ' A) args s 0 0 A)) p0 σ ⟨_, hf, rfl⟩)
theorem k_X11_by {Γ : CX} {cc : ByteArray} {nL : Nat} {own : String} {ret : Option FieldType} {rm : Room} {σ σ' : St} {pc pc' idx : Nat} {lv : List (Nat × Value)} {rest : List Value} {p0 : Int32} {r : Int32} (hl : Cond.methodLink own idx yX11_by ∈ TB) (hw : (rest.map fun v => v.category).sum ≤ 8) (hR : rX11_by.frames + 1 ≤ rm.frames ∧ 8 + (2 + 11) + rX11_by.locals ≤ rm.locals) (hd : decode cc pc = .ok (.invokevirtual idx, 3)) (hp : pc + 3 = pc') (hf : f_X11_by p0 σ = some (r, σ')) (h : WW Γ cc nL own ret rm σ' pc' lv (.int r :: rest)) : WW Γ cc nL own ret rm σ pc lv (.int p0 :: .ref (xd Γ 0) :: rest) :=
  w_callV (nn := 1) (i := 0) (As := [.int p0]) (v := (some (.int r))) (T := TX11) (N := 11) (c_X11_by hf) hl mw_X11_by (by decide +kernel) ⟨rfl, rfl⟩ hR (lt_lit (by decide)) cel_0 rfl rfl hw hd rfl hp h
/-! WarByHours.ways (I)I -/
def rX11_ways : Room := { frames := 7, cells := 0, slots := 0, locals := 161 }
def f_X11_ways_24 (k0 : Int32) (σ : St) : Option (Int32 × St) :=
  some (k0, σ)
theorem b_X11_ways_24 {Γ : CX} (k0 : Int32) (σ : St) (h : RR vI Γ (f_X11_ways_24 k0 σ)) : WW Γ cX11_ways 2 RX11 (some .int) rX11_ways σ 24 [] [.int k0] := by
  unfold f_X11_ways_24 at h
  exact w_ireturn dX11_ways_24 h
def f_X11_ways (p0 : Int32) (σ : St) : Option (Int32 × St) :=
  bd (f_X10_hasSide 1 p0 σ) fun r1 s2 =>
  if r1 = 0 then
    f_X11_ways_24 (-2 : Int32) s2
  else
    bd (f_X2_countWays p0 s2) fun r4 s5 =>
    f_X11_ways_24 r4 s5
theorem e_X11_ways {Γ : CX} (p0 : Int32) (σ : St) (h : RR vI Γ (f_X11_ways p0 σ)) : WW Γ cX11_ways 2 RX11 (some .int) rX11_ways σ 0 [(0, .ref (xd Γ 0)), (1, .int p0)] [] := by
  unfold f_X11_ways at h
  refine w_aload_n 0 dX11_ways_0 rfl rfl rfl ?_
  refine gf_RX11_10 dX11_ways_1 rfl ?_
  refine w_iload_n 1 dX11_ways_4 rfl rfl rfl ?_
  obtain ⟨r1, s2, h3, h⟩ := h.bd
  refine k_X10_hasSide ml_RX11_126 (Nat.le_of_ble_eq_true rfl) ⟨Nat.le_of_ble_eq_true rfl, Nat.le_of_ble_eq_true rfl⟩ dX11_ways_5 rfl h3 ?_
  refine w_if_eq (tgt := 22) dX11_ways_8 (by decide) rfl (fun q => ?_) (fun q => ?_)
  · have h := h.tt q
    refine w_bipush (-2 : Int32) dX11_ways_22 ic_bipush_m2 rfl ?_
    exact w_sub [] rfl (b_X11_ways_24 (-2 : Int32) s2 h)
  · have h := h.ff q
    refine w_aload_n 0 dX11_ways_11 rfl rfl rfl ?_
    refine gf_RX11_31 dX11_ways_12 rfl ?_
    refine w_iload_n 1 dX11_ways_15 rfl rfl rfl ?_
    obtain ⟨r4, s5, h6, h⟩ := h.bd
    refine k_X2_countWays ml_RX11_187 (Nat.le_of_ble_eq_true rfl) ⟨Nat.le_of_ble_eq_true rfl, Nat.le_of_ble_eq_true rfl⟩ dX11_ways_16 rfl h6 ?_
    refine w_goto (tgt := 24) dX11_ways_19 (by decide) ?_
    exact w_sub [] rfl (b_X11_ways_24 r4 s5 h)
theorem c_X11_ways {l : Launch} {D : va_G} {cy : Nat → ClassId} {ad : Nat → Nat} {p0 : Int32} {σ σ' : St} {r : Int32} (hf : f_X11_ways p0 σ = some (r, σ')) : CT l D cy ad yX11_ways cX11_ways 2 (some .int) rX11_ways [.ref (ad 0), .int p0] σ (some (.int r)) σ' :=
  ct_of (by decide) (Nat.le_of_ble_eq_true rfl) (fun p e s m args below meth c A => e_X11_ways (Γ := (p, l, e, rX11_ways, s, m, args, below, meth, c, D, cy, ad, A, 0, 0, MQ below (QC D cy ad (some (.int r)) σ' A) args s 0 0 A)) p0 σ ⟨_, hf, rfl⟩)
theorem k_X11_ways {Γ : CX} {cc : ByteArray} {nL : Nat} {own : String} {ret : Option FieldType} {rm : Room} {σ σ' : St} {pc pc' idx : Nat} {lv : List (Nat × Value)} {rest : List Value} {p0 : Int32} {r : Int32} (hl : Cond.methodLink own idx yX11_ways ∈ TB) (hw : (rest.map fun v => v.category).sum ≤ 8) (hR : rX11_ways.frames + 1 ≤ rm.frames ∧ 8 + (2 + 11) + rX11_ways.locals ≤ rm.locals) (hd : decode cc pc = .ok (.invokevirtual idx, 3)) (hp : pc + 3 = pc') (hf : f_X11_ways p0 σ = some (r, σ')) (h : WW Γ cc nL own ret rm σ' pc' lv (.int r :: rest)) : WW Γ cc nL own ret rm σ pc lv (.int p0 :: .ref (xd Γ 0) :: rest) :=
  w_callV (nn := 1) (i := 0) (As := [.int p0]) (v := (some (.int r))) (T := TX11) (N := 11) (c_X11_ways hf) hl mw_X11_ways (by decide +kernel) ⟨rfl, rfl⟩ hR (lt_lit (by decide)) cel_0 rfl rfl hw hd rfl hp h
/-! WarByHours.idle ()I -/
def rX11_idle : Room := { frames := 7, cells := 0, slots := 0, locals := 160 }
def f_X11_idle_22 (k0 : Int32) (σ : St) : Option (Int32 × St) :=
  some (k0, σ)
theorem b_X11_idle_22 {Γ : CX} (k0 : Int32) (σ : St) (h : RR vI Γ (f_X11_idle_22 k0 σ)) : WW Γ cX11_idle 1 RX11 (some .int) rX11_idle σ 22 [] [.int k0] := by
  unfold f_X11_idle_22 at h
  exact w_ireturn dX11_idle_22 h
def f_X11_idle (σ : St) : Option (Int32 × St) :=
  bd (f_X10_isTold 1 σ) fun r1 s2 =>
  if r1 = 0 then
    f_X11_idle_22 (-2 : Int32) s2
  else
    bd (f_X2_idleTrains s2) fun r4 s5 =>
    f_X11_idle_22 r4 s5
theorem e_X11_idle {Γ : CX} (σ : St) (h : RR vI Γ (f_X11_idle σ)) : WW Γ cX11_idle 1 RX11 (some .int) rX11_idle σ 0 [(0, .ref (xd Γ 0))] [] := by
  unfold f_X11_idle at h
  refine w_aload_n 0 dX11_idle_0 rfl rfl rfl ?_
  refine gf_RX11_10 dX11_idle_1 rfl ?_
  obtain ⟨r1, s2, h3, h⟩ := h.bd
  refine k_X10_isTold ml_RX11_133 (Nat.le_of_ble_eq_true rfl) ⟨Nat.le_of_ble_eq_true rfl, Nat.le_of_ble_eq_true rfl⟩ dX11_idle_4 rfl h3 ?_
  refine w_if_eq (tgt := 20) dX11_idle_7 (by decide) rfl (fun q => ?_) (fun q => ?_)
  · have h := h.tt q
    refine w_bipush (-2 : Int32) dX11_idle_20 ic_bipush_m2 rfl ?_
    exact w_sub [] rfl (b_X11_idle_22 (-2 : Int32) s2 h)
  · have h := h.ff q
    refine w_aload_n 0 dX11_idle_10 rfl rfl rfl ?_
    refine gf_RX11_31 dX11_idle_11 rfl ?_
    obtain ⟨r4, s5, h6, h⟩ := h.bd
    refine k_X2_idleTrains ml_RX11_190 (Nat.le_of_ble_eq_true rfl) ⟨Nat.le_of_ble_eq_true rfl, Nat.le_of_ble_eq_true rfl⟩ dX11_idle_14 rfl h6 ?_
    refine w_goto (tgt := 22) dX11_idle_17 (by decide) ?_
    exact w_sub [] rfl (b_X11_idle_22 r4 s5 h)
theorem c_X11_idle {l : Launch} {D : va_G} {cy : Nat → ClassId} {ad : Nat → Nat}  {σ σ' : St} {r : Int32} (hf : f_X11_idle σ = some (r, σ')) : CT l D cy ad yX11_idle cX11_idle 1 (some .int) rX11_idle [.ref (ad 0)] σ (some (.int r)) σ' :=
  ct_of (by decide) (Nat.le_of_ble_eq_true rfl) (fun p e s m args below meth c A => e_X11_idle (Γ := (p, l, e, rX11_idle, s, m, args, below, meth, c, D, cy, ad, A, 0, 0, MQ below (QC D cy ad (some (.int r)) σ' A) args s 0 0 A)) σ ⟨_, hf, rfl⟩)
theorem k_X11_idle {Γ : CX} {cc : ByteArray} {nL : Nat} {own : String} {ret : Option FieldType} {rm : Room} {σ σ' : St} {pc pc' idx : Nat} {lv : List (Nat × Value)} {rest : List Value}  {r : Int32} (hl : Cond.methodLink own idx yX11_idle ∈ TB) (hw : (rest.map fun v => v.category).sum ≤ 8) (hR : rX11_idle.frames + 1 ≤ rm.frames ∧ 8 + (1 + 11) + rX11_idle.locals ≤ rm.locals) (hd : decode cc pc = .ok (.invokevirtual idx, 3)) (hp : pc + 3 = pc') (hf : f_X11_idle σ = some (r, σ')) (h : WW Γ cc nL own ret rm σ' pc' lv (.int r :: rest)) : WW Γ cc nL own ret rm σ pc lv (.ref (xd Γ 0) :: rest) :=
  w_callV (nn := 0) (i := 0) (As := []) (v := (some (.int r))) (T := TX11) (N := 11) (c_X11_idle hf) hl mw_X11_idle (by decide +kernel) ⟨rfl, rfl⟩ hR (lt_lit (by decide)) cel_0 rfl rfl hw hd rfl hp h
/-! WarByHours.enough (II)J -/
def rX11_enough : Room := { frames := 5, cells := 0, slots := 0, locals := 114 }
def f_X11_enough_18 (σ : St) : Option (Int64 × St) :=
  some ((-2 : Int64), σ)
theorem b_X11_enough_18 {Γ : CX} (σ : St) (h : RR vL Γ (f_X11_enough_18 σ)) : WW Γ cX11_enough 3 RX11 (some .long) rX11_enough σ 18 [] [] := by
  unfold f_X11_enough_18 at h
  refine w_ldc2_w (-2 : Int64) dX11_enough_18 cl_RX11_196 rfl ?_
  exact w_lreturn dX11_enough_21 h
def f_X11_enough (p0 : Int32) (p1 : Int32) (σ : St) : Option (Int64 × St) :=
  bd (f_X10_hasSide 1 p0 σ) fun r1 s2 =>
  if r1 = 0 then
    f_X11_enough_18 s2
  else
    bd (f_X11_isPart p1 s2) fun r4 s5 =>
    if r4 = 0 then
      f_X11_enough_18 s5
    else
      bd (f_X3_enoughParts p0 s5) fun r7 s8 =>
      bd (f_X10_trainsOf 1 p0 s8) fun r10 s11 =>
      bd (f_J6_bitCount_0f7a4 r10 s11) fun r13 s14 =>
      bd (f_X1_hundreds r13 s14) fun r16 s17 =>
      bd (f_X1_lowest r7 r16 p1 s17) fun r19 s20 =>
      some (r19, s20)
theorem e_X11_enough {Γ : CX} (p0 : Int32) (p1 : Int32) (σ : St) (h : RR vL Γ (f_X11_enough p0 p1 σ)) : WW Γ cX11_enough 3 RX11 (some .long) rX11_enough σ 0 [(0, .ref (xd Γ 0)), (1, .int p0), (2, .int p1)] [] := by
  unfold f_X11_enough at h
  refine w_aload_n 0 dX11_enough_0 rfl rfl rfl ?_
  refine gf_RX11_10 dX11_enough_1 rfl ?_
  refine w_iload_n 1 dX11_enough_4 rfl rfl rfl ?_
  obtain ⟨r1, s2, h3, h⟩ := h.bd
  refine k_X10_hasSide ml_RX11_126 (Nat.le_of_ble_eq_true rfl) ⟨Nat.le_of_ble_eq_true rfl, Nat.le_of_ble_eq_true rfl⟩ dX11_enough_5 rfl h3 ?_
  refine w_if_eq (tgt := 18) dX11_enough_8 (by decide) rfl (fun q => ?_) (fun q => ?_)
  · have h := h.tt q
    exact w_sub [] rfl (b_X11_enough_18 s2 h)
  · have h := h.ff q
    refine w_iload_n 2 dX11_enough_11 rfl rfl rfl ?_
    obtain ⟨r4, s5, h6, h⟩ := h.bd
    refine k_X11_isPart ml_RX11_193 (Nat.le_of_ble_eq_true rfl) ⟨Nat.le_of_ble_eq_true rfl, Nat.le_of_ble_eq_true rfl⟩ dX11_enough_12 rfl h6 ?_
    refine w_if_ne (tgt := 22) dX11_enough_15 (by decide) rfl (fun q => ?_) (fun q => ?_)
    · have h := h.ff q
      refine w_aload_n 0 dX11_enough_22 rfl rfl rfl ?_
      refine gf_RX11_40 dX11_enough_23 rfl ?_
      refine w_iload_n 1 dX11_enough_26 rfl rfl rfl ?_
      obtain ⟨r7, s8, h9, h⟩ := h.bd
      refine k_X3_enoughParts ml_RX11_198 (Nat.le_of_ble_eq_true rfl) ⟨Nat.le_of_ble_eq_true rfl, Nat.le_of_ble_eq_true rfl⟩ dX11_enough_27 rfl h9 ?_
      refine w_aload_n 0 dX11_enough_30 rfl rfl rfl ?_
      refine gf_RX11_10 dX11_enough_31 rfl ?_
      refine w_iload_n 1 dX11_enough_34 rfl rfl rfl ?_
      obtain ⟨r10, s11, h12, h⟩ := h.bd
      refine k_X10_trainsOf ml_RX11_202 (Nat.le_of_ble_eq_true rfl) ⟨Nat.le_of_ble_eq_true rfl, Nat.le_of_ble_eq_true rfl⟩ dX11_enough_35 rfl h12 ?_
      obtain ⟨r13, s14, h15, h⟩ := h.bd
      refine k_J6_bitCount_0f7a4 ml_RX11_205 (Nat.le_of_ble_eq_true rfl) ⟨Nat.le_of_ble_eq_true rfl, Nat.le_of_ble_eq_true rfl⟩ dX11_enough_38 rfl h15 ?_
      obtain ⟨r16, s17, h18, h⟩ := h.bd
      refine k_X1_hundreds ml_RX11_210 (Nat.le_of_ble_eq_true rfl) ⟨Nat.le_of_ble_eq_true rfl, Nat.le_of_ble_eq_true rfl⟩ dX11_enough_41 rfl h18 ?_
      refine w_iload_n 2 dX11_enough_44 rfl rfl rfl ?_
      obtain ⟨r19, s20, h21, h⟩ := h.bd
      refine k_X1_lowest ml_RX11_215 (Nat.le_of_ble_eq_true rfl) ⟨Nat.le_of_ble_eq_true rfl, Nat.le_of_ble_eq_true rfl⟩ dX11_enough_45 rfl h21 ?_
      exact w_lreturn dX11_enough_48 h
    · have h := h.tt q
      exact w_sub [] rfl (b_X11_enough_18 s5 h)
theorem c_X11_enough {l : Launch} {D : va_G} {cy : Nat → ClassId} {ad : Nat → Nat} {p0 : Int32} {p1 : Int32} {σ σ' : St} {r : Int64} (hf : f_X11_enough p0 p1 σ = some (r, σ')) : CT l D cy ad yX11_enough cX11_enough 3 (some .long) rX11_enough [.ref (ad 0), .int p0, .int p1] σ (some (.long r)) σ' :=
  ct_of (by decide) (Nat.le_of_ble_eq_true rfl) (fun p e s m args below meth c A => e_X11_enough (Γ := (p, l, e, rX11_enough, s, m, args, below, meth, c, D, cy, ad, A, 0, 0, MQ below (QC D cy ad (some (.long r)) σ' A) args s 0 0 A)) p0 p1 σ ⟨_, hf, rfl⟩)
theorem k_X11_enough {Γ : CX} {cc : ByteArray} {nL : Nat} {own : String} {ret : Option FieldType} {rm : Room} {σ σ' : St} {pc pc' idx : Nat} {lv : List (Nat × Value)} {rest : List Value} {p0 : Int32} {p1 : Int32} {r : Int64} (hl : Cond.methodLink own idx yX11_enough ∈ TB) (hw : (rest.map fun v => v.category).sum ≤ 8) (hR : rX11_enough.frames + 1 ≤ rm.frames ∧ 8 + (3 + 11) + rX11_enough.locals ≤ rm.locals) (hd : decode cc pc = .ok (.invokevirtual idx, 3)) (hp : pc + 3 = pc') (hf : f_X11_enough p0 p1 σ = some (r, σ')) (h : WW Γ cc nL own ret rm σ' pc' lv (.long r :: rest)) : WW Γ cc nL own ret rm σ pc lv (.int p1 :: .int p0 :: .ref (xd Γ 0) :: rest) :=
  w_callV (nn := 2) (i := 0) (As := [.int p0, .int p1]) (v := (some (.long r))) (T := TX11) (N := 11) (c_X11_enough hf) hl mw_X11_enough (by decide +kernel) ⟨rfl, rfl⟩ hR (lt_lit (by decide)) cel_0 rfl rfl hw hd rfl hp h
/-! WarByHours.chance (II)J -/
def rX11_chance : Room := { frames := 7, cells := 0, slots := 0, locals := 162 }
def f_X11_chance_18 (σ : St) : Option (Int64 × St) :=
  some ((-2 : Int64), σ)
theorem b_X11_chance_18 {Γ : CX} (σ : St) (h : RR vL Γ (f_X11_chance_18 σ)) : WW Γ cX11_chance 3 RX11 (some .long) rX11_chance σ 18 [] [] := by
  unfold f_X11_chance_18 at h
  refine w_ldc2_w (-2 : Int64) dX11_chance_18 cl_RX11_196 rfl ?_
  exact w_lreturn dX11_chance_21 h
def f_X11_chance (p0 : Int32) (p1 : Int32) (σ : St) : Option (Int64 × St) :=
  bd (f_X10_hasSide 1 p0 σ) fun r1 s2 =>
  if r1 = 0 then
    f_X11_chance_18 s2
  else
    bd (f_X11_isPart p1 s2) fun r4 s5 =>
    if r4 = 0 then
      f_X11_chance_18 s5
    else
      bd (f_X2_winningParts p0 s5) fun r7 s8 =>
      bd (f_X1_hundreds (gf s8 3 3) s8) fun r10 s11 =>
      bd (f_X1_lowest r7 r10 p1 s11) fun r13 s14 =>
      some (r13, s14)
theorem e_X11_chance {Γ : CX} (p0 : Int32) (p1 : Int32) (σ : St) (h : RR vL Γ (f_X11_chance p0 p1 σ)) : WW Γ cX11_chance 3 RX11 (some .long) rX11_chance σ 0 [(0, .ref (xd Γ 0)), (1, .int p0), (2, .int p1)] [] := by
  unfold f_X11_chance at h
  refine w_aload_n 0 dX11_chance_0 rfl rfl rfl ?_
  refine gf_RX11_10 dX11_chance_1 rfl ?_
  refine w_iload_n 1 dX11_chance_4 rfl rfl rfl ?_
  obtain ⟨r1, s2, h3, h⟩ := h.bd
  refine k_X10_hasSide ml_RX11_126 (Nat.le_of_ble_eq_true rfl) ⟨Nat.le_of_ble_eq_true rfl, Nat.le_of_ble_eq_true rfl⟩ dX11_chance_5 rfl h3 ?_
  refine w_if_eq (tgt := 18) dX11_chance_8 (by decide) rfl (fun q => ?_) (fun q => ?_)
  · have h := h.tt q
    exact w_sub [] rfl (b_X11_chance_18 s2 h)
  · have h := h.ff q
    refine w_iload_n 2 dX11_chance_11 rfl rfl rfl ?_
    obtain ⟨r4, s5, h6, h⟩ := h.bd
    refine k_X11_isPart ml_RX11_193 (Nat.le_of_ble_eq_true rfl) ⟨Nat.le_of_ble_eq_true rfl, Nat.le_of_ble_eq_true rfl⟩ dX11_chance_12 rfl h6 ?_
    refine w_if_ne (tgt := 22) dX11_chance_15 (by decide) rfl (fun q => ?_) (fun q => ?_)
    · have h := h.ff q
      refine w_aload_n 0 dX11_chance_22 rfl rfl rfl ?_
      refine gf_RX11_31 dX11_chance_23 rfl ?_
      refine w_iload_n 1 dX11_chance_26 rfl rfl rfl ?_
      obtain ⟨r7, s8, h9, h⟩ := h.bd
      refine k_X2_winningParts ml_RX11_219 (Nat.le_of_ble_eq_true rfl) ⟨Nat.le_of_ble_eq_true rfl, Nat.le_of_ble_eq_true rfl⟩ dX11_chance_27 rfl h9 ?_
      refine w_aload_n 0 dX11_chance_30 rfl rfl rfl ?_
      refine gf_RX11_10 dX11_chance_31 rfl ?_
      refine gf_RX11_116 (i := 1) (isW_lit (by decide)) dX11_chance_34 rfl ?_
      refine gf_RX11_222 (i := 3) (isT_lit (by decide)) dX11_chance_37 rfl ?_
      obtain ⟨r10, s11, h12, h⟩ := h.bd
      refine k_X1_hundreds ml_RX11_210 (Nat.le_of_ble_eq_true rfl) ⟨Nat.le_of_ble_eq_true rfl, Nat.le_of_ble_eq_true rfl⟩ dX11_chance_40 rfl h12 ?_
      refine w_iload_n 2 dX11_chance_43 rfl rfl rfl ?_
      obtain ⟨r13, s14, h15, h⟩ := h.bd
      refine k_X1_lowest ml_RX11_215 (Nat.le_of_ble_eq_true rfl) ⟨Nat.le_of_ble_eq_true rfl, Nat.le_of_ble_eq_true rfl⟩ dX11_chance_44 rfl h15 ?_
      exact w_lreturn dX11_chance_47 h
    · have h := h.tt q
      exact w_sub [] rfl (b_X11_chance_18 s5 h)
theorem c_X11_chance {l : Launch} {D : va_G} {cy : Nat → ClassId} {ad : Nat → Nat} {p0 : Int32} {p1 : Int32} {σ σ' : St} {r : Int64} (hf : f_X11_chance p0 p1 σ = some (r, σ')) : CT l D cy ad yX11_chance cX11_chance 3 (some .long) rX11_chance [.ref (ad 0), .int p0, .int p1] σ (some (.long r)) σ' :=
  ct_of (by decide) (Nat.le_of_ble_eq_true rfl) (fun p e s m args below meth c A => e_X11_chance (Γ := (p, l, e, rX11_chance, s, m, args, below, meth, c, D, cy, ad, A, 0, 0, MQ below (QC D cy ad (some (.long r)) σ' A) args s 0 0 A)) p0 p1 σ ⟨_, hf, rfl⟩)
theorem k_X11_chance {Γ : CX} {cc : ByteArray} {nL : Nat} {own : String} {ret : Option FieldType} {rm : Room} {σ σ' : St} {pc pc' idx : Nat} {lv : List (Nat × Value)} {rest : List Value} {p0 : Int32} {p1 : Int32} {r : Int64} (hl : Cond.methodLink own idx yX11_chance ∈ TB) (hw : (rest.map fun v => v.category).sum ≤ 8) (hR : rX11_chance.frames + 1 ≤ rm.frames ∧ 8 + (3 + 11) + rX11_chance.locals ≤ rm.locals) (hd : decode cc pc = .ok (.invokevirtual idx, 3)) (hp : pc + 3 = pc') (hf : f_X11_chance p0 p1 σ = some (r, σ')) (h : WW Γ cc nL own ret rm σ' pc' lv (.long r :: rest)) : WW Γ cc nL own ret rm σ pc lv (.int p1 :: .int p0 :: .ref (xd Γ 0) :: rest) :=
  w_callV (nn := 2) (i := 0) (As := [.int p0, .int p1]) (v := (some (.long r))) (T := TX11) (N := 11) (c_X11_chance hf) hl mw_X11_chance (by decide +kernel) ⟨rfl, rfl⟩ hR (lt_lit (by decide)) cel_0 rfl rfl hw hd rfl hp h
/-! WarByHours.answer (II)I -/
def rX11_answer : Room := { frames := 7, cells := 0, slots := 0, locals := 163 }
def f_X11_answer_24 (k0 : Int32) (σ : St) : Option (Int32 × St) :=
  some (k0, σ)
theorem b_X11_answer_24 {Γ : CX} (k0 : Int32) (σ : St) (h : RR vI Γ (f_X11_answer_24 k0 σ)) : WW Γ cX11_answer 3 RX11 (some .int) rX11_answer σ 24 [] [.int k0] := by
  unfold f_X11_answer_24 at h
  exact w_ireturn dX11_answer_24 h
def f_X11_answer (p0 : Int32) (p1 : Int32) (σ : St) : Option (Int32 × St) :=
  bd (f_X11_isPurse p0 p1 σ) fun r1 s2 =>
  if r1 = 0 then
    f_X11_answer_24 (-1000 : Int32) s2
  else
    bd (f_X3_answeredGood p0 p1 s2) fun r4 s5 =>
    f_X11_answer_24 r4 s5
theorem e_X11_answer {Γ : CX} (p0 : Int32) (p1 : Int32) (σ : St) (h : RR vI Γ (f_X11_answer p0 p1 σ)) : WW Γ cX11_answer 3 RX11 (some .int) rX11_answer σ 0 [(0, .ref (xd Γ 0)), (1, .int p0), (2, .int p1)] [] := by
  unfold f_X11_answer at h
  refine w_aload_n 0 dX11_answer_0 rfl rfl rfl ?_
  refine w_iload_n 1 dX11_answer_1 rfl rfl rfl ?_
  refine w_iload_n 2 dX11_answer_2 rfl rfl rfl ?_
  obtain ⟨r1, s2, h3, h⟩ := h.bd
  refine k_X11_isPurse ml_RX11_247 (Nat.le_of_ble_eq_true rfl) ⟨Nat.le_of_ble_eq_true rfl, Nat.le_of_ble_eq_true rfl⟩ dX11_answer_3 rfl h3 ?_
  refine w_if_eq (tgt := 21) dX11_answer_6 (by decide) rfl (fun q => ?_) (fun q => ?_)
  · have h := h.tt q
    refine w_sipush (-1000 : Int32) dX11_answer_21 ic_sipush_m1000 rfl ?_
    exact w_sub [] rfl (b_X11_answer_24 (-1000 : Int32) s2 h)
  · have h := h.ff q
    refine w_aload_n 0 dX11_answer_9 rfl rfl rfl ?_
    refine gf_RX11_40 dX11_answer_10 rfl ?_
    refine w_iload_n 1 dX11_answer_13 rfl rfl rfl ?_
    refine w_iload_n 2 dX11_answer_14 rfl rfl rfl ?_
    obtain ⟨r4, s5, h6, h⟩ := h.bd
    refine k_X3_answeredGood ml_RX11_253 (Nat.le_of_ble_eq_true rfl) ⟨Nat.le_of_ble_eq_true rfl, Nat.le_of_ble_eq_true rfl⟩ dX11_answer_15 rfl h6 ?_
    refine w_goto (tgt := 24) dX11_answer_18 (by decide) ?_
    exact w_sub [] rfl (b_X11_answer_24 r4 s5 h)
theorem c_X11_answer {l : Launch} {D : va_G} {cy : Nat → ClassId} {ad : Nat → Nat} {p0 : Int32} {p1 : Int32} {σ σ' : St} {r : Int32} (hf : f_X11_answer p0 p1 σ = some (r, σ')) : CT l D cy ad yX11_answer cX11_answer 3 (some .int) rX11_answer [.ref (ad 0), .int p0, .int p1] σ (some (.int r)) σ' :=
  ct_of (by decide) (Nat.le_of_ble_eq_true rfl) (fun p e s m args below meth c A => e_X11_answer (Γ := (p, l, e, rX11_answer, s, m, args, below, meth, c, D, cy, ad, A, 0, 0, MQ below (QC D cy ad (some (.int r)) σ' A) args s 0 0 A)) p0 p1 σ ⟨_, hf, rfl⟩)
theorem k_X11_answer {Γ : CX} {cc : ByteArray} {nL : Nat} {own : String} {ret : Option FieldType} {rm : Room} {σ σ' : St} {pc pc' idx : Nat} {lv : List (Nat × Value)} {rest : List Value} {p0 : Int32} {p1 : Int32} {r : Int32} (hl : Cond.methodLink own idx yX11_answer ∈ TB) (hw : (rest.map fun v => v.category).sum ≤ 8) (hR : rX11_answer.frames + 1 ≤ rm.frames ∧ 8 + (3 + 11) + rX11_answer.locals ≤ rm.locals) (hd : decode cc pc = .ok (.invokevirtual idx, 3)) (hp : pc + 3 = pc') (hf : f_X11_answer p0 p1 σ = some (r, σ')) (h : WW Γ cc nL own ret rm σ' pc' lv (.int r :: rest)) : WW Γ cc nL own ret rm σ pc lv (.int p1 :: .int p0 :: .ref (xd Γ 0) :: rest) :=
  w_callV (nn := 2) (i := 0) (As := [.int p0, .int p1]) (v := (some (.int r))) (T := TX11) (N := 11) (c_X11_answer hf) hl mw_X11_answer (by decide +kernel) ⟨rfl, rfl⟩ hR (lt_lit (by decide)) cel_0 rfl rfl hw hd rfl hp h
/-! WarByHours.rests (I)I -/
def rX11_rests : Room := { frames := 7, cells := 0, slots := 0, locals := 163 }
def f_X11_rests_22 (k0 : Int32) (σ : St) : Option (Int32 × St) :=
  some (k0, σ)
theorem b_X11_rests_22 {Γ : CX} (k0 : Int32) (σ : St) (h : RR vI Γ (f_X11_rests_22 k0 σ)) : WW Γ cX11_rests 2 RX11 (some .int) rX11_rests σ 22 [] [.int k0] := by
  unfold f_X11_rests_22 at h
  exact w_ireturn dX11_rests_22 h
def f_X11_rests (p0 : Int32) (σ : St) : Option (Int32 × St) :=
  bd (f_X11_isPurse (0 : Int32) p0 σ) fun r1 s2 =>
  if r1 = 0 then
    f_X11_rests_22 (-2 : Int32) s2
  else
    bd (f_X3_countRests p0 s2) fun r4 s5 =>
    f_X11_rests_22 r4 s5
theorem e_X11_rests {Γ : CX} (p0 : Int32) (σ : St) (h : RR vI Γ (f_X11_rests p0 σ)) : WW Γ cX11_rests 2 RX11 (some .int) rX11_rests σ 0 [(0, .ref (xd Γ 0)), (1, .int p0)] [] := by
  unfold f_X11_rests at h
  refine w_aload_n 0 dX11_rests_0 rfl rfl rfl ?_
  refine w_iconst (0 : Int32) dX11_rests_1 ic_iconst_0 rfl ?_
  refine w_iload_n 1 dX11_rests_2 rfl rfl rfl ?_
  obtain ⟨r1, s2, h3, h⟩ := h.bd
  refine k_X11_isPurse ml_RX11_247 (Nat.le_of_ble_eq_true rfl) ⟨Nat.le_of_ble_eq_true rfl, Nat.le_of_ble_eq_true rfl⟩ dX11_rests_3 rfl h3 ?_
  refine w_if_eq (tgt := 20) dX11_rests_6 (by decide) rfl (fun q => ?_) (fun q => ?_)
  · have h := h.tt q
    refine w_bipush (-2 : Int32) dX11_rests_20 ic_bipush_m2 rfl ?_
    exact w_sub [] rfl (b_X11_rests_22 (-2 : Int32) s2 h)
  · have h := h.ff q
    refine w_aload_n 0 dX11_rests_9 rfl rfl rfl ?_
    refine gf_RX11_40 dX11_rests_10 rfl ?_
    refine w_iload_n 1 dX11_rests_13 rfl rfl rfl ?_
    obtain ⟨r4, s5, h6, h⟩ := h.bd
    refine k_X3_countRests ml_RX11_256 (Nat.le_of_ble_eq_true rfl) ⟨Nat.le_of_ble_eq_true rfl, Nat.le_of_ble_eq_true rfl⟩ dX11_rests_14 rfl h6 ?_
    refine w_goto (tgt := 22) dX11_rests_17 (by decide) ?_
    exact w_sub [] rfl (b_X11_rests_22 r4 s5 h)
theorem c_X11_rests {l : Launch} {D : va_G} {cy : Nat → ClassId} {ad : Nat → Nat} {p0 : Int32} {σ σ' : St} {r : Int32} (hf : f_X11_rests p0 σ = some (r, σ')) : CT l D cy ad yX11_rests cX11_rests 2 (some .int) rX11_rests [.ref (ad 0), .int p0] σ (some (.int r)) σ' :=
  ct_of (by decide) (Nat.le_of_ble_eq_true rfl) (fun p e s m args below meth c A => e_X11_rests (Γ := (p, l, e, rX11_rests, s, m, args, below, meth, c, D, cy, ad, A, 0, 0, MQ below (QC D cy ad (some (.int r)) σ' A) args s 0 0 A)) p0 σ ⟨_, hf, rfl⟩)
theorem k_X11_rests {Γ : CX} {cc : ByteArray} {nL : Nat} {own : String} {ret : Option FieldType} {rm : Room} {σ σ' : St} {pc pc' idx : Nat} {lv : List (Nat × Value)} {rest : List Value} {p0 : Int32} {r : Int32} (hl : Cond.methodLink own idx yX11_rests ∈ TB) (hw : (rest.map fun v => v.category).sum ≤ 8) (hR : rX11_rests.frames + 1 ≤ rm.frames ∧ 8 + (2 + 11) + rX11_rests.locals ≤ rm.locals) (hd : decode cc pc = .ok (.invokevirtual idx, 3)) (hp : pc + 3 = pc') (hf : f_X11_rests p0 σ = some (r, σ')) (h : WW Γ cc nL own ret rm σ' pc' lv (.int r :: rest)) : WW Γ cc nL own ret rm σ pc lv (.int p0 :: .ref (xd Γ 0) :: rest) :=
  w_callV (nn := 1) (i := 0) (As := [.int p0]) (v := (some (.int r))) (T := TX11) (N := 11) (c_X11_rests hf) hl mw_X11_rests (by decide +kernel) ⟨rfl, rfl⟩ hR (lt_lit (by decide)) cel_0 rfl rfl hw hd rfl hp h
/-! WarByHours.watch (I)I -/
def rX11_watch : Room := { frames := 5, cells := 0, slots := 0, locals := 115 }
def f_X11_watch_24 (k0 : Int32) (σ : St) : Option (Int32 × St) :=
  some (k0, σ)
theorem b_X11_watch_24 {Γ : CX} (k0 : Int32) (σ : St) (h : RR vI Γ (f_X11_watch_24 k0 σ)) : WW Γ cX11_watch 2 RX11 (some .int) rX11_watch σ 24 [] [.int k0] := by
  unfold f_X11_watch_24 at h
  exact w_ireturn dX11_watch_24 h
def f_X11_watch (p0 : Int32) (σ : St) : Option (Int32 × St) :=
  bd (f_X10_hasSet 1 p0 σ) fun r1 s2 =>
  if r1 = 0 then
    f_X11_watch_24 (-2 : Int32) s2
  else
    bd (f_X8_trainToWatch p0 s2) fun r4 s5 =>
    f_X11_watch_24 r4 s5
theorem e_X11_watch {Γ : CX} (p0 : Int32) (σ : St) (h : RR vI Γ (f_X11_watch p0 σ)) : WW Γ cX11_watch 2 RX11 (some .int) rX11_watch σ 0 [(0, .ref (xd Γ 0)), (1, .int p0)] [] := by
  unfold f_X11_watch at h
  refine w_aload_n 0 dX11_watch_0 rfl rfl rfl ?_
  refine gf_RX11_10 dX11_watch_1 rfl ?_
  refine w_iload_n 1 dX11_watch_4 rfl rfl rfl ?_
  obtain ⟨r1, s2, h3, h⟩ := h.bd
  refine k_X10_hasSet ml_RX11_155 (Nat.le_of_ble_eq_true rfl) ⟨Nat.le_of_ble_eq_true rfl, Nat.le_of_ble_eq_true rfl⟩ dX11_watch_5 rfl h3 ?_
  refine w_if_eq (tgt := 22) dX11_watch_8 (by decide) rfl (fun q => ?_) (fun q => ?_)
  · have h := h.tt q
    refine w_bipush (-2 : Int32) dX11_watch_22 ic_bipush_m2 rfl ?_
    exact w_sub [] rfl (b_X11_watch_24 (-2 : Int32) s2 h)
  · have h := h.ff q
    refine w_aload_n 0 dX11_watch_11 rfl rfl rfl ?_
    refine gf_RX11_61 dX11_watch_12 rfl ?_
    refine w_iload_n 1 dX11_watch_15 rfl rfl rfl ?_
    obtain ⟨r4, s5, h6, h⟩ := h.bd
    refine k_X8_trainToWatch ml_RX11_310 (Nat.le_of_ble_eq_true rfl) ⟨Nat.le_of_ble_eq_true rfl, Nat.le_of_ble_eq_true rfl⟩ dX11_watch_16 rfl h6 ?_
    refine w_goto (tgt := 24) dX11_watch_19 (by decide) ?_
    exact w_sub [] rfl (b_X11_watch_24 r4 s5 h)
theorem c_X11_watch {l : Launch} {D : va_G} {cy : Nat → ClassId} {ad : Nat → Nat} {p0 : Int32} {σ σ' : St} {r : Int32} (hf : f_X11_watch p0 σ = some (r, σ')) : CT l D cy ad yX11_watch cX11_watch 2 (some .int) rX11_watch [.ref (ad 0), .int p0] σ (some (.int r)) σ' :=
  ct_of (by decide) (Nat.le_of_ble_eq_true rfl) (fun p e s m args below meth c A => e_X11_watch (Γ := (p, l, e, rX11_watch, s, m, args, below, meth, c, D, cy, ad, A, 0, 0, MQ below (QC D cy ad (some (.int r)) σ' A) args s 0 0 A)) p0 σ ⟨_, hf, rfl⟩)
theorem k_X11_watch {Γ : CX} {cc : ByteArray} {nL : Nat} {own : String} {ret : Option FieldType} {rm : Room} {σ σ' : St} {pc pc' idx : Nat} {lv : List (Nat × Value)} {rest : List Value} {p0 : Int32} {r : Int32} (hl : Cond.methodLink own idx yX11_watch ∈ TB) (hw : (rest.map fun v => v.category).sum ≤ 8) (hR : rX11_watch.frames + 1 ≤ rm.frames ∧ 8 + (2 + 11) + rX11_watch.locals ≤ rm.locals) (hd : decode cc pc = .ok (.invokevirtual idx, 3)) (hp : pc + 3 = pc') (hf : f_X11_watch p0 σ = some (r, σ')) (h : WW Γ cc nL own ret rm σ' pc' lv (.int r :: rest)) : WW Γ cc nL own ret rm σ pc lv (.int p0 :: .ref (xd Γ 0) :: rest) :=
  w_callV (nn := 1) (i := 0) (As := [.int p0]) (v := (some (.int r))) (T := TX11) (N := 11) (c_X11_watch hf) hl mw_X11_watch (by decide +kernel) ⟨rfl, rfl⟩ hR (lt_lit (by decide)) cel_0 rfl rfl hw hd rfl hp h
/-! WarByHours.leaves (I)I -/
def rX11_leaves : Room := { frames := 5, cells := 0, slots := 0, locals := 115 }
def f_X11_leaves_32 (k0 : Int32) (σ : St) : Option (Int32 × St) :=
  some (k0, σ)
theorem b_X11_leaves_32 {Γ : CX} (k0 : Int32) (σ : St) (h : RR vI Γ (f_X11_leaves_32 k0 σ)) : WW Γ cX11_leaves 2 RX11 (some .int) rX11_leaves σ 32 [] [.int k0] := by
  unfold f_X11_leaves_32 at h
  exact w_ireturn dX11_leaves_32 h
def f_X11_leaves (p0 : Int32) (σ : St) : Option (Int32 × St) :=
  bd (f_X10_hasSet 1 p0 σ) fun r1 s2 =>
  if r1 = 0 then
    f_X11_leaves_32 (-2 : Int32) s2
  else
    bd (f_X8_trainToWatch p0 s2) fun r4 s5 =>
    bd (f_X8_leftAtWorst p0 r4 s5) fun r7 s8 =>
    f_X11_leaves_32 r7 s8
theorem e_X11_leaves {Γ : CX} (p0 : Int32) (σ : St) (h : RR vI Γ (f_X11_leaves p0 σ)) : WW Γ cX11_leaves 2 RX11 (some .int) rX11_leaves σ 0 [(0, .ref (xd Γ 0)), (1, .int p0)] [] := by
  unfold f_X11_leaves at h
  refine w_aload_n 0 dX11_leaves_0 rfl rfl rfl ?_
  refine gf_RX11_10 dX11_leaves_1 rfl ?_
  refine w_iload_n 1 dX11_leaves_4 rfl rfl rfl ?_
  obtain ⟨r1, s2, h3, h⟩ := h.bd
  refine k_X10_hasSet ml_RX11_155 (Nat.le_of_ble_eq_true rfl) ⟨Nat.le_of_ble_eq_true rfl, Nat.le_of_ble_eq_true rfl⟩ dX11_leaves_5 rfl h3 ?_
  refine w_if_eq (tgt := 30) dX11_leaves_8 (by decide) rfl (fun q => ?_) (fun q => ?_)
  · have h := h.tt q
    refine w_bipush (-2 : Int32) dX11_leaves_30 ic_bipush_m2 rfl ?_
    exact w_sub [] rfl (b_X11_leaves_32 (-2 : Int32) s2 h)
  · have h := h.ff q
    refine w_aload_n 0 dX11_leaves_11 rfl rfl rfl ?_
    refine gf_RX11_61 dX11_leaves_12 rfl ?_
    refine w_iload_n 1 dX11_leaves_15 rfl rfl rfl ?_
    refine w_aload_n 0 dX11_leaves_16 rfl rfl rfl ?_
    refine gf_RX11_61 dX11_leaves_17 rfl ?_
    refine w_iload_n 1 dX11_leaves_20 rfl rfl rfl ?_
    obtain ⟨r4, s5, h6, h⟩ := h.bd
    refine k_X8_trainToWatch ml_RX11_310 (Nat.le_of_ble_eq_true rfl) ⟨Nat.le_of_ble_eq_true rfl, Nat.le_of_ble_eq_true rfl⟩ dX11_leaves_21 rfl h6 ?_
    obtain ⟨r7, s8, h9, h⟩ := h.bd
    refine k_X8_leftAtWorst ml_RX11_313 (Nat.le_of_ble_eq_true rfl) ⟨Nat.le_of_ble_eq_true rfl, Nat.le_of_ble_eq_true rfl⟩ dX11_leaves_24 rfl h9 ?_
    refine w_goto (tgt := 32) dX11_leaves_27 (by decide) ?_
    exact w_sub [] rfl (b_X11_leaves_32 r7 s8 h)
theorem c_X11_leaves {l : Launch} {D : va_G} {cy : Nat → ClassId} {ad : Nat → Nat} {p0 : Int32} {σ σ' : St} {r : Int32} (hf : f_X11_leaves p0 σ = some (r, σ')) : CT l D cy ad yX11_leaves cX11_leaves 2 (some .int) rX11_leaves [.ref (ad 0), .int p0] σ (some (.int r)) σ' :=
  ct_of (by decide) (Nat.le_of_ble_eq_true rfl) (fun p e s m args below meth c A => e_X11_leaves (Γ := (p, l, e, rX11_leaves, s, m, args, below, meth, c, D, cy, ad, A, 0, 0, MQ below (QC D cy ad (some (.int r)) σ' A) args s 0 0 A)) p0 σ ⟨_, hf, rfl⟩)
theorem k_X11_leaves {Γ : CX} {cc : ByteArray} {nL : Nat} {own : String} {ret : Option FieldType} {rm : Room} {σ σ' : St} {pc pc' idx : Nat} {lv : List (Nat × Value)} {rest : List Value} {p0 : Int32} {r : Int32} (hl : Cond.methodLink own idx yX11_leaves ∈ TB) (hw : (rest.map fun v => v.category).sum ≤ 8) (hR : rX11_leaves.frames + 1 ≤ rm.frames ∧ 8 + (2 + 11) + rX11_leaves.locals ≤ rm.locals) (hd : decode cc pc = .ok (.invokevirtual idx, 3)) (hp : pc + 3 = pc') (hf : f_X11_leaves p0 σ = some (r, σ')) (h : WW Γ cc nL own ret rm σ' pc' lv (.int r :: rest)) : WW Γ cc nL own ret rm σ pc lv (.int p0 :: .ref (xd Γ 0) :: rest) :=
  w_callV (nn := 1) (i := 0) (As := [.int p0]) (v := (some (.int r))) (T := TX11) (N := 11) (c_X11_leaves hf) hl mw_X11_leaves (by decide +kernel) ⟨rfl, rfl⟩ hR (lt_lit (by decide)) cel_0 rfl rfl hw hd rfl hp h
/-! WarByHours.Fares.fewestSent (I)I -/
def rX3_fewestSent : Room := { frames := 5, cells := 0, slots := 0, locals := 115 }
def f_X3_fewestSent_73 (K21 : Int32 × Int32 × Int32 × St → Option (Int32 × St)) (v2 : Int32) (v3 : Int32) (v4 : Int32) (σ : St) : Option (Int32 × St) :=
  bnd (v4 + (1 : Int32)) fun x1 =>
  K21 (v2, v3, x1, σ)
theorem b_X3_fewestSent_73 {Γ : CX} (K21 : Int32 × Int32 × Int32 × St → Option (Int32 × St)) (hK21 : ∀ (v2 : Int32) (v3 : Int32) (v4 : Int32) (σ : St), RR vI Γ (K21 (v2, v3, v4, σ)) → WW Γ cX3_fewestSent 6 RX3 (some .int) rX3_fewestSent σ 21 [(0, .ref (xd Γ 36)), (2, .int v2), (3, .int v3), (4, .int v4)] []) (v2 : Int32) (v3 : Int32) (v4 : Int32) (σ : St) (h : RR vI Γ (f_X3_fewestSent_73 K21 v2 v3 v4 σ)) : WW Γ cX3_fewestSent 6 RX3 (some .int) rX3_fewestSent σ 73 [(0, .ref (xd Γ 36)), (2, .int v2), (3, .int v3), (4, .int v4)] [] := by
  unfold f_X3_fewestSent_73 at h
  obtain ⟨x1, ex1⟩ : ∃ y : Int32, y = (v4 + (1 : Int32)) := ⟨_, rfl⟩
  replace h := h.bnd ex1
  refine w_iinc 3 x1 [(4, .int x1), (0, .ref (xd Γ 36)), (2, .int v2), (3, .int v3)] dX3_fewestSent_73 rfl (by rw [ex1, ic_iconst_1]) (by decide) rfl rfl ?_
  clear ex1
  refine w_goto (tgt := 21) dX3_fewestSent_76 (by decide) ?_
  exact w_sub [1, 2, 3, 0] rfl (hK21 v2 v3 x1 σ h)
def f_X3_fewestSent_70 (K21 : Int32 × Int32 × Int32 × St → Option (Int32 × St)) (v2 : Int32) (v4 : Int32) (v5 : Int32) (σ : St) : Option (Int32 × St) :=
  f_X3_fewestSent_73 K21 v2 v5 v4 σ
theorem b_X3_fewestSent_70 {Γ : CX} (K21 : Int32 × Int32 × Int32 × St → Option (Int32 × St)) (hK21 : ∀ (v2 : Int32) (v3 : Int32) (v4 : Int32) (σ : St), RR vI Γ (K21 (v2, v3, v4, σ)) → WW Γ cX3_fewestSent 6 RX3 (some .int) rX3_fewestSent σ 21 [(0, .ref (xd Γ 36)), (2, .int v2), (3, .int v3), (4, .int v4)] []) (v2 : Int32) (v4 : Int32) (v5 : Int32) (σ : St) (h : RR vI Γ (f_X3_fewestSent_70 K21 v2 v4 v5 σ)) : WW Γ cX3_fewestSent 6 RX3 (some .int) rX3_fewestSent σ 70 [(0, .ref (xd Γ 36)), (2, .int v2), (4, .int v4), (5, .int v5)] [] := by
  unfold f_X3_fewestSent_70 at h
  refine w_iload 3 dX3_fewestSent_70 rfl rfl ?_
  refine w_istore_n [(3, .int v5), (0, .ref (xd Γ 36)), (2, .int v2), (4, .int v4), (5, .int v5)] dX3_fewestSent_72 rfl (by decide) rfl rfl ?_
  exact w_sub [1, 2, 0, 3] rfl (b_X3_fewestSent_73 K21 hK21 v2 v5 v4 σ h)
def g_X3_fewestSent_21 (K21 : Int32 × Int32 × Int32 × St → Option (Int32 × St)) (x : Int32 × Int32 × Int32 × St) : Option (Int32 × St) := match x with
  | (v2, v3, v4, σ) =>
  bd (f_X10_sets 1 σ) fun r1 s2 =>
  if r1 ≤ v4 then
    some (v3, s2)
  else
    bd (f_J6_bitCount_0f7a4 v4 s2) fun r4 s5 =>
    if (v4 &&& (v2 ^^^ (-1 : Int32))) = 0 then
      gd (inb v4 (ln 40)) <|
      if (gr s5 40 v4.toNatClampNeg) = 0 then
        f_X3_fewestSent_73 K21 v2 v3 v4 s5
      else
        if v3 = (-1 : Int32) then
          f_X3_fewestSent_70 K21 v2 v4 r4 s5
        else
          if v3 ≤ r4 then
            f_X3_fewestSent_73 K21 v2 v3 v4 s5
          else
            f_X3_fewestSent_70 K21 v2 v4 r4 s5
    else
      f_X3_fewestSent_73 K21 v2 v3 v4 s5
theorem l_X3_fewestSent_21 {Γ : CX} : ∀ (n : Nat) (v2 : Int32) (v3 : Int32) (v4 : Int32) (σ : St), RR vI Γ (itr (g_X3_fewestSent_21) n (v2, v3, v4, σ)) → WW Γ cX3_fewestSent 6 RX3 (some .int) rX3_fewestSent σ 21 [(0, .ref (xd Γ 36)), (2, .int v2), (3, .int v3), (4, .int v4)] [] := by
  intro n
  induction n with
  | zero => intro v2 v3 v4 σ h; exact RR.no h
  | succ n hK21 =>
  intro v2 v3 v4 σ h
  have h : RR vI Γ (g_X3_fewestSent_21 (itr (g_X3_fewestSent_21) n) (v2, v3, v4, σ)) := h
  generalize itr (g_X3_fewestSent_21) n = K21 at h hK21
  unfold g_X3_fewestSent_21 at h
  dsimp only at h
  refine w_iload 3 dX3_fewestSent_21 rfl rfl ?_
  refine w_aload_n 0 dX3_fewestSent_23 rfl rfl rfl ?_
  refine gf_RX3_32 dX3_fewestSent_24 rfl ?_
  obtain ⟨r1, s2, h3, h⟩ := h.bd
  refine k_X10_sets ml_RX3_58 (Nat.le_of_ble_eq_true rfl) ⟨Nat.le_of_ble_eq_true rfl, Nat.le_of_ble_eq_true rfl⟩ dX3_fewestSent_27 rfl h3 ?_
  refine w_icmp_ge (tgt := 79) dX3_fewestSent_30 (by decide) rfl (fun q => ?_) (fun q => ?_)
  · have h := h.tt q
    refine w_iload_n 2 dX3_fewestSent_79 rfl rfl rfl ?_
    exact w_ireturn dX3_fewestSent_80 h
  · have h := h.ff q
    refine w_iload 3 dX3_fewestSent_33 rfl rfl ?_
    obtain ⟨r4, s5, h6, h⟩ := h.bd
    refine k_J6_bitCount_0f7a4 ml_RX3_62 (Nat.le_of_ble_eq_true rfl) ⟨Nat.le_of_ble_eq_true rfl, Nat.le_of_ble_eq_true rfl⟩ dX3_fewestSent_35 rfl h6 ?_
    refine w_istore [(5, .int r4), (0, .ref (xd Γ 36)), (2, .int v2), (3, .int v3), (4, .int v4)] dX3_fewestSent_38 (by decide) rfl rfl ?_
    refine w_iload 4 dX3_fewestSent_40 rfl rfl ?_
    refine w_iload_n 2 dX3_fewestSent_42 rfl rfl rfl ?_
    refine w_iconst (-1 : Int32) dX3_fewestSent_43 ic_iconst_m1 rfl ?_
    refine w_ixor dX3_fewestSent_44 rfl ?_
    refine w_iand dX3_fewestSent_45 rfl ?_
    refine w_if_ne (tgt := 73) dX3_fewestSent_46 (by decide) rfl (fun q => ?_) (fun q => ?_)
    · have h := h.ff q
      exact w_sub [1, 2, 3, 4] rfl (b_X3_fewestSent_73 K21 hK21 v2 v3 v4 s5 h)
    · have h := h.tt q
      refine w_aload_n 1 dX3_fewestSent_49 rfl rfl rfl ?_
      refine gf_RX3_22 dX3_fewestSent_50 rfl ?_
      refine w_iload 4 dX3_fewestSent_53 rfl rfl ?_
      obtain ⟨hi7, h⟩ := h.gd
      refine w_zald (i := 40) (lt_lit (by decide)) rfl hi7 dX3_fewestSent_55 rfl ?_
      refine w_if_eq (tgt := 73) dX3_fewestSent_56 (by decide) rfl (fun q => ?_) (fun q => ?_)
      · have h := h.tt q
        exact w_sub [1, 2, 3, 4] rfl (b_X3_fewestSent_73 K21 hK21 v2 v3 v4 s5 h)
      · have h := h.ff q
        refine w_iload_n 3 dX3_fewestSent_59 rfl rfl rfl ?_
        refine w_iconst (-1 : Int32) dX3_fewestSent_60 ic_iconst_m1 rfl ?_
        refine w_icmp_eq (tgt := 70) dX3_fewestSent_61 (by decide) rfl (fun q => ?_) (fun q => ?_)
        · have h := h.tt q
          exact w_sub [1, 2, 4, 0] rfl (b_X3_fewestSent_70 K21 hK21 v2 v4 r4 s5 h)
        · have h := h.ff q
          refine w_iload 0 dX3_fewestSent_64 rfl rfl ?_
          refine w_iload_n 3 dX3_fewestSent_66 rfl rfl rfl ?_
          refine w_icmp_ge (tgt := 73) dX3_fewestSent_67 (by decide) rfl (fun q => ?_) (fun q => ?_)
          · have h := h.tt q
            exact w_sub [1, 2, 3, 4] rfl (b_X3_fewestSent_73 K21 hK21 v2 v3 v4 s5 h)
          · have h := h.ff q
            exact w_sub [1, 2, 4, 0] rfl (b_X3_fewestSent_70 K21 hK21 v2 v4 r4 s5 h)
def f_X3_fewestSent (p0 : Int32) (σ : St) : Option (Int32 × St) :=
  bd (f_X3_fitByChance p0 (100 : Int32) σ) fun _ s2 =>
  bd (f_X10_trainsOf 1 p0 s2) fun r4 s5 =>
  itr (g_X3_fewestSent_21) FU (r4, (-1 : Int32), (0 : Int32), s5)
theorem e_X3_fewestSent {Γ : CX} (p0 : Int32) (σ : St) (h : RR vI Γ (f_X3_fewestSent p0 σ)) : WW Γ cX3_fewestSent 6 RX3 (some .int) rX3_fewestSent σ 0 [(0, .ref (xd Γ 36)), (1, .int p0)] [] := by
  unfold f_X3_fewestSent at h
  refine w_aload_n 0 dX3_fewestSent_0 rfl rfl rfl ?_
  refine w_iload_n 1 dX3_fewestSent_1 rfl rfl rfl ?_
  refine w_bipush (100 : Int32) dX3_fewestSent_2 ic_bipush_100 rfl ?_
  obtain ⟨r1, s2, h3, h⟩ := h.bd
  refine k_X3_fitByChance ml_RX3_54 (Nat.le_of_ble_eq_true rfl) ⟨Nat.le_of_ble_eq_true rfl, Nat.le_of_ble_eq_true rfl⟩ dX3_fewestSent_4 rfl h3 ?_
  refine w_aload_n 0 dX3_fewestSent_7 rfl rfl rfl ?_
  refine gf_RX3_32 dX3_fewestSent_8 rfl ?_
  refine w_iload_n 1 dX3_fewestSent_11 rfl rfl rfl ?_
  obtain ⟨r4, s5, h6, h⟩ := h.bd
  refine k_X10_trainsOf ml_RX3_44 (Nat.le_of_ble_eq_true rfl) ⟨Nat.le_of_ble_eq_true rfl, Nat.le_of_ble_eq_true rfl⟩ dX3_fewestSent_12 rfl h6 ?_
  refine w_istore_n [(2, .int r4), (0, .ref (xd Γ 36)), (1, .int p0)] dX3_fewestSent_15 rfl (by decide) rfl rfl ?_
  refine w_iconst (-1 : Int32) dX3_fewestSent_16 ic_iconst_m1 rfl ?_
  refine w_istore_n [(3, .int (-1 : Int32)), (2, .int r4), (0, .ref (xd Γ 36)), (1, .int p0)] dX3_fewestSent_17 rfl (by decide) rfl rfl ?_
  refine w_iconst (0 : Int32) dX3_fewestSent_18 ic_iconst_0 rfl ?_
  refine w_istore [(4, .int (0 : Int32)), (3, .int (-1 : Int32)), (2, .int r4), (0, .ref (xd Γ 36)), (1, .int p0)] dX3_fewestSent_19 (by decide) rfl rfl ?_
  exact w_sub [3, 2, 1, 0] rfl (l_X3_fewestSent_21 FU r4 (-1 : Int32) (0 : Int32) s5 h)
theorem c_X3_fewestSent {l : Launch} {D : va_G} {cy : Nat → ClassId} {ad : Nat → Nat} {p0 : Int32} {σ σ' : St} {r : Int32} (hf : f_X3_fewestSent p0 σ = some (r, σ')) : CT l D cy ad yX3_fewestSent cX3_fewestSent 6 (some .int) rX3_fewestSent [.ref (ad 36), .int p0] σ (some (.int r)) σ' :=
  ct_of (by decide) (Nat.le_of_ble_eq_true rfl) (fun p e s m args below meth c A => e_X3_fewestSent (Γ := (p, l, e, rX3_fewestSent, s, m, args, below, meth, c, D, cy, ad, A, 0, 0, MQ below (QC D cy ad (some (.int r)) σ' A) args s 0 0 A)) p0 σ ⟨_, hf, rfl⟩)
theorem k_X3_fewestSent {Γ : CX} {cc : ByteArray} {nL : Nat} {own : String} {ret : Option FieldType} {rm : Room} {σ σ' : St} {pc pc' idx : Nat} {lv : List (Nat × Value)} {rest : List Value} {p0 : Int32} {r : Int32} (hl : Cond.methodLink own idx yX3_fewestSent ∈ TB) (hw : (rest.map fun v => v.category).sum ≤ 8) (hR : rX3_fewestSent.frames + 1 ≤ rm.frames ∧ 8 + (6 + 11) + rX3_fewestSent.locals ≤ rm.locals) (hd : decode cc pc = .ok (.invokevirtual idx, 3)) (hp : pc + 3 = pc') (hf : f_X3_fewestSent p0 σ = some (r, σ')) (h : WW Γ cc nL own ret rm σ' pc' lv (.int r :: rest)) : WW Γ cc nL own ret rm σ pc lv (.int p0 :: .ref (xd Γ 36) :: rest) :=
  w_callV (nn := 1) (i := 36) (As := [.int p0]) (v := (some (.int r))) (T := TX3) (N := 8) (c_X3_fewestSent hf) hl mw_X3_fewestSent (by decide +kernel) ⟨rfl, rfl⟩ hR (lt_lit (by decide)) cel_36 rfl rfl hw hd rfl hp h
/-! WarByHours.Fares.riskedSet (II)I -/
def rX3_riskedSet : Room := { frames := 5, cells := 0, slots := 0, locals := 115 }
def f_X3_riskedSet (p0 : Int32) (p1 : Int32) (σ : St) : Option (Int32 × St) :=
  bd (f_X3_takePrices σ) fun _ s2 =>
  bd (f_X3_fitByChance p0 p1 s2) fun _ s5 =>
  bd (f_X10_trainsOf 1 p0 s5) fun r7 s8 =>
  bd (f_X3_cheapest r7 s8) fun r10 s11 =>
  some (r10, s11)
theorem e_X3_riskedSet {Γ : CX} (p0 : Int32) (p1 : Int32) (σ : St) (h : RR vI Γ (f_X3_riskedSet p0 p1 σ)) : WW Γ cX3_riskedSet 3 RX3 (some .int) rX3_riskedSet σ 0 [(0, .ref (xd Γ 36)), (1, .int p0), (2, .int p1)] [] := by
  unfold f_X3_riskedSet at h
  refine w_aload_n 0 dX3_riskedSet_0 rfl rfl rfl ?_
  obtain ⟨r1, s2, h3, h⟩ := h.bd
  refine k_X3_takePrices ml_RX3_67 (Nat.le_of_ble_eq_true rfl) ⟨Nat.le_of_ble_eq_true rfl, Nat.le_of_ble_eq_true rfl⟩ dX3_riskedSet_1 rfl h3 ?_
  refine w_aload_n 0 dX3_riskedSet_4 rfl rfl rfl ?_
  refine w_iload_n 1 dX3_riskedSet_5 rfl rfl rfl ?_
  refine w_iload_n 2 dX3_riskedSet_6 rfl rfl rfl ?_
  obtain ⟨r4, s5, h6, h⟩ := h.bd
  refine k_X3_fitByChance ml_RX3_54 (Nat.le_of_ble_eq_true rfl) ⟨Nat.le_of_ble_eq_true rfl, Nat.le_of_ble_eq_true rfl⟩ dX3_riskedSet_7 rfl h6 ?_
  refine w_aload_n 0 dX3_riskedSet_10 rfl rfl rfl ?_
  refine w_aload_n 0 dX3_riskedSet_11 rfl rfl rfl ?_
  refine gf_RX3_32 dX3_riskedSet_12 rfl ?_
  refine w_iload_n 1 dX3_riskedSet_15 rfl rfl rfl ?_
  obtain ⟨r7, s8, h9, h⟩ := h.bd
  refine k_X10_trainsOf ml_RX3_44 (Nat.le_of_ble_eq_true rfl) ⟨Nat.le_of_ble_eq_true rfl, Nat.le_of_ble_eq_true rfl⟩ dX3_riskedSet_16 rfl h9 ?_
  obtain ⟨r10, s11, h12, h⟩ := h.bd
  refine k_X3_cheapest ml_RX3_70 (Nat.le_of_ble_eq_true rfl) ⟨Nat.le_of_ble_eq_true rfl, Nat.le_of_ble_eq_true rfl⟩ dX3_riskedSet_19 rfl h12 ?_
  exact w_ireturn dX3_riskedSet_22 h
theorem c_X3_riskedSet {l : Launch} {D : va_G} {cy : Nat → ClassId} {ad : Nat → Nat} {p0 : Int32} {p1 : Int32} {σ σ' : St} {r : Int32} (hf : f_X3_riskedSet p0 p1 σ = some (r, σ')) : CT l D cy ad yX3_riskedSet cX3_riskedSet 3 (some .int) rX3_riskedSet [.ref (ad 36), .int p0, .int p1] σ (some (.int r)) σ' :=
  ct_of (by decide) (Nat.le_of_ble_eq_true rfl) (fun p e s m args below meth c A => e_X3_riskedSet (Γ := (p, l, e, rX3_riskedSet, s, m, args, below, meth, c, D, cy, ad, A, 0, 0, MQ below (QC D cy ad (some (.int r)) σ' A) args s 0 0 A)) p0 p1 σ ⟨_, hf, rfl⟩)
theorem k_X3_riskedSet {Γ : CX} {cc : ByteArray} {nL : Nat} {own : String} {ret : Option FieldType} {rm : Room} {σ σ' : St} {pc pc' idx : Nat} {lv : List (Nat × Value)} {rest : List Value} {p0 : Int32} {p1 : Int32} {r : Int32} (hl : Cond.methodLink own idx yX3_riskedSet ∈ TB) (hw : (rest.map fun v => v.category).sum ≤ 8) (hR : rX3_riskedSet.frames + 1 ≤ rm.frames ∧ 8 + (3 + 11) + rX3_riskedSet.locals ≤ rm.locals) (hd : decode cc pc = .ok (.invokevirtual idx, 3)) (hp : pc + 3 = pc') (hf : f_X3_riskedSet p0 p1 σ = some (r, σ')) (h : WW Γ cc nL own ret rm σ' pc' lv (.int r :: rest)) : WW Γ cc nL own ret rm σ pc lv (.int p1 :: .int p0 :: .ref (xd Γ 36) :: rest) :=
  w_callV (nn := 2) (i := 36) (As := [.int p0, .int p1]) (v := (some (.int r))) (T := TX3) (N := 8) (c_X3_riskedSet hf) hl mw_X3_riskedSet (by decide +kernel) ⟨rfl, rfl⟩ hR (lt_lit (by decide)) cel_36 rfl rfl hw hd rfl hp h
/-! WarByHours.Reader.readWar ()V -/
def rX6_readWar : Room := { frames := 6, cells := 0, slots := 0, locals := 128 }
def f_X6_readWar (σ : St) : Option (Unit × St) :=
  bd (f_X6_word 6 σ) fun _ s2 =>
  bd (f_X6_word 7 s2) fun _ s5 =>
  bd (f_X6_number (1 : Int32) (60 : Int32) s5) fun r7 s8 =>
  bnd (sf s8 15 1 r7) fun s10 =>
  bd (f_X6_word 8 s10) fun _ s12 =>
  bd (f_X6_number (0 : Int32) ((gf s12 15 1) - (1 : Int32)) s12) fun r14 s15 =>
  bnd (sf s15 15 2 r14) fun s17 =>
  bd (f_X6_word 9 s17) fun _ s19 =>
  bd (f_X6_number (0 : Int32) (60 : Int32) s19) fun r21 s22 =>
  bnd (sf s22 15 3 r21) fun s24 =>
  bd (f_X6_word 10 s24) fun _ s26 =>
  bd (f_X6_number (0 : Int32) (100 : Int32) s26) fun r28 s29 =>
  bnd (sf s29 15 4 r28) fun s31 =>
  some ((), s31)
theorem e_X6_readWar {Γ : CX} (σ : St) (h : RR vU Γ (f_X6_readWar σ)) : WW Γ cX6_readWar 1 RX6 none rX6_readWar σ 0 [(0, .ref (xd Γ 29))] [] := by
  unfold f_X6_readWar at h
  refine w_aload_n 0 dX6_readWar_0 rfl rfl rfl ?_
  refine w_ldcS (k := 6) (tx := "war") (List.mem_of_getElem? (i := 6) rfl) dX6_readWar_1 rfl ?_
  obtain ⟨r1, s2, h3, h⟩ := h.bd
  refine k_X6_word ml_RX6_99 (Nat.le_of_ble_eq_true rfl) ⟨Nat.le_of_ble_eq_true rfl, Nat.le_of_ble_eq_true rfl⟩ dX6_readWar_3 rfl h3 ?_
  refine w_aload_n 0 dX6_readWar_6 rfl rfl rfl ?_
  refine w_ldcS (k := 7) (tx := "minutes") (List.mem_of_getElem? (i := 7) rfl) dX6_readWar_7 rfl ?_
  obtain ⟨r4, s5, h6, h⟩ := h.bd
  refine k_X6_word ml_RX6_99 (Nat.le_of_ble_eq_true rfl) ⟨Nat.le_of_ble_eq_true rfl, Nat.le_of_ble_eq_true rfl⟩ dX6_readWar_9 rfl h6 ?_
  refine w_aload_n 0 dX6_readWar_12 rfl rfl rfl ?_
  refine gf_RX6_19 dX6_readWar_13 rfl ?_
  refine w_aload_n 0 dX6_readWar_16 rfl rfl rfl ?_
  refine w_iconst (1 : Int32) dX6_readWar_17 ic_iconst_1 rfl ?_
  refine w_bipush (60 : Int32) dX6_readWar_18 ic_bipush_60 rfl ?_
  obtain ⟨r7, s8, h9, h⟩ := h.bd
  refine k_X6_number ml_RX6_105 (Nat.le_of_ble_eq_true rfl) ⟨Nat.le_of_ble_eq_true rfl, Nat.le_of_ble_eq_true rfl⟩ dX6_readWar_20 rfl h9 ?_
  refine pf_RX6_109 (i := 15) (isW_lit (by decide)) dX6_readWar_23 rfl ?_
  obtain ⟨s10, es10⟩ : ∃ y : St, y = (sf s8 15 1 r7) := ⟨_, rfl⟩
  rw [← es10]
  replace h := h.bnd es10
  clear es10
  refine w_aload_n 0 dX6_readWar_26 rfl rfl rfl ?_
  refine w_ldcS (k := 8) (tx := "late") (List.mem_of_getElem? (i := 8) rfl) dX6_readWar_27 rfl ?_
  obtain ⟨r11, s12, h13, h⟩ := h.bd
  refine k_X6_word ml_RX6_99 (Nat.le_of_ble_eq_true rfl) ⟨Nat.le_of_ble_eq_true rfl, Nat.le_of_ble_eq_true rfl⟩ dX6_readWar_29 rfl h13 ?_
  refine w_aload_n 0 dX6_readWar_32 rfl rfl rfl ?_
  refine gf_RX6_19 dX6_readWar_33 rfl ?_
  refine w_aload_n 0 dX6_readWar_36 rfl rfl rfl ?_
  refine w_iconst (0 : Int32) dX6_readWar_37 ic_iconst_0 rfl ?_
  refine w_aload_n 0 dX6_readWar_38 rfl rfl rfl ?_
  refine gf_RX6_19 dX6_readWar_39 rfl ?_
  refine gf_RX6_109 (i := 15) (isW_lit (by decide)) dX6_readWar_42 rfl ?_
  refine w_iconst (1 : Int32) dX6_readWar_45 ic_iconst_1 rfl ?_
  refine w_isub dX6_readWar_46 rfl ?_
  obtain ⟨r14, s15, h16, h⟩ := h.bd
  refine k_X6_number ml_RX6_105 (Nat.le_of_ble_eq_true rfl) ⟨Nat.le_of_ble_eq_true rfl, Nat.le_of_ble_eq_true rfl⟩ dX6_readWar_47 rfl h16 ?_
  refine pf_RX6_113 (i := 15) (isW_lit (by decide)) dX6_readWar_50 rfl ?_
  obtain ⟨s17, es17⟩ : ∃ y : St, y = (sf s15 15 2 r14) := ⟨_, rfl⟩
  rw [← es17]
  replace h := h.bnd es17
  clear es17
  refine w_aload_n 0 dX6_readWar_53 rfl rfl rfl ?_
  refine w_ldcS (k := 9) (tx := "peace") (List.mem_of_getElem? (i := 9) rfl) dX6_readWar_54 rfl ?_
  obtain ⟨r18, s19, h20, h⟩ := h.bd
  refine k_X6_word ml_RX6_99 (Nat.le_of_ble_eq_true rfl) ⟨Nat.le_of_ble_eq_true rfl, Nat.le_of_ble_eq_true rfl⟩ dX6_readWar_56 rfl h20 ?_
  refine w_aload_n 0 dX6_readWar_59 rfl rfl rfl ?_
  refine gf_RX6_19 dX6_readWar_60 rfl ?_
  refine w_aload_n 0 dX6_readWar_63 rfl rfl rfl ?_
  refine w_iconst (0 : Int32) dX6_readWar_64 ic_iconst_0 rfl ?_
  refine w_bipush (60 : Int32) dX6_readWar_65 ic_bipush_60 rfl ?_
  obtain ⟨r21, s22, h23, h⟩ := h.bd
  refine k_X6_number ml_RX6_105 (Nat.le_of_ble_eq_true rfl) ⟨Nat.le_of_ble_eq_true rfl, Nat.le_of_ble_eq_true rfl⟩ dX6_readWar_67 rfl h23 ?_
  refine pf_RX6_118 (i := 15) (isW_lit (by decide)) dX6_readWar_70 rfl ?_
  obtain ⟨s24, es24⟩ : ∃ y : St, y = (sf s22 15 3 r21) := ⟨_, rfl⟩
  rw [← es24]
  replace h := h.bnd es24
  clear es24
  refine w_aload_n 0 dX6_readWar_73 rfl rfl rfl ?_
  refine w_ldcS (k := 10) (tx := "rain") (List.mem_of_getElem? (i := 10) rfl) dX6_readWar_74 rfl ?_
  obtain ⟨r25, s26, h27, h⟩ := h.bd
  refine k_X6_word ml_RX6_99 (Nat.le_of_ble_eq_true rfl) ⟨Nat.le_of_ble_eq_true rfl, Nat.le_of_ble_eq_true rfl⟩ dX6_readWar_76 rfl h27 ?_
  refine w_aload_n 0 dX6_readWar_79 rfl rfl rfl ?_
  refine gf_RX6_19 dX6_readWar_80 rfl ?_
  refine w_aload_n 0 dX6_readWar_83 rfl rfl rfl ?_
  refine w_iconst (0 : Int32) dX6_readWar_84 ic_iconst_0 rfl ?_
  refine w_bipush (100 : Int32) dX6_readWar_85 ic_bipush_100 rfl ?_
  obtain ⟨r28, s29, h30, h⟩ := h.bd
  refine k_X6_number ml_RX6_105 (Nat.le_of_ble_eq_true rfl) ⟨Nat.le_of_ble_eq_true rfl, Nat.le_of_ble_eq_true rfl⟩ dX6_readWar_87 rfl h30 ?_
  refine pf_RX6_122 (i := 15) (isW_lit (by decide)) dX6_readWar_90 rfl ?_
  obtain ⟨s31, es31⟩ : ∃ y : St, y = (sf s29 15 4 r28) := ⟨_, rfl⟩
  rw [← es31]
  replace h := h.bnd es31
  clear es31
  exact w_return dX6_readWar_93 h
theorem c_X6_readWar {l : Launch} {D : va_G} {cy : Nat → ClassId} {ad : Nat → Nat}  {σ σ' : St} {r : Unit} (hf : f_X6_readWar σ = some (r, σ')) : CT l D cy ad yX6_readWar cX6_readWar 1 none rX6_readWar [.ref (ad 29)] σ none σ' :=
  ct_of (by decide) (Nat.le_of_ble_eq_true rfl) (fun p e s m args below meth c A => e_X6_readWar (Γ := (p, l, e, rX6_readWar, s, m, args, below, meth, c, D, cy, ad, A, 0, 0, MQ below (QC D cy ad none σ' A) args s 0 0 A)) σ ⟨_, hf, rfl⟩)
theorem k_X6_readWar {Γ : CX} {cc : ByteArray} {nL : Nat} {own : String} {ret : Option FieldType} {rm : Room} {σ σ' : St} {pc pc' idx : Nat} {lv : List (Nat × Value)} {rest : List Value}  {r : Unit} (hl : Cond.methodLink own idx yX6_readWar ∈ TB) (hw : (rest.map fun v => v.category).sum ≤ 8) (hR : rX6_readWar.frames + 1 ≤ rm.frames ∧ 8 + (1 + 11) + rX6_readWar.locals ≤ rm.locals) (hd : decode cc pc = .ok (.invokevirtual idx, 3)) (hp : pc + 3 = pc') (hf : f_X6_readWar σ = some (r, σ')) (h : WW Γ cc nL own ret rm σ' pc' lv (rest)) : WW Γ cc nL own ret rm σ pc lv (.ref (xd Γ 29) :: rest) :=
  w_callV (nn := 0) (i := 29) (As := []) (v := none) (T := TX6) (N := 9) (c_X6_readWar hf) hl mw_X6_readWar (by decide +kernel) ⟨rfl, rfl⟩ hR (lt_lit (by decide)) cel_29 rfl rfl hw hd rfl hp h
/-! WarByHours.Reader.readTrain ()V -/
def rX6_readTrain : Room := { frames := 6, cells := 0, slots := 0, locals := 128 }
def f_X6_readTrain (σ : St) : Option (Unit × St) :=
  bd (f_X6_begin 17 σ) fun _ s2 =>
  bd (f_X6_cell 17 (0 : Int32) (0 : Int32) (1 : Int32) s2) fun _ s5 =>
  bd (f_X6_word 11 s5) fun _ s8 =>
  bd (f_X6_cell 17 (1 : Int32) (1 : Int32) (99 : Int32) s8) fun _ s11 =>
  bd (f_X6_word 12 s11) fun _ s14 =>
  bd (f_X6_cell 17 (2 : Int32) (0 : Int32) (59 : Int32) s14) fun _ s17 =>
  bd (f_X6_word 13 s17) fun _ s20 =>
  bd (f_X6_cell 17 (3 : Int32) (0 : Int32) (100 : Int32) s20) fun _ s23 =>
  bd (f_X6_word 14 s23) fun _ s26 =>
  bd (f_X6_cell 17 (4 : Int32) (1 : Int32) (30 : Int32) s26) fun _ s29 =>
  bd (f_X6_word 15 s29) fun _ s32 =>
  bd (f_X6_cell 17 (5 : Int32) (0 : Int32) (999 : Int32) s32) fun _ s35 =>
  some ((), s35)
theorem e_X6_readTrain {Γ : CX} (σ : St) (h : RR vU Γ (f_X6_readTrain σ)) : WW Γ cX6_readTrain 1 RX6 none rX6_readTrain σ 0 [(0, .ref (xd Γ 29))] [] := by
  unfold f_X6_readTrain at h
  refine w_aload_n 0 dX6_readTrain_0 rfl rfl rfl ?_
  refine w_aload_n 0 dX6_readTrain_1 rfl rfl rfl ?_
  refine gf_RX6_19 dX6_readTrain_2 rfl ?_
  refine gf_RX6_128 (i := 15) (isW_lit (by decide)) dX6_readTrain_5 rfl ?_
  obtain ⟨r1, s2, h3, h⟩ := h.bd
  refine k_X6_begin ml_RX6_131 (Nat.le_of_ble_eq_true rfl) ⟨Nat.le_of_ble_eq_true rfl, Nat.le_of_ble_eq_true rfl⟩ dX6_readTrain_8 rfl h3 ?_
  refine w_aload_n 0 dX6_readTrain_11 rfl rfl rfl ?_
  refine w_aload_n 0 dX6_readTrain_12 rfl rfl rfl ?_
  refine gf_RX6_19 dX6_readTrain_13 rfl ?_
  refine gf_RX6_128 (i := 15) (isW_lit (by decide)) dX6_readTrain_16 rfl ?_
  refine w_iconst (0 : Int32) dX6_readTrain_19 ic_iconst_0 rfl ?_
  refine w_iconst (0 : Int32) dX6_readTrain_20 ic_iconst_0 rfl ?_
  refine w_iconst (1 : Int32) dX6_readTrain_21 ic_iconst_1 rfl ?_
  obtain ⟨r4, s5, h6, h⟩ := h.bd
  refine k_X6_cell ml_RX6_134 (Nat.le_of_ble_eq_true rfl) ⟨Nat.le_of_ble_eq_true rfl, Nat.le_of_ble_eq_true rfl⟩ dX6_readTrain_22 rfl h6 ?_
  refine w_aload_n 0 dX6_readTrain_25 rfl rfl rfl ?_
  refine w_ldcS (k := 11) (tx := "men") (List.mem_of_getElem? (i := 11) rfl) dX6_readTrain_26 rfl ?_
  obtain ⟨r7, s8, h9, h⟩ := h.bd
  refine k_X6_word ml_RX6_99 (Nat.le_of_ble_eq_true rfl) ⟨Nat.le_of_ble_eq_true rfl, Nat.le_of_ble_eq_true rfl⟩ dX6_readTrain_28 rfl h9 ?_
  refine w_aload_n 0 dX6_readTrain_31 rfl rfl rfl ?_
  refine w_aload_n 0 dX6_readTrain_32 rfl rfl rfl ?_
  refine gf_RX6_19 dX6_readTrain_33 rfl ?_
  refine gf_RX6_128 (i := 15) (isW_lit (by decide)) dX6_readTrain_36 rfl ?_
  refine w_iconst (1 : Int32) dX6_readTrain_39 ic_iconst_1 rfl ?_
  refine w_iconst (1 : Int32) dX6_readTrain_40 ic_iconst_1 rfl ?_
  refine w_bipush (99 : Int32) dX6_readTrain_41 ic_bipush_99 rfl ?_
  obtain ⟨r10, s11, h12, h⟩ := h.bd
  refine k_X6_cell ml_RX6_134 (Nat.le_of_ble_eq_true rfl) ⟨Nat.le_of_ble_eq_true rfl, Nat.le_of_ble_eq_true rfl⟩ dX6_readTrain_43 rfl h12 ?_
  refine w_aload_n 0 dX6_readTrain_46 rfl rfl rfl ?_
  refine w_ldcS (k := 12) (tx := "due") (List.mem_of_getElem? (i := 12) rfl) dX6_readTrain_47 rfl ?_
  obtain ⟨r13, s14, h15, h⟩ := h.bd
  refine k_X6_word ml_RX6_99 (Nat.le_of_ble_eq_true rfl) ⟨Nat.le_of_ble_eq_true rfl, Nat.le_of_ble_eq_true rfl⟩ dX6_readTrain_49 rfl h15 ?_
  refine w_aload_n 0 dX6_readTrain_52 rfl rfl rfl ?_
  refine w_aload_n 0 dX6_readTrain_53 rfl rfl rfl ?_
  refine gf_RX6_19 dX6_readTrain_54 rfl ?_
  refine gf_RX6_128 (i := 15) (isW_lit (by decide)) dX6_readTrain_57 rfl ?_
  refine w_iconst (2 : Int32) dX6_readTrain_60 ic_iconst_2 rfl ?_
  refine w_iconst (0 : Int32) dX6_readTrain_61 ic_iconst_0 rfl ?_
  refine w_bipush (59 : Int32) dX6_readTrain_62 ic_bipush_59 rfl ?_
  obtain ⟨r16, s17, h18, h⟩ := h.bd
  refine k_X6_cell ml_RX6_134 (Nat.le_of_ble_eq_true rfl) ⟨Nat.le_of_ble_eq_true rfl, Nat.le_of_ble_eq_true rfl⟩ dX6_readTrain_64 rfl h18 ?_
  refine w_aload_n 0 dX6_readTrain_67 rfl rfl rfl ?_
  refine w_ldcS (k := 13) (tx := "odds") (List.mem_of_getElem? (i := 13) rfl) dX6_readTrain_68 rfl ?_
  obtain ⟨r19, s20, h21, h⟩ := h.bd
  refine k_X6_word ml_RX6_99 (Nat.le_of_ble_eq_true rfl) ⟨Nat.le_of_ble_eq_true rfl, Nat.le_of_ble_eq_true rfl⟩ dX6_readTrain_70 rfl h21 ?_
  refine w_aload_n 0 dX6_readTrain_73 rfl rfl rfl ?_
  refine w_aload_n 0 dX6_readTrain_74 rfl rfl rfl ?_
  refine gf_RX6_19 dX6_readTrain_75 rfl ?_
  refine gf_RX6_128 (i := 15) (isW_lit (by decide)) dX6_readTrain_78 rfl ?_
  refine w_iconst (3 : Int32) dX6_readTrain_81 ic_iconst_3 rfl ?_
  refine w_iconst (0 : Int32) dX6_readTrain_82 ic_iconst_0 rfl ?_
  refine w_bipush (100 : Int32) dX6_readTrain_83 ic_bipush_100 rfl ?_
  obtain ⟨r22, s23, h24, h⟩ := h.bd
  refine k_X6_cell ml_RX6_134 (Nat.le_of_ble_eq_true rfl) ⟨Nat.le_of_ble_eq_true rfl, Nat.le_of_ble_eq_true rfl⟩ dX6_readTrain_85 rfl h24 ?_
  refine w_aload_n 0 dX6_readTrain_88 rfl rfl rfl ?_
  refine w_ldcS (k := 14) (tx := "by") (List.mem_of_getElem? (i := 14) rfl) dX6_readTrain_89 rfl ?_
  obtain ⟨r25, s26, h27, h⟩ := h.bd
  refine k_X6_word ml_RX6_99 (Nat.le_of_ble_eq_true rfl) ⟨Nat.le_of_ble_eq_true rfl, Nat.le_of_ble_eq_true rfl⟩ dX6_readTrain_91 rfl h27 ?_
  refine w_aload_n 0 dX6_readTrain_94 rfl rfl rfl ?_
  refine w_aload_n 0 dX6_readTrain_95 rfl rfl rfl ?_
  refine gf_RX6_19 dX6_readTrain_96 rfl ?_
  refine gf_RX6_128 (i := 15) (isW_lit (by decide)) dX6_readTrain_99 rfl ?_
  refine w_iconst (4 : Int32) dX6_readTrain_102 ic_iconst_4 rfl ?_
  refine w_iconst (1 : Int32) dX6_readTrain_103 ic_iconst_1 rfl ?_
  refine w_bipush (30 : Int32) dX6_readTrain_104 ic_bipush_30 rfl ?_
  obtain ⟨r28, s29, h30, h⟩ := h.bd
  refine k_X6_cell ml_RX6_134 (Nat.le_of_ble_eq_true rfl) ⟨Nat.le_of_ble_eq_true rfl, Nat.le_of_ble_eq_true rfl⟩ dX6_readTrain_106 rfl h30 ?_
  refine w_aload_n 0 dX6_readTrain_109 rfl rfl rfl ?_
  refine w_ldcS (k := 15) (tx := "price") (List.mem_of_getElem? (i := 15) rfl) dX6_readTrain_110 rfl ?_
  obtain ⟨r31, s32, h33, h⟩ := h.bd
  refine k_X6_word ml_RX6_99 (Nat.le_of_ble_eq_true rfl) ⟨Nat.le_of_ble_eq_true rfl, Nat.le_of_ble_eq_true rfl⟩ dX6_readTrain_112 rfl h33 ?_
  refine w_aload_n 0 dX6_readTrain_115 rfl rfl rfl ?_
  refine w_aload_n 0 dX6_readTrain_116 rfl rfl rfl ?_
  refine gf_RX6_19 dX6_readTrain_117 rfl ?_
  refine gf_RX6_128 (i := 15) (isW_lit (by decide)) dX6_readTrain_120 rfl ?_
  refine w_iconst (5 : Int32) dX6_readTrain_123 ic_iconst_5 rfl ?_
  refine w_iconst (0 : Int32) dX6_readTrain_124 ic_iconst_0 rfl ?_
  refine w_sipush (999 : Int32) dX6_readTrain_125 ic_sipush_999 rfl ?_
  obtain ⟨r34, s35, h36, h⟩ := h.bd
  refine k_X6_cell ml_RX6_134 (Nat.le_of_ble_eq_true rfl) ⟨Nat.le_of_ble_eq_true rfl, Nat.le_of_ble_eq_true rfl⟩ dX6_readTrain_128 rfl h36 ?_
  exact w_return dX6_readTrain_131 h
theorem c_X6_readTrain {l : Launch} {D : va_G} {cy : Nat → ClassId} {ad : Nat → Nat}  {σ σ' : St} {r : Unit} (hf : f_X6_readTrain σ = some (r, σ')) : CT l D cy ad yX6_readTrain cX6_readTrain 1 none rX6_readTrain [.ref (ad 29)] σ none σ' :=
  ct_of (by decide) (Nat.le_of_ble_eq_true rfl) (fun p e s m args below meth c A => e_X6_readTrain (Γ := (p, l, e, rX6_readTrain, s, m, args, below, meth, c, D, cy, ad, A, 0, 0, MQ below (QC D cy ad none σ' A) args s 0 0 A)) σ ⟨_, hf, rfl⟩)
theorem k_X6_readTrain {Γ : CX} {cc : ByteArray} {nL : Nat} {own : String} {ret : Option FieldType} {rm : Room} {σ σ' : St} {pc pc' idx : Nat} {lv : List (Nat × Value)} {rest : List Value}  {r : Unit} (hl : Cond.methodLink own idx yX6_readTrain ∈ TB) (hw : (rest.map fun v => v.category).sum ≤ 8) (hR : rX6_readTrain.frames + 1 ≤ rm.frames ∧ 8 + (1 + 11) + rX6_readTrain.locals ≤ rm.locals) (hd : decode cc pc = .ok (.invokevirtual idx, 3)) (hp : pc + 3 = pc') (hf : f_X6_readTrain σ = some (r, σ')) (h : WW Γ cc nL own ret rm σ' pc' lv (rest)) : WW Γ cc nL own ret rm σ pc lv (.ref (xd Γ 29) :: rest) :=
  w_callV (nn := 0) (i := 29) (As := []) (v := none) (T := TX6) (N := 9) (c_X6_readTrain hf) hl mw_X6_readTrain (by decide +kernel) ⟨rfl, rfl⟩ hR (lt_lit (by decide)) cel_29 rfl rfl hw hd rfl hp h
/-! WarByHours.Reader.readSpan (LWarByHours$Table;)V -/
def rX6_readSpan : Room := { frames := 6, cells := 0, slots := 0, locals := 128 }
def f_X6_readSpan (u0 : Nat) (σ : St) : Option (Unit × St) :=
  gd (isT σ u0) <|
  bd (f_X6_begin u0 σ) fun _ s2 =>
  bd (f_X6_cell u0 (0 : Int32) (0 : Int32) (59 : Int32) s2) fun _ s5 =>
  bd (f_X6_word 16 s5) fun _ s8 =>
  gd (isT s8 u0) <|
  bd (f_X9_cell u0 ((gf s8 u0 3) - (1 : Int32)) (0 : Int32) s8) fun r10 s11 =>
  bd (f_X6_cell u0 (1 : Int32) r10 (59 : Int32) s11) fun _ s14 =>
  some ((), s14)
theorem e_X6_readSpan {Γ : CX} (u0 : Nat) (σ : St) (h : RR vU Γ (f_X6_readSpan u0 σ)) : WW Γ cX6_readSpan 2 RX6 none rX6_readSpan σ 0 [(0, .ref (xd Γ 29)), (1, .ref (xd Γ u0))] [] := by
  unfold f_X6_readSpan at h
  obtain ⟨hg_u0_σ, h⟩ := h.gd
  refine w_aload_n 0 dX6_readSpan_0 rfl rfl rfl ?_
  refine w_aload_n 1 dX6_readSpan_1 rfl rfl rfl ?_
  obtain ⟨r1, s2, h3, h⟩ := h.bd
  refine k_X6_begin ml_RX6_131 (Nat.le_of_ble_eq_true rfl) ⟨Nat.le_of_ble_eq_true rfl, Nat.le_of_ble_eq_true rfl⟩ dX6_readSpan_2 rfl h3 ?_
  refine w_aload_n 0 dX6_readSpan_5 rfl rfl rfl ?_
  refine w_aload_n 1 dX6_readSpan_6 rfl rfl rfl ?_
  refine w_iconst (0 : Int32) dX6_readSpan_7 ic_iconst_0 rfl ?_
  refine w_iconst (0 : Int32) dX6_readSpan_8 ic_iconst_0 rfl ?_
  refine w_bipush (59 : Int32) dX6_readSpan_9 ic_bipush_59 rfl ?_
  obtain ⟨r4, s5, h6, h⟩ := h.bd
  refine k_X6_cell ml_RX6_134 (Nat.le_of_ble_eq_true rfl) ⟨Nat.le_of_ble_eq_true rfl, Nat.le_of_ble_eq_true rfl⟩ dX6_readSpan_11 rfl h6 ?_
  refine w_aload_n 0 dX6_readSpan_14 rfl rfl rfl ?_
  refine w_ldcS (k := 16) (tx := "to") (List.mem_of_getElem? (i := 16) rfl) dX6_readSpan_15 rfl ?_
  obtain ⟨r7, s8, h9, h⟩ := h.bd
  refine k_X6_word ml_RX6_99 (Nat.le_of_ble_eq_true rfl) ⟨Nat.le_of_ble_eq_true rfl, Nat.le_of_ble_eq_true rfl⟩ dX6_readSpan_17 rfl h9 ?_
  refine w_aload_n 0 dX6_readSpan_20 rfl rfl rfl ?_
  refine w_aload_n 1 dX6_readSpan_21 rfl rfl rfl ?_
  refine w_iconst (1 : Int32) dX6_readSpan_22 ic_iconst_1 rfl ?_
  refine w_aload_n 1 dX6_readSpan_23 rfl rfl rfl ?_
  refine w_aload_n 1 dX6_readSpan_24 rfl rfl rfl ?_
  obtain ⟨hg_u0_s8, h⟩ := h.gd
  refine gf_RX6_149 (i := u0) hg_u0_s8 dX6_readSpan_25 rfl ?_
  refine w_iconst (1 : Int32) dX6_readSpan_28 ic_iconst_1 rfl ?_
  refine w_isub dX6_readSpan_29 rfl ?_
  refine w_iconst (0 : Int32) dX6_readSpan_30 ic_iconst_0 rfl ?_
  obtain ⟨r10, s11, h12, h⟩ := h.bd
  refine k_X9_cell ml_RX6_154 (Nat.le_of_ble_eq_true rfl) ⟨Nat.le_of_ble_eq_true rfl, Nat.le_of_ble_eq_true rfl⟩ dX6_readSpan_31 rfl h12 ?_
  refine w_bipush (59 : Int32) dX6_readSpan_34 ic_bipush_59 rfl ?_
  obtain ⟨r13, s14, h15, h⟩ := h.bd
  refine k_X6_cell ml_RX6_134 (Nat.le_of_ble_eq_true rfl) ⟨Nat.le_of_ble_eq_true rfl, Nat.le_of_ble_eq_true rfl⟩ dX6_readSpan_36 rfl h15 ?_
  exact w_return dX6_readSpan_39 h
theorem c_X6_readSpan {l : Launch} {D : va_G} {cy : Nat → ClassId} {ad : Nat → Nat} {u0 : Nat} {σ σ' : St} {r : Unit} (hf : f_X6_readSpan u0 σ = some (r, σ')) : CT l D cy ad yX6_readSpan cX6_readSpan 2 none rX6_readSpan [.ref (ad 29), .ref (ad u0)] σ none σ' :=
  ct_of (by decide) (Nat.le_of_ble_eq_true rfl) (fun p e s m args below meth c A => e_X6_readSpan (Γ := (p, l, e, rX6_readSpan, s, m, args, below, meth, c, D, cy, ad, A, 0, 0, MQ below (QC D cy ad none σ' A) args s 0 0 A)) u0 σ ⟨_, hf, rfl⟩)
theorem k_X6_readSpan {Γ : CX} {cc : ByteArray} {nL : Nat} {own : String} {ret : Option FieldType} {rm : Room} {σ σ' : St} {pc pc' idx : Nat} {lv : List (Nat × Value)} {rest : List Value} {u0 : Nat} {r : Unit} (hl : Cond.methodLink own idx yX6_readSpan ∈ TB) (hw : (rest.map fun v => v.category).sum ≤ 8) (hR : rX6_readSpan.frames + 1 ≤ rm.frames ∧ 8 + (2 + 11) + rX6_readSpan.locals ≤ rm.locals) (hd : decode cc pc = .ok (.invokevirtual idx, 3)) (hp : pc + 3 = pc') (hf : f_X6_readSpan u0 σ = some (r, σ')) (h : WW Γ cc nL own ret rm σ' pc' lv (rest)) : WW Γ cc nL own ret rm σ pc lv (.ref (xd Γ u0) :: .ref (xd Γ 29) :: rest) :=
  w_callV (nn := 1) (i := 29) (As := [.ref (xd Γ u0)]) (v := none) (T := TX6) (N := 9) (c_X6_readSpan hf) hl mw_X6_readSpan (by decide +kernel) ⟨rfl, rfl⟩ hR (lt_lit (by decide)) cel_29 rfl rfl hw hd rfl hp h
/-! WarByHours.Reader.readAsk ()V -/
def rX6_readAsk : Room := { frames := 6, cells := 0, slots := 0, locals := 128 }
def f_X6_readAsk (σ : St) : Option (Unit × St) :=
  bd (f_X6_begin 21 σ) fun _ s2 =>
  bd (f_X6_cell 21 (0 : Int32) (0 : Int32) (1 : Int32) s2) fun _ s5 =>
  bd (f_X6_word 17 s5) fun _ s8 =>
  bd (f_X6_cell 21 (1 : Int32) (0 : Int32) (59 : Int32) s8) fun _ s11 =>
  bd (f_X6_word 18 s11) fun _ s14 =>
  bd (f_X6_cell 21 (2 : Int32) (1 : Int32) (20 : Int32) s14) fun _ s17 =>
  bd (f_X6_word 19 s17) fun _ s20 =>
  bd (f_X6_cell 21 (3 : Int32) (1 : Int32) (99 : Int32) s20) fun _ s23 =>
  some ((), s23)
theorem e_X6_readAsk {Γ : CX} (σ : St) (h : RR vU Γ (f_X6_readAsk σ)) : WW Γ cX6_readAsk 1 RX6 none rX6_readAsk σ 0 [(0, .ref (xd Γ 29))] [] := by
  unfold f_X6_readAsk at h
  refine w_aload_n 0 dX6_readAsk_0 rfl rfl rfl ?_
  refine w_aload_n 0 dX6_readAsk_1 rfl rfl rfl ?_
  refine gf_RX6_19 dX6_readAsk_2 rfl ?_
  refine gf_RX6_156 (i := 15) (isW_lit (by decide)) dX6_readAsk_5 rfl ?_
  obtain ⟨r1, s2, h3, h⟩ := h.bd
  refine k_X6_begin ml_RX6_131 (Nat.le_of_ble_eq_true rfl) ⟨Nat.le_of_ble_eq_true rfl, Nat.le_of_ble_eq_true rfl⟩ dX6_readAsk_8 rfl h3 ?_
  refine w_aload_n 0 dX6_readAsk_11 rfl rfl rfl ?_
  refine w_aload_n 0 dX6_readAsk_12 rfl rfl rfl ?_
  refine gf_RX6_19 dX6_readAsk_13 rfl ?_
  refine gf_RX6_156 (i := 15) (isW_lit (by decide)) dX6_readAsk_16 rfl ?_
  refine w_iconst (0 : Int32) dX6_readAsk_19 ic_iconst_0 rfl ?_
  refine w_iconst (0 : Int32) dX6_readAsk_20 ic_iconst_0 rfl ?_
  refine w_iconst (1 : Int32) dX6_readAsk_21 ic_iconst_1 rfl ?_
  obtain ⟨r4, s5, h6, h⟩ := h.bd
  refine k_X6_cell ml_RX6_134 (Nat.le_of_ble_eq_true rfl) ⟨Nat.le_of_ble_eq_true rfl, Nat.le_of_ble_eq_true rfl⟩ dX6_readAsk_22 rfl h6 ?_
  refine w_aload_n 0 dX6_readAsk_25 rfl rfl rfl ?_
  refine w_ldcS (k := 17) (tx := "at") (List.mem_of_getElem? (i := 17) rfl) dX6_readAsk_26 rfl ?_
  obtain ⟨r7, s8, h9, h⟩ := h.bd
  refine k_X6_word ml_RX6_99 (Nat.le_of_ble_eq_true rfl) ⟨Nat.le_of_ble_eq_true rfl, Nat.le_of_ble_eq_true rfl⟩ dX6_readAsk_28 rfl h9 ?_
  refine w_aload_n 0 dX6_readAsk_31 rfl rfl rfl ?_
  refine w_aload_n 0 dX6_readAsk_32 rfl rfl rfl ?_
  refine gf_RX6_19 dX6_readAsk_33 rfl ?_
  refine gf_RX6_156 (i := 15) (isW_lit (by decide)) dX6_readAsk_36 rfl ?_
  refine w_iconst (1 : Int32) dX6_readAsk_39 ic_iconst_1 rfl ?_
  refine w_iconst (0 : Int32) dX6_readAsk_40 ic_iconst_0 rfl ?_
  refine w_bipush (59 : Int32) dX6_readAsk_41 ic_bipush_59 rfl ?_
  obtain ⟨r10, s11, h12, h⟩ := h.bd
  refine k_X6_cell ml_RX6_134 (Nat.le_of_ble_eq_true rfl) ⟨Nat.le_of_ble_eq_true rfl, Nat.le_of_ble_eq_true rfl⟩ dX6_readAsk_43 rfl h12 ?_
  refine w_aload_n 0 dX6_readAsk_46 rfl rfl rfl ?_
  refine w_ldcS (k := 18) (tx := "for") (List.mem_of_getElem? (i := 18) rfl) dX6_readAsk_47 rfl ?_
  obtain ⟨r13, s14, h15, h⟩ := h.bd
  refine k_X6_word ml_RX6_99 (Nat.le_of_ble_eq_true rfl) ⟨Nat.le_of_ble_eq_true rfl, Nat.le_of_ble_eq_true rfl⟩ dX6_readAsk_49 rfl h15 ?_
  refine w_aload_n 0 dX6_readAsk_52 rfl rfl rfl ?_
  refine w_aload_n 0 dX6_readAsk_53 rfl rfl rfl ?_
  refine gf_RX6_19 dX6_readAsk_54 rfl ?_
  refine gf_RX6_156 (i := 15) (isW_lit (by decide)) dX6_readAsk_57 rfl ?_
  refine w_iconst (2 : Int32) dX6_readAsk_60 ic_iconst_2 rfl ?_
  refine w_iconst (1 : Int32) dX6_readAsk_61 ic_iconst_1 rfl ?_
  refine w_bipush (20 : Int32) dX6_readAsk_62 ic_bipush_20 rfl ?_
  obtain ⟨r16, s17, h18, h⟩ := h.bd
  refine k_X6_cell ml_RX6_134 (Nat.le_of_ble_eq_true rfl) ⟨Nat.le_of_ble_eq_true rfl, Nat.le_of_ble_eq_true rfl⟩ dX6_readAsk_64 rfl h18 ?_
  refine w_aload_n 0 dX6_readAsk_67 rfl rfl rfl ?_
  refine w_ldcS (k := 19) (tx := "worth") (List.mem_of_getElem? (i := 19) rfl) dX6_readAsk_68 rfl ?_
  obtain ⟨r19, s20, h21, h⟩ := h.bd
  refine k_X6_word ml_RX6_99 (Nat.le_of_ble_eq_true rfl) ⟨Nat.le_of_ble_eq_true rfl, Nat.le_of_ble_eq_true rfl⟩ dX6_readAsk_70 rfl h21 ?_
  refine w_aload_n 0 dX6_readAsk_73 rfl rfl rfl ?_
  refine w_aload_n 0 dX6_readAsk_74 rfl rfl rfl ?_
  refine gf_RX6_19 dX6_readAsk_75 rfl ?_
  refine gf_RX6_156 (i := 15) (isW_lit (by decide)) dX6_readAsk_78 rfl ?_
  refine w_iconst (3 : Int32) dX6_readAsk_81 ic_iconst_3 rfl ?_
  refine w_iconst (1 : Int32) dX6_readAsk_82 ic_iconst_1 rfl ?_
  refine w_bipush (99 : Int32) dX6_readAsk_83 ic_bipush_99 rfl ?_
  obtain ⟨r22, s23, h24, h⟩ := h.bd
  refine k_X6_cell ml_RX6_134 (Nat.le_of_ble_eq_true rfl) ⟨Nat.le_of_ble_eq_true rfl, Nat.le_of_ble_eq_true rfl⟩ dX6_readAsk_85 rfl h24 ?_
  exact w_return dX6_readAsk_88 h
theorem c_X6_readAsk {l : Launch} {D : va_G} {cy : Nat → ClassId} {ad : Nat → Nat}  {σ σ' : St} {r : Unit} (hf : f_X6_readAsk σ = some (r, σ')) : CT l D cy ad yX6_readAsk cX6_readAsk 1 none rX6_readAsk [.ref (ad 29)] σ none σ' :=
  ct_of (by decide) (Nat.le_of_ble_eq_true rfl) (fun p e s m args below meth c A => e_X6_readAsk (Γ := (p, l, e, rX6_readAsk, s, m, args, below, meth, c, D, cy, ad, A, 0, 0, MQ below (QC D cy ad none σ' A) args s 0 0 A)) σ ⟨_, hf, rfl⟩)
theorem k_X6_readAsk {Γ : CX} {cc : ByteArray} {nL : Nat} {own : String} {ret : Option FieldType} {rm : Room} {σ σ' : St} {pc pc' idx : Nat} {lv : List (Nat × Value)} {rest : List Value}  {r : Unit} (hl : Cond.methodLink own idx yX6_readAsk ∈ TB) (hw : (rest.map fun v => v.category).sum ≤ 8) (hR : rX6_readAsk.frames + 1 ≤ rm.frames ∧ 8 + (1 + 11) + rX6_readAsk.locals ≤ rm.locals) (hd : decode cc pc = .ok (.invokevirtual idx, 3)) (hp : pc + 3 = pc') (hf : f_X6_readAsk σ = some (r, σ')) (h : WW Γ cc nL own ret rm σ' pc' lv (rest)) : WW Γ cc nL own ret rm σ pc lv (.ref (xd Γ 29) :: rest) :=
  w_callV (nn := 0) (i := 29) (As := []) (v := none) (T := TX6) (N := 9) (c_X6_readAsk hf) hl mw_X6_readAsk (by decide +kernel) ⟨rfl, rfl⟩ hR (lt_lit (by decide)) cel_29 rfl rfl hw hd rfl hp h
/-! WarByHours.Reader.readSpy ()V -/
def rX6_readSpy : Room := { frames := 6, cells := 0, slots := 0, locals := 128 }
def f_X6_readSpy_89 (v1 : Int32) (σ : St) : Option (Unit × St) :=
  bd (f_X9_set 25 ((gf σ 25 3) - (1 : Int32)) (0 : Int32) v1 σ) fun _ s2 =>
  some ((), s2)
theorem b_X6_readSpy_89 {Γ : CX} (v1 : Int32) (σ : St) (h : RR vU Γ (f_X6_readSpy_89 v1 σ)) : WW Γ cX6_readSpy 3 RX6 none rX6_readSpy σ 89 [(0, .ref (xd Γ 29)), (1, .int v1)] [] := by
  unfold f_X6_readSpy_89 at h
  refine w_aload_n 0 dX6_readSpy_89 rfl rfl rfl ?_
  refine gf_RX6_19 dX6_readSpy_90 rfl ?_
  refine gf_RX6_167 (i := 15) (isW_lit (by decide)) dX6_readSpy_93 rfl ?_
  refine w_aload_n 0 dX6_readSpy_96 rfl rfl rfl ?_
  refine gf_RX6_19 dX6_readSpy_97 rfl ?_
  refine gf_RX6_167 (i := 15) (isW_lit (by decide)) dX6_readSpy_100 rfl ?_
  refine gf_RX6_149 (i := 25) (isT_lit (by decide)) dX6_readSpy_103 rfl ?_
  refine w_iconst (1 : Int32) dX6_readSpy_106 ic_iconst_1 rfl ?_
  refine w_isub dX6_readSpy_107 rfl ?_
  refine w_iconst (0 : Int32) dX6_readSpy_108 ic_iconst_0 rfl ?_
  refine w_iload_n 1 dX6_readSpy_109 rfl rfl rfl ?_
  obtain ⟨r1, s2, h3, h⟩ := h.bd
  refine k_X9_set ml_RX6_172 (Nat.le_of_ble_eq_true rfl) ⟨Nat.le_of_ble_eq_true rfl, Nat.le_of_ble_eq_true rfl⟩ dX6_readSpy_110 rfl h3 ?_
  exact w_return dX6_readSpy_113 h
def g_X6_readSpy_39 (K39 : Int32 × Int32 × St → Option (Unit × St)) (x : Int32 × Int32 × St) : Option (Unit × St) := match x with
  | (v1, v2, σ) =>
  if (1200 : Int32) ≤ v2 then
    f_X6_readSpy_89 v1 σ
  else
    if (gf σ 29 7) = (3 : Int32) then
      if (gf σ 29 2) = 0 then
        bd (f_X6_number (0 : Int32) ((gf σ 17 3) - (1 : Int32)) σ) fun r1 s2 =>
        bnd ((v1 ||| ((1 : Int32) <<< (r1 &&& 31)))) fun x4 =>
        bnd (v2 + (1 : Int32)) fun x5 =>
        K39 (x4, x5, s2)
      else
        f_X6_readSpy_89 v1 σ
    else
      f_X6_readSpy_89 v1 σ
theorem l_X6_readSpy_39 {Γ : CX} : ∀ (n : Nat) (v1 : Int32) (v2 : Int32) (σ : St), RR vU Γ (itr (g_X6_readSpy_39) n (v1, v2, σ)) → WW Γ cX6_readSpy 3 RX6 none rX6_readSpy σ 39 [(0, .ref (xd Γ 29)), (1, .int v1), (2, .int v2)] [] := by
  intro n
  induction n with
  | zero => intro v1 v2 σ h; exact RR.no h
  | succ n hK39 =>
  intro v1 v2 σ h
  have h : RR vU Γ (g_X6_readSpy_39 (itr (g_X6_readSpy_39) n) (v1, v2, σ)) := h
  generalize itr (g_X6_readSpy_39) n = K39 at h hK39
  unfold g_X6_readSpy_39 at h
  dsimp only at h
  refine w_iload_n 2 dX6_readSpy_39 rfl rfl rfl ?_
  refine w_sipush (1200 : Int32) dX6_readSpy_40 ic_sipush_1200 rfl ?_
  refine w_icmp_ge (tgt := 89) dX6_readSpy_43 (by decide) rfl (fun q => ?_) (fun q => ?_)
  · have h := h.tt q
    exact w_sub [0, 1] rfl (b_X6_readSpy_89 v1 σ h)
  · have h := h.ff q
    refine w_aload_n 0 dX6_readSpy_46 rfl rfl rfl ?_
    refine gf_RX6_40 dX6_readSpy_47 rfl ?_
    refine w_iconst (3 : Int32) dX6_readSpy_50 ic_iconst_3 rfl ?_
    refine w_icmp_ne (tgt := 89) dX6_readSpy_51 (by decide) rfl (fun q => ?_) (fun q => ?_)
    · have h := h.ff q
      exact w_sub [0, 1] rfl (b_X6_readSpy_89 v1 σ h)
    · have h := h.tt q
      refine w_aload_n 0 dX6_readSpy_54 rfl rfl rfl ?_
      refine gf_RX6_31 dX6_readSpy_55 rfl ?_
      refine w_if_ne (tgt := 89) dX6_readSpy_58 (by decide) rfl (fun q => ?_) (fun q => ?_)
      · have h := h.ff q
        exact w_sub [0, 1] rfl (b_X6_readSpy_89 v1 σ h)
      · have h := h.tt q
        refine w_iload_n 1 dX6_readSpy_61 rfl rfl rfl ?_
        refine w_iconst (1 : Int32) dX6_readSpy_62 ic_iconst_1 rfl ?_
        refine w_aload_n 0 dX6_readSpy_63 rfl rfl rfl ?_
        refine w_iconst (0 : Int32) dX6_readSpy_64 ic_iconst_0 rfl ?_
        refine w_aload_n 0 dX6_readSpy_65 rfl rfl rfl ?_
        refine gf_RX6_19 dX6_readSpy_66 rfl ?_
        refine gf_RX6_128 (i := 15) (isW_lit (by decide)) dX6_readSpy_69 rfl ?_
        refine gf_RX6_149 (i := 17) (isT_lit (by decide)) dX6_readSpy_72 rfl ?_
        refine w_iconst (1 : Int32) dX6_readSpy_75 ic_iconst_1 rfl ?_
        refine w_isub dX6_readSpy_76 rfl ?_
        obtain ⟨r1, s2, h3, h⟩ := h.bd
        refine k_X6_number ml_RX6_105 (Nat.le_of_ble_eq_true rfl) ⟨Nat.le_of_ble_eq_true rfl, Nat.le_of_ble_eq_true rfl⟩ dX6_readSpy_77 rfl h3 ?_
        refine w_ishl dX6_readSpy_80 rfl ?_
        refine w_ior dX6_readSpy_81 rfl ?_
        refine w_nmI (fun x4 ex4 => ?_)
        replace h := h.bnd ex4
        clear ex4
        refine w_istore_n [(1, .int x4), (0, .ref (xd Γ 29)), (2, .int v2)] dX6_readSpy_82 rfl (by decide) rfl rfl ?_
        obtain ⟨x5, ex5⟩ : ∃ y : Int32, y = (v2 + (1 : Int32)) := ⟨_, rfl⟩
        replace h := h.bnd ex5
        refine w_iinc 2 x5 [(2, .int x5), (1, .int x4), (0, .ref (xd Γ 29))] dX6_readSpy_83 rfl (by rw [ex5, ic_iconst_1]) (by decide) rfl rfl ?_
        clear ex5
        refine w_goto (tgt := 39) dX6_readSpy_86 (by decide) ?_
        exact w_sub [2, 1, 0] rfl (hK39 x4 x5 s2 h)
def f_X6_readSpy (σ : St) : Option (Unit × St) :=
  bd (f_X6_begin 25 σ) fun _ s2 =>
  bd (f_X6_word 20 s2) fun _ s5 =>
  bd (f_X6_number (0 : Int32) ((gf s5 17 3) - (1 : Int32)) s5) fun r7 s8 =>
  bnd (((1 : Int32) <<< (r7 &&& 31))) fun x10 =>
  itr (g_X6_readSpy_39) FU (x10, (0 : Int32), s8)
theorem e_X6_readSpy {Γ : CX} (σ : St) (h : RR vU Γ (f_X6_readSpy σ)) : WW Γ cX6_readSpy 3 RX6 none rX6_readSpy σ 0 [(0, .ref (xd Γ 29))] [] := by
  unfold f_X6_readSpy at h
  refine w_aload_n 0 dX6_readSpy_0 rfl rfl rfl ?_
  refine w_aload_n 0 dX6_readSpy_1 rfl rfl rfl ?_
  refine gf_RX6_19 dX6_readSpy_2 rfl ?_
  refine gf_RX6_167 (i := 15) (isW_lit (by decide)) dX6_readSpy_5 rfl ?_
  obtain ⟨r1, s2, h3, h⟩ := h.bd
  refine k_X6_begin ml_RX6_131 (Nat.le_of_ble_eq_true rfl) ⟨Nat.le_of_ble_eq_true rfl, Nat.le_of_ble_eq_true rfl⟩ dX6_readSpy_8 rfl h3 ?_
  refine w_aload_n 0 dX6_readSpy_11 rfl rfl rfl ?_
  refine w_ldcS (k := 20) (tx := "knows") (List.mem_of_getElem? (i := 20) rfl) dX6_readSpy_12 rfl ?_
  obtain ⟨r4, s5, h6, h⟩ := h.bd
  refine k_X6_word ml_RX6_99 (Nat.le_of_ble_eq_true rfl) ⟨Nat.le_of_ble_eq_true rfl, Nat.le_of_ble_eq_true rfl⟩ dX6_readSpy_14 rfl h6 ?_
  refine w_iconst (1 : Int32) dX6_readSpy_17 ic_iconst_1 rfl ?_
  refine w_aload_n 0 dX6_readSpy_18 rfl rfl rfl ?_
  refine w_iconst (0 : Int32) dX6_readSpy_19 ic_iconst_0 rfl ?_
  refine w_aload_n 0 dX6_readSpy_20 rfl rfl rfl ?_
  refine gf_RX6_19 dX6_readSpy_21 rfl ?_
  refine gf_RX6_128 (i := 15) (isW_lit (by decide)) dX6_readSpy_24 rfl ?_
  refine gf_RX6_149 (i := 17) (isT_lit (by decide)) dX6_readSpy_27 rfl ?_
  refine w_iconst (1 : Int32) dX6_readSpy_30 ic_iconst_1 rfl ?_
  refine w_isub dX6_readSpy_31 rfl ?_
  obtain ⟨r7, s8, h9, h⟩ := h.bd
  refine k_X6_number ml_RX6_105 (Nat.le_of_ble_eq_true rfl) ⟨Nat.le_of_ble_eq_true rfl, Nat.le_of_ble_eq_true rfl⟩ dX6_readSpy_32 rfl h9 ?_
  refine w_ishl dX6_readSpy_35 rfl ?_
  refine w_nmI (fun x10 ex10 => ?_)
  replace h := h.bnd ex10
  clear ex10
  refine w_istore_n [(1, .int x10), (0, .ref (xd Γ 29))] dX6_readSpy_36 rfl (by decide) rfl rfl ?_
  refine w_iconst (0 : Int32) dX6_readSpy_37 ic_iconst_0 rfl ?_
  refine w_istore_n [(2, .int (0 : Int32)), (1, .int x10), (0, .ref (xd Γ 29))] dX6_readSpy_38 rfl (by decide) rfl rfl ?_
  exact w_sub [2, 1, 0] rfl (l_X6_readSpy_39 FU x10 (0 : Int32) s8 h)
theorem c_X6_readSpy {l : Launch} {D : va_G} {cy : Nat → ClassId} {ad : Nat → Nat}  {σ σ' : St} {r : Unit} (hf : f_X6_readSpy σ = some (r, σ')) : CT l D cy ad yX6_readSpy cX6_readSpy 3 none rX6_readSpy [.ref (ad 29)] σ none σ' :=
  ct_of (by decide) (Nat.le_of_ble_eq_true rfl) (fun p e s m args below meth c A => e_X6_readSpy (Γ := (p, l, e, rX6_readSpy, s, m, args, below, meth, c, D, cy, ad, A, 0, 0, MQ below (QC D cy ad none σ' A) args s 0 0 A)) σ ⟨_, hf, rfl⟩)
theorem k_X6_readSpy {Γ : CX} {cc : ByteArray} {nL : Nat} {own : String} {ret : Option FieldType} {rm : Room} {σ σ' : St} {pc pc' idx : Nat} {lv : List (Nat × Value)} {rest : List Value}  {r : Unit} (hl : Cond.methodLink own idx yX6_readSpy ∈ TB) (hw : (rest.map fun v => v.category).sum ≤ 8) (hR : rX6_readSpy.frames + 1 ≤ rm.frames ∧ 8 + (3 + 11) + rX6_readSpy.locals ≤ rm.locals) (hd : decode cc pc = .ok (.invokevirtual idx, 3)) (hp : pc + 3 = pc') (hf : f_X6_readSpy σ = some (r, σ')) (h : WW Γ cc nL own ret rm σ' pc' lv (rest)) : WW Γ cc nL own ret rm σ pc lv (.ref (xd Γ 29) :: rest) :=
  w_callV (nn := 0) (i := 29) (As := []) (v := none) (T := TX6) (N := 9) (c_X6_readSpy hf) hl mw_X6_readSpy (by decide +kernel) ⟨rfl, rfl⟩ hR (lt_lit (by decide)) cel_29 rfl rfl hw hd rfl hp h
/-! WarByHours.fewest (I)I -/
def rX11_fewest : Room := { frames := 6, cells := 0, slots := 0, locals := 140 }
def f_X11_fewest_24 (k0 : Int32) (σ : St) : Option (Int32 × St) :=
  some (k0, σ)
theorem b_X11_fewest_24 {Γ : CX} (k0 : Int32) (σ : St) (h : RR vI Γ (f_X11_fewest_24 k0 σ)) : WW Γ cX11_fewest 2 RX11 (some .int) rX11_fewest σ 24 [] [.int k0] := by
  unfold f_X11_fewest_24 at h
  exact w_ireturn dX11_fewest_24 h
def f_X11_fewest (p0 : Int32) (σ : St) : Option (Int32 × St) :=
  bd (f_X10_hasSide 1 p0 σ) fun r1 s2 =>
  if r1 = 0 then
    f_X11_fewest_24 (-2 : Int32) s2
  else
    bd (f_X3_fewestSent p0 s2) fun r4 s5 =>
    f_X11_fewest_24 r4 s5
theorem e_X11_fewest {Γ : CX} (p0 : Int32) (σ : St) (h : RR vI Γ (f_X11_fewest p0 σ)) : WW Γ cX11_fewest 2 RX11 (some .int) rX11_fewest σ 0 [(0, .ref (xd Γ 0)), (1, .int p0)] [] := by
  unfold f_X11_fewest at h
  refine w_aload_n 0 dX11_fewest_0 rfl rfl rfl ?_
  refine gf_RX11_10 dX11_fewest_1 rfl ?_
  refine w_iload_n 1 dX11_fewest_4 rfl rfl rfl ?_
  obtain ⟨r1, s2, h3, h⟩ := h.bd
  refine k_X10_hasSide ml_RX11_126 (Nat.le_of_ble_eq_true rfl) ⟨Nat.le_of_ble_eq_true rfl, Nat.le_of_ble_eq_true rfl⟩ dX11_fewest_5 rfl h3 ?_
  refine w_if_eq (tgt := 22) dX11_fewest_8 (by decide) rfl (fun q => ?_) (fun q => ?_)
  · have h := h.tt q
    refine w_bipush (-2 : Int32) dX11_fewest_22 ic_bipush_m2 rfl ?_
    exact w_sub [] rfl (b_X11_fewest_24 (-2 : Int32) s2 h)
  · have h := h.ff q
    refine w_aload_n 0 dX11_fewest_11 rfl rfl rfl ?_
    refine gf_RX11_40 dX11_fewest_12 rfl ?_
    refine w_iload_n 1 dX11_fewest_15 rfl rfl rfl ?_
    obtain ⟨r4, s5, h6, h⟩ := h.bd
    refine k_X3_fewestSent ml_RX11_231 (Nat.le_of_ble_eq_true rfl) ⟨Nat.le_of_ble_eq_true rfl, Nat.le_of_ble_eq_true rfl⟩ dX11_fewest_16 rfl h6 ?_
    refine w_goto (tgt := 24) dX11_fewest_19 (by decide) ?_
    exact w_sub [] rfl (b_X11_fewest_24 r4 s5 h)
theorem c_X11_fewest {l : Launch} {D : va_G} {cy : Nat → ClassId} {ad : Nat → Nat} {p0 : Int32} {σ σ' : St} {r : Int32} (hf : f_X11_fewest p0 σ = some (r, σ')) : CT l D cy ad yX11_fewest cX11_fewest 2 (some .int) rX11_fewest [.ref (ad 0), .int p0] σ (some (.int r)) σ' :=
  ct_of (by decide) (Nat.le_of_ble_eq_true rfl) (fun p e s m args below meth c A => e_X11_fewest (Γ := (p, l, e, rX11_fewest, s, m, args, below, meth, c, D, cy, ad, A, 0, 0, MQ below (QC D cy ad (some (.int r)) σ' A) args s 0 0 A)) p0 σ ⟨_, hf, rfl⟩)
theorem k_X11_fewest {Γ : CX} {cc : ByteArray} {nL : Nat} {own : String} {ret : Option FieldType} {rm : Room} {σ σ' : St} {pc pc' idx : Nat} {lv : List (Nat × Value)} {rest : List Value} {p0 : Int32} {r : Int32} (hl : Cond.methodLink own idx yX11_fewest ∈ TB) (hw : (rest.map fun v => v.category).sum ≤ 8) (hR : rX11_fewest.frames + 1 ≤ rm.frames ∧ 8 + (2 + 11) + rX11_fewest.locals ≤ rm.locals) (hd : decode cc pc = .ok (.invokevirtual idx, 3)) (hp : pc + 3 = pc') (hf : f_X11_fewest p0 σ = some (r, σ')) (h : WW Γ cc nL own ret rm σ' pc' lv (.int r :: rest)) : WW Γ cc nL own ret rm σ pc lv (.int p0 :: .ref (xd Γ 0) :: rest) :=
  w_callV (nn := 1) (i := 0) (As := [.int p0]) (v := (some (.int r))) (T := TX11) (N := 11) (c_X11_fewest hf) hl mw_X11_fewest (by decide +kernel) ⟨rfl, rfl⟩ hR (lt_lit (by decide)) cel_0 rfl rfl hw hd rfl hp h
/-! WarByHours.risk (II)I -/
def rX11_risk : Room := { frames := 6, cells := 0, slots := 0, locals := 137 }
def f_X11_risk_30 (k0 : Int32) (σ : St) : Option (Int32 × St) :=
  some (k0, σ)
theorem b_X11_risk_30 {Γ : CX} (k0 : Int32) (σ : St) (h : RR vI Γ (f_X11_risk_30 k0 σ)) : WW Γ cX11_risk 3 RX11 (some .int) rX11_risk σ 30 [] [.int k0] := by
  unfold f_X11_risk_30 at h
  exact w_ireturn dX11_risk_30 h
def f_X11_risk (p0 : Int32) (p1 : Int32) (σ : St) : Option (Int32 × St) :=
  bd (f_X11_isRisk p0 p1 σ) fun r1 s2 =>
  if r1 = 0 then
    f_X11_risk_30 (-2 : Int32) s2
  else
    bd (f_X3_riskedSet p0 p1 s2) fun r4 s5 =>
    bd (f_X10_priceOf 1 r4 s5) fun r7 s8 =>
    f_X11_risk_30 r7 s8
theorem e_X11_risk {Γ : CX} (p0 : Int32) (p1 : Int32) (σ : St) (h : RR vI Γ (f_X11_risk p0 p1 σ)) : WW Γ cX11_risk 3 RX11 (some .int) rX11_risk σ 0 [(0, .ref (xd Γ 0)), (1, .int p0), (2, .int p1)] [] := by
  unfold f_X11_risk at h
  refine w_aload_n 0 dX11_risk_0 rfl rfl rfl ?_
  refine w_iload_n 1 dX11_risk_1 rfl rfl rfl ?_
  refine w_iload_n 2 dX11_risk_2 rfl rfl rfl ?_
  obtain ⟨r1, s2, h3, h⟩ := h.bd
  refine k_X11_isRisk ml_RX11_234 (Nat.le_of_ble_eq_true rfl) ⟨Nat.le_of_ble_eq_true rfl, Nat.le_of_ble_eq_true rfl⟩ dX11_risk_3 rfl h3 ?_
  refine w_if_eq (tgt := 28) dX11_risk_6 (by decide) rfl (fun q => ?_) (fun q => ?_)
  · have h := h.tt q
    refine w_bipush (-2 : Int32) dX11_risk_28 ic_bipush_m2 rfl ?_
    exact w_sub [] rfl (b_X11_risk_30 (-2 : Int32) s2 h)
  · have h := h.ff q
    refine w_aload_n 0 dX11_risk_9 rfl rfl rfl ?_
    refine gf_RX11_10 dX11_risk_10 rfl ?_
    refine w_aload_n 0 dX11_risk_13 rfl rfl rfl ?_
    refine gf_RX11_40 dX11_risk_14 rfl ?_
    refine w_iload_n 1 dX11_risk_17 rfl rfl rfl ?_
    refine w_iload_n 2 dX11_risk_18 rfl rfl rfl ?_
    obtain ⟨r4, s5, h6, h⟩ := h.bd
    refine k_X3_riskedSet ml_RX11_238 (Nat.le_of_ble_eq_true rfl) ⟨Nat.le_of_ble_eq_true rfl, Nat.le_of_ble_eq_true rfl⟩ dX11_risk_19 rfl h6 ?_
    obtain ⟨r7, s8, h9, h⟩ := h.bd
    refine k_X10_priceOf ml_RX11_228 (Nat.le_of_ble_eq_true rfl) ⟨Nat.le_of_ble_eq_true rfl, Nat.le_of_ble_eq_true rfl⟩ dX11_risk_22 rfl h9 ?_
    refine w_goto (tgt := 30) dX11_risk_25 (by decide) ?_
    exact w_sub [] rfl (b_X11_risk_30 r7 s8 h)
theorem c_X11_risk {l : Launch} {D : va_G} {cy : Nat → ClassId} {ad : Nat → Nat} {p0 : Int32} {p1 : Int32} {σ σ' : St} {r : Int32} (hf : f_X11_risk p0 p1 σ = some (r, σ')) : CT l D cy ad yX11_risk cX11_risk 3 (some .int) rX11_risk [.ref (ad 0), .int p0, .int p1] σ (some (.int r)) σ' :=
  ct_of (by decide) (Nat.le_of_ble_eq_true rfl) (fun p e s m args below meth c A => e_X11_risk (Γ := (p, l, e, rX11_risk, s, m, args, below, meth, c, D, cy, ad, A, 0, 0, MQ below (QC D cy ad (some (.int r)) σ' A) args s 0 0 A)) p0 p1 σ ⟨_, hf, rfl⟩)
theorem k_X11_risk {Γ : CX} {cc : ByteArray} {nL : Nat} {own : String} {ret : Option FieldType} {rm : Room} {σ σ' : St} {pc pc' idx : Nat} {lv : List (Nat × Value)} {rest : List Value} {p0 : Int32} {p1 : Int32} {r : Int32} (hl : Cond.methodLink own idx yX11_risk ∈ TB) (hw : (rest.map fun v => v.category).sum ≤ 8) (hR : rX11_risk.frames + 1 ≤ rm.frames ∧ 8 + (3 + 11) + rX11_risk.locals ≤ rm.locals) (hd : decode cc pc = .ok (.invokevirtual idx, 3)) (hp : pc + 3 = pc') (hf : f_X11_risk p0 p1 σ = some (r, σ')) (h : WW Γ cc nL own ret rm σ' pc' lv (.int r :: rest)) : WW Γ cc nL own ret rm σ pc lv (.int p1 :: .int p0 :: .ref (xd Γ 0) :: rest) :=
  w_callV (nn := 2) (i := 0) (As := [.int p0, .int p1]) (v := (some (.int r))) (T := TX11) (N := 11) (c_X11_risk hf) hl mw_X11_risk (by decide +kernel) ⟨rfl, rfl⟩ hR (lt_lit (by decide)) cel_0 rfl rfl hw hd rfl hp h
/-! WarByHours.risked (II)I -/
def rX11_risked : Room := { frames := 6, cells := 0, slots := 0, locals := 137 }
def f_X11_risked_23 (k0 : Int32) (σ : St) : Option (Int32 × St) :=
  some (k0, σ)
theorem b_X11_risked_23 {Γ : CX} (k0 : Int32) (σ : St) (h : RR vI Γ (f_X11_risked_23 k0 σ)) : WW Γ cX11_risked 3 RX11 (some .int) rX11_risked σ 23 [] [.int k0] := by
  unfold f_X11_risked_23 at h
  exact w_ireturn dX11_risked_23 h
def f_X11_risked (p0 : Int32) (p1 : Int32) (σ : St) : Option (Int32 × St) :=
  bd (f_X11_isRisk p0 p1 σ) fun r1 s2 =>
  if r1 = 0 then
    f_X11_risked_23 (-2 : Int32) s2
  else
    bd (f_X3_riskedSet p0 p1 s2) fun r4 s5 =>
    f_X11_risked_23 r4 s5
theorem e_X11_risked {Γ : CX} (p0 : Int32) (p1 : Int32) (σ : St) (h : RR vI Γ (f_X11_risked p0 p1 σ)) : WW Γ cX11_risked 3 RX11 (some .int) rX11_risked σ 0 [(0, .ref (xd Γ 0)), (1, .int p0), (2, .int p1)] [] := by
  unfold f_X11_risked at h
  refine w_aload_n 0 dX11_risked_0 rfl rfl rfl ?_
  refine w_iload_n 1 dX11_risked_1 rfl rfl rfl ?_
  refine w_iload_n 2 dX11_risked_2 rfl rfl rfl ?_
  obtain ⟨r1, s2, h3, h⟩ := h.bd
  refine k_X11_isRisk ml_RX11_234 (Nat.le_of_ble_eq_true rfl) ⟨Nat.le_of_ble_eq_true rfl, Nat.le_of_ble_eq_true rfl⟩ dX11_risked_3 rfl h3 ?_
  refine w_if_eq (tgt := 21) dX11_risked_6 (by decide) rfl (fun q => ?_) (fun q => ?_)
  · have h := h.tt q
    refine w_bipush (-2 : Int32) dX11_risked_21 ic_bipush_m2 rfl ?_
    exact w_sub [] rfl (b_X11_risked_23 (-2 : Int32) s2 h)
  · have h := h.ff q
    refine w_aload_n 0 dX11_risked_9 rfl rfl rfl ?_
    refine gf_RX11_40 dX11_risked_10 rfl ?_
    refine w_iload_n 1 dX11_risked_13 rfl rfl rfl ?_
    refine w_iload_n 2 dX11_risked_14 rfl rfl rfl ?_
    obtain ⟨r4, s5, h6, h⟩ := h.bd
    refine k_X3_riskedSet ml_RX11_238 (Nat.le_of_ble_eq_true rfl) ⟨Nat.le_of_ble_eq_true rfl, Nat.le_of_ble_eq_true rfl⟩ dX11_risked_15 rfl h6 ?_
    refine w_goto (tgt := 23) dX11_risked_18 (by decide) ?_
    exact w_sub [] rfl (b_X11_risked_23 r4 s5 h)
theorem c_X11_risked {l : Launch} {D : va_G} {cy : Nat → ClassId} {ad : Nat → Nat} {p0 : Int32} {p1 : Int32} {σ σ' : St} {r : Int32} (hf : f_X11_risked p0 p1 σ = some (r, σ')) : CT l D cy ad yX11_risked cX11_risked 3 (some .int) rX11_risked [.ref (ad 0), .int p0, .int p1] σ (some (.int r)) σ' :=
  ct_of (by decide) (Nat.le_of_ble_eq_true rfl) (fun p e s m args below meth c A => e_X11_risked (Γ := (p, l, e, rX11_risked, s, m, args, below, meth, c, D, cy, ad, A, 0, 0, MQ below (QC D cy ad (some (.int r)) σ' A) args s 0 0 A)) p0 p1 σ ⟨_, hf, rfl⟩)
theorem k_X11_risked {Γ : CX} {cc : ByteArray} {nL : Nat} {own : String} {ret : Option FieldType} {rm : Room} {σ σ' : St} {pc pc' idx : Nat} {lv : List (Nat × Value)} {rest : List Value} {p0 : Int32} {p1 : Int32} {r : Int32} (hl : Cond.methodLink own idx yX11_risked ∈ TB) (hw : (rest.map fun v => v.category).sum ≤ 8) (hR : rX11_risked.frames + 1 ≤ rm.frames ∧ 8 + (3 + 11) + rX11_risked.locals ≤ rm.locals) (hd : decode cc pc = .ok (.invokevirtual idx, 3)) (hp : pc + 3 = pc') (hf : f_X11_risked p0 p1 σ = some (r, σ')) (h : WW Γ cc nL own ret rm σ' pc' lv (.int r :: rest)) : WW Γ cc nL own ret rm σ pc lv (.int p1 :: .int p0 :: .ref (xd Γ 0) :: rest) :=
  w_callV (nn := 2) (i := 0) (As := [.int p0, .int p1]) (v := (some (.int r))) (T := TX11) (N := 11) (c_X11_risked hf) hl mw_X11_risked (by decide +kernel) ⟨rfl, rfl⟩ hR (lt_lit (by decide)) cel_0 rfl rfl hw hd rfl hp h
/-! WarByHours.Fares.sentSet (I)I -/
def rX3_sentSet : Room := { frames := 6, cells := 0, slots := 0, locals := 137 }
def f_X3_sentSet (p0 : Int32) (σ : St) : Option (Int32 × St) :=
  bd (f_X3_riskedSet p0 (100 : Int32) σ) fun r1 s2 =>
  some (r1, s2)
theorem e_X3_sentSet {Γ : CX} (p0 : Int32) (σ : St) (h : RR vI Γ (f_X3_sentSet p0 σ)) : WW Γ cX3_sentSet 2 RX3 (some .int) rX3_sentSet σ 0 [(0, .ref (xd Γ 36)), (1, .int p0)] [] := by
  unfold f_X3_sentSet at h
  refine w_aload_n 0 dX3_sentSet_0 rfl rfl rfl ?_
  refine w_iload_n 1 dX3_sentSet_1 rfl rfl rfl ?_
  refine w_bipush (100 : Int32) dX3_sentSet_2 ic_bipush_100 rfl ?_
  obtain ⟨r1, s2, h3, h⟩ := h.bd
  refine k_X3_riskedSet ml_RX3_50 (Nat.le_of_ble_eq_true rfl) ⟨Nat.le_of_ble_eq_true rfl, Nat.le_of_ble_eq_true rfl⟩ dX3_sentSet_4 rfl h3 ?_
  exact w_ireturn dX3_sentSet_7 h
theorem c_X3_sentSet {l : Launch} {D : va_G} {cy : Nat → ClassId} {ad : Nat → Nat} {p0 : Int32} {σ σ' : St} {r : Int32} (hf : f_X3_sentSet p0 σ = some (r, σ')) : CT l D cy ad yX3_sentSet cX3_sentSet 2 (some .int) rX3_sentSet [.ref (ad 36), .int p0] σ (some (.int r)) σ' :=
  ct_of (by decide) (Nat.le_of_ble_eq_true rfl) (fun p e s m args below meth c A => e_X3_sentSet (Γ := (p, l, e, rX3_sentSet, s, m, args, below, meth, c, D, cy, ad, A, 0, 0, MQ below (QC D cy ad (some (.int r)) σ' A) args s 0 0 A)) p0 σ ⟨_, hf, rfl⟩)
theorem k_X3_sentSet {Γ : CX} {cc : ByteArray} {nL : Nat} {own : String} {ret : Option FieldType} {rm : Room} {σ σ' : St} {pc pc' idx : Nat} {lv : List (Nat × Value)} {rest : List Value} {p0 : Int32} {r : Int32} (hl : Cond.methodLink own idx yX3_sentSet ∈ TB) (hw : (rest.map fun v => v.category).sum ≤ 8) (hR : rX3_sentSet.frames + 1 ≤ rm.frames ∧ 8 + (2 + 11) + rX3_sentSet.locals ≤ rm.locals) (hd : decode cc pc = .ok (.invokevirtual idx, 3)) (hp : pc + 3 = pc') (hf : f_X3_sentSet p0 σ = some (r, σ')) (h : WW Γ cc nL own ret rm σ' pc' lv (.int r :: rest)) : WW Γ cc nL own ret rm σ pc lv (.int p0 :: .ref (xd Γ 36) :: rest) :=
  w_callV (nn := 1) (i := 36) (As := [.int p0]) (v := (some (.int r))) (T := TX3) (N := 8) (c_X3_sentSet hf) hl mw_X3_sentSet (by decide +kernel) ⟨rfl, rfl⟩ hR (lt_lit (by decide)) cel_36 rfl rfl hw hd rfl hp h
