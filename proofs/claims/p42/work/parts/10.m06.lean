/-! WarByHours.Reader.readLine ()V -/
def rX6_readLine : Room := { frames := 7, cells := 0, slots := 0, locals := 150 }
def f_X6_readLine_132 (σ : St) : Option (Unit × St) :=
  some ((), σ)
theorem b_X6_readLine_132 {Γ : CX} (σ : St) (h : RR vU Γ (f_X6_readLine_132 σ)) : WW Γ cX6_readLine 1 RX6 none rX6_readLine σ 132 [] [] := by
  unfold f_X6_readLine_132 at h
  exact w_return dX6_readLine_132 h
def f_X6_readLine (σ : St) : Option (Unit × St) :=
  if (gf σ 15 0) = 0 then
    bd (f_X6_readWar σ) fun _ s41 =>
    f_X6_readLine_132 s41
  else
    bd (f_X6_sees 0 σ) fun r1 s2 =>
    if r1 = 0 then
      bd (f_X6_sees 1 s2) fun r4 s5 =>
      if r4 = 0 then
        bd (f_X6_sees 2 s5) fun r7 s8 =>
        if r7 = 0 then
          bd (f_X6_sees 3 s8) fun r10 s11 =>
          if r10 = 0 then
            bd (f_X6_sees 4 s11) fun r13 s14 =>
            if r13 = 0 then
              bd (f_X6_sees 5 s14) fun r16 s17 =>
              if r16 = 0 then
                bd (f_X6_blame (1 : Int32) s17) fun _ s20 =>
                f_X6_readLine_132 s20
              else
                bd (f_X6_readSpy s17) fun _ s23 =>
                f_X6_readLine_132 s23
            else
              bd (f_X6_readSpan 23 s14) fun _ s26 =>
              f_X6_readLine_132 s26
          else
            bd (f_X6_readAsk s11) fun _ s29 =>
            f_X6_readLine_132 s29
        else
          bd (f_X6_readSpan 19 s8) fun _ s32 =>
          f_X6_readLine_132 s32
      else
        bd (f_X6_readTrain s5) fun _ s35 =>
        f_X6_readLine_132 s35
    else
      bd (f_X6_readNeed s2) fun _ s38 =>
      f_X6_readLine_132 s38
theorem e_X6_readLine {Γ : CX} (σ : St) (h : RR vU Γ (f_X6_readLine σ)) : WW Γ cX6_readLine 1 RX6 none rX6_readLine σ 0 [(0, .ref (xd Γ 29))] [] := by
  unfold f_X6_readLine at h
  refine w_aload_n 0 dX6_readLine_0 rfl rfl rfl ?_
  refine gf_RX6_19 dX6_readLine_1 rfl ?_
  refine gf_RX6_49 (i := 15) (isW_lit (by decide)) dX6_readLine_4 rfl ?_
  refine w_if_ne (tgt := 17) dX6_readLine_7 (by decide) rfl (fun q => ?_) (fun q => ?_)
  · have h := h.ff q
    refine w_aload_n 0 dX6_readLine_17 rfl rfl rfl ?_
    refine w_ldcS (k := 0) (tx := "need") (List.mem_of_getElem? (i := 0) rfl) dX6_readLine_18 rfl ?_
    obtain ⟨r1, s2, h3, h⟩ := h.bd
    refine k_X6_sees ml_RX6_57 (Nat.le_of_ble_eq_true rfl) ⟨Nat.le_of_ble_eq_true rfl, Nat.le_of_ble_eq_true rfl⟩ dX6_readLine_20 rfl h3 ?_
    refine w_if_eq (tgt := 33) dX6_readLine_23 (by decide) rfl (fun q => ?_) (fun q => ?_)
    · have h := h.tt q
      refine w_aload_n 0 dX6_readLine_33 rfl rfl rfl ?_
      refine w_ldcS (k := 1) (tx := "train") (List.mem_of_getElem? (i := 1) rfl) dX6_readLine_34 rfl ?_
      obtain ⟨r4, s5, h6, h⟩ := h.bd
      refine k_X6_sees ml_RX6_57 (Nat.le_of_ble_eq_true rfl) ⟨Nat.le_of_ble_eq_true rfl, Nat.le_of_ble_eq_true rfl⟩ dX6_readLine_36 rfl h6 ?_
      refine w_if_eq (tgt := 49) dX6_readLine_39 (by decide) rfl (fun q => ?_) (fun q => ?_)
      · have h := h.tt q
        refine w_aload_n 0 dX6_readLine_49 rfl rfl rfl ?_
        refine w_ldcS (k := 2) (tx := "tea") (List.mem_of_getElem? (i := 2) rfl) dX6_readLine_50 rfl ?_
        obtain ⟨r7, s8, h9, h⟩ := h.bd
        refine k_X6_sees ml_RX6_57 (Nat.le_of_ble_eq_true rfl) ⟨Nat.le_of_ble_eq_true rfl, Nat.le_of_ble_eq_true rfl⟩ dX6_readLine_52 rfl h9 ?_
        refine w_if_eq (tgt := 72) dX6_readLine_55 (by decide) rfl (fun q => ?_) (fun q => ?_)
        · have h := h.tt q
          refine w_aload_n 0 dX6_readLine_72 rfl rfl rfl ?_
          refine w_ldcS (k := 3) (tx := "cannon") (List.mem_of_getElem? (i := 3) rfl) dX6_readLine_73 rfl ?_
          obtain ⟨r10, s11, h12, h⟩ := h.bd
          refine k_X6_sees ml_RX6_57 (Nat.le_of_ble_eq_true rfl) ⟨Nat.le_of_ble_eq_true rfl, Nat.le_of_ble_eq_true rfl⟩ dX6_readLine_75 rfl h12 ?_
          refine w_if_eq (tgt := 88) dX6_readLine_78 (by decide) rfl (fun q => ?_) (fun q => ?_)
          · have h := h.tt q
            refine w_aload_n 0 dX6_readLine_88 rfl rfl rfl ?_
            refine w_ldcS (k := 4) (tx := "rule") (List.mem_of_getElem? (i := 4) rfl) dX6_readLine_89 rfl ?_
            obtain ⟨r13, s14, h15, h⟩ := h.bd
            refine k_X6_sees ml_RX6_57 (Nat.le_of_ble_eq_true rfl) ⟨Nat.le_of_ble_eq_true rfl, Nat.le_of_ble_eq_true rfl⟩ dX6_readLine_91 rfl h15 ?_
            refine w_if_eq (tgt := 111) dX6_readLine_94 (by decide) rfl (fun q => ?_) (fun q => ?_)
            · have h := h.tt q
              refine w_aload_n 0 dX6_readLine_111 rfl rfl rfl ?_
              refine w_ldcS (k := 5) (tx := "spy") (List.mem_of_getElem? (i := 5) rfl) dX6_readLine_112 rfl ?_
              obtain ⟨r16, s17, h18, h⟩ := h.bd
              refine k_X6_sees ml_RX6_57 (Nat.le_of_ble_eq_true rfl) ⟨Nat.le_of_ble_eq_true rfl, Nat.le_of_ble_eq_true rfl⟩ dX6_readLine_114 rfl h18 ?_
              refine w_if_eq (tgt := 127) dX6_readLine_117 (by decide) rfl (fun q => ?_) (fun q => ?_)
              · have h := h.tt q
                refine w_aload_n 0 dX6_readLine_127 rfl rfl rfl ?_
                refine w_iconst (1 : Int32) dX6_readLine_128 ic_iconst_1 rfl ?_
                obtain ⟨r19, s20, h21, h⟩ := h.bd
                refine k_X6_blame ml_RX6_94 (Nat.le_of_ble_eq_true rfl) ⟨Nat.le_of_ble_eq_true rfl, Nat.le_of_ble_eq_true rfl⟩ dX6_readLine_129 rfl h21 ?_
                exact w_sub [] rfl (b_X6_readLine_132 s20 h)
              · have h := h.ff q
                refine w_aload_n 0 dX6_readLine_120 rfl rfl rfl ?_
                obtain ⟨r22, s23, h24, h⟩ := h.bd
                refine k_X6_readSpy ml_RX6_91 (Nat.le_of_ble_eq_true rfl) ⟨Nat.le_of_ble_eq_true rfl, Nat.le_of_ble_eq_true rfl⟩ dX6_readLine_121 rfl h24 ?_
                refine w_goto (tgt := 132) dX6_readLine_124 (by decide) ?_
                exact w_sub [] rfl (b_X6_readLine_132 s23 h)
            · have h := h.ff q
              refine w_aload_n 0 dX6_readLine_97 rfl rfl rfl ?_
              refine w_aload_n 0 dX6_readLine_98 rfl rfl rfl ?_
              refine gf_RX6_19 dX6_readLine_99 rfl ?_
              refine gf_RX6_86 (i := 15) (isW_lit (by decide)) dX6_readLine_102 rfl ?_
              obtain ⟨r25, s26, h27, h⟩ := h.bd
              refine k_X6_readSpan ml_RX6_75 (Nat.le_of_ble_eq_true rfl) ⟨Nat.le_of_ble_eq_true rfl, Nat.le_of_ble_eq_true rfl⟩ dX6_readLine_105 rfl h27 ?_
              refine w_goto (tgt := 132) dX6_readLine_108 (by decide) ?_
              exact w_sub [] rfl (b_X6_readLine_132 s26 h)
          · have h := h.ff q
            refine w_aload_n 0 dX6_readLine_81 rfl rfl rfl ?_
            obtain ⟨r28, s29, h30, h⟩ := h.bd
            refine k_X6_readAsk ml_RX6_81 (Nat.le_of_ble_eq_true rfl) ⟨Nat.le_of_ble_eq_true rfl, Nat.le_of_ble_eq_true rfl⟩ dX6_readLine_82 rfl h30 ?_
            refine w_goto (tgt := 132) dX6_readLine_85 (by decide) ?_
            exact w_sub [] rfl (b_X6_readLine_132 s29 h)
        · have h := h.ff q
          refine w_aload_n 0 dX6_readLine_58 rfl rfl rfl ?_
          refine w_aload_n 0 dX6_readLine_59 rfl rfl rfl ?_
          refine gf_RX6_19 dX6_readLine_60 rfl ?_
          refine gf_RX6_71 (i := 15) (isW_lit (by decide)) dX6_readLine_63 rfl ?_
          obtain ⟨r31, s32, h33, h⟩ := h.bd
          refine k_X6_readSpan ml_RX6_75 (Nat.le_of_ble_eq_true rfl) ⟨Nat.le_of_ble_eq_true rfl, Nat.le_of_ble_eq_true rfl⟩ dX6_readLine_66 rfl h33 ?_
          refine w_goto (tgt := 132) dX6_readLine_69 (by decide) ?_
          exact w_sub [] rfl (b_X6_readLine_132 s32 h)
      · have h := h.ff q
        refine w_aload_n 0 dX6_readLine_42 rfl rfl rfl ?_
        obtain ⟨r34, s35, h36, h⟩ := h.bd
        refine k_X6_readTrain ml_RX6_66 (Nat.le_of_ble_eq_true rfl) ⟨Nat.le_of_ble_eq_true rfl, Nat.le_of_ble_eq_true rfl⟩ dX6_readLine_43 rfl h36 ?_
        refine w_goto (tgt := 132) dX6_readLine_46 (by decide) ?_
        exact w_sub [] rfl (b_X6_readLine_132 s35 h)
    · have h := h.ff q
      refine w_aload_n 0 dX6_readLine_26 rfl rfl rfl ?_
      obtain ⟨r37, s38, h39, h⟩ := h.bd
      refine k_X6_readNeed ml_RX6_61 (Nat.le_of_ble_eq_true rfl) ⟨Nat.le_of_ble_eq_true rfl, Nat.le_of_ble_eq_true rfl⟩ dX6_readLine_27 rfl h39 ?_
      refine w_goto (tgt := 132) dX6_readLine_30 (by decide) ?_
      exact w_sub [] rfl (b_X6_readLine_132 s38 h)
  · have h := h.tt q
    refine w_aload_n 0 dX6_readLine_10 rfl rfl rfl ?_
    obtain ⟨r40, s41, h42, h⟩ := h.bd
    refine k_X6_readWar ml_RX6_52 (Nat.le_of_ble_eq_true rfl) ⟨Nat.le_of_ble_eq_true rfl, Nat.le_of_ble_eq_true rfl⟩ dX6_readLine_11 rfl h42 ?_
    refine w_goto (tgt := 132) dX6_readLine_14 (by decide) ?_
    exact w_sub [] rfl (b_X6_readLine_132 s41 h)
theorem c_X6_readLine {l : Launch} {D : va_G} {cy : Nat → ClassId} {ad : Nat → Nat}  {σ σ' : St} {r : Unit} (hf : f_X6_readLine σ = some (r, σ')) : CT l D cy ad yX6_readLine cX6_readLine 1 none rX6_readLine [.ref (ad 29)] σ none σ' :=
  ct_of (by decide) (Nat.le_of_ble_eq_true rfl) (fun p e s m args below meth c A => e_X6_readLine (Γ := (p, l, e, rX6_readLine, s, m, args, below, meth, c, D, cy, ad, A, 0, 0, MQ below (QC D cy ad none σ' A) args s 0 0 A)) σ ⟨_, hf, rfl⟩)
theorem k_X6_readLine {Γ : CX} {cc : ByteArray} {nL : Nat} {own : String} {ret : Option FieldType} {rm : Room} {σ σ' : St} {pc pc' idx : Nat} {lv : List (Nat × Value)} {rest : List Value}  {r : Unit} (hl : Cond.methodLink own idx yX6_readLine ∈ TB) (hw : (rest.map fun v => v.category).sum ≤ 8) (hR : rX6_readLine.frames + 1 ≤ rm.frames ∧ 8 + (1 + 11) + rX6_readLine.locals ≤ rm.locals) (hd : decode cc pc = .ok (.invokevirtual idx, 3)) (hp : pc + 3 = pc') (hf : f_X6_readLine σ = some (r, σ')) (h : WW Γ cc nL own ret rm σ' pc' lv (rest)) : WW Γ cc nL own ret rm σ pc lv (.ref (xd Γ 29) :: rest) :=
  w_callV (nn := 0) (i := 29) (As := []) (v := none) (T := TX6) (N := 9) (c_X6_readLine hf) hl mw_X6_readLine (by decide +kernel) ⟨rfl, rfl⟩ hR (lt_lit (by decide)) cel_29 rfl rfl hw hd rfl hp h
/-! WarByHours.send (I)I -/
def rX11_send : Room := { frames := 7, cells := 0, slots := 0, locals := 158 }
def f_X11_send_31 (k0 : Int32) (σ : St) : Option (Int32 × St) :=
  some (k0, σ)
theorem b_X11_send_31 {Γ : CX} (k0 : Int32) (σ : St) (h : RR vI Γ (f_X11_send_31 k0 σ)) : WW Γ cX11_send 2 RX11 (some .int) rX11_send σ 31 [] [.int k0] := by
  unfold f_X11_send_31 at h
  exact w_ireturn dX11_send_31 h
def f_X11_send (p0 : Int32) (σ : St) : Option (Int32 × St) :=
  bd (f_X10_hasSide 1 p0 σ) fun r1 s2 =>
  if r1 = 0 then
    f_X11_send_31 (-2 : Int32) s2
  else
    bd (f_X3_sentSet p0 s2) fun r4 s5 =>
    bd (f_X10_priceOf 1 r4 s5) fun r7 s8 =>
    f_X11_send_31 r7 s8
theorem e_X11_send {Γ : CX} (p0 : Int32) (σ : St) (h : RR vI Γ (f_X11_send p0 σ)) : WW Γ cX11_send 2 RX11 (some .int) rX11_send σ 0 [(0, .ref (xd Γ 0)), (1, .int p0)] [] := by
  unfold f_X11_send at h
  refine w_aload_n 0 dX11_send_0 rfl rfl rfl ?_
  refine gf_RX11_10 dX11_send_1 rfl ?_
  refine w_iload_n 1 dX11_send_4 rfl rfl rfl ?_
  obtain ⟨r1, s2, h3, h⟩ := h.bd
  refine k_X10_hasSide ml_RX11_126 (Nat.le_of_ble_eq_true rfl) ⟨Nat.le_of_ble_eq_true rfl, Nat.le_of_ble_eq_true rfl⟩ dX11_send_5 rfl h3 ?_
  refine w_if_eq (tgt := 29) dX11_send_8 (by decide) rfl (fun q => ?_) (fun q => ?_)
  · have h := h.tt q
    refine w_bipush (-2 : Int32) dX11_send_29 ic_bipush_m2 rfl ?_
    exact w_sub [] rfl (b_X11_send_31 (-2 : Int32) s2 h)
  · have h := h.ff q
    refine w_aload_n 0 dX11_send_11 rfl rfl rfl ?_
    refine gf_RX11_10 dX11_send_12 rfl ?_
    refine w_aload_n 0 dX11_send_15 rfl rfl rfl ?_
    refine gf_RX11_40 dX11_send_16 rfl ?_
    refine w_iload_n 1 dX11_send_19 rfl rfl rfl ?_
    obtain ⟨r4, s5, h6, h⟩ := h.bd
    refine k_X3_sentSet ml_RX11_225 (Nat.le_of_ble_eq_true rfl) ⟨Nat.le_of_ble_eq_true rfl, Nat.le_of_ble_eq_true rfl⟩ dX11_send_20 rfl h6 ?_
    obtain ⟨r7, s8, h9, h⟩ := h.bd
    refine k_X10_priceOf ml_RX11_228 (Nat.le_of_ble_eq_true rfl) ⟨Nat.le_of_ble_eq_true rfl, Nat.le_of_ble_eq_true rfl⟩ dX11_send_23 rfl h9 ?_
    refine w_goto (tgt := 31) dX11_send_26 (by decide) ?_
    exact w_sub [] rfl (b_X11_send_31 r7 s8 h)
theorem c_X11_send {l : Launch} {D : va_G} {cy : Nat → ClassId} {ad : Nat → Nat} {p0 : Int32} {σ σ' : St} {r : Int32} (hf : f_X11_send p0 σ = some (r, σ')) : CT l D cy ad yX11_send cX11_send 2 (some .int) rX11_send [.ref (ad 0), .int p0] σ (some (.int r)) σ' :=
  ct_of (by decide) (Nat.le_of_ble_eq_true rfl) (fun p e s m args below meth c A => e_X11_send (Γ := (p, l, e, rX11_send, s, m, args, below, meth, c, D, cy, ad, A, 0, 0, MQ below (QC D cy ad (some (.int r)) σ' A) args s 0 0 A)) p0 σ ⟨_, hf, rfl⟩)
theorem k_X11_send {Γ : CX} {cc : ByteArray} {nL : Nat} {own : String} {ret : Option FieldType} {rm : Room} {σ σ' : St} {pc pc' idx : Nat} {lv : List (Nat × Value)} {rest : List Value} {p0 : Int32} {r : Int32} (hl : Cond.methodLink own idx yX11_send ∈ TB) (hw : (rest.map fun v => v.category).sum ≤ 8) (hR : rX11_send.frames + 1 ≤ rm.frames ∧ 8 + (2 + 11) + rX11_send.locals ≤ rm.locals) (hd : decode cc pc = .ok (.invokevirtual idx, 3)) (hp : pc + 3 = pc') (hf : f_X11_send p0 σ = some (r, σ')) (h : WW Γ cc nL own ret rm σ' pc' lv (.int r :: rest)) : WW Γ cc nL own ret rm σ pc lv (.int p0 :: .ref (xd Γ 0) :: rest) :=
  w_callV (nn := 1) (i := 0) (As := [.int p0]) (v := (some (.int r))) (T := TX11) (N := 11) (c_X11_send hf) hl mw_X11_send (by decide +kernel) ⟨rfl, rfl⟩ hR (lt_lit (by decide)) cel_0 rfl rfl hw hd rfl hp h
/-! WarByHours.sent (I)I -/
def rX11_sent : Room := { frames := 7, cells := 0, slots := 0, locals := 158 }
def f_X11_sent_24 (k0 : Int32) (σ : St) : Option (Int32 × St) :=
  some (k0, σ)
theorem b_X11_sent_24 {Γ : CX} (k0 : Int32) (σ : St) (h : RR vI Γ (f_X11_sent_24 k0 σ)) : WW Γ cX11_sent 2 RX11 (some .int) rX11_sent σ 24 [] [.int k0] := by
  unfold f_X11_sent_24 at h
  exact w_ireturn dX11_sent_24 h
def f_X11_sent (p0 : Int32) (σ : St) : Option (Int32 × St) :=
  bd (f_X10_hasSide 1 p0 σ) fun r1 s2 =>
  if r1 = 0 then
    f_X11_sent_24 (-2 : Int32) s2
  else
    bd (f_X3_sentSet p0 s2) fun r4 s5 =>
    f_X11_sent_24 r4 s5
theorem e_X11_sent {Γ : CX} (p0 : Int32) (σ : St) (h : RR vI Γ (f_X11_sent p0 σ)) : WW Γ cX11_sent 2 RX11 (some .int) rX11_sent σ 0 [(0, .ref (xd Γ 0)), (1, .int p0)] [] := by
  unfold f_X11_sent at h
  refine w_aload_n 0 dX11_sent_0 rfl rfl rfl ?_
  refine gf_RX11_10 dX11_sent_1 rfl ?_
  refine w_iload_n 1 dX11_sent_4 rfl rfl rfl ?_
  obtain ⟨r1, s2, h3, h⟩ := h.bd
  refine k_X10_hasSide ml_RX11_126 (Nat.le_of_ble_eq_true rfl) ⟨Nat.le_of_ble_eq_true rfl, Nat.le_of_ble_eq_true rfl⟩ dX11_sent_5 rfl h3 ?_
  refine w_if_eq (tgt := 22) dX11_sent_8 (by decide) rfl (fun q => ?_) (fun q => ?_)
  · have h := h.tt q
    refine w_bipush (-2 : Int32) dX11_sent_22 ic_bipush_m2 rfl ?_
    exact w_sub [] rfl (b_X11_sent_24 (-2 : Int32) s2 h)
  · have h := h.ff q
    refine w_aload_n 0 dX11_sent_11 rfl rfl rfl ?_
    refine gf_RX11_40 dX11_sent_12 rfl ?_
    refine w_iload_n 1 dX11_sent_15 rfl rfl rfl ?_
    obtain ⟨r4, s5, h6, h⟩ := h.bd
    refine k_X3_sentSet ml_RX11_225 (Nat.le_of_ble_eq_true rfl) ⟨Nat.le_of_ble_eq_true rfl, Nat.le_of_ble_eq_true rfl⟩ dX11_sent_16 rfl h6 ?_
    refine w_goto (tgt := 24) dX11_sent_19 (by decide) ?_
    exact w_sub [] rfl (b_X11_sent_24 r4 s5 h)
theorem c_X11_sent {l : Launch} {D : va_G} {cy : Nat → ClassId} {ad : Nat → Nat} {p0 : Int32} {σ σ' : St} {r : Int32} (hf : f_X11_sent p0 σ = some (r, σ')) : CT l D cy ad yX11_sent cX11_sent 2 (some .int) rX11_sent [.ref (ad 0), .int p0] σ (some (.int r)) σ' :=
  ct_of (by decide) (Nat.le_of_ble_eq_true rfl) (fun p e s m args below meth c A => e_X11_sent (Γ := (p, l, e, rX11_sent, s, m, args, below, meth, c, D, cy, ad, A, 0, 0, MQ below (QC D cy ad (some (.int r)) σ' A) args s 0 0 A)) p0 σ ⟨_, hf, rfl⟩)
theorem k_X11_sent {Γ : CX} {cc : ByteArray} {nL : Nat} {own : String} {ret : Option FieldType} {rm : Room} {σ σ' : St} {pc pc' idx : Nat} {lv : List (Nat × Value)} {rest : List Value} {p0 : Int32} {r : Int32} (hl : Cond.methodLink own idx yX11_sent ∈ TB) (hw : (rest.map fun v => v.category).sum ≤ 8) (hR : rX11_sent.frames + 1 ≤ rm.frames ∧ 8 + (2 + 11) + rX11_sent.locals ≤ rm.locals) (hd : decode cc pc = .ok (.invokevirtual idx, 3)) (hp : pc + 3 = pc') (hf : f_X11_sent p0 σ = some (r, σ')) (h : WW Γ cc nL own ret rm σ' pc' lv (.int r :: rest)) : WW Γ cc nL own ret rm σ pc lv (.int p0 :: .ref (xd Γ 0) :: rest) :=
  w_callV (nn := 1) (i := 0) (As := [.int p0]) (v := (some (.int r))) (T := TX11) (N := 11) (c_X11_sent hf) hl mw_X11_sent (by decide +kernel) ⟨rfl, rfl⟩ hR (lt_lit (by decide)) cel_0 rfl rfl hw hd rfl hp h
/-! WarByHours.Reader.read ()V -/
def rX6_read : Room := { frames := 8, cells := 0, slots := 0, locals := 170 }
def f_X6_read_76 (σ : St) : Option (Unit × St) :=
  some ((), σ)
theorem b_X6_read_76 {Γ : CX} (σ : St) (h : RR vU Γ (f_X6_read_76 σ)) : WW Γ cX6_read 2 RX6 none rX6_read σ 76 [] [] := by
  unfold f_X6_read_76 at h
  exact w_return dX6_read_76 h
def g_X6_read_28 (K28 : Int32 × St → Option (Unit × St)) (x : Int32 × St) : Option (Unit × St) := match x with
  | (v1, σ) =>
  if (1200 : Int32) ≤ v1 then
    f_X6_read_76 σ
  else
    if (gf σ 29 7) = 0 then
      f_X6_read_76 σ
    else
      if (gf σ 29 2) = 0 then
        bd (f_X6_readLine σ) fun _ s2 =>
        bd (f_X6_sign s2) fun _ s5 =>
        bnd (sf s5 15 0 ((gf s5 15 0) + (1 : Int32))) fun s7 =>
        bnd (v1 + (1 : Int32)) fun x8 =>
        K28 (x8, s7)
      else
        f_X6_read_76 σ
theorem l_X6_read_28 {Γ : CX} : ∀ (n : Nat) (v1 : Int32) (σ : St), RR vU Γ (itr (g_X6_read_28) n (v1, σ)) → WW Γ cX6_read 2 RX6 none rX6_read σ 28 [(0, .ref (xd Γ 29)), (1, .int v1)] [] := by
  intro n
  induction n with
  | zero => intro v1 σ h; exact RR.no h
  | succ n hK28 =>
  intro v1 σ h
  have h : RR vU Γ (g_X6_read_28 (itr (g_X6_read_28) n) (v1, σ)) := h
  generalize itr (g_X6_read_28) n = K28 at h hK28
  unfold g_X6_read_28 at h
  dsimp only at h
  refine w_iload_n 1 dX6_read_28 rfl rfl rfl ?_
  refine w_sipush (1200 : Int32) dX6_read_29 ic_sipush_1200 rfl ?_
  refine w_icmp_ge (tgt := 76) dX6_read_32 (by decide) rfl (fun q => ?_) (fun q => ?_)
  · have h := h.tt q
    exact w_sub [] rfl (b_X6_read_76 σ h)
  · have h := h.ff q
    refine w_aload_n 0 dX6_read_35 rfl rfl rfl ?_
    refine gf_RX6_40 dX6_read_36 rfl ?_
    refine w_if_eq (tgt := 76) dX6_read_39 (by decide) rfl (fun q => ?_) (fun q => ?_)
    · have h := h.tt q
      exact w_sub [] rfl (b_X6_read_76 σ h)
    · have h := h.ff q
      refine w_aload_n 0 dX6_read_42 rfl rfl rfl ?_
      refine gf_RX6_31 dX6_read_43 rfl ?_
      refine w_if_ne (tgt := 76) dX6_read_46 (by decide) rfl (fun q => ?_) (fun q => ?_)
      · have h := h.ff q
        exact w_sub [] rfl (b_X6_read_76 σ h)
      · have h := h.tt q
        refine w_aload_n 0 dX6_read_49 rfl rfl rfl ?_
        obtain ⟨r1, s2, h3, h⟩ := h.bd
        refine k_X6_readLine ml_RX6_43 (Nat.le_of_ble_eq_true rfl) ⟨Nat.le_of_ble_eq_true rfl, Nat.le_of_ble_eq_true rfl⟩ dX6_read_50 rfl h3 ?_
        refine w_aload_n 0 dX6_read_53 rfl rfl rfl ?_
        obtain ⟨r4, s5, h6, h⟩ := h.bd
        refine k_X6_sign ml_RX6_46 (Nat.le_of_ble_eq_true rfl) ⟨Nat.le_of_ble_eq_true rfl, Nat.le_of_ble_eq_true rfl⟩ dX6_read_54 rfl h6 ?_
        refine w_aload_n 0 dX6_read_57 rfl rfl rfl ?_
        refine gf_RX6_19 dX6_read_58 rfl ?_
        refine w_dup dX6_read_61 rfl rfl ?_
        refine gf_RX6_49 (i := 15) (isW_lit (by decide)) dX6_read_62 rfl ?_
        refine w_iconst (1 : Int32) dX6_read_65 ic_iconst_1 rfl ?_
        refine w_iadd dX6_read_66 rfl ?_
        refine pf_RX6_49 (i := 15) (isW_lit (by decide)) dX6_read_67 rfl ?_
        obtain ⟨s7, es7⟩ : ∃ y : St, y = (sf s5 15 0 ((gf s5 15 0) + (1 : Int32))) := ⟨_, rfl⟩
        rw [← es7]
        replace h := h.bnd es7
        clear es7
        obtain ⟨x8, ex8⟩ : ∃ y : Int32, y = (v1 + (1 : Int32)) := ⟨_, rfl⟩
        replace h := h.bnd ex8
        refine w_iinc 1 x8 [(1, .int x8), (0, .ref (xd Γ 29))] dX6_read_70 rfl (by rw [ex8, ic_iconst_1]) (by decide) rfl rfl ?_
        clear ex8
        refine w_goto (tgt := 28) dX6_read_73 (by decide) ?_
        exact w_sub [1, 0] rfl (hK28 x8 s7 h)
def f_X6_read (σ : St) : Option (Unit × St) :=
  bd (f_X10_clear 15 σ) fun _ s2 =>
  bnd (sf s2 29 2 (0 : Int32)) fun s4 =>
  bnd (sf s4 29 3 (-1 : Int32)) fun s5 =>
  bnd (sf s5 29 6 (0 : Int32)) fun s6 =>
  bd (f_X6_advance s6) fun _ s8 =>
  itr (g_X6_read_28) FU ((0 : Int32), s8)
theorem e_X6_read {Γ : CX} (σ : St) (h : RR vU Γ (f_X6_read σ)) : WW Γ cX6_read 2 RX6 none rX6_read σ 0 [(0, .ref (xd Γ 29))] [] := by
  unfold f_X6_read at h
  refine w_aload_n 0 dX6_read_0 rfl rfl rfl ?_
  refine gf_RX6_19 dX6_read_1 rfl ?_
  obtain ⟨r1, s2, h3, h⟩ := h.bd
  refine k_X10_clear ml_RX6_26 (Nat.le_of_ble_eq_true rfl) ⟨Nat.le_of_ble_eq_true rfl, Nat.le_of_ble_eq_true rfl⟩ dX6_read_4 rfl h3 ?_
  refine w_aload_n 0 dX6_read_7 rfl rfl rfl ?_
  refine w_iconst (0 : Int32) dX6_read_8 ic_iconst_0 rfl ?_
  refine pf_RX6_31 dX6_read_9 rfl ?_
  obtain ⟨s4, es4⟩ : ∃ y : St, y = (sf s2 29 2 (0 : Int32)) := ⟨_, rfl⟩
  rw [← es4]
  replace h := h.bnd es4
  clear es4
  refine w_aload_n 0 dX6_read_12 rfl rfl rfl ?_
  refine w_iconst (-1 : Int32) dX6_read_13 ic_iconst_m1 rfl ?_
  refine pf_RX6_15 dX6_read_14 rfl ?_
  obtain ⟨s5, es5⟩ : ∃ y : St, y = (sf s4 29 3 (-1 : Int32)) := ⟨_, rfl⟩
  rw [← es5]
  replace h := h.bnd es5
  clear es5
  refine w_aload_n 0 dX6_read_17 rfl rfl rfl ?_
  refine w_iconst (0 : Int32) dX6_read_18 ic_iconst_0 rfl ?_
  refine pf_RX6_34 dX6_read_19 rfl ?_
  obtain ⟨s6, es6⟩ : ∃ y : St, y = (sf s5 29 6 (0 : Int32)) := ⟨_, rfl⟩
  rw [← es6]
  replace h := h.bnd es6
  clear es6
  refine w_aload_n 0 dX6_read_22 rfl rfl rfl ?_
  obtain ⟨r7, s8, h9, h⟩ := h.bd
  refine k_X6_advance ml_RX6_37 (Nat.le_of_ble_eq_true rfl) ⟨Nat.le_of_ble_eq_true rfl, Nat.le_of_ble_eq_true rfl⟩ dX6_read_23 rfl h9 ?_
  refine w_iconst (0 : Int32) dX6_read_26 ic_iconst_0 rfl ?_
  refine w_istore_n [(1, .int (0 : Int32)), (0, .ref (xd Γ 29))] dX6_read_27 rfl (by decide) rfl rfl ?_
  exact w_sub [1, 0] rfl (l_X6_read_28 FU (0 : Int32) s8 h)
theorem c_X6_read {l : Launch} {D : va_G} {cy : Nat → ClassId} {ad : Nat → Nat}  {σ σ' : St} {r : Unit} (hf : f_X6_read σ = some (r, σ')) : CT l D cy ad yX6_read cX6_read 2 none rX6_read [.ref (ad 29)] σ none σ' :=
  ct_of (by decide) (Nat.le_of_ble_eq_true rfl) (fun p e s m args below meth c A => e_X6_read (Γ := (p, l, e, rX6_read, s, m, args, below, meth, c, D, cy, ad, A, 0, 0, MQ below (QC D cy ad none σ' A) args s 0 0 A)) σ ⟨_, hf, rfl⟩)
theorem k_X6_read {Γ : CX} {cc : ByteArray} {nL : Nat} {own : String} {ret : Option FieldType} {rm : Room} {σ σ' : St} {pc pc' idx : Nat} {lv : List (Nat × Value)} {rest : List Value}  {r : Unit} (hl : Cond.methodLink own idx yX6_read ∈ TB) (hw : (rest.map fun v => v.category).sum ≤ 8) (hR : rX6_read.frames + 1 ≤ rm.frames ∧ 8 + (2 + 11) + rX6_read.locals ≤ rm.locals) (hd : decode cc pc = .ok (.invokevirtual idx, 3)) (hp : pc + 3 = pc') (hf : f_X6_read σ = some (r, σ')) (h : WW Γ cc nL own ret rm σ' pc' lv (rest)) : WW Γ cc nL own ret rm σ pc lv (.ref (xd Γ 29) :: rest) :=
  w_callV (nn := 0) (i := 29) (As := []) (v := none) (T := TX6) (N := 9) (c_X6_read hf) hl mw_X6_read (by decide +kernel) ⟨rfl, rfl⟩ hR (lt_lit (by decide)) cel_29 rfl rfl hw hd rfl hp h
/-! WarByHours.war ()I -/
def rX11_war : Room := { frames := 9, cells := 0, slots := 0, locals := 191 }
def f_X11_war (σ : St) : Option (Int32 × St) :=
  bd (f_X6_read σ) fun _ s2 =>
  bd (f_X6_cut (0 : Int32) s2) fun r4 s5 =>
  if (gf s5 29 2) = 0 then
    bd (f_X10_become 1 15 s5) fun _ s8 =>
    bd (f_X2_forget s8) fun _ s11 =>
    some ((gf s11 1 0), s11)
  else
    some ((-4 : Int32), s5)
theorem e_X11_war {Γ : CX} (σ : St) (h : RR vI Γ (f_X11_war σ)) : WW Γ cX11_war 1 RX11 (some .int) rX11_war σ 0 [(0, .ref (xd Γ 0))] [] := by
  unfold f_X11_war at h
  refine w_aload_n 0 dX11_war_0 rfl rfl rfl ?_
  refine gf_RX11_24 dX11_war_1 rfl ?_
  obtain ⟨r1, s2, h3, h⟩ := h.bd
  refine k_X6_read ml_RX11_98 (Nat.le_of_ble_eq_true rfl) ⟨Nat.le_of_ble_eq_true rfl, Nat.le_of_ble_eq_true rfl⟩ dX11_war_4 rfl h3 ?_
  refine w_aload_n 0 dX11_war_7 rfl rfl rfl ?_
  refine gf_RX11_24 dX11_war_8 rfl ?_
  refine w_iconst (0 : Int32) dX11_war_11 ic_iconst_0 rfl ?_
  obtain ⟨r4, s5, h6, h⟩ := h.bd
  refine k_X6_cut ml_RX11_95 (Nat.le_of_ble_eq_true rfl) ⟨Nat.le_of_ble_eq_true rfl, Nat.le_of_ble_eq_true rfl⟩ dX11_war_12 rfl h6 ?_
  refine w_pop dX11_war_15 rfl rfl ?_
  refine w_aload_n 0 dX11_war_16 rfl rfl rfl ?_
  refine gf_RX11_24 dX11_war_17 rfl ?_
  refine gf_RX11_101 dX11_war_20 rfl ?_
  refine w_if_eq (tgt := 29) dX11_war_23 (by decide) rfl (fun q => ?_) (fun q => ?_)
  · have h := h.tt q
    refine w_aload_n 0 dX11_war_29 rfl rfl rfl ?_
    refine gf_RX11_10 dX11_war_30 rfl ?_
    refine w_aload_n 0 dX11_war_33 rfl rfl rfl ?_
    refine gf_RX11_16 dX11_war_34 rfl ?_
    obtain ⟨r7, s8, h9, h⟩ := h.bd
    refine k_X10_become ml_RX11_104 (Nat.le_of_ble_eq_true rfl) ⟨Nat.le_of_ble_eq_true rfl, Nat.le_of_ble_eq_true rfl⟩ dX11_war_37 rfl h9 ?_
    refine w_aload_n 0 dX11_war_40 rfl rfl rfl ?_
    refine gf_RX11_31 dX11_war_41 rfl ?_
    obtain ⟨r10, s11, h12, h⟩ := h.bd
    refine k_X2_forget ml_RX11_107 (Nat.le_of_ble_eq_true rfl) ⟨Nat.le_of_ble_eq_true rfl, Nat.le_of_ble_eq_true rfl⟩ dX11_war_44 rfl h12 ?_
    refine w_aload_n 0 dX11_war_47 rfl rfl rfl ?_
    refine gf_RX11_10 dX11_war_48 rfl ?_
    refine gf_RX11_110 (i := 1) (isW_lit (by decide)) dX11_war_51 rfl ?_
    exact w_ireturn dX11_war_54 h
  · have h := h.ff q
    refine w_bipush (-4 : Int32) dX11_war_26 ic_bipush_m4 rfl ?_
    exact w_ireturn dX11_war_28 h
theorem c_X11_war {l : Launch} {D : va_G} {cy : Nat → ClassId} {ad : Nat → Nat}  {σ σ' : St} {r : Int32} (hf : f_X11_war σ = some (r, σ')) : CT l D cy ad yX11_war cX11_war 1 (some .int) rX11_war [.ref (ad 0)] σ (some (.int r)) σ' :=
  ct_of (by decide) (Nat.le_of_ble_eq_true rfl) (fun p e s m args below meth c A => e_X11_war (Γ := (p, l, e, rX11_war, s, m, args, below, meth, c, D, cy, ad, A, 0, 0, MQ below (QC D cy ad (some (.int r)) σ' A) args s 0 0 A)) σ ⟨_, hf, rfl⟩)
theorem k_X11_war {Γ : CX} {cc : ByteArray} {nL : Nat} {own : String} {ret : Option FieldType} {rm : Room} {σ σ' : St} {pc pc' idx : Nat} {lv : List (Nat × Value)} {rest : List Value}  {r : Int32} (hl : Cond.methodLink own idx yX11_war ∈ TB) (hw : (rest.map fun v => v.category).sum ≤ 8) (hR : rX11_war.frames + 1 ≤ rm.frames ∧ 8 + (1 + 11) + rX11_war.locals ≤ rm.locals) (hd : decode cc pc = .ok (.invokevirtual idx, 3)) (hp : pc + 3 = pc') (hf : f_X11_war σ = some (r, σ')) (h : WW Γ cc nL own ret rm σ' pc' lv (.int r :: rest)) : WW Γ cc nL own ret rm σ pc lv (.ref (xd Γ 0) :: rest) :=
  w_callV (nn := 0) (i := 0) (As := []) (v := (some (.int r))) (T := TX11) (N := 11) (c_X11_war hf) hl mw_X11_war (by decide +kernel) ⟨rfl, rfl⟩ hR (lt_lit (by decide)) cel_0 rfl rfl hw hd rfl hp h
