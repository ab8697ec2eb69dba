/-! WarByHours.wins (I)I -/
def rX11_wins : Room := { frames := 6, cells := 0, slots := 0, locals := 135 }
def f_X11_wins_24 (k0 : Int32) (σ : St) : Option (Int32 × St) :=
  some (k0, σ)
theorem b_X11_wins_24 {Γ : CX} (k0 : Int32) (σ : St) (h : RR vI Γ (f_X11_wins_24 k0 σ)) : WW Γ cX11_wins 2 RX11 (some .int) rX11_wins σ 24 [] [.int k0] := by
  unfold f_X11_wins_24 at h
  exact w_ireturn dX11_wins_24 h
def f_X11_wins (p0 : Int32) (σ : St) : Option (Int32 × St) :=
  bd (f_X10_hasSet 1 p0 σ) fun r1 s2 =>
  if r1 = 0 then
    f_X11_wins_24 (-2 : Int32) s2
  else
    bd (f_X2_winnerBy p0 s2) fun r4 s5 =>
    f_X11_wins_24 r4 s5
theorem e_X11_wins {Γ : CX} (p0 : Int32) (σ : St) (h : RR vI Γ (f_X11_wins p0 σ)) : WW Γ cX11_wins 2 RX11 (some .int) rX11_wins σ 0 [(0, .ref (xd Γ 0)), (1, .int p0)] [] := by
  unfold f_X11_wins at h
  refine w_aload_n 0 dX11_wins_0 rfl rfl rfl ?_
  refine gf_RX11_10 dX11_wins_1 rfl ?_
  refine w_iload_n 1 dX11_wins_4 rfl rfl rfl ?_
  obtain ⟨r1, s2, h3, h⟩ := h.bd
  refine k_X10_hasSet ml_RX11_155 (Nat.le_of_ble_eq_true rfl) ⟨Nat.le_of_ble_eq_true rfl, Nat.le_of_ble_eq_true rfl⟩ dX11_wins_5 rfl h3 ?_
  refine w_if_eq (tgt := 22) dX11_wins_8 (by decide) rfl (fun q => ?_) (fun q => ?_)
  · have h := h.tt q
    refine w_bipush (-2 : Int32) dX11_wins_22 ic_bipush_m2 rfl ?_
    exact w_sub [] rfl (b_X11_wins_24 (-2 : Int32) s2 h)
  · have h := h.ff q
    refine w_aload_n 0 dX11_wins_11 rfl rfl rfl ?_
    refine gf_RX11_31 dX11_wins_12 rfl ?_
    refine w_iload_n 1 dX11_wins_15 rfl rfl rfl ?_
    obtain ⟨r4, s5, h6, h⟩ := h.bd
    refine k_X2_winnerBy ml_RX11_171 (Nat.le_of_ble_eq_true rfl) ⟨Nat.le_of_ble_eq_true rfl, Nat.le_of_ble_eq_true rfl⟩ dX11_wins_16 rfl h6 ?_
    refine w_goto (tgt := 24) dX11_wins_19 (by decide) ?_
    exact w_sub [] rfl (b_X11_wins_24 r4 s5 h)
theorem c_X11_wins {l : Launch} {D : va_G} {cy : Nat → ClassId} {ad : Nat → Nat} {p0 : Int32} {σ σ' : St} {r : Int32} (hf : f_X11_wins p0 σ = some (r, σ')) : CT l D cy ad yX11_wins cX11_wins 2 (some .int) rX11_wins [.ref (ad 0), .int p0] σ (some (.int r)) σ' :=
  ct_of (by decide) (Nat.le_of_ble_eq_true rfl) (fun p e s m args below meth c A => e_X11_wins (Γ := (p, l, e, rX11_wins, s, m, args, below, meth, c, D, cy, ad, A, 0, 0, ((some (.int r)), σ'))) p0 σ ⟨_, hf, rfl⟩)
theorem k_X11_wins {Γ : CX} {cc : ByteArray} {nL : Nat} {own : String} {ret : Option FieldType} {rm : Room} {σ σ' : St} {pc pc' idx : Nat} {lv : List (Nat × Value)} {rest : List Value} {p0 : Int32} {r : Int32} (hl : Cond.methodLink own idx yX11_wins ∈ TB) (hw : (rest.map fun v => v.category).sum ≤ 8) (hR : rX11_wins.frames + 1 ≤ rm.frames ∧ 8 + (2 + 11) + rX11_wins.locals ≤ rm.locals) (hd : decode cc pc = .ok (.invokevirtual idx, 3)) (hp : pc + 3 = pc') (hf : f_X11_wins p0 σ = some (r, σ')) (h : WW Γ cc nL own ret rm σ' pc' lv (.int r :: rest)) : WW Γ cc nL own ret rm σ pc lv (.int p0 :: .ref (xd Γ 0) :: rest) :=
  w_callV (nn := 1) (i := 0) (As := [.int p0]) (v := (some (.int r))) (T := TX11) (N := 11) (c_X11_wins hf) hl mw_X11_wins (by decide +kernel) ⟨rfl, rfl⟩ hR (lt_lit (by decide)) cel_0 rfl rfl hw hd rfl hp h
/-! WarByHours.peak (II)I -/
def rX11_peak : Room := { frames := 5, cells := 0, slots := 0, locals := 114 }
def f_X11_peak_22 (σ : St) : Option (Int32 × St) :=
  some ((-2 : Int32), σ)
theorem b_X11_peak_22 {Γ : CX} (σ : St) (h : RR vI Γ (f_X11_peak_22 σ)) : WW Γ cX11_peak 3 RX11 (some .int) rX11_peak σ 22 [] [] := by
  unfold f_X11_peak_22 at h
  refine w_bipush (-2 : Int32) dX11_peak_22 ic_bipush_m2 rfl ?_
  exact w_ireturn dX11_peak_24 h
def f_X11_peak (p0 : Int32) (p1 : Int32) (σ : St) : Option (Int32 × St) :=
  bd (f_X10_hasSide 1 p0 σ) fun r1 s2 =>
  if r1 = 0 then
    f_X11_peak_22 s2
  else
    bd (f_X10_hasSet 1 p1 s2) fun r4 s5 =>
    if r4 = 0 then
      f_X11_peak_22 s5
    else
      bd (f_X2_follow p1 s5) fun _ s8 =>
      bd (f_X2_peakOf p0 s8) fun r10 s11 =>
      some (r10, s11)
theorem e_X11_peak {Γ : CX} (p0 : Int32) (p1 : Int32) (σ : St) (h : RR vI Γ (f_X11_peak p0 p1 σ)) : WW Γ cX11_peak 3 RX11 (some .int) rX11_peak σ 0 [(0, .ref (xd Γ 0)), (1, .int p0), (2, .int p1)] [] := by
  unfold f_X11_peak at h
  refine w_aload_n 0 dX11_peak_0 rfl rfl rfl ?_
  refine gf_RX11_10 dX11_peak_1 rfl ?_
  refine w_iload_n 1 dX11_peak_4 rfl rfl rfl ?_
  obtain ⟨r1, s2, h3, h⟩ := h.bd
  refine k_X10_hasSide ml_RX11_126 (Nat.le_of_ble_eq_true rfl) ⟨Nat.le_of_ble_eq_true rfl, Nat.le_of_ble_eq_true rfl⟩ dX11_peak_5 rfl h3 ?_
  refine w_if_eq (tgt := 22) dX11_peak_8 (by decide) rfl (fun q => ?_) (fun q => ?_)
  · have h := h.tt q
    exact w_sub [] rfl (b_X11_peak_22 s2 h)
  · have h := h.ff q
    refine w_aload_n 0 dX11_peak_11 rfl rfl rfl ?_
    refine gf_RX11_10 dX11_peak_12 rfl ?_
    refine w_iload_n 2 dX11_peak_15 rfl rfl rfl ?_
    obtain ⟨r4, s5, h6, h⟩ := h.bd
    refine k_X10_hasSet ml_RX11_155 (Nat.le_of_ble_eq_true rfl) ⟨Nat.le_of_ble_eq_true rfl, Nat.le_of_ble_eq_true rfl⟩ dX11_peak_16 rfl h6 ?_
    refine w_if_ne (tgt := 25) dX11_peak_19 (by decide) rfl (fun q => ?_) (fun q => ?_)
    · have h := h.ff q
      refine w_aload_n 0 dX11_peak_25 rfl rfl rfl ?_
      refine gf_RX11_31 dX11_peak_26 rfl ?_
      refine w_iload_n 2 dX11_peak_29 rfl rfl rfl ?_
      obtain ⟨r7, s8, h9, h⟩ := h.bd
      refine k_X2_follow ml_RX11_162 (Nat.le_of_ble_eq_true rfl) ⟨Nat.le_of_ble_eq_true rfl, Nat.le_of_ble_eq_true rfl⟩ dX11_peak_30 rfl h9 ?_
      refine w_aload_n 0 dX11_peak_33 rfl rfl rfl ?_
      refine gf_RX11_31 dX11_peak_34 rfl ?_
      refine w_iload_n 1 dX11_peak_37 rfl rfl rfl ?_
      obtain ⟨r10, s11, h12, h⟩ := h.bd
      refine k_X2_peakOf ml_RX11_174 (Nat.le_of_ble_eq_true rfl) ⟨Nat.le_of_ble_eq_true rfl, Nat.le_of_ble_eq_true rfl⟩ dX11_peak_38 rfl h12 ?_
      exact w_ireturn dX11_peak_41 h
    · have h := h.tt q
      exact w_sub [] rfl (b_X11_peak_22 s5 h)
theorem c_X11_peak {l : Launch} {D : va_G} {cy : Nat → ClassId} {ad : Nat → Nat} {p0 : Int32} {p1 : Int32} {σ σ' : St} {r : Int32} (hf : f_X11_peak p0 p1 σ = some (r, σ')) : CT l D cy ad yX11_peak cX11_peak 3 (some .int) rX11_peak [.ref (ad 0), .int p0, .int p1] σ (some (.int r)) σ' :=
  ct_of (by decide) (Nat.le_of_ble_eq_true rfl) (fun p e s m args below meth c A => e_X11_peak (Γ := (p, l, e, rX11_peak, s, m, args, below, meth, c, D, cy, ad, A, 0, 0, ((some (.int r)), σ'))) p0 p1 σ ⟨_, hf, rfl⟩)
theorem k_X11_peak {Γ : CX} {cc : ByteArray} {nL : Nat} {own : String} {ret : Option FieldType} {rm : Room} {σ σ' : St} {pc pc' idx : Nat} {lv : List (Nat × Value)} {rest : List Value} {p0 : Int32} {p1 : Int32} {r : Int32} (hl : Cond.methodLink own idx yX11_peak ∈ TB) (hw : (rest.map fun v => v.category).sum ≤ 8) (hR : rX11_peak.frames + 1 ≤ rm.frames ∧ 8 + (3 + 11) + rX11_peak.locals ≤ rm.locals) (hd : decode cc pc = .ok (.invokevirtual idx, 3)) (hp : pc + 3 = pc') (hf : f_X11_peak p0 p1 σ = some (r, σ')) (h : WW Γ cc nL own ret rm σ' pc' lv (.int r :: rest)) : WW Γ cc nL own ret rm σ pc lv (.int p1 :: .int p0 :: .ref (xd Γ 0) :: rest) :=
  w_callV (nn := 2) (i := 0) (As := [.int p0, .int p1]) (v := (some (.int r))) (T := TX11) (N := 11) (c_X11_peak hf) hl mw_X11_peak (by decide +kernel) ⟨rfl, rfl⟩ hR (lt_lit (by decide)) cel_0 rfl rfl hw hd rfl hp h
/-! WarByHours.swings (I)I -/
def rX11_swings : Room := { frames := 5, cells := 0, slots := 0, locals := 114 }
def f_X11_swings (p0 : Int32) (σ : St) : Option (Int32 × St) :=
  bd (f_X10_hasSet 1 p0 σ) fun r1 s2 =>
  if r1 = 0 then
    some ((-2 : Int32), s2)
  else
    bd (f_X2_follow p0 s2) fun _ s5 =>
    bd (f_X2_countSwings s5) fun r7 s8 =>
    some (r7, s8)
theorem e_X11_swings {Γ : CX} (p0 : Int32) (σ : St) (h : RR vI Γ (f_X11_swings p0 σ)) : WW Γ cX11_swings 2 RX11 (some .int) rX11_swings σ 0 [(0, .ref (xd Γ 0)), (1, .int p0)] [] := by
  unfold f_X11_swings at h
  refine w_aload_n 0 dX11_swings_0 rfl rfl rfl ?_
  refine gf_RX11_10 dX11_swings_1 rfl ?_
  refine w_iload_n 1 dX11_swings_4 rfl rfl rfl ?_
  obtain ⟨r1, s2, h3, h⟩ := h.bd
  refine k_X10_hasSet ml_RX11_155 (Nat.le_of_ble_eq_true rfl) ⟨Nat.le_of_ble_eq_true rfl, Nat.le_of_ble_eq_true rfl⟩ dX11_swings_5 rfl h3 ?_
  refine w_if_ne (tgt := 14) dX11_swings_8 (by decide) rfl (fun q => ?_) (fun q => ?_)
  · have h := h.ff q
    refine w_aload_n 0 dX11_swings_14 rfl rfl rfl ?_
    refine gf_RX11_31 dX11_swings_15 rfl ?_
    refine w_iload_n 1 dX11_swings_18 rfl rfl rfl ?_
    obtain ⟨r4, s5, h6, h⟩ := h.bd
    refine k_X2_follow ml_RX11_162 (Nat.le_of_ble_eq_true rfl) ⟨Nat.le_of_ble_eq_true rfl, Nat.le_of_ble_eq_true rfl⟩ dX11_swings_19 rfl h6 ?_
    refine w_aload_n 0 dX11_swings_22 rfl rfl rfl ?_
    refine gf_RX11_31 dX11_swings_23 rfl ?_
    obtain ⟨r7, s8, h9, h⟩ := h.bd
    refine k_X2_countSwings ml_RX11_177 (Nat.le_of_ble_eq_true rfl) ⟨Nat.le_of_ble_eq_true rfl, Nat.le_of_ble_eq_true rfl⟩ dX11_swings_26 rfl h9 ?_
    exact w_ireturn dX11_swings_29 h
  · have h := h.tt q
    refine w_bipush (-2 : Int32) dX11_swings_11 ic_bipush_m2 rfl ?_
    exact w_ireturn dX11_swings_13 h
theorem c_X11_swings {l : Launch} {D : va_G} {cy : Nat → ClassId} {ad : Nat → Nat} {p0 : Int32} {σ σ' : St} {r : Int32} (hf : f_X11_swings p0 σ = some (r, σ')) : CT l D cy ad yX11_swings cX11_swings 2 (some .int) rX11_swings [.ref (ad 0), .int p0] σ (some (.int r)) σ' :=
  ct_of (by decide) (Nat.le_of_ble_eq_true rfl) (fun p e s m args below meth c A => e_X11_swings (Γ := (p, l, e, rX11_swings, s, m, args, below, meth, c, D, cy, ad, A, 0, 0, ((some (.int r)), σ'))) p0 σ ⟨_, hf, rfl⟩)
theorem k_X11_swings {Γ : CX} {cc : ByteArray} {nL : Nat} {own : String} {ret : Option FieldType} {rm : Room} {σ σ' : St} {pc pc' idx : Nat} {lv : List (Nat × Value)} {rest : List Value} {p0 : Int32} {r : Int32} (hl : Cond.methodLink own idx yX11_swings ∈ TB) (hw : (rest.map fun v => v.category).sum ≤ 8) (hR : rX11_swings.frames + 1 ≤ rm.frames ∧ 8 + (2 + 11) + rX11_swings.locals ≤ rm.locals) (hd : decode cc pc = .ok (.invokevirtual idx, 3)) (hp : pc + 3 = pc') (hf : f_X11_swings p0 σ = some (r, σ')) (h : WW Γ cc nL own ret rm σ' pc' lv (.int r :: rest)) : WW Γ cc nL own ret rm σ pc lv (.int p0 :: .ref (xd Γ 0) :: rest) :=
  w_callV (nn := 1) (i := 0) (As := [.int p0]) (v := (some (.int r))) (T := TX11) (N := 11) (c_X11_swings hf) hl mw_X11_swings (by decide +kernel) ⟨rfl, rfl⟩ hR (lt_lit (by decide)) cel_0 rfl rfl hw hd rfl hp h
/-! WarByHours.since (II)I -/
def rX11_since : Room := { frames := 3, cells := 0, slots := 0, locals := 69 }
def f_X11_since_22 (σ : St) : Option (Int32 × St) :=
  some ((-2 : Int32), σ)
theorem b_X11_since_22 {Γ : CX} (σ : St) (h : RR vI Γ (f_X11_since_22 σ)) : WW Γ cX11_since 4 RX11 (some .int) rX11_since σ 22 [] [] := by
  unfold f_X11_since_22 at h
  refine w_bipush (-2 : Int32) dX11_since_22 ic_bipush_m2 rfl ?_
  exact w_ireturn dX11_since_24 h
def g_X11_since_27 (K27 : Int32 × Int32 × Int32 × St → Option (Int32 × St)) (x : Int32 × Int32 × Int32 × St) : Option (Int32 × St) := match x with
  | (v1, v2, v3, σ) =>
  if (99 : Int32) < v3 then
    some ((-1 : Int32), σ)
  else
    bd (f_X10_menThere 1 v1 v3 v2 σ) fun r1 s2 =>
    bd (f_X10_needOf 1 v1 s2) fun r4 s5 =>
    if r1 < r4 then
      bnd (v3 + (1 : Int32)) fun x7 =>
      K27 (v1, v2, x7, s5)
    else
      some (v3, s5)
theorem l_X11_since_27 {Γ : CX} : ∀ (n : Nat) (v1 : Int32) (v2 : Int32) (v3 : Int32) (σ : St), RR vI Γ (itr (g_X11_since_27) n (v1, v2, v3, σ)) → WW Γ cX11_since 4 RX11 (some .int) rX11_since σ 27 [(0, .ref (xd Γ 0)), (1, .int v1), (2, .int v2), (3, .int v3)] [] := by
  intro n
  induction n with
  | zero => intro v1 v2 v3 σ h; exact RR.no h
  | succ n hK27 =>
  intro v1 v2 v3 σ h
  have h : RR vI Γ (g_X11_since_27 (itr (g_X11_since_27) n) (v1, v2, v3, σ)) := h
  generalize itr (g_X11_since_27) n = K27 at h hK27
  unfold g_X11_since_27 at h
  dsimp only at h
  refine w_iload_n 3 dX11_since_27 rfl rfl rfl ?_
  refine w_bipush (99 : Int32) dX11_since_28 ic_bipush_99 rfl ?_
  refine w_icmp_gt (tgt := 62) dX11_since_30 (by decide) rfl (fun q => ?_) (fun q => ?_)
  · have h := h.tt q
    refine w_iconst (-1 : Int32) dX11_since_62 ic_iconst_m1 rfl ?_
    exact w_ireturn dX11_since_63 h
  · have h := h.ff q
    refine w_aload_n 0 dX11_since_33 rfl rfl rfl ?_
    refine gf_RX11_10 dX11_since_34 rfl ?_
    refine w_iload_n 1 dX11_since_37 rfl rfl rfl ?_
    refine w_iload_n 3 dX11_since_38 rfl rfl rfl ?_
    refine w_iload_n 2 dX11_since_39 rfl rfl rfl ?_
    obtain ⟨r1, s2, h3, h⟩ := h.bd
    refine k_X10_menThere ml_RX11_158 (Nat.le_of_ble_eq_true rfl) ⟨Nat.le_of_ble_eq_true rfl, Nat.le_of_ble_eq_true rfl⟩ dX11_since_40 rfl h3 ?_
    refine w_aload_n 0 dX11_since_43 rfl rfl rfl ?_
    refine gf_RX11_10 dX11_since_44 rfl ?_
    refine w_iload_n 1 dX11_since_47 rfl rfl rfl ?_
    obtain ⟨r4, s5, h6, h⟩ := h.bd
    refine k_X10_needOf ml_RX11_129 (Nat.le_of_ble_eq_true rfl) ⟨Nat.le_of_ble_eq_true rfl, Nat.le_of_ble_eq_true rfl⟩ dX11_since_48 rfl h6 ?_
    refine w_icmp_lt (tgt := 56) dX11_since_51 (by decide) rfl (fun q => ?_) (fun q => ?_)
    · have h := h.tt q
      obtain ⟨x7, ex7⟩ : ∃ y : Int32, y = (v3 + (1 : Int32)) := ⟨_, rfl⟩
      replace h := h.bnd ex7
      refine w_iinc 3 x7 [(3, .int x7), (0, .ref (xd Γ 0)), (1, .int v1), (2, .int v2)] dX11_since_56 rfl (by rw [ex7, ic_iconst_1]) (by decide) rfl rfl ?_
      clear ex7
      refine w_goto (tgt := 27) dX11_since_59 (by decide) ?_
      exact w_sub [1, 2, 3, 0] rfl (hK27 v1 v2 x7 s5 h)
    · have h := h.ff q
      refine w_iload_n 3 dX11_since_54 rfl rfl rfl ?_
      exact w_ireturn dX11_since_55 h
def f_X11_since (p0 : Int32) (p1 : Int32) (σ : St) : Option (Int32 × St) :=
  bd (f_X10_hasSide 1 p0 σ) fun r1 s2 =>
  if r1 = 0 then
    f_X11_since_22 s2
  else
    bd (f_X10_hasSet 1 p1 s2) fun r4 s5 =>
    if r4 = 0 then
      f_X11_since_22 s5
    else
      itr (g_X11_since_27) FU (p0, p1, (0 : Int32), s5)
theorem e_X11_since {Γ : CX} (p0 : Int32) (p1 : Int32) (σ : St) (h : RR vI Γ (f_X11_since p0 p1 σ)) : WW Γ cX11_since 4 RX11 (some .int) rX11_since σ 0 [(0, .ref (xd Γ 0)), (1, .int p0), (2, .int p1)] [] := by
  unfold f_X11_since at h
  refine w_aload_n 0 dX11_since_0 rfl rfl rfl ?_
  refine gf_RX11_10 dX11_since_1 rfl ?_
  refine w_iload_n 1 dX11_since_4 rfl rfl rfl ?_
  obtain ⟨r1, s2, h3, h⟩ := h.bd
  refine k_X10_hasSide ml_RX11_126 (Nat.le_of_ble_eq_true rfl) ⟨Nat.le_of_ble_eq_true rfl, Nat.le_of_ble_eq_true rfl⟩ dX11_since_5 rfl h3 ?_
  refine w_if_eq (tgt := 22) dX11_since_8 (by decide) rfl (fun q => ?_) (fun q => ?_)
  · have h := h.tt q
    exact w_sub [] rfl (b_X11_since_22 s2 h)
  · have h := h.ff q
    refine w_aload_n 0 dX11_since_11 rfl rfl rfl ?_
    refine gf_RX11_10 dX11_since_12 rfl ?_
    refine w_iload_n 2 dX11_since_15 rfl rfl rfl ?_
    obtain ⟨r4, s5, h6, h⟩ := h.bd
    refine k_X10_hasSet ml_RX11_155 (Nat.le_of_ble_eq_true rfl) ⟨Nat.le_of_ble_eq_true rfl, Nat.le_of_ble_eq_true rfl⟩ dX11_since_16 rfl h6 ?_
    refine w_if_ne (tgt := 25) dX11_since_19 (by decide) rfl (fun q => ?_) (fun q => ?_)
    · have h := h.ff q
      refine w_iconst (0 : Int32) dX11_since_25 ic_iconst_0 rfl ?_
      refine w_istore_n [(3, .int (0 : Int32)), (0, .ref (xd Γ 0)), (1, .int p0), (2, .int p1)] dX11_since_26 rfl (by decide) rfl rfl ?_
      exact w_sub [1, 2, 3, 0] rfl (l_X11_since_27 FU p0 p1 (0 : Int32) s5 h)
    · have h := h.tt q
      exact w_sub [] rfl (b_X11_since_22 s5 h)
theorem c_X11_since {l : Launch} {D : va_G} {cy : Nat → ClassId} {ad : Nat → Nat} {p0 : Int32} {p1 : Int32} {σ σ' : St} {r : Int32} (hf : f_X11_since p0 p1 σ = some (r, σ')) : CT l D cy ad yX11_since cX11_since 4 (some .int) rX11_since [.ref (ad 0), .int p0, .int p1] σ (some (.int r)) σ' :=
  ct_of (by decide) (Nat.le_of_ble_eq_true rfl) (fun p e s m args below meth c A => e_X11_since (Γ := (p, l, e, rX11_since, s, m, args, below, meth, c, D, cy, ad, A, 0, 0, ((some (.int r)), σ'))) p0 p1 σ ⟨_, hf, rfl⟩)
theorem k_X11_since {Γ : CX} {cc : ByteArray} {nL : Nat} {own : String} {ret : Option FieldType} {rm : Room} {σ σ' : St} {pc pc' idx : Nat} {lv : List (Nat × Value)} {rest : List Value} {p0 : Int32} {p1 : Int32} {r : Int32} (hl : Cond.methodLink own idx yX11_since ∈ TB) (hw : (rest.map fun v => v.category).sum ≤ 8) (hR : rX11_since.frames + 1 ≤ rm.frames ∧ 8 + (4 + 11) + rX11_since.locals ≤ rm.locals) (hd : decode cc pc = .ok (.invokevirtual idx, 3)) (hp : pc + 3 = pc') (hf : f_X11_since p0 p1 σ = some (r, σ')) (h : WW Γ cc nL own ret rm σ' pc' lv (.int r :: rest)) : WW Γ cc nL own ret rm σ pc lv (.int p1 :: .int p0 :: .ref (xd Γ 0) :: rest) :=
  w_callV (nn := 2) (i := 0) (As := [.int p0, .int p1]) (v := (some (.int r))) (T := TX11) (N := 11) (c_X11_since hf) hl mw_X11_since (by decide +kernel) ⟨rfl, rfl⟩ hR (lt_lit (by decide)) cel_0 rfl rfl hw hd rfl hp h
/-! WarByHours.comes (II)I -/
def rX11_comes : Room := { frames := 3, cells := 0, slots := 0, locals := 68 }
def f_X11_comes_18 (σ : St) : Option (Int32 × St) :=
  some ((-2 : Int32), σ)
theorem b_X11_comes_18 {Γ : CX} (σ : St) (h : RR vI Γ (f_X11_comes_18 σ)) : WW Γ cX11_comes 3 RX11 (some .int) rX11_comes σ 18 [] [] := by
  unfold f_X11_comes_18 at h
  refine w_bipush (-2 : Int32) dX11_comes_18 ic_bipush_m2 rfl ?_
  exact w_ireturn dX11_comes_20 h
def f_X11_comes (p0 : Int32) (p1 : Int32) (σ : St) : Option (Int32 × St) :=
  bd (f_X11_isMinute p0 σ) fun r1 s2 =>
  if r1 = 0 then
    f_X11_comes_18 s2
  else
    bd (f_X10_hasSet 1 p1 s2) fun r4 s5 =>
    if r4 = 0 then
      f_X11_comes_18 s5
    else
      bd (f_X10_comingIn 1 p0 p1 s5) fun r7 s8 =>
      some (r7, s8)
theorem e_X11_comes {Γ : CX} (p0 : Int32) (p1 : Int32) (σ : St) (h : RR vI Γ (f_X11_comes p0 p1 σ)) : WW Γ cX11_comes 3 RX11 (some .int) rX11_comes σ 0 [(0, .ref (xd Γ 0)), (1, .int p0), (2, .int p1)] [] := by
  unfold f_X11_comes at h
  refine w_iload_n 1 dX11_comes_0 rfl rfl rfl ?_
  obtain ⟨r1, s2, h3, h⟩ := h.bd
  refine k_X11_isMinute ml_RX11_152 (Nat.le_of_ble_eq_true rfl) ⟨Nat.le_of_ble_eq_true rfl, Nat.le_of_ble_eq_true rfl⟩ dX11_comes_1 rfl h3 ?_
  refine w_if_eq (tgt := 18) dX11_comes_4 (by decide) rfl (fun q => ?_) (fun q => ?_)
  · have h := h.tt q
    exact w_sub [] rfl (b_X11_comes_18 s2 h)
  · have h := h.ff q
    refine w_aload_n 0 dX11_comes_7 rfl rfl rfl ?_
    refine gf_RX11_10 dX11_comes_8 rfl ?_
    refine w_iload_n 2 dX11_comes_11 rfl rfl rfl ?_
    obtain ⟨r4, s5, h6, h⟩ := h.bd
    refine k_X10_hasSet ml_RX11_155 (Nat.le_of_ble_eq_true rfl) ⟨Nat.le_of_ble_eq_true rfl, Nat.le_of_ble_eq_true rfl⟩ dX11_comes_12 rfl h6 ?_
    refine w_if_ne (tgt := 21) dX11_comes_15 (by decide) rfl (fun q => ?_) (fun q => ?_)
    · have h := h.ff q
      refine w_aload_n 0 dX11_comes_21 rfl rfl rfl ?_
      refine gf_RX11_10 dX11_comes_22 rfl ?_
      refine w_iload_n 1 dX11_comes_25 rfl rfl rfl ?_
      refine w_iload_n 2 dX11_comes_26 rfl rfl rfl ?_
      obtain ⟨r7, s8, h9, h⟩ := h.bd
      refine k_X10_comingIn ml_RX11_259 (Nat.le_of_ble_eq_true rfl) ⟨Nat.le_of_ble_eq_true rfl, Nat.le_of_ble_eq_true rfl⟩ dX11_comes_27 rfl h9 ?_
      exact w_ireturn dX11_comes_30 h
    · have h := h.tt q
      exact w_sub [] rfl (b_X11_comes_18 s5 h)
theorem c_X11_comes {l : Launch} {D : va_G} {cy : Nat → ClassId} {ad : Nat → Nat} {p0 : Int32} {p1 : Int32} {σ σ' : St} {r : Int32} (hf : f_X11_comes p0 p1 σ = some (r, σ')) : CT l D cy ad yX11_comes cX11_comes 3 (some .int) rX11_comes [.ref (ad 0), .int p0, .int p1] σ (some (.int r)) σ' :=
  ct_of (by decide) (Nat.le_of_ble_eq_true rfl) (fun p e s m args below meth c A => e_X11_comes (Γ := (p, l, e, rX11_comes, s, m, args, below, meth, c, D, cy, ad, A, 0, 0, ((some (.int r)), σ'))) p0 p1 σ ⟨_, hf, rfl⟩)
theorem k_X11_comes {Γ : CX} {cc : ByteArray} {nL : Nat} {own : String} {ret : Option FieldType} {rm : Room} {σ σ' : St} {pc pc' idx : Nat} {lv : List (Nat × Value)} {rest : List Value} {p0 : Int32} {p1 : Int32} {r : Int32} (hl : Cond.methodLink own idx yX11_comes ∈ TB) (hw : (rest.map fun v => v.category).sum ≤ 8) (hR : rX11_comes.frames + 1 ≤ rm.frames ∧ 8 + (3 + 11) + rX11_comes.locals ≤ rm.locals) (hd : decode cc pc = .ok (.invokevirtual idx, 3)) (hp : pc + 3 = pc') (hf : f_X11_comes p0 p1 σ = some (r, σ')) (h : WW Γ cc nL own ret rm σ' pc' lv (.int r :: rest)) : WW Γ cc nL own ret rm σ pc lv (.int p1 :: .int p0 :: .ref (xd Γ 0) :: rest) :=
  w_callV (nn := 2) (i := 0) (As := [.int p0, .int p1]) (v := (some (.int r))) (T := TX11) (N := 11) (c_X11_comes hf) hl mw_X11_comes (by decide +kernel) ⟨rfl, rfl⟩ hR (lt_lit (by decide)) cel_0 rfl rfl hw hd rfl hp h
/-! WarByHours.even (I)J -/
def rX11_even : Room := { frames := 4, cells := 0, slots := 0, locals := 91 }
def f_X11_even_52 (K20 : Int32 × Int64 × Int32 × St → Option (Int64 × St)) (v1 : Int32) (v2 : Int64) (v4 : Int32) (σ : St) : Option (Int64 × St) :=
  bnd (v4 + (1 : Int32)) fun x1 =>
  K20 (v1, v2, x1, σ)
theorem b_X11_even_52 {Γ : CX} (K20 : Int32 × Int64 × Int32 × St → Option (Int64 × St)) (hK20 : ∀ (v1 : Int32) (v2 : Int64) (v4 : Int32) (σ : St), RR vL Γ (K20 (v1, v2, v4, σ)) → WW Γ cX11_even 5 RX11 (some .long) rX11_even σ 20 [(0, .ref (xd Γ 0)), (1, .int v1), (2, .long v2), (4, .int v4)] []) (v1 : Int32) (v2 : Int64) (v4 : Int32) (σ : St) (h : RR vL Γ (f_X11_even_52 K20 v1 v2 v4 σ)) : WW Γ cX11_even 5 RX11 (some .long) rX11_even σ 52 [(0, .ref (xd Γ 0)), (1, .int v1), (2, .long v2), (4, .int v4)] [] := by
  unfold f_X11_even_52 at h
  obtain ⟨x1, ex1⟩ : ∃ y : Int32, y = (v4 + (1 : Int32)) := ⟨_, rfl⟩
  replace h := h.bnd ex1
  refine w_iinc 3 x1 [(4, .int x1), (0, .ref (xd Γ 0)), (1, .int v1), (2, .long v2)] dX11_even_52 rfl (by rw [ex1, ic_iconst_1]) (by decide) rfl rfl ?_
  clear ex1
  refine w_goto (tgt := 20) dX11_even_55 (by decide) ?_
  exact w_sub [1, 2, 3, 0] rfl (hK20 v1 v2 x1 σ h)
def g_X11_even_20 (K20 : Int32 × Int64 × Int32 × St → Option (Int64 × St)) (x : Int32 × Int64 × Int32 × St) : Option (Int64 × St) := match x with
  | (v1, v2, v4, σ) =>
  if (gf σ 1 1) ≤ v4 then
    some (v2, σ)
  else
    bd (f_X10_leadIn 1 v4 v1 σ) fun r1 s2 =>
    if r1 = 0 then
      bnd ((v2 ||| ((1 : Int64) <<< (v4.toInt64 &&& 63)))) fun x4 =>
      f_X11_even_52 K20 v1 x4 v4 s2
    else
      f_X11_even_52 K20 v1 v2 v4 s2
theorem l_X11_even_20 {Γ : CX} : ∀ (n : Nat) (v1 : Int32) (v2 : Int64) (v4 : Int32) (σ : St), RR vL Γ (itr (g_X11_even_20) n (v1, v2, v4, σ)) → WW Γ cX11_even 5 RX11 (some .long) rX11_even σ 20 [(0, .ref (xd Γ 0)), (1, .int v1), (2, .long v2), (4, .int v4)] [] := by
  intro n
  induction n with
  | zero => intro v1 v2 v4 σ h; exact RR.no h
  | succ n hK20 =>
  intro v1 v2 v4 σ h
  have h : RR vL Γ (g_X11_even_20 (itr (g_X11_even_20) n) (v1, v2, v4, σ)) := h
  generalize itr (g_X11_even_20) n = K20 at h hK20
  unfold g_X11_even_20 at h
  dsimp only at h
  refine w_iload 3 dX11_even_20 rfl rfl ?_
  refine w_aload_n 0 dX11_even_22 rfl rfl rfl ?_
  refine gf_RX11_10 dX11_even_23 rfl ?_
  refine gf_RX11_137 (i := 1) (isW_lit (by decide)) dX11_even_26 rfl ?_
  refine w_icmp_ge (tgt := 58) dX11_even_29 (by decide) rfl (fun q => ?_) (fun q => ?_)
  · have h := h.tt q
    refine w_lload_n 2 dX11_even_58 rfl rfl rfl ?_
    exact w_lreturn dX11_even_59 h
  · have h := h.ff q
    refine w_aload_n 0 dX11_even_32 rfl rfl rfl ?_
    refine gf_RX11_10 dX11_even_33 rfl ?_
    refine w_iload 3 dX11_even_36 rfl rfl ?_
    refine w_iload_n 1 dX11_even_38 rfl rfl rfl ?_
    obtain ⟨r1, s2, h3, h⟩ := h.bd
    refine k_X10_leadIn ml_RX11_262 (Nat.le_of_ble_eq_true rfl) ⟨Nat.le_of_ble_eq_true rfl, Nat.le_of_ble_eq_true rfl⟩ dX11_even_39 rfl h3 ?_
    refine w_if_ne (tgt := 52) dX11_even_42 (by decide) rfl (fun q => ?_) (fun q => ?_)
    · have h := h.ff q
      exact w_sub [0, 1, 2, 3] rfl (b_X11_even_52 K20 hK20 v1 v2 v4 s2 h)
    · have h := h.tt q
      refine w_lload_n 2 dX11_even_45 rfl rfl rfl ?_
      refine w_lconst (1 : Int64) dX11_even_46 rfl rfl ?_
      refine w_iload 3 dX11_even_47 rfl rfl ?_
      refine w_lshl dX11_even_49 rfl ?_
      refine w_lor dX11_even_50 rfl ?_
      refine w_nmL (fun x4 ex4 => ?_)
      replace h := h.bnd ex4
      clear ex4
      refine w_lstore_n [(2, .long x4), (0, .ref (xd Γ 0)), (1, .int v1), (4, .int v4)] dX11_even_51 rfl (by decide) rfl rfl ?_
      exact w_sub [1, 2, 0, 3] rfl (b_X11_even_52 K20 hK20 v1 x4 v4 s2 h)
def f_X11_even (p0 : Int32) (σ : St) : Option (Int64 × St) :=
  bd (f_X10_hasSet 1 p0 σ) fun r1 s2 =>
  if r1 = 0 then
    some ((-2 : Int64), s2)
  else
    itr (g_X11_even_20) FU (p0, (0 : Int64), (0 : Int32), s2)
theorem e_X11_even {Γ : CX} (p0 : Int32) (σ : St) (h : RR vL Γ (f_X11_even p0 σ)) : WW Γ cX11_even 5 RX11 (some .long) rX11_even σ 0 [(0, .ref (xd Γ 0)), (1, .int p0)] [] := by
  unfold f_X11_even at h
  refine w_aload_n 0 dX11_even_0 rfl rfl rfl ?_
  refine gf_RX11_10 dX11_even_1 rfl ?_
  refine w_iload_n 1 dX11_even_4 rfl rfl rfl ?_
  obtain ⟨r1, s2, h3, h⟩ := h.bd
  refine k_X10_hasSet ml_RX11_155 (Nat.le_of_ble_eq_true rfl) ⟨Nat.le_of_ble_eq_true rfl, Nat.le_of_ble_eq_true rfl⟩ dX11_even_5 rfl h3 ?_
  refine w_if_ne (tgt := 15) dX11_even_8 (by decide) rfl (fun q => ?_) (fun q => ?_)
  · have h := h.ff q
    refine w_lconst (0 : Int64) dX11_even_15 rfl rfl ?_
    refine w_lstore_n [(2, .long (0 : Int64)), (0, .ref (xd Γ 0)), (1, .int p0)] dX11_even_16 rfl (by decide) rfl rfl ?_
    refine w_iconst (0 : Int32) dX11_even_17 ic_iconst_0 rfl ?_
    refine w_istore [(4, .int (0 : Int32)), (2, .long (0 : Int64)), (0, .ref (xd Γ 0)), (1, .int p0)] dX11_even_18 (by decide) rfl rfl ?_
    exact w_sub [2, 3, 1, 0] rfl (l_X11_even_20 FU p0 (0 : Int64) (0 : Int32) s2 h)
  · have h := h.tt q
    refine w_ldc2_w (-2 : Int64) dX11_even_11 cl_RX11_196 rfl ?_
    exact w_lreturn dX11_even_14 h
theorem c_X11_even {l : Launch} {D : va_G} {cy : Nat → ClassId} {ad : Nat → Nat} {p0 : Int32} {σ σ' : St} {r : Int64} (hf : f_X11_even p0 σ = some (r, σ')) : CT l D cy ad yX11_even cX11_even 5 (some .long) rX11_even [.ref (ad 0), .int p0] σ (some (.long r)) σ' :=
  ct_of (by decide) (Nat.le_of_ble_eq_true rfl) (fun p e s m args below meth c A => e_X11_even (Γ := (p, l, e, rX11_even, s, m, args, below, meth, c, D, cy, ad, A, 0, 0, ((some (.long r)), σ'))) p0 σ ⟨_, hf, rfl⟩)
theorem k_X11_even {Γ : CX} {cc : ByteArray} {nL : Nat} {own : String} {ret : Option FieldType} {rm : Room} {σ σ' : St} {pc pc' idx : Nat} {lv : List (Nat × Value)} {rest : List Value} {p0 : Int32} {r : Int64} (hl : Cond.methodLink own idx yX11_even ∈ TB) (hw : (rest.map fun v => v.category).sum ≤ 8) (hR : rX11_even.frames + 1 ≤ rm.frames ∧ 8 + (5 + 11) + rX11_even.locals ≤ rm.locals) (hd : decode cc pc = .ok (.invokevirtual idx, 3)) (hp : pc + 3 = pc') (hf : f_X11_even p0 σ = some (r, σ')) (h : WW Γ cc nL own ret rm σ' pc' lv (.long r :: rest)) : WW Γ cc nL own ret rm σ pc lv (.int p0 :: .ref (xd Γ 0) :: rest) :=
  w_callV (nn := 1) (i := 0) (As := [.int p0]) (v := (some (.long r))) (T := TX11) (N := 11) (c_X11_even hf) hl mw_X11_even (by decide +kernel) ⟨rfl, rfl⟩ hR (lt_lit (by decide)) cel_0 rfl rfl hw hd rfl hp h
/-! WarByHours.treaties (I)J -/
def rX11_treaties : Room := { frames := 5, cells := 0, slots := 0, locals := 114 }
def f_X11_treaties (p0 : Int32) (σ : St) : Option (Int64 × St) :=
  bd (f_X10_hasSet 1 p0 σ) fun r1 s2 =>
  if r1 = 0 then
    some ((-2 : Int64), s2)
  else
    bd (f_X2_follow p0 s2) fun _ s5 =>
    bd (f_X2_treatyEnds s5) fun r7 s8 =>
    some (r7, s8)
theorem e_X11_treaties {Γ : CX} (p0 : Int32) (σ : St) (h : RR vL Γ (f_X11_treaties p0 σ)) : WW Γ cX11_treaties 2 RX11 (some .long) rX11_treaties σ 0 [(0, .ref (xd Γ 0)), (1, .int p0)] [] := by
  unfold f_X11_treaties at h
  refine w_aload_n 0 dX11_treaties_0 rfl rfl rfl ?_
  refine gf_RX11_10 dX11_treaties_1 rfl ?_
  refine w_iload_n 1 dX11_treaties_4 rfl rfl rfl ?_
  obtain ⟨r1, s2, h3, h⟩ := h.bd
  refine k_X10_hasSet ml_RX11_155 (Nat.le_of_ble_eq_true rfl) ⟨Nat.le_of_ble_eq_true rfl, Nat.le_of_ble_eq_true rfl⟩ dX11_treaties_5 rfl h3 ?_
  refine w_if_ne (tgt := 15) dX11_treaties_8 (by decide) rfl (fun q => ?_) (fun q => ?_)
  · have h := h.ff q
    refine w_aload_n 0 dX11_treaties_15 rfl rfl rfl ?_
    refine gf_RX11_31 dX11_treaties_16 rfl ?_
    refine w_iload_n 1 dX11_treaties_19 rfl rfl rfl ?_
    obtain ⟨r4, s5, h6, h⟩ := h.bd
    refine k_X2_follow ml_RX11_162 (Nat.le_of_ble_eq_true rfl) ⟨Nat.le_of_ble_eq_true rfl, Nat.le_of_ble_eq_true rfl⟩ dX11_treaties_20 rfl h6 ?_
    refine w_aload_n 0 dX11_treaties_23 rfl rfl rfl ?_
    refine gf_RX11_31 dX11_treaties_24 rfl ?_
    obtain ⟨r7, s8, h9, h⟩ := h.bd
    refine k_X2_treatyEnds ml_RX11_301 (Nat.le_of_ble_eq_true rfl) ⟨Nat.le_of_ble_eq_true rfl, Nat.le_of_ble_eq_true rfl⟩ dX11_treaties_27 rfl h9 ?_
    exact w_lreturn dX11_treaties_30 h
  · have h := h.tt q
    refine w_ldc2_w (-2 : Int64) dX11_treaties_11 cl_RX11_196 rfl ?_
    exact w_lreturn dX11_treaties_14 h
theorem c_X11_treaties {l : Launch} {D : va_G} {cy : Nat → ClassId} {ad : Nat → Nat} {p0 : Int32} {σ σ' : St} {r : Int64} (hf : f_X11_treaties p0 σ = some (r, σ')) : CT l D cy ad yX11_treaties cX11_treaties 2 (some .long) rX11_treaties [.ref (ad 0), .int p0] σ (some (.long r)) σ' :=
  ct_of (by decide) (Nat.le_of_ble_eq_true rfl) (fun p e s m args below meth c A => e_X11_treaties (Γ := (p, l, e, rX11_treaties, s, m, args, below, meth, c, D, cy, ad, A, 0, 0, ((some (.long r)), σ'))) p0 σ ⟨_, hf, rfl⟩)
theorem k_X11_treaties {Γ : CX} {cc : ByteArray} {nL : Nat} {own : String} {ret : Option FieldType} {rm : Room} {σ σ' : St} {pc pc' idx : Nat} {lv : List (Nat × Value)} {rest : List Value} {p0 : Int32} {r : Int64} (hl : Cond.methodLink own idx yX11_treaties ∈ TB) (hw : (rest.map fun v => v.category).sum ≤ 8) (hR : rX11_treaties.frames + 1 ≤ rm.frames ∧ 8 + (2 + 11) + rX11_treaties.locals ≤ rm.locals) (hd : decode cc pc = .ok (.invokevirtual idx, 3)) (hp : pc + 3 = pc') (hf : f_X11_treaties p0 σ = some (r, σ')) (h : WW Γ cc nL own ret rm σ' pc' lv (.long r :: rest)) : WW Γ cc nL own ret rm σ pc lv (.int p0 :: .ref (xd Γ 0) :: rest) :=
  w_callV (nn := 1) (i := 0) (As := [.int p0]) (v := (some (.long r))) (T := TX11) (N := 11) (c_X11_treaties hf) hl mw_X11_treaties (by decide +kernel) ⟨rfl, rfl⟩ hR (lt_lit (by decide)) cel_0 rfl rfl hw hd rfl hp h
/-! WarByHours.price (II)I -/
def rX11_price : Room := { frames := 5, cells := 0, slots := 0, locals := 114 }
def f_X11_price_27 (σ : St) : Option (Int32 × St) :=
  some ((-2 : Int32), σ)
theorem b_X11_price_27 {Γ : CX} (σ : St) (h : RR vI Γ (f_X11_price_27 σ)) : WW Γ cX11_price 4 RX11 (some .int) rX11_price σ 27 [] [] := by
  unfold f_X11_price_27 at h
  refine w_bipush (-2 : Int32) dX11_price_27 ic_bipush_m2 rfl ?_
  exact w_ireturn dX11_price_29 h
def f_X11_price_58 (k0 : Int32) (σ : St) : Option (Int32 × St) :=
  some (k0, σ)
theorem b_X11_price_58 {Γ : CX} (k0 : Int32) (σ : St) (h : RR vI Γ (f_X11_price_58 k0 σ)) : WW Γ cX11_price 4 RX11 (some .int) rX11_price σ 58 [] [.int k0] := by
  unfold f_X11_price_58 at h
  exact w_ireturn dX11_price_58 h
def f_X11_price (p0 : Int32) (p1 : Int32) (σ : St) : Option (Int32 × St) :=
  bd (f_X10_hasSet 1 p1 σ) fun r1 s2 =>
  if r1 = 0 then
    f_X11_price_27 s2
  else
    if p0 < (1 : Int32) then
      f_X11_price_27 s2
    else
      if p0 ≤ (gf s2 1 1) then
        bd (f_X2_follow p1 s2) fun _ s5 =>
        bd (f_X2_farthestFrom p0 s5) fun r7 s8 =>
        if (60 : Int32) < r7 then
          f_X11_price_58 (-1 : Int32) s8
        else
          f_X11_price_58 r7 s8
      else
        f_X11_price_27 s2
theorem e_X11_price {Γ : CX} (p0 : Int32) (p1 : Int32) (σ : St) (h : RR vI Γ (f_X11_price p0 p1 σ)) : WW Γ cX11_price 4 RX11 (some .int) rX11_price σ 0 [(0, .ref (xd Γ 0)), (1, .int p0), (2, .int p1)] [] := by
  unfold f_X11_price at h
  refine w_aload_n 0 dX11_price_0 rfl rfl rfl ?_
  refine gf_RX11_10 dX11_price_1 rfl ?_
  refine w_iload_n 2 dX11_price_4 rfl rfl rfl ?_
  obtain ⟨r1, s2, h3, h⟩ := h.bd
  refine k_X10_hasSet ml_RX11_155 (Nat.le_of_ble_eq_true rfl) ⟨Nat.le_of_ble_eq_true rfl, Nat.le_of_ble_eq_true rfl⟩ dX11_price_5 rfl h3 ?_
  refine w_if_eq (tgt := 27) dX11_price_8 (by decide) rfl (fun q => ?_) (fun q => ?_)
  · have h := h.tt q
    exact w_sub [] rfl (b_X11_price_27 s2 h)
  · have h := h.ff q
    refine w_iload_n 1 dX11_price_11 rfl rfl rfl ?_
    refine w_iconst (1 : Int32) dX11_price_12 ic_iconst_1 rfl ?_
    refine w_icmp_lt (tgt := 27) dX11_price_13 (by decide) rfl (fun q => ?_) (fun q => ?_)
    · have h := h.tt q
      exact w_sub [] rfl (b_X11_price_27 s2 h)
    · have h := h.ff q
      refine w_iload_n 1 dX11_price_16 rfl rfl rfl ?_
      refine w_aload_n 0 dX11_price_17 rfl rfl rfl ?_
      refine gf_RX11_10 dX11_price_18 rfl ?_
      refine gf_RX11_137 (i := 1) (isW_lit (by decide)) dX11_price_21 rfl ?_
      refine w_icmp_le (tgt := 30) dX11_price_24 (by decide) rfl (fun q => ?_) (fun q => ?_)
      · have h := h.tt q
        refine w_aload_n 0 dX11_price_30 rfl rfl rfl ?_
        refine gf_RX11_31 dX11_price_31 rfl ?_
        refine w_iload_n 2 dX11_price_34 rfl rfl rfl ?_
        obtain ⟨r4, s5, h6, h⟩ := h.bd
        refine k_X2_follow ml_RX11_162 (Nat.le_of_ble_eq_true rfl) ⟨Nat.le_of_ble_eq_true rfl, Nat.le_of_ble_eq_true rfl⟩ dX11_price_35 rfl h6 ?_
        refine w_aload_n 0 dX11_price_38 rfl rfl rfl ?_
        refine gf_RX11_31 dX11_price_39 rfl ?_
        refine w_iload_n 1 dX11_price_42 rfl rfl rfl ?_
        obtain ⟨r7, s8, h9, h⟩ := h.bd
        refine k_X2_farthestFrom ml_RX11_304 (Nat.le_of_ble_eq_true rfl) ⟨Nat.le_of_ble_eq_true rfl, Nat.le_of_ble_eq_true rfl⟩ dX11_price_43 rfl h9 ?_
        refine w_istore_n [(3, .int r7), (0, .ref (xd Γ 0)), (1, .int p0), (2, .int p1)] dX11_price_46 rfl (by decide) rfl rfl ?_
        refine w_iload_n 0 dX11_price_47 rfl rfl rfl ?_
        refine w_bipush (60 : Int32) dX11_price_48 ic_bipush_60 rfl ?_
        refine w_icmp_gt (tgt := 57) dX11_price_50 (by decide) rfl (fun q => ?_) (fun q => ?_)
        · have h := h.tt q
          refine w_iconst (-1 : Int32) dX11_price_57 ic_iconst_m1 rfl ?_
          exact w_sub [] rfl (b_X11_price_58 (-1 : Int32) s8 h)
        · have h := h.ff q
          refine w_iload_n 0 dX11_price_53 rfl rfl rfl ?_
          refine w_goto (tgt := 58) dX11_price_54 (by decide) ?_
          exact w_sub [] rfl (b_X11_price_58 r7 s8 h)
      · have h := h.ff q
        exact w_sub [] rfl (b_X11_price_27 s2 h)
theorem c_X11_price {l : Launch} {D : va_G} {cy : Nat → ClassId} {ad : Nat → Nat} {p0 : Int32} {p1 : Int32} {σ σ' : St} {r : Int32} (hf : f_X11_price p0 p1 σ = some (r, σ')) : CT l D cy ad yX11_price cX11_price 4 (some .int) rX11_price [.ref (ad 0), .int p0, .int p1] σ (some (.int r)) σ' :=
  ct_of (by decide) (Nat.le_of_ble_eq_true rfl) (fun p e s m args below meth c A => e_X11_price (Γ := (p, l, e, rX11_price, s, m, args, below, meth, c, D, cy, ad, A, 0, 0, ((some (.int r)), σ'))) p0 p1 σ ⟨_, hf, rfl⟩)
theorem k_X11_price {Γ : CX} {cc : ByteArray} {nL : Nat} {own : String} {ret : Option FieldType} {rm : Room} {σ σ' : St} {pc pc' idx : Nat} {lv : List (Nat × Value)} {rest : List Value} {p0 : Int32} {p1 : Int32} {r : Int32} (hl : Cond.methodLink own idx yX11_price ∈ TB) (hw : (rest.map fun v => v.category).sum ≤ 8) (hR : rX11_price.frames + 1 ≤ rm.frames ∧ 8 + (4 + 11) + rX11_price.locals ≤ rm.locals) (hd : decode cc pc = .ok (.invokevirtual idx, 3)) (hp : pc + 3 = pc') (hf : f_X11_price p0 p1 σ = some (r, σ')) (h : WW Γ cc nL own ret rm σ' pc' lv (.int r :: rest)) : WW Γ cc nL own ret rm σ pc lv (.int p1 :: .int p0 :: .ref (xd Γ 0) :: rest) :=
  w_callV (nn := 2) (i := 0) (As := [.int p0, .int p1]) (v := (some (.int r))) (T := TX11) (N := 11) (c_X11_price hf) hl mw_X11_price (by decide +kernel) ⟨rfl, rfl⟩ hR (lt_lit (by decide)) cel_0 rfl rfl hw hd rfl hp h
/-! WarByHours.dry (III)J -/
def rX11_dry : Room := { frames := 2, cells := 0, slots := 0, locals := 52 }
def f_X11_dry_37 (σ : St) : Option (Int64 × St) :=
  some ((-2 : Int64), σ)
theorem b_X11_dry_37 {Γ : CX} (σ : St) (h : RR vL Γ (f_X11_dry_37 σ)) : WW Γ cX11_dry 4 RX11 (some .long) rX11_dry σ 37 [] [] := by
  unfold f_X11_dry_37 at h
  refine w_ldc2_w (-2 : Int64) dX11_dry_37 cl_RX11_196 rfl ?_
  exact w_lreturn dX11_dry_40 h
def f_X11_dry (p0 : Int32) (p1 : Int32) (p2 : Int32) (σ : St) : Option (Int64 × St) :=
  bd (f_X10_isTold 1 σ) fun r1 s2 =>
  if r1 = 0 then
    f_X11_dry_37 s2
  else
    if p0 < (1 : Int32) then
      f_X11_dry_37 s2
    else
      if (9 : Int32) < p0 then
        f_X11_dry_37 s2
      else
        if p1 < 0 then
          f_X11_dry_37 s2
        else
          if p0 < p1 then
            f_X11_dry_37 s2
          else
            bd (f_X11_isPart p2 s2) fun r4 s5 =>
            if r4 = 0 then
              f_X11_dry_37 s5
            else
              bd (f_X1_dryParts (gf s5 1 4) p0 p1 s5) fun r7 s8 =>
              bd (f_X1_hundreds p0 s8) fun r10 s11 =>
              bd (f_X1_lowest r7 r10 p2 s11) fun r13 s14 =>
              some (r13, s14)
theorem e_X11_dry {Γ : CX} (p0 : Int32) (p1 : Int32) (p2 : Int32) (σ : St) (h : RR vL Γ (f_X11_dry p0 p1 p2 σ)) : WW Γ cX11_dry 4 RX11 (some .long) rX11_dry σ 0 [(0, .ref (xd Γ 0)), (1, .int p0), (2, .int p1), (3, .int p2)] [] := by
  unfold f_X11_dry at h
  refine w_aload_n 0 dX11_dry_0 rfl rfl rfl ?_
  refine gf_RX11_10 dX11_dry_1 rfl ?_
  obtain ⟨r1, s2, h3, h⟩ := h.bd
  refine k_X10_isTold ml_RX11_133 (Nat.le_of_ble_eq_true rfl) ⟨Nat.le_of_ble_eq_true rfl, Nat.le_of_ble_eq_true rfl⟩ dX11_dry_4 rfl h3 ?_
  refine w_if_eq (tgt := 37) dX11_dry_7 (by decide) rfl (fun q => ?_) (fun q => ?_)
  · have h := h.tt q
    exact w_sub [] rfl (b_X11_dry_37 s2 h)
  · have h := h.ff q
    refine w_iload_n 1 dX11_dry_10 rfl rfl rfl ?_
    refine w_iconst (1 : Int32) dX11_dry_11 ic_iconst_1 rfl ?_
    refine w_icmp_lt (tgt := 37) dX11_dry_12 (by decide) rfl (fun q => ?_) (fun q => ?_)
    · have h := h.tt q
      exact w_sub [] rfl (b_X11_dry_37 s2 h)
    · have h := h.ff q
      refine w_iload_n 1 dX11_dry_15 rfl rfl rfl ?_
      refine w_bipush (9 : Int32) dX11_dry_16 ic_bipush_9 rfl ?_
      refine w_icmp_gt (tgt := 37) dX11_dry_18 (by decide) rfl (fun q => ?_) (fun q => ?_)
      · have h := h.tt q
        exact w_sub [] rfl (b_X11_dry_37 s2 h)
      · have h := h.ff q
        refine w_iload_n 2 dX11_dry_21 rfl rfl rfl ?_
        refine w_if_lt (tgt := 37) dX11_dry_22 (by decide) rfl (fun q => ?_) (fun q => ?_)
        · have h := h.tt q
          exact w_sub [] rfl (b_X11_dry_37 s2 h)
        · have h := h.ff q
          refine w_iload_n 2 dX11_dry_25 rfl rfl rfl ?_
          refine w_iload_n 1 dX11_dry_26 rfl rfl rfl ?_
          refine w_icmp_gt (tgt := 37) dX11_dry_27 (by decide) rfl (fun q => ?_) (fun q => ?_)
          · have h := h.tt q
            exact w_sub [] rfl (b_X11_dry_37 s2 h)
          · have h := h.ff q
            refine w_iload_n 3 dX11_dry_30 rfl rfl rfl ?_
            obtain ⟨r4, s5, h6, h⟩ := h.bd
            refine k_X11_isPart ml_RX11_193 (Nat.le_of_ble_eq_true rfl) ⟨Nat.le_of_ble_eq_true rfl, Nat.le_of_ble_eq_true rfl⟩ dX11_dry_31 rfl h6 ?_
            refine w_if_ne (tgt := 41) dX11_dry_34 (by decide) rfl (fun q => ?_) (fun q => ?_)
            · have h := h.ff q
              refine w_aload_n 0 dX11_dry_41 rfl rfl rfl ?_
              refine gf_RX11_10 dX11_dry_42 rfl ?_
              refine gf_RX11_329 (i := 1) (isW_lit (by decide)) dX11_dry_45 rfl ?_
              refine w_iload_n 1 dX11_dry_48 rfl rfl rfl ?_
              refine w_iload_n 2 dX11_dry_49 rfl rfl rfl ?_
              obtain ⟨r7, s8, h9, h⟩ := h.bd
              refine k_X1_dryParts ml_RX11_332 (Nat.le_of_ble_eq_true rfl) ⟨Nat.le_of_ble_eq_true rfl, Nat.le_of_ble_eq_true rfl⟩ dX11_dry_50 rfl h9 ?_
              refine w_iload_n 1 dX11_dry_53 rfl rfl rfl ?_
              obtain ⟨r10, s11, h12, h⟩ := h.bd
              refine k_X1_hundreds ml_RX11_210 (Nat.le_of_ble_eq_true rfl) ⟨Nat.le_of_ble_eq_true rfl, Nat.le_of_ble_eq_true rfl⟩ dX11_dry_54 rfl h12 ?_
              refine w_iload_n 3 dX11_dry_57 rfl rfl rfl ?_
              obtain ⟨r13, s14, h15, h⟩ := h.bd
              refine k_X1_lowest ml_RX11_215 (Nat.le_of_ble_eq_true rfl) ⟨Nat.le_of_ble_eq_true rfl, Nat.le_of_ble_eq_true rfl⟩ dX11_dry_58 rfl h15 ?_
              exact w_lreturn dX11_dry_61 h
            · have h := h.tt q
              exact w_sub [] rfl (b_X11_dry_37 s5 h)
theorem c_X11_dry {l : Launch} {D : va_G} {cy : Nat → ClassId} {ad : Nat → Nat} {p0 : Int32} {p1 : Int32} {p2 : Int32} {σ σ' : St} {r : Int64} (hf : f_X11_dry p0 p1 p2 σ = some (r, σ')) : CT l D cy ad yX11_dry cX11_dry 4 (some .long) rX11_dry [.ref (ad 0), .int p0, .int p1, .int p2] σ (some (.long r)) σ' :=
  ct_of (by decide) (Nat.le_of_ble_eq_true rfl) (fun p e s m args below meth c A => e_X11_dry (Γ := (p, l, e, rX11_dry, s, m, args, below, meth, c, D, cy, ad, A, 0, 0, ((some (.long r)), σ'))) p0 p1 p2 σ ⟨_, hf, rfl⟩)
theorem k_X11_dry {Γ : CX} {cc : ByteArray} {nL : Nat} {own : String} {ret : Option FieldType} {rm : Room} {σ σ' : St} {pc pc' idx : Nat} {lv : List (Nat × Value)} {rest : List Value} {p0 : Int32} {p1 : Int32} {p2 : Int32} {r : Int64} (hl : Cond.methodLink own idx yX11_dry ∈ TB) (hw : (rest.map fun v => v.category).sum ≤ 8) (hR : rX11_dry.frames + 1 ≤ rm.frames ∧ 8 + (4 + 11) + rX11_dry.locals ≤ rm.locals) (hd : decode cc pc = .ok (.invokevirtual idx, 3)) (hp : pc + 3 = pc') (hf : f_X11_dry p0 p1 p2 σ = some (r, σ')) (h : WW Γ cc nL own ret rm σ' pc' lv (.long r :: rest)) : WW Γ cc nL own ret rm σ pc lv (.int p2 :: .int p1 :: .int p0 :: .ref (xd Γ 0) :: rest) :=
  w_callV (nn := 3) (i := 0) (As := [.int p0, .int p1, .int p2]) (v := (some (.long r))) (T := TX11) (N := 11) (c_X11_dry hf) hl mw_X11_dry (by decide +kernel) ⟨rfl, rfl⟩ hR (lt_lit (by decide)) cel_0 rfl rfl hw hd rfl hp h
/-! WarByHours.insist (I)I -/
def rX11_insist : Room := { frames := 1, cells := 0, slots := 0, locals := 23 }
def f_X11_insist_33 (k0 : Int32) (σ : St) : Option (Int32 × St) :=
  some (k0, σ)
theorem b_X11_insist_33 {Γ : CX} (k0 : Int32) (σ : St) (h : RR vI Γ (f_X11_insist_33 k0 σ)) : WW Γ cX11_insist 2 RX11 (some .int) rX11_insist σ 33 [] [.int k0] := by
  unfold f_X11_insist_33 at h
  exact w_ireturn dX11_insist_33 h
def f_X11_insist_31 (σ : St) : Option (Int32 × St) :=
  f_X11_insist_33 (-2 : Int32) σ
theorem b_X11_insist_31 {Γ : CX} (σ : St) (h : RR vI Γ (f_X11_insist_31 σ)) : WW Γ cX11_insist 2 RX11 (some .int) rX11_insist σ 31 [] [] := by
  unfold f_X11_insist_31 at h
  refine w_bipush (-2 : Int32) dX11_insist_31 ic_bipush_m2 rfl ?_
  exact w_sub [] rfl (b_X11_insist_33 (-2 : Int32) σ h)
def f_X11_insist (p0 : Int32) (σ : St) : Option (Int32 × St) :=
  bd (f_X10_isTold 1 σ) fun r1 s2 =>
  if r1 = 0 then
    f_X11_insist_31 s2
  else
    bd (f_X11_isPercent p0 s2) fun r4 s5 =>
    if r4 = 0 then
      f_X11_insist_31 s5
    else
      bd (f_X1_wednesdaysToInsist (gf s5 1 4) p0 s5) fun r7 s8 =>
      f_X11_insist_33 r7 s8
theorem e_X11_insist {Γ : CX} (p0 : Int32) (σ : St) (h : RR vI Γ (f_X11_insist p0 σ)) : WW Γ cX11_insist 2 RX11 (some .int) rX11_insist σ 0 [(0, .ref (xd Γ 0)), (1, .int p0)] [] := by
  unfold f_X11_insist at h
  refine w_aload_n 0 dX11_insist_0 rfl rfl rfl ?_
  refine gf_RX11_10 dX11_insist_1 rfl ?_
  obtain ⟨r1, s2, h3, h⟩ := h.bd
  refine k_X10_isTold ml_RX11_133 (Nat.le_of_ble_eq_true rfl) ⟨Nat.le_of_ble_eq_true rfl, Nat.le_of_ble_eq_true rfl⟩ dX11_insist_4 rfl h3 ?_
  refine w_if_eq (tgt := 31) dX11_insist_7 (by decide) rfl (fun q => ?_) (fun q => ?_)
  · have h := h.tt q
    exact w_sub [] rfl (b_X11_insist_31 s2 h)
  · have h := h.ff q
    refine w_iload_n 1 dX11_insist_10 rfl rfl rfl ?_
    obtain ⟨r4, s5, h6, h⟩ := h.bd
    refine k_X11_isPercent ml_RX11_336 (Nat.le_of_ble_eq_true rfl) ⟨Nat.le_of_ble_eq_true rfl, Nat.le_of_ble_eq_true rfl⟩ dX11_insist_11 rfl h6 ?_
    refine w_if_eq (tgt := 31) dX11_insist_14 (by decide) rfl (fun q => ?_) (fun q => ?_)
    · have h := h.tt q
      exact w_sub [] rfl (b_X11_insist_31 s5 h)
    · have h := h.ff q
      refine w_aload_n 0 dX11_insist_17 rfl rfl rfl ?_
      refine gf_RX11_10 dX11_insist_18 rfl ?_
      refine gf_RX11_329 (i := 1) (isW_lit (by decide)) dX11_insist_21 rfl ?_
      refine w_iload_n 1 dX11_insist_24 rfl rfl rfl ?_
      obtain ⟨r7, s8, h9, h⟩ := h.bd
      refine k_X1_wednesdaysToInsist ml_RX11_339 (Nat.le_of_ble_eq_true rfl) ⟨Nat.le_of_ble_eq_true rfl, Nat.le_of_ble_eq_true rfl⟩ dX11_insist_25 rfl h9 ?_
      refine w_goto (tgt := 33) dX11_insist_28 (by decide) ?_
      exact w_sub [] rfl (b_X11_insist_33 r7 s8 h)
theorem c_X11_insist {l : Launch} {D : va_G} {cy : Nat → ClassId} {ad : Nat → Nat} {p0 : Int32} {σ σ' : St} {r : Int32} (hf : f_X11_insist p0 σ = some (r, σ')) : CT l D cy ad yX11_insist cX11_insist 2 (some .int) rX11_insist [.ref (ad 0), .int p0] σ (some (.int r)) σ' :=
  ct_of (by decide) (Nat.le_of_ble_eq_true rfl) (fun p e s m args below meth c A => e_X11_insist (Γ := (p, l, e, rX11_insist, s, m, args, below, meth, c, D, cy, ad, A, 0, 0, ((some (.int r)), σ'))) p0 σ ⟨_, hf, rfl⟩)
theorem k_X11_insist {Γ : CX} {cc : ByteArray} {nL : Nat} {own : String} {ret : Option FieldType} {rm : Room} {σ σ' : St} {pc pc' idx : Nat} {lv : List (Nat × Value)} {rest : List Value} {p0 : Int32} {r : Int32} (hl : Cond.methodLink own idx yX11_insist ∈ TB) (hw : (rest.map fun v => v.category).sum ≤ 8) (hR : rX11_insist.frames + 1 ≤ rm.frames ∧ 8 + (2 + 11) + rX11_insist.locals ≤ rm.locals) (hd : decode cc pc = .ok (.invokevirtual idx, 3)) (hp : pc + 3 = pc') (hf : f_X11_insist p0 σ = some (r, σ')) (h : WW Γ cc nL own ret rm σ' pc' lv (.int r :: rest)) : WW Γ cc nL own ret rm σ pc lv (.int p0 :: .ref (xd Γ 0) :: rest) :=
  w_callV (nn := 1) (i := 0) (As := [.int p0]) (v := (some (.int r))) (T := TX11) (N := 11) (c_X11_insist hf) hl mw_X11_insist (by decide +kernel) ⟨rfl, rfl⟩ hR (lt_lit (by decide)) cel_0 rfl rfl hw hd rfl hp h
/-! WarByHours.drawn (II)I -/
def rX11_drawn : Room := { frames := 6, cells := 0, slots := 0, locals := 135 }
def f_X11_drawn_17 (σ : St) : Option (Int32 × St) :=
  some ((-2 : Int32), σ)
theorem b_X11_drawn_17 {Γ : CX} (σ : St) (h : RR vI Γ (f_X11_drawn_17 σ)) : WW Γ cX11_drawn 4 RX11 (some .int) rX11_drawn σ 17 [] [] := by
  unfold f_X11_drawn_17 at h
  refine w_bipush (-2 : Int32) dX11_drawn_17 ic_bipush_m2 rfl ?_
  exact w_ireturn dX11_drawn_19 h
def f_X11_drawn_57 (k0 : Int32) (σ : St) : Option (Int32 × St) :=
  some (k0, σ)
theorem b_X11_drawn_57 {Γ : CX} (k0 : Int32) (σ : St) (h : RR vI Γ (f_X11_drawn_57 k0 σ)) : WW Γ cX11_drawn 4 RX11 (some .int) rX11_drawn σ 57 [] [.int k0] := by
  unfold f_X11_drawn_57 at h
  exact w_ireturn dX11_drawn_57 h
def f_X11_drawn (p0 : Int32) (p1 : Int32) (σ : St) : Option (Int32 × St) :=
  bd (f_X11_isSeed p0 σ) fun r1 s2 =>
  if r1 = 0 then
    f_X11_drawn_17 s2
  else
    if p1 < 0 then
      f_X11_drawn_17 s2
    else
      if p1 ≤ (2 : Int32) then
        bd (f_X1_drawnDelays 1 p0 s2) fun r4 s5 =>
        if p1 = 0 then
          some (r4, s5)
        else
          if p1 = (1 : Int32) then
            if r4 = (-1 : Int32) then
              f_X11_drawn_57 (-1 : Int32) s5
            else
              bd (f_X2_winnerBy r4 s5) fun r13 s14 =>
              f_X11_drawn_57 r13 s14
          else
            if r4 = (-1 : Int32) then
              some ((0 : Int32), s5)
            else
              bd (f_X2_follow r4 s5) fun _ s8 =>
              bd (f_X2_frontBehind (gf s8 1 1) s8) fun r10 s11 =>
              some (r10, s11)
      else
        f_X11_drawn_17 s2
theorem e_X11_drawn {Γ : CX} (p0 : Int32) (p1 : Int32) (σ : St) (h : RR vI Γ (f_X11_drawn p0 p1 σ)) : WW Γ cX11_drawn 4 RX11 (some .int) rX11_drawn σ 0 [(0, .ref (xd Γ 0)), (1, .int p0), (2, .int p1)] [] := by
  unfold f_X11_drawn at h
  refine w_aload_n 0 dX11_drawn_0 rfl rfl rfl ?_
  refine w_iload_n 1 dX11_drawn_1 rfl rfl rfl ?_
  obtain ⟨r1, s2, h3, h⟩ := h.bd
  refine k_X11_isSeed ml_RX11_354 (Nat.le_of_ble_eq_true rfl) ⟨Nat.le_of_ble_eq_true rfl, Nat.le_of_ble_eq_true rfl⟩ dX11_drawn_2 rfl h3 ?_
  refine w_if_eq (tgt := 17) dX11_drawn_5 (by decide) rfl (fun q => ?_) (fun q => ?_)
  · have h := h.tt q
    exact w_sub [] rfl (b_X11_drawn_17 s2 h)
  · have h := h.ff q
    refine w_iload_n 2 dX11_drawn_8 rfl rfl rfl ?_
    refine w_if_lt (tgt := 17) dX11_drawn_9 (by decide) rfl (fun q => ?_) (fun q => ?_)
    · have h := h.tt q
      exact w_sub [] rfl (b_X11_drawn_17 s2 h)
    · have h := h.ff q
      refine w_iload_n 2 dX11_drawn_12 rfl rfl rfl ?_
      refine w_iconst (2 : Int32) dX11_drawn_13 ic_iconst_2 rfl ?_
      refine w_icmp_le (tgt := 20) dX11_drawn_14 (by decide) rfl (fun q => ?_) (fun q => ?_)
      · have h := h.tt q
        refine w_aload_n 0 dX11_drawn_20 rfl rfl rfl ?_
        refine gf_RX11_10 dX11_drawn_21 rfl ?_
        refine w_iload_n 1 dX11_drawn_24 rfl rfl rfl ?_
        obtain ⟨r4, s5, h6, h⟩ := h.bd
        refine k_X1_drawnDelays ml_RX11_357 (Nat.le_of_ble_eq_true rfl) ⟨Nat.le_of_ble_eq_true rfl, Nat.le_of_ble_eq_true rfl⟩ dX11_drawn_25 rfl h6 ?_
        refine w_istore_n [(3, .int r4), (0, .ref (xd Γ 0)), (1, .int p0), (2, .int p1)] dX11_drawn_28 rfl (by decide) rfl rfl ?_
        refine w_iload_n 3 dX11_drawn_29 rfl rfl rfl ?_
        refine w_if_ne (tgt := 35) dX11_drawn_30 (by decide) rfl (fun q => ?_) (fun q => ?_)
        · have h := h.ff q
          refine w_iload_n 3 dX11_drawn_35 rfl rfl rfl ?_
          refine w_iconst (1 : Int32) dX11_drawn_36 ic_iconst_1 rfl ?_
          refine w_icmp_ne (tgt := 58) dX11_drawn_37 (by decide) rfl (fun q => ?_) (fun q => ?_)
          · have h := h.ff q
            refine w_iload_n 0 dX11_drawn_58 rfl rfl rfl ?_
            refine w_iconst (-1 : Int32) dX11_drawn_59 ic_iconst_m1 rfl ?_
            refine w_icmp_ne (tgt := 65) dX11_drawn_60 (by decide) rfl (fun q => ?_) (fun q => ?_)
            · have h := h.ff q
              refine w_aload_n 1 dX11_drawn_65 rfl rfl rfl ?_
              refine gf_RX11_31 dX11_drawn_66 rfl ?_
              refine w_iload_n 0 dX11_drawn_69 rfl rfl rfl ?_
              obtain ⟨r7, s8, h9, h⟩ := h.bd
              refine k_X2_follow ml_RX11_162 (Nat.le_of_ble_eq_true rfl) ⟨Nat.le_of_ble_eq_true rfl, Nat.le_of_ble_eq_true rfl⟩ dX11_drawn_70 rfl h9 ?_
              refine w_aload_n 1 dX11_drawn_73 rfl rfl rfl ?_
              refine gf_RX11_31 dX11_drawn_74 rfl ?_
              refine w_aload_n 1 dX11_drawn_77 rfl rfl rfl ?_
              refine gf_RX11_10 dX11_drawn_78 rfl ?_
              refine gf_RX11_137 (i := 1) (isW_lit (by decide)) dX11_drawn_81 rfl ?_
              obtain ⟨r10, s11, h12, h⟩ := h.bd
              refine k_X2_frontBehind ml_RX11_165 (Nat.le_of_ble_eq_true rfl) ⟨Nat.le_of_ble_eq_true rfl, Nat.le_of_ble_eq_true rfl⟩ dX11_drawn_84 rfl h12 ?_
              exact w_ireturn dX11_drawn_87 h
            · have h := h.tt q
              refine w_iconst (0 : Int32) dX11_drawn_63 ic_iconst_0 rfl ?_
              exact w_ireturn dX11_drawn_64 h
          · have h := h.tt q
            refine w_iload_n 0 dX11_drawn_40 rfl rfl rfl ?_
            refine w_iconst (-1 : Int32) dX11_drawn_41 ic_iconst_m1 rfl ?_
            refine w_icmp_ne (tgt := 49) dX11_drawn_42 (by decide) rfl (fun q => ?_) (fun q => ?_)
            · have h := h.ff q
              refine w_aload_n 1 dX11_drawn_49 rfl rfl rfl ?_
              refine gf_RX11_31 dX11_drawn_50 rfl ?_
              refine w_iload_n 0 dX11_drawn_53 rfl rfl rfl ?_
              obtain ⟨r13, s14, h15, h⟩ := h.bd
              refine k_X2_winnerBy ml_RX11_171 (Nat.le_of_ble_eq_true rfl) ⟨Nat.le_of_ble_eq_true rfl, Nat.le_of_ble_eq_true rfl⟩ dX11_drawn_54 rfl h15 ?_
              exact w_sub [] rfl (b_X11_drawn_57 r13 s14 h)
            · have h := h.tt q
              refine w_iconst (-1 : Int32) dX11_drawn_45 ic_iconst_m1 rfl ?_
              refine w_goto (tgt := 57) dX11_drawn_46 (by decide) ?_
              exact w_sub [] rfl (b_X11_drawn_57 (-1 : Int32) s5 h)
        · have h := h.tt q
          refine w_iload_n 0 dX11_drawn_33 rfl rfl rfl ?_
          exact w_ireturn dX11_drawn_34 h
      · have h := h.ff q
        exact w_sub [] rfl (b_X11_drawn_17 s2 h)
theorem c_X11_drawn {l : Launch} {D : va_G} {cy : Nat → ClassId} {ad : Nat → Nat} {p0 : Int32} {p1 : Int32} {σ σ' : St} {r : Int32} (hf : f_X11_drawn p0 p1 σ = some (r, σ')) : CT l D cy ad yX11_drawn cX11_drawn 4 (some .int) rX11_drawn [.ref (ad 0), .int p0, .int p1] σ (some (.int r)) σ' :=
  ct_of (by decide) (Nat.le_of_ble_eq_true rfl) (fun p e s m args below meth c A => e_X11_drawn (Γ := (p, l, e, rX11_drawn, s, m, args, below, meth, c, D, cy, ad, A, 0, 0, ((some (.int r)), σ'))) p0 p1 σ ⟨_, hf, rfl⟩)
theorem k_X11_drawn {Γ : CX} {cc : ByteArray} {nL : Nat} {own : String} {ret : Option FieldType} {rm : Room} {σ σ' : St} {pc pc' idx : Nat} {lv : List (Nat × Value)} {rest : List Value} {p0 : Int32} {p1 : Int32} {r : Int32} (hl : Cond.methodLink own idx yX11_drawn ∈ TB) (hw : (rest.map fun v => v.category).sum ≤ 8) (hR : rX11_drawn.frames + 1 ≤ rm.frames ∧ 8 + (4 + 11) + rX11_drawn.locals ≤ rm.locals) (hd : decode cc pc = .ok (.invokevirtual idx, 3)) (hp : pc + 3 = pc') (hf : f_X11_drawn p0 p1 σ = some (r, σ')) (h : WW Γ cc nL own ret rm σ' pc' lv (.int r :: rest)) : WW Γ cc nL own ret rm σ pc lv (.int p1 :: .int p0 :: .ref (xd Γ 0) :: rest) :=
  w_callV (nn := 2) (i := 0) (As := [.int p0, .int p1]) (v := (some (.int r))) (T := TX11) (N := 11) (c_X11_drawn hf) hl mw_X11_drawn (by decide +kernel) ⟨rfl, rfl⟩ hR (lt_lit (by decide)) cel_0 rfl rfl hw hd rfl hp h
/-! WarByHours.luck (III)I -/
def rX11_luck : Room := { frames := 6, cells := 0, slots := 0, locals := 135 }
def f_X11_luck_30 (σ : St) : Option (Int32 × St) :=
  some ((-2 : Int32), σ)
theorem b_X11_luck_30 {Γ : CX} (σ : St) (h : RR vI Γ (f_X11_luck_30 σ)) : WW Γ cX11_luck 7 RX11 (some .int) rX11_luck σ 30 [] [] := by
  unfold f_X11_luck_30 at h
  refine w_bipush (-2 : Int32) dX11_luck_30 ic_bipush_m2 rfl ?_
  exact w_ireturn dX11_luck_32 h
def f_X11_luck_80 (K39 : Int32 × Int32 × Int32 × Int32 × Int32 × St → Option (Int32 × St)) (v1 : Int32) (v2 : Int32) (v3 : Int32) (v4 : Int32) (v5 : Int32) (σ : St) : Option (Int32 × St) :=
  bnd (v5 + (1 : Int32)) fun x1 =>
  K39 (v1, v2, v3, v4, x1, σ)
theorem b_X11_luck_80 {Γ : CX} (K39 : Int32 × Int32 × Int32 × Int32 × Int32 × St → Option (Int32 × St)) (hK39 : ∀ (v1 : Int32) (v2 : Int32) (v3 : Int32) (v4 : Int32) (v5 : Int32) (σ : St), RR vI Γ (K39 (v1, v2, v3, v4, v5, σ)) → WW Γ cX11_luck 7 RX11 (some .int) rX11_luck σ 39 [(0, .ref (xd Γ 0)), (1, .int v1), (2, .int v2), (3, .int v3), (4, .int v4), (5, .int v5)] []) (v1 : Int32) (v2 : Int32) (v3 : Int32) (v4 : Int32) (v5 : Int32) (σ : St) (h : RR vI Γ (f_X11_luck_80 K39 v1 v2 v3 v4 v5 σ)) : WW Γ cX11_luck 7 RX11 (some .int) rX11_luck σ 80 [(0, .ref (xd Γ 0)), (1, .int v1), (2, .int v2), (3, .int v3), (4, .int v4), (5, .int v5)] [] := by
  unfold f_X11_luck_80 at h
  obtain ⟨x1, ex1⟩ : ∃ y : Int32, y = (v5 + (1 : Int32)) := ⟨_, rfl⟩
  replace h := h.bnd ex1
  refine w_iinc 5 x1 [(5, .int x1), (0, .ref (xd Γ 0)), (1, .int v1), (2, .int v2), (3, .int v3), (4, .int v4)] dX11_luck_80 rfl (by rw [ex1, ic_iconst_1]) (by decide) rfl rfl ?_
  clear ex1
  refine w_goto (tgt := 39) dX11_luck_83 (by decide) ?_
  exact w_sub [1, 2, 3, 4, 5, 0] rfl (hK39 v1 v2 v3 v4 x1 σ h)
def g_X11_luck_39 (K39 : Int32 × Int32 × Int32 × Int32 × Int32 × St → Option (Int32 × St)) (x : Int32 × Int32 × Int32 × Int32 × Int32 × St) : Option (Int32 × St) := match x with
  | (v1, v2, v3, v4, v5, σ) =>
  if v2 ≤ v5 then
    some (v4, σ)
  else
    bd (f_X1_drawnDelays 1 (v1 + v5) σ) fun r1 s2 =>
    if r1 = (-1 : Int32) then
      f_X11_luck_80 K39 v1 v2 v3 v4 v5 s2
    else
      bd (f_X2_winnerBy r1 s2) fun r4 s5 =>
      if r4 = v3 then
        bnd (v4 + (1 : Int32)) fun x7 =>
        f_X11_luck_80 K39 v1 v2 v3 x7 v5 s5
      else
        f_X11_luck_80 K39 v1 v2 v3 v4 v5 s5
theorem l_X11_luck_39 {Γ : CX} : ∀ (n : Nat) (v1 : Int32) (v2 : Int32) (v3 : Int32) (v4 : Int32) (v5 : Int32) (σ : St), RR vI Γ (itr (g_X11_luck_39) n (v1, v2, v3, v4, v5, σ)) → WW Γ cX11_luck 7 RX11 (some .int) rX11_luck σ 39 [(0, .ref (xd Γ 0)), (1, .int v1), (2, .int v2), (3, .int v3), (4, .int v4), (5, .int v5)] [] := by
  intro n
  induction n with
  | zero => intro v1 v2 v3 v4 v5 σ h; exact RR.no h
  | succ n hK39 =>
  intro v1 v2 v3 v4 v5 σ h
  have h : RR vI Γ (g_X11_luck_39 (itr (g_X11_luck_39) n) (v1, v2, v3, v4, v5, σ)) := h
  generalize itr (g_X11_luck_39) n = K39 at h hK39
  unfold g_X11_luck_39 at h
  dsimp only at h
  refine w_iload 5 dX11_luck_39 rfl rfl ?_
  refine w_iload_n 2 dX11_luck_41 rfl rfl rfl ?_
  refine w_icmp_ge (tgt := 86) dX11_luck_42 (by decide) rfl (fun q => ?_) (fun q => ?_)
  · have h := h.tt q
    refine w_iload 4 dX11_luck_86 rfl rfl ?_
    exact w_ireturn dX11_luck_88 h
  · have h := h.ff q
    refine w_aload_n 0 dX11_luck_45 rfl rfl rfl ?_
    refine gf_RX11_10 dX11_luck_46 rfl ?_
    refine w_iload_n 1 dX11_luck_49 rfl rfl rfl ?_
    refine w_iload 5 dX11_luck_50 rfl rfl ?_
    refine w_iadd dX11_luck_52 rfl ?_
    obtain ⟨r1, s2, h3, h⟩ := h.bd
    refine k_X1_drawnDelays ml_RX11_357 (Nat.le_of_ble_eq_true rfl) ⟨Nat.le_of_ble_eq_true rfl, Nat.le_of_ble_eq_true rfl⟩ dX11_luck_53 rfl h3 ?_
    refine w_istore [(6, .int r1), (0, .ref (xd Γ 0)), (1, .int v1), (2, .int v2), (3, .int v3), (4, .int v4), (5, .int v5)] dX11_luck_56 (by decide) rfl rfl ?_
    refine w_iload 0 dX11_luck_58 rfl rfl ?_
    refine w_iconst (-1 : Int32) dX11_luck_60 ic_iconst_m1 rfl ?_
    refine w_icmp_eq (tgt := 80) dX11_luck_61 (by decide) rfl (fun q => ?_) (fun q => ?_)
    · have h := h.tt q
      exact w_sub [1, 2, 3, 4, 5, 6] rfl (b_X11_luck_80 K39 hK39 v1 v2 v3 v4 v5 s2 h)
    · have h := h.ff q
      refine w_aload_n 1 dX11_luck_64 rfl rfl rfl ?_
      refine gf_RX11_31 dX11_luck_65 rfl ?_
      refine w_iload 0 dX11_luck_68 rfl rfl ?_
      obtain ⟨r4, s5, h6, h⟩ := h.bd
      refine k_X2_winnerBy ml_RX11_171 (Nat.le_of_ble_eq_true rfl) ⟨Nat.le_of_ble_eq_true rfl, Nat.le_of_ble_eq_true rfl⟩ dX11_luck_70 rfl h6 ?_
      refine w_iload_n 4 dX11_luck_73 rfl rfl rfl ?_
      refine w_icmp_ne (tgt := 80) dX11_luck_74 (by decide) rfl (fun q => ?_) (fun q => ?_)
      · have h := h.ff q
        exact w_sub [1, 2, 3, 4, 5, 6] rfl (b_X11_luck_80 K39 hK39 v1 v2 v3 v4 v5 s5 h)
      · have h := h.tt q
        obtain ⟨x7, ex7⟩ : ∃ y : Int32, y = (v4 + (1 : Int32)) := ⟨_, rfl⟩
        replace h := h.bnd ex7
        refine w_iinc 5 x7 [(4, .int x7), (6, .int r1), (0, .ref (xd Γ 0)), (1, .int v1), (2, .int v2), (3, .int v3), (5, .int v5)] dX11_luck_77 rfl (by rw [ex7, ic_iconst_1]) (by decide) rfl rfl ?_
        clear ex7
        exact w_sub [2, 3, 4, 5, 0, 6] rfl (b_X11_luck_80 K39 hK39 v1 v2 v3 x7 v5 s5 h)
def f_X11_luck (p0 : Int32) (p1 : Int32) (p2 : Int32) (σ : St) : Option (Int32 × St) :=
  bd (f_X11_isSeed p0 σ) fun r1 s2 =>
  if r1 = 0 then
    f_X11_luck_30 s2
  else
    if p1 < (1 : Int32) then
      f_X11_luck_30 s2
    else
      if (20 : Int32) < p1 then
        f_X11_luck_30 s2
      else
        bd (f_X10_hasSide 1 p2 s2) fun r4 s5 =>
        if r4 = 0 then
          f_X11_luck_30 s5
        else
          itr (g_X11_luck_39) FU (p0, p1, p2, (0 : Int32), (0 : Int32), s5)
theorem e_X11_luck {Γ : CX} (p0 : Int32) (p1 : Int32) (p2 : Int32) (σ : St) (h : RR vI Γ (f_X11_luck p0 p1 p2 σ)) : WW Γ cX11_luck 7 RX11 (some .int) rX11_luck σ 0 [(0, .ref (xd Γ 0)), (1, .int p0), (2, .int p1), (3, .int p2)] [] := by
  unfold f_X11_luck at h
  refine w_aload_n 0 dX11_luck_0 rfl rfl rfl ?_
  refine w_iload_n 1 dX11_luck_1 rfl rfl rfl ?_
  obtain ⟨r1, s2, h3, h⟩ := h.bd
  refine k_X11_isSeed ml_RX11_354 (Nat.le_of_ble_eq_true rfl) ⟨Nat.le_of_ble_eq_true rfl, Nat.le_of_ble_eq_true rfl⟩ dX11_luck_2 rfl h3 ?_
  refine w_if_eq (tgt := 30) dX11_luck_5 (by decide) rfl (fun q => ?_) (fun q => ?_)
  · have h := h.tt q
    exact w_sub [] rfl (b_X11_luck_30 s2 h)
  · have h := h.ff q
    refine w_iload_n 2 dX11_luck_8 rfl rfl rfl ?_
    refine w_iconst (1 : Int32) dX11_luck_9 ic_iconst_1 rfl ?_
    refine w_icmp_lt (tgt := 30) dX11_luck_10 (by decide) rfl (fun q => ?_) (fun q => ?_)
    · have h := h.tt q
      exact w_sub [] rfl (b_X11_luck_30 s2 h)
    · have h := h.ff q
      refine w_iload_n 2 dX11_luck_13 rfl rfl rfl ?_
      refine w_bipush (20 : Int32) dX11_luck_14 ic_bipush_20 rfl ?_
      refine w_icmp_gt (tgt := 30) dX11_luck_16 (by decide) rfl (fun q => ?_) (fun q => ?_)
      · have h := h.tt q
        exact w_sub [] rfl (b_X11_luck_30 s2 h)
      · have h := h.ff q
        refine w_aload_n 0 dX11_luck_19 rfl rfl rfl ?_
        refine gf_RX11_10 dX11_luck_20 rfl ?_
        refine w_iload_n 3 dX11_luck_23 rfl rfl rfl ?_
        obtain ⟨r4, s5, h6, h⟩ := h.bd
        refine k_X10_hasSide ml_RX11_126 (Nat.le_of_ble_eq_true rfl) ⟨Nat.le_of_ble_eq_true rfl, Nat.le_of_ble_eq_true rfl⟩ dX11_luck_24 rfl h6 ?_
        refine w_if_ne (tgt := 33) dX11_luck_27 (by decide) rfl (fun q => ?_) (fun q => ?_)
        · have h := h.ff q
          refine w_iconst (0 : Int32) dX11_luck_33 ic_iconst_0 rfl ?_
          refine w_istore [(4, .int (0 : Int32)), (0, .ref (xd Γ 0)), (1, .int p0), (2, .int p1), (3, .int p2)] dX11_luck_34 (by decide) rfl rfl ?_
          refine w_iconst (0 : Int32) dX11_luck_36 ic_iconst_0 rfl ?_
          refine w_istore [(5, .int (0 : Int32)), (4, .int (0 : Int32)), (0, .ref (xd Γ 0)), (1, .int p0), (2, .int p1), (3, .int p2)] dX11_luck_37 (by decide) rfl rfl ?_
          exact w_sub [2, 3, 4, 5, 1, 0] rfl (l_X11_luck_39 FU p0 p1 p2 (0 : Int32) (0 : Int32) s5 h)
        · have h := h.tt q
          exact w_sub [] rfl (b_X11_luck_30 s5 h)
theorem c_X11_luck {l : Launch} {D : va_G} {cy : Nat → ClassId} {ad : Nat → Nat} {p0 : Int32} {p1 : Int32} {p2 : Int32} {σ σ' : St} {r : Int32} (hf : f_X11_luck p0 p1 p2 σ = some (r, σ')) : CT l D cy ad yX11_luck cX11_luck 7 (some .int) rX11_luck [.ref (ad 0), .int p0, .int p1, .int p2] σ (some (.int r)) σ' :=
  ct_of (by decide) (Nat.le_of_ble_eq_true rfl) (fun p e s m args below meth c A => e_X11_luck (Γ := (p, l, e, rX11_luck, s, m, args, below, meth, c, D, cy, ad, A, 0, 0, ((some (.int r)), σ'))) p0 p1 p2 σ ⟨_, hf, rfl⟩)
theorem k_X11_luck {Γ : CX} {cc : ByteArray} {nL : Nat} {own : String} {ret : Option FieldType} {rm : Room} {σ σ' : St} {pc pc' idx : Nat} {lv : List (Nat × Value)} {rest : List Value} {p0 : Int32} {p1 : Int32} {p2 : Int32} {r : Int32} (hl : Cond.methodLink own idx yX11_luck ∈ TB) (hw : (rest.map fun v => v.category).sum ≤ 8) (hR : rX11_luck.frames + 1 ≤ rm.frames ∧ 8 + (7 + 11) + rX11_luck.locals ≤ rm.locals) (hd : decode cc pc = .ok (.invokevirtual idx, 3)) (hp : pc + 3 = pc') (hf : f_X11_luck p0 p1 p2 σ = some (r, σ')) (h : WW Γ cc nL own ret rm σ' pc' lv (.int r :: rest)) : WW Γ cc nL own ret rm σ pc lv (.int p2 :: .int p1 :: .int p0 :: .ref (xd Γ 0) :: rest) :=
  w_callV (nn := 3) (i := 0) (As := [.int p0, .int p1, .int p2]) (v := (some (.int r))) (T := TX11) (N := 11) (c_X11_luck hf) hl mw_X11_luck (by decide +kernel) ⟨rfl, rfl⟩ hR (lt_lit (by decide)) cel_0 rfl rfl hw hd rfl hp h
/-! WarByHours.row (III)I -/
def rX11_row : Room := { frames := 2, cells := 0, slots := 0, locals := 44 }
def f_X11_row (p0 : Int32) (p1 : Int32) (p2 : Int32) (σ : St) : Option (Int32 × St) :=
  bd (f_X7_lay p0 p1 p2 σ) fun r1 s2 =>
  some (r1, s2)
theorem e_X11_row {Γ : CX} (p0 : Int32) (p1 : Int32) (p2 : Int32) (σ : St) (h : RR vI Γ (f_X11_row p0 p1 p2 σ)) : WW Γ cX11_row 4 RX11 (some .int) rX11_row σ 0 [(0, .ref (xd Γ 0)), (1, .int p0), (2, .int p1), (3, .int p2)] [] := by
  unfold f_X11_row at h
  refine w_aload_n 0 dX11_row_0 rfl rfl rfl ?_
  refine gf_RX11_75 dX11_row_1 rfl ?_
  refine w_iload_n 1 dX11_row_4 rfl rfl rfl ?_
  refine w_iload_n 2 dX11_row_5 rfl rfl rfl ?_
  refine w_iload_n 3 dX11_row_6 rfl rfl rfl ?_
  obtain ⟨r1, s2, h3, h⟩ := h.bd
  refine k_X7_lay ml_RX11_379 (Nat.le_of_ble_eq_true rfl) ⟨Nat.le_of_ble_eq_true rfl, Nat.le_of_ble_eq_true rfl⟩ dX11_row_7 rfl h3 ?_
  exact w_ireturn dX11_row_10 h
theorem c_X11_row {l : Launch} {D : va_G} {cy : Nat → ClassId} {ad : Nat → Nat} {p0 : Int32} {p1 : Int32} {p2 : Int32} {σ σ' : St} {r : Int32} (hf : f_X11_row p0 p1 p2 σ = some (r, σ')) : CT l D cy ad yX11_row cX11_row 4 (some .int) rX11_row [.ref (ad 0), .int p0, .int p1, .int p2] σ (some (.int r)) σ' :=
  ct_of (by decide) (Nat.le_of_ble_eq_true rfl) (fun p e s m args below meth c A => e_X11_row (Γ := (p, l, e, rX11_row, s, m, args, below, meth, c, D, cy, ad, A, 0, 0, ((some (.int r)), σ'))) p0 p1 p2 σ ⟨_, hf, rfl⟩)
theorem k_X11_row {Γ : CX} {cc : ByteArray} {nL : Nat} {own : String} {ret : Option FieldType} {rm : Room} {σ σ' : St} {pc pc' idx : Nat} {lv : List (Nat × Value)} {rest : List Value} {p0 : Int32} {p1 : Int32} {p2 : Int32} {r : Int32} (hl : Cond.methodLink own idx yX11_row ∈ TB) (hw : (rest.map fun v => v.category).sum ≤ 8) (hR : rX11_row.frames + 1 ≤ rm.frames ∧ 8 + (4 + 11) + rX11_row.locals ≤ rm.locals) (hd : decode cc pc = .ok (.invokevirtual idx, 3)) (hp : pc + 3 = pc') (hf : f_X11_row p0 p1 p2 σ = some (r, σ')) (h : WW Γ cc nL own ret rm σ' pc' lv (.int r :: rest)) : WW Γ cc nL own ret rm σ pc lv (.int p2 :: .int p1 :: .int p0 :: .ref (xd Γ 0) :: rest) :=
  w_callV (nn := 3) (i := 0) (As := [.int p0, .int p1, .int p2]) (v := (some (.int r))) (T := TX11) (N := 11) (c_X11_row hf) hl mw_X11_row (by decide +kernel) ⟨rfl, rfl⟩ hR (lt_lit (by decide)) cel_0 rfl rfl hw hd rfl hp h
/-! WarByHours.write (IIJ)I -/
def rX11_write : Room := { frames := 2, cells := 0, slots := 0, locals := 46 }
def f_X11_write (p0 : Int32) (p1 : Int32) (p2 : Int64) (σ : St) : Option (Int32 × St) :=
  bd (f_X7_put p0 p1 p2 σ) fun r1 s2 =>
  some (r1, s2)
theorem e_X11_write {Γ : CX} (p0 : Int32) (p1 : Int32) (p2 : Int64) (σ : St) (h : RR vI Γ (f_X11_write p0 p1 p2 σ)) : WW Γ cX11_write 5 RX11 (some .int) rX11_write σ 0 [(0, .ref (xd Γ 0)), (1, .int p0), (2, .int p1), (3, .long p2)] [] := by
  unfold f_X11_write at h
  refine w_aload_n 0 dX11_write_0 rfl rfl rfl ?_
  refine gf_RX11_75 dX11_write_1 rfl ?_
  refine w_iload_n 1 dX11_write_4 rfl rfl rfl ?_
  refine w_iload_n 2 dX11_write_5 rfl rfl rfl ?_
  refine w_lload_n 3 dX11_write_6 rfl rfl rfl ?_
  obtain ⟨r1, s2, h3, h⟩ := h.bd
  refine k_X7_put ml_RX11_382 (Nat.le_of_ble_eq_true rfl) ⟨Nat.le_of_ble_eq_true rfl, Nat.le_of_ble_eq_true rfl⟩ dX11_write_7 rfl h3 ?_
  exact w_ireturn dX11_write_10 h
theorem c_X11_write {l : Launch} {D : va_G} {cy : Nat → ClassId} {ad : Nat → Nat} {p0 : Int32} {p1 : Int32} {p2 : Int64} {σ σ' : St} {r : Int32} (hf : f_X11_write p0 p1 p2 σ = some (r, σ')) : CT l D cy ad yX11_write cX11_write 5 (some .int) rX11_write [.ref (ad 0), .int p0, .int p1, .long p2] σ (some (.int r)) σ' :=
  ct_of (by decide) (Nat.le_of_ble_eq_true rfl) (fun p e s m args below meth c A => e_X11_write (Γ := (p, l, e, rX11_write, s, m, args, below, meth, c, D, cy, ad, A, 0, 0, ((some (.int r)), σ'))) p0 p1 p2 σ ⟨_, hf, rfl⟩)
theorem k_X11_write {Γ : CX} {cc : ByteArray} {nL : Nat} {own : String} {ret : Option FieldType} {rm : Room} {σ σ' : St} {pc pc' idx : Nat} {lv : List (Nat × Value)} {rest : List Value} {p0 : Int32} {p1 : Int32} {p2 : Int64} {r : Int32} (hl : Cond.methodLink own idx yX11_write ∈ TB) (hw : (rest.map fun v => v.category).sum ≤ 8) (hR : rX11_write.frames + 1 ≤ rm.frames ∧ 8 + (5 + 11) + rX11_write.locals ≤ rm.locals) (hd : decode cc pc = .ok (.invokevirtual idx, 3)) (hp : pc + 3 = pc') (hf : f_X11_write p0 p1 p2 σ = some (r, σ')) (h : WW Γ cc nL own ret rm σ' pc' lv (.int r :: rest)) : WW Γ cc nL own ret rm σ pc lv (.long p2 :: .int p1 :: .int p0 :: .ref (xd Γ 0) :: rest) :=
  w_callV (nn := 3) (i := 0) (As := [.int p0, .int p1, .long p2]) (v := (some (.int r))) (T := TX11) (N := 11) (c_X11_write hf) hl mw_X11_write (by decide +kernel) ⟨rfl, rfl⟩ hR (lt_lit (by decide)) cel_0 rfl rfl hw hd rfl hp h
/-! WarByHours.Cannon.bestSet (Z)I -/
def rX0_bestSet : Room := { frames := 2, cells := 0, slots := 0, locals := 50 }
def f_X0_bestSet_58 (K11 : Int32 × Int32 × Int32 × Int32 × St → Option (Int32 × St)) (v1 : Int32) (v2 : Int32) (v3 : Int32) (v4 : Int32) (σ : St) : Option (Int32 × St) :=
  bnd (v4 + (1 : Int32)) fun x1 =>
  K11 (v1, v2, v3, x1, σ)
theorem b_X0_bestSet_58 {Γ : CX} (K11 : Int32 × Int32 × Int32 × Int32 × St → Option (Int32 × St)) (hK11 : ∀ (v1 : Int32) (v2 : Int32) (v3 : Int32) (v4 : Int32) (σ : St), RR vI Γ (K11 (v1, v2, v3, v4, σ)) → WW Γ cX0_bestSet 6 RX0 (some .int) rX0_bestSet σ 11 [(0, .ref (xd Γ 50)), (1, .int v1), (2, .int v2), (3, .int v3), (4, .int v4)] []) (v1 : Int32) (v2 : Int32) (v3 : Int32) (v4 : Int32) (σ : St) (h : RR vI Γ (f_X0_bestSet_58 K11 v1 v2 v3 v4 σ)) : WW Γ cX0_bestSet 6 RX0 (some .int) rX0_bestSet σ 58 [(0, .ref (xd Γ 50)), (1, .int v1), (2, .int v2), (3, .int v3), (4, .int v4)] [] := by
  unfold f_X0_bestSet_58 at h
  obtain ⟨x1, ex1⟩ : ∃ y : Int32, y = (v4 + (1 : Int32)) := ⟨_, rfl⟩
  replace h := h.bnd ex1
  refine w_iinc 4 x1 [(4, .int x1), (0, .ref (xd Γ 50)), (1, .int v1), (2, .int v2), (3, .int v3)] dX0_bestSet_58 rfl (by rw [ex1, ic_iconst_1]) (by decide) rfl rfl ?_
  clear ex1
  refine w_goto (tgt := 11) dX0_bestSet_61 (by decide) ?_
  exact w_sub [1, 2, 3, 4, 0] rfl (hK11 v1 v2 v3 x1 σ h)
def g_X0_bestSet_11 (K11 : Int32 × Int32 × Int32 × Int32 × St → Option (Int32 × St)) (x : Int32 × Int32 × Int32 × Int32 × St) : Option (Int32 × St) := match x with
  | (v1, v2, v3, v4, σ) =>
  if ((1 : Int32) <<< ((gf σ 7 3) &&& 31)) ≤ v4 then
    some (v2, σ)
  else
    bd (f_X0_worthOf v4 σ) fun r1 s2 =>
    if r1 ≤ v3 then
      f_X0_bestSet_58 K11 v1 v2 v3 v4 s2
    else
      bd (f_X0_canStand v4 v1 s2) fun r4 s5 =>
      if r4 = 0 then
        f_X0_bestSet_58 K11 v1 v2 v3 v4 s5
      else
        f_X0_bestSet_58 K11 v1 v4 r1 v4 s5
theorem l_X0_bestSet_11 {Γ : CX} : ∀ (n : Nat) (v1 : Int32) (v2 : Int32) (v3 : Int32) (v4 : Int32) (σ : St), RR vI Γ (itr (g_X0_bestSet_11) n (v1, v2, v3, v4, σ)) → WW Γ cX0_bestSet 6 RX0 (some .int) rX0_bestSet σ 11 [(0, .ref (xd Γ 50)), (1, .int v1), (2, .int v2), (3, .int v3), (4, .int v4)] [] := by
  intro n
  induction n with
  | zero => intro v1 v2 v3 v4 σ h; exact RR.no h
  | succ n hK11 =>
  intro v1 v2 v3 v4 σ h
  have h : RR vI Γ (g_X0_bestSet_11 (itr (g_X0_bestSet_11) n) (v1, v2, v3, v4, σ)) := h
  generalize itr (g_X0_bestSet_11) n = K11 at h hK11
  unfold g_X0_bestSet_11 at h
  dsimp only at h
  refine w_iload 4 dX0_bestSet_11 rfl rfl ?_
  refine w_iconst (1 : Int32) dX0_bestSet_13 ic_iconst_1 rfl ?_
  refine w_aload_n 0 dX0_bestSet_14 rfl rfl rfl ?_
  refine gf_RX0_15 dX0_bestSet_15 rfl ?_
  refine gf_RX0_22 (i := 1) (isW_lit (by decide)) dX0_bestSet_18 rfl ?_
  refine gf_RX0_28 (i := 7) (isT_lit (by decide)) dX0_bestSet_21 rfl ?_
  refine w_ishl dX0_bestSet_24 rfl ?_
  refine w_icmp_ge (tgt := 64) dX0_bestSet_25 (by decide) rfl (fun q => ?_) (fun q => ?_)
  · have h := h.tt q
    refine w_iload_n 2 dX0_bestSet_64 rfl rfl rfl ?_
    exact w_ireturn dX0_bestSet_65 h
  · have h := h.ff q
    refine w_aload_n 0 dX0_bestSet_28 rfl rfl rfl ?_
    refine w_iload 4 dX0_bestSet_29 rfl rfl ?_
    obtain ⟨r1, s2, h3, h⟩ := h.bd
    refine k_X0_worthOf ml_RX0_34 (Nat.le_of_ble_eq_true rfl) ⟨Nat.le_of_ble_eq_true rfl, Nat.le_of_ble_eq_true rfl⟩ dX0_bestSet_31 rfl h3 ?_
    refine w_istore [(5, .int r1), (0, .ref (xd Γ 50)), (1, .int v1), (2, .int v2), (3, .int v3), (4, .int v4)] dX0_bestSet_34 (by decide) rfl rfl ?_
    refine w_iload 0 dX0_bestSet_36 rfl rfl ?_
    refine w_iload_n 4 dX0_bestSet_38 rfl rfl rfl ?_
    refine w_icmp_le (tgt := 58) dX0_bestSet_39 (by decide) rfl (fun q => ?_) (fun q => ?_)
    · have h := h.tt q
      exact w_sub [1, 2, 3, 4, 5] rfl (b_X0_bestSet_58 K11 hK11 v1 v2 v3 v4 s2 h)
    · have h := h.ff q
      refine w_aload_n 1 dX0_bestSet_42 rfl rfl rfl ?_
      refine w_iload 5 dX0_bestSet_43 rfl rfl ?_
      refine w_iload_n 2 dX0_bestSet_45 rfl rfl rfl ?_
      obtain ⟨r4, s5, h6, h⟩ := h.bd
      refine k_X0_canStand ml_RX0_38 (Nat.le_of_ble_eq_true rfl) ⟨Nat.le_of_ble_eq_true rfl, Nat.le_of_ble_eq_true rfl⟩ dX0_bestSet_46 rfl h6 ?_
      refine w_if_eq (tgt := 58) dX0_bestSet_49 (by decide) rfl (fun q => ?_) (fun q => ?_)
      · have h := h.tt q
        exact w_sub [1, 2, 3, 4, 5] rfl (b_X0_bestSet_58 K11 hK11 v1 v2 v3 v4 s5 h)
      · have h := h.ff q
        refine w_iload 0 dX0_bestSet_52 rfl rfl ?_
        refine w_istore_n [(3, .int r1), (5, .int r1), (0, .ref (xd Γ 50)), (1, .int v1), (2, .int v2), (4, .int v4)] dX0_bestSet_54 rfl (by decide) rfl rfl ?_
        refine w_iload 5 dX0_bestSet_55 rfl rfl ?_
        refine w_istore_n [(2, .int v4), (3, .int r1), (5, .int r1), (0, .ref (xd Γ 50)), (1, .int v1), (4, .int v4)] dX0_bestSet_57 rfl (by decide) rfl rfl ?_
        exact w_sub [3, 4, 0, 1, 5] rfl (b_X0_bestSet_58 K11 hK11 v1 v4 r1 v4 s5 h)
def f_X0_bestSet (p0 : Int32) (σ : St) : Option (Int32 × St) :=
  bd (f_X0_sortByMinute σ) fun _ s2 =>
  itr (g_X0_bestSet_11) FU (p0, (0 : Int32), (0 : Int32), (1 : Int32), s2)
theorem e_X0_bestSet {Γ : CX} (p0 : Int32) (σ : St) (h : RR vI Γ (f_X0_bestSet p0 σ)) : WW Γ cX0_bestSet 6 RX0 (some .int) rX0_bestSet σ 0 [(0, .ref (xd Γ 50)), (1, .int p0)] [] := by
  unfold f_X0_bestSet at h
  refine w_aload_n 0 dX0_bestSet_0 rfl rfl rfl ?_
  obtain ⟨r1, s2, h3, h⟩ := h.bd
  refine k_X0_sortByMinute ml_RX0_19 (Nat.le_of_ble_eq_true rfl) ⟨Nat.le_of_ble_eq_true rfl, Nat.le_of_ble_eq_true rfl⟩ dX0_bestSet_1 rfl h3 ?_
  refine w_iconst (0 : Int32) dX0_bestSet_4 ic_iconst_0 rfl ?_
  refine w_istore_n [(2, .int (0 : Int32)), (0, .ref (xd Γ 50)), (1, .int p0)] dX0_bestSet_5 rfl (by decide) rfl rfl ?_
  refine w_iconst (0 : Int32) dX0_bestSet_6 ic_iconst_0 rfl ?_
  refine w_istore_n [(3, .int (0 : Int32)), (2, .int (0 : Int32)), (0, .ref (xd Γ 50)), (1, .int p0)] dX0_bestSet_7 rfl (by decide) rfl rfl ?_
  refine w_iconst (1 : Int32) dX0_bestSet_8 ic_iconst_1 rfl ?_
  refine w_istore [(4, .int (1 : Int32)), (3, .int (0 : Int32)), (2, .int (0 : Int32)), (0, .ref (xd Γ 50)), (1, .int p0)] dX0_bestSet_9 (by decide) rfl rfl ?_
  exact w_sub [3, 4, 2, 1, 0] rfl (l_X0_bestSet_11 FU p0 (0 : Int32) (0 : Int32) (1 : Int32) s2 h)
theorem c_X0_bestSet {l : Launch} {D : va_G} {cy : Nat → ClassId} {ad : Nat → Nat} {p0 : Int32} {σ σ' : St} {r : Int32} (hf : f_X0_bestSet p0 σ = some (r, σ')) : CT l D cy ad yX0_bestSet cX0_bestSet 6 (some .int) rX0_bestSet [.ref (ad 50), .int p0] σ (some (.int r)) σ' :=
  ct_of (by decide) (Nat.le_of_ble_eq_true rfl) (fun p e s m args below meth c A => e_X0_bestSet (Γ := (p, l, e, rX0_bestSet, s, m, args, below, meth, c, D, cy, ad, A, 0, 0, ((some (.int r)), σ'))) p0 σ ⟨_, hf, rfl⟩)
theorem k_X0_bestSet {Γ : CX} {cc : ByteArray} {nL : Nat} {own : String} {ret : Option FieldType} {rm : Room} {σ σ' : St} {pc pc' idx : Nat} {lv : List (Nat × Value)} {rest : List Value} {p0 : Int32} {r : Int32} (hl : Cond.methodLink own idx yX0_bestSet ∈ TB) (hw : (rest.map fun v => v.category).sum ≤ 8) (hR : rX0_bestSet.frames + 1 ≤ rm.frames ∧ 8 + (6 + 11) + rX0_bestSet.locals ≤ rm.locals) (hd : decode cc pc = .ok (.invokevirtual idx, 3)) (hp : pc + 3 = pc') (hf : f_X0_bestSet p0 σ = some (r, σ')) (h : WW Γ cc nL own ret rm σ' pc' lv (.int r :: rest)) : WW Γ cc nL own ret rm σ pc lv (.int p0 :: .ref (xd Γ 50) :: rest) :=
  w_callV (nn := 1) (i := 50) (As := [.int p0]) (v := (some (.int r))) (T := TX0) (N := 2) (c_X0_bestSet hf) hl mw_X0_bestSet (by decide +kernel) ⟨rfl, rfl⟩ hR (lt_lit (by decide)) cel_50 rfl rfl hw hd rfl hp h
/-! WarByHours.Course.reckon ()V -/
def rX2_reckon : Room := { frames := 5, cells := 0, slots := 0, locals := 116 }
def f_X2_reckon_71 (K20 : Int32 × Int32 × St → Option (Unit × St)) (v1 : Int32) (v2 : Int32) (σ : St) : Option (Unit × St) :=
  bnd (v2 + (1 : Int32)) fun x1 =>
  K20 (v1, x1, σ)
theorem b_X2_reckon_71 {Γ : CX} (K20 : Int32 × Int32 × St → Option (Unit × St)) (hK20 : ∀ (v1 : Int32) (v2 : Int32) (σ : St), RR vU Γ (K20 (v1, v2, σ)) → WW Γ cX2_reckon 3 RX2 none rX2_reckon σ 20 [(0, .ref (xd Γ 31)), (1, .int v1), (2, .int v2)] []) (v1 : Int32) (v2 : Int32) (σ : St) (h : RR vU Γ (f_X2_reckon_71 K20 v1 v2 σ)) : WW Γ cX2_reckon 3 RX2 none rX2_reckon σ 71 [(0, .ref (xd Γ 31)), (1, .int v1), (2, .int v2)] [] := by
  unfold f_X2_reckon_71 at h
  obtain ⟨x1, ex1⟩ : ∃ y : Int32, y = (v2 + (1 : Int32)) := ⟨_, rfl⟩
  replace h := h.bnd ex1
  refine w_iinc 2 x1 [(2, .int x1), (0, .ref (xd Γ 31)), (1, .int v1)] dX2_reckon_71 rfl (by rw [ex1, ic_iconst_1]) (by decide) rfl rfl ?_
  clear ex1
  refine w_goto (tgt := 20) dX2_reckon_74 (by decide) ?_
  exact w_sub [1, 2, 0] rfl (hK20 v1 x1 σ h)
def f_X2_reckon_57 (K20 : Int32 × Int32 × St → Option (Unit × St)) (v1 : Int32) (v2 : Int32) (σ : St) : Option (Unit × St) :=
  bd (f_X10_isTea 1 v2 σ) fun r1 s2 =>
  if r1 = 0 then
    bnd (v1 + (1 : Int32)) fun x4 =>
    f_X2_reckon_71 K20 x4 v2 s2
  else
    f_X2_reckon_71 K20 v1 v2 s2
theorem b_X2_reckon_57 {Γ : CX} (K20 : Int32 × Int32 × St → Option (Unit × St)) (hK20 : ∀ (v1 : Int32) (v2 : Int32) (σ : St), RR vU Γ (K20 (v1, v2, σ)) → WW Γ cX2_reckon 3 RX2 none rX2_reckon σ 20 [(0, .ref (xd Γ 31)), (1, .int v1), (2, .int v2)] []) (v1 : Int32) (v2 : Int32) (σ : St) (h : RR vU Γ (f_X2_reckon_57 K20 v1 v2 σ)) : WW Γ cX2_reckon 3 RX2 none rX2_reckon σ 57 [(0, .ref (xd Γ 31)), (1, .int v1), (2, .int v2)] [] := by
  unfold f_X2_reckon_57 at h
  refine w_aload_n 0 dX2_reckon_57 rfl rfl rfl ?_
  refine gf_RX2_24 dX2_reckon_58 rfl ?_
  refine w_iload_n 2 dX2_reckon_61 rfl rfl rfl ?_
  obtain ⟨r1, s2, h3, h⟩ := h.bd
  refine k_X10_isTea ml_RX2_38 (Nat.le_of_ble_eq_true rfl) ⟨Nat.le_of_ble_eq_true rfl, Nat.le_of_ble_eq_true rfl⟩ dX2_reckon_62 rfl h3 ?_
  refine w_if_ne (tgt := 71) dX2_reckon_65 (by decide) rfl (fun q => ?_) (fun q => ?_)
  · have h := h.ff q
    exact w_sub [0, 1, 2] rfl (b_X2_reckon_71 K20 hK20 v1 v2 s2 h)
  · have h := h.tt q
    obtain ⟨x4, ex4⟩ : ∃ y : Int32, y = (v1 + (1 : Int32)) := ⟨_, rfl⟩
    replace h := h.bnd ex4
    refine w_iinc 1 x4 [(1, .int x4), (0, .ref (xd Γ 31)), (2, .int v2)] dX2_reckon_68 rfl (by rw [ex4, ic_iconst_1]) (by decide) rfl rfl ?_
    clear ex4
    exact w_sub [1, 0, 2] rfl (b_X2_reckon_71 K20 hK20 x4 v2 s2 h)
def f_X2_reckon_43 (K20 : Int32 × Int32 × St → Option (Unit × St)) (v1 : Int32) (v2 : Int32) (σ : St) : Option (Unit × St) :=
  bd (f_X2_moveEnds v1 σ) fun _ s2 =>
  bd (f_X2_takeMen v2 (1 : Int32) (-1 : Int32) s2) fun _ s5 =>
  f_X2_reckon_57 K20 (0 : Int32) v2 s5
theorem b_X2_reckon_43 {Γ : CX} (K20 : Int32 × Int32 × St → Option (Unit × St)) (hK20 : ∀ (v1 : Int32) (v2 : Int32) (σ : St), RR vU Γ (K20 (v1, v2, σ)) → WW Γ cX2_reckon 3 RX2 none rX2_reckon σ 20 [(0, .ref (xd Γ 31)), (1, .int v1), (2, .int v2)] []) (v1 : Int32) (v2 : Int32) (σ : St) (h : RR vU Γ (f_X2_reckon_43 K20 v1 v2 σ)) : WW Γ cX2_reckon 3 RX2 none rX2_reckon σ 43 [(0, .ref (xd Γ 31)), (1, .int v1), (2, .int v2)] [] := by
  unfold f_X2_reckon_43 at h
  refine w_aload_n 0 dX2_reckon_43 rfl rfl rfl ?_
  refine w_iload_n 1 dX2_reckon_44 rfl rfl rfl ?_
  obtain ⟨r1, s2, h3, h⟩ := h.bd
  refine k_X2_moveEnds ml_RX2_125 (Nat.le_of_ble_eq_true rfl) ⟨Nat.le_of_ble_eq_true rfl, Nat.le_of_ble_eq_true rfl⟩ dX2_reckon_45 rfl h3 ?_
  refine w_iconst (0 : Int32) dX2_reckon_48 ic_iconst_0 rfl ?_
  refine w_istore_n [(1, .int (0 : Int32)), (0, .ref (xd Γ 31)), (2, .int v2)] dX2_reckon_49 rfl (by decide) rfl rfl ?_
  refine w_aload_n 1 dX2_reckon_50 rfl rfl rfl ?_
  refine w_iload_n 2 dX2_reckon_51 rfl rfl rfl ?_
  refine w_iconst (1 : Int32) dX2_reckon_52 ic_iconst_1 rfl ?_
  refine w_iconst (-1 : Int32) dX2_reckon_53 ic_iconst_m1 rfl ?_
  obtain ⟨r4, s5, h6, h⟩ := h.bd
  refine k_X2_takeMen ml_RX2_128 (Nat.le_of_ble_eq_true rfl) ⟨Nat.le_of_ble_eq_true rfl, Nat.le_of_ble_eq_true rfl⟩ dX2_reckon_54 rfl h6 ?_
  exact w_sub [1, 0, 2] rfl (b_X2_reckon_57 K20 hK20 (0 : Int32) v2 s5 h)
def g_X2_reckon_20 (K20 : Int32 × Int32 × St → Option (Unit × St)) (x : Int32 × Int32 × St) : Option (Unit × St) := match x with
  | (v1, v2, σ) =>
  if (gf σ 1 1) ≤ v2 then
    bd (f_X2_moveEnds v1 σ) fun _ s2 =>
    bd (f_X2_findWinners s2) fun _ s5 =>
    gd (bz (1 : Int32)) <|
    bnd (sf s5 31 5 (1 : Int32)) fun s7 =>
    some ((), s7)
  else
    if v2 = 0 then
      f_X2_reckon_43 K20 v1 v2 σ
    else
      bd (f_X2_isArrival v2 σ) fun r9 s10 =>
      if r9 = 0 then
        f_X2_reckon_57 K20 v1 v2 s10
      else
        f_X2_reckon_43 K20 v1 v2 s10
theorem l_X2_reckon_20 {Γ : CX} : ∀ (n : Nat) (v1 : Int32) (v2 : Int32) (σ : St), RR vU Γ (itr (g_X2_reckon_20) n (v1, v2, σ)) → WW Γ cX2_reckon 3 RX2 none rX2_reckon σ 20 [(0, .ref (xd Γ 31)), (1, .int v1), (2, .int v2)] [] := by
  intro n
  induction n with
  | zero => intro v1 v2 σ h; exact RR.no h
  | succ n hK20 =>
  intro v1 v2 σ h
  have h : RR vU Γ (g_X2_reckon_20 (itr (g_X2_reckon_20) n) (v1, v2, σ)) := h
  generalize itr (g_X2_reckon_20) n = K20 at h hK20
  unfold g_X2_reckon_20 at h
  dsimp only at h
  refine w_iload_n 2 dX2_reckon_20 rfl rfl rfl ?_
  refine w_aload_n 0 dX2_reckon_21 rfl rfl rfl ?_
  refine gf_RX2_24 dX2_reckon_22 rfl ?_
  refine gf_RX2_32 (i := 1) (isW_lit (by decide)) dX2_reckon_25 rfl ?_
  refine w_icmp_ge (tgt := 77) dX2_reckon_28 (by decide) rfl (fun q => ?_) (fun q => ?_)
  · have h := h.tt q
    refine w_aload_n 0 dX2_reckon_77 rfl rfl rfl ?_
    refine w_iload_n 1 dX2_reckon_78 rfl rfl rfl ?_
    obtain ⟨r1, s2, h3, h⟩ := h.bd
    refine k_X2_moveEnds ml_RX2_125 (Nat.le_of_ble_eq_true rfl) ⟨Nat.le_of_ble_eq_true rfl, Nat.le_of_ble_eq_true rfl⟩ dX2_reckon_79 rfl h3 ?_
    refine w_aload_n 0 dX2_reckon_82 rfl rfl rfl ?_
    obtain ⟨r4, s5, h6, h⟩ := h.bd
    refine k_X2_findWinners ml_RX2_132 (Nat.le_of_ble_eq_true rfl) ⟨Nat.le_of_ble_eq_true rfl, Nat.le_of_ble_eq_true rfl⟩ dX2_reckon_83 rfl h6 ?_
    refine w_aload_n 0 dX2_reckon_86 rfl rfl rfl ?_
    refine w_iconst (1 : Int32) dX2_reckon_87 ic_iconst_1 rfl ?_
    obtain ⟨hz8, h⟩ := h.gd
    refine pf_RX2_28 dX2_reckon_88 hz8 rfl ?_
    obtain ⟨s7, es7⟩ : ∃ y : St, y = (sf s5 31 5 (1 : Int32)) := ⟨_, rfl⟩
    rw [← es7]
    replace h := h.bnd es7
    clear es7
    exact w_return dX2_reckon_91 h
  · have h := h.ff q
    refine w_iload_n 2 dX2_reckon_31 rfl rfl rfl ?_
    refine w_if_eq (tgt := 43) dX2_reckon_32 (by decide) rfl (fun q => ?_) (fun q => ?_)
    · have h := h.tt q
      exact w_sub [0, 1, 2] rfl (b_X2_reckon_43 K20 hK20 v1 v2 σ h)
    · have h := h.ff q
      refine w_aload_n 0 dX2_reckon_35 rfl rfl rfl ?_
      refine w_iload_n 2 dX2_reckon_36 rfl rfl rfl ?_
      obtain ⟨r9, s10, h11, h⟩ := h.bd
      refine k_X2_isArrival ml_RX2_122 (Nat.le_of_ble_eq_true rfl) ⟨Nat.le_of_ble_eq_true rfl, Nat.le_of_ble_eq_true rfl⟩ dX2_reckon_37 rfl h11 ?_
      refine w_if_eq (tgt := 57) dX2_reckon_40 (by decide) rfl (fun q => ?_) (fun q => ?_)
      · have h := h.tt q
        exact w_sub [0, 1, 2] rfl (b_X2_reckon_57 K20 hK20 v1 v2 s10 h)
      · have h := h.ff q
        exact w_sub [0, 1, 2] rfl (b_X2_reckon_43 K20 hK20 v1 v2 s10 h)
def f_X2_reckon (σ : St) : Option (Unit × St) :=
  if (gf σ 31 5) = 0 then
    bd (f_J7_fill_53178 34 (0 : Int32) σ) fun _ s2 =>
    itr (g_X2_reckon_20) FU ((0 : Int32), (0 : Int32), s2)
  else
    some ((), σ)
theorem e_X2_reckon {Γ : CX} (σ : St) (h : RR vU Γ (f_X2_reckon σ)) : WW Γ cX2_reckon 3 RX2 none rX2_reckon σ 0 [(0, .ref (xd Γ 31))] [] := by
  unfold f_X2_reckon at h
  refine w_aload_n 0 dX2_reckon_0 rfl rfl rfl ?_
  refine gf_RX2_28 dX2_reckon_1 rfl ?_
  refine w_if_eq (tgt := 8) dX2_reckon_4 (by decide) rfl (fun q => ?_) (fun q => ?_)
  · have h := h.tt q
    refine w_aload_n 0 dX2_reckon_8 rfl rfl rfl ?_
    refine gf_RX2_18 dX2_reckon_9 rfl ?_
    refine w_iconst (0 : Int32) dX2_reckon_12 ic_iconst_0 rfl ?_
    obtain ⟨r1, s2, h3, h⟩ := h.bd
    refine k_J7_fill_53178 ml_RX2_116 (Nat.le_of_ble_eq_true rfl) ⟨Nat.le_of_ble_eq_true rfl, Nat.le_of_ble_eq_true rfl⟩ dX2_reckon_13 rfl h3 ?_
    refine w_iconst (0 : Int32) dX2_reckon_16 ic_iconst_0 rfl ?_
    refine w_istore_n [(1, .int (0 : Int32)), (0, .ref (xd Γ 31))] dX2_reckon_17 rfl (by decide) rfl rfl ?_
    refine w_iconst (0 : Int32) dX2_reckon_18 ic_iconst_0 rfl ?_
    refine w_istore_n [(2, .int (0 : Int32)), (1, .int (0 : Int32)), (0, .ref (xd Γ 31))] dX2_reckon_19 rfl (by decide) rfl rfl ?_
    exact w_sub [2, 1, 0] rfl (l_X2_reckon_20 FU (0 : Int32) (0 : Int32) s2 h)
  · have h := h.ff q
    exact w_return dX2_reckon_7 h
theorem c_X2_reckon {l : Launch} {D : va_G} {cy : Nat → ClassId} {ad : Nat → Nat}  {σ σ' : St} {r : Unit} (hf : f_X2_reckon σ = some (r, σ')) : CT l D cy ad yX2_reckon cX2_reckon 3 none rX2_reckon [.ref (ad 31)] σ none σ' :=
  ct_of (by decide) (Nat.le_of_ble_eq_true rfl) (fun p e s m args below meth c A => e_X2_reckon (Γ := (p, l, e, rX2_reckon, s, m, args, below, meth, c, D, cy, ad, A, 0, 0, (none, σ'))) σ ⟨_, hf, rfl⟩)
theorem k_X2_reckon {Γ : CX} {cc : ByteArray} {nL : Nat} {own : String} {ret : Option FieldType} {rm : Room} {σ σ' : St} {pc pc' idx : Nat} {lv : List (Nat × Value)} {rest : List Value}  {r : Unit} (hl : Cond.methodLink own idx yX2_reckon ∈ TB) (hw : (rest.map fun v => v.category).sum ≤ 8) (hR : rX2_reckon.frames + 1 ≤ rm.frames ∧ 8 + (3 + 11) + rX2_reckon.locals ≤ rm.locals) (hd : decode cc pc = .ok (.invokevirtual idx, 3)) (hp : pc + 3 = pc') (hf : f_X2_reckon σ = some (r, σ')) (h : WW Γ cc nL own ret rm σ' pc' lv (rest)) : WW Γ cc nL own ret rm σ pc lv (.ref (xd Γ 31) :: rest) :=
  w_callV (nn := 0) (i := 31) (As := []) (v := none) (T := TX2) (N := 6) (c_X2_reckon hf) hl mw_X2_reckon (by decide +kernel) ⟨rfl, rfl⟩ hR (lt_lit (by decide)) cel_31 rfl rfl hw hd rfl hp h
/-! WarByHours.Fares.bribedSet (II)I -/
def rX3_bribedSet : Room := { frames := 4, cells := 0, slots := 0, locals := 92 }
def f_X3_bribedSet_35 (k0 : Int32) (σ : St) : Option (Int32 × St) :=
  bd (f_X3_cheapest k0 σ) fun r1 s2 =>
  some (r1, s2)
theorem b_X3_bribedSet_35 {Γ : CX} (k0 : Int32) (σ : St) (h : RR vI Γ (f_X3_bribedSet_35 k0 σ)) : WW Γ cX3_bribedSet 4 RX3 (some .int) rX3_bribedSet σ 35 [] [.int k0, .ref (xd Γ 36)] := by
  unfold f_X3_bribedSet_35 at h
  obtain ⟨r1, s2, h3, h⟩ := h.bd
  refine k_X3_cheapest ml_RX3_70 (Nat.le_of_ble_eq_true rfl) ⟨Nat.le_of_ble_eq_true rfl, Nat.le_of_ble_eq_true rfl⟩ dX3_bribedSet_35 rfl h3 ?_
  exact w_ireturn dX3_bribedSet_38 h
def f_X3_bribedSet (p0 : Int32) (p1 : Int32) (σ : St) : Option (Int32 × St) :=
  bd (f_X3_takePrices σ) fun _ s2 =>
  bd (f_X3_fitByDelays p0 s2) fun _ s5 =>
  bd (f_X10_trainsOf 1 p0 s5) fun r7 s8 =>
  if p1 = (-1 : Int32) then
    f_X3_bribedSet_35 r7 s8
  else
    f_X3_bribedSet_35 (r7 &&& (((1 : Int32) <<< (p1 &&& 31)) ^^^ (-1 : Int32))) s8
theorem e_X3_bribedSet {Γ : CX} (p0 : Int32) (p1 : Int32) (σ : St) (h : RR vI Γ (f_X3_bribedSet p0 p1 σ)) : WW Γ cX3_bribedSet 4 RX3 (some .int) rX3_bribedSet σ 0 [(0, .ref (xd Γ 36)), (1, .int p0), (2, .int p1)] [] := by
  unfold f_X3_bribedSet at h
  refine w_aload_n 0 dX3_bribedSet_0 rfl rfl rfl ?_
  obtain ⟨r1, s2, h3, h⟩ := h.bd
  refine k_X3_takePrices ml_RX3_67 (Nat.le_of_ble_eq_true rfl) ⟨Nat.le_of_ble_eq_true rfl, Nat.le_of_ble_eq_true rfl⟩ dX3_bribedSet_1 rfl h3 ?_
  refine w_aload_n 0 dX3_bribedSet_4 rfl rfl rfl ?_
  refine w_iload_n 1 dX3_bribedSet_5 rfl rfl rfl ?_
  obtain ⟨r4, s5, h6, h⟩ := h.bd
  refine k_X3_fitByDelays ml_RX3_73 (Nat.le_of_ble_eq_true rfl) ⟨Nat.le_of_ble_eq_true rfl, Nat.le_of_ble_eq_true rfl⟩ dX3_bribedSet_6 rfl h6 ?_
  refine w_aload_n 0 dX3_bribedSet_9 rfl rfl rfl ?_
  refine gf_RX3_32 dX3_bribedSet_10 rfl ?_
  refine w_iload_n 1 dX3_bribedSet_13 rfl rfl rfl ?_
  obtain ⟨r7, s8, h9, h⟩ := h.bd
  refine k_X10_trainsOf ml_RX3_44 (Nat.le_of_ble_eq_true rfl) ⟨Nat.le_of_ble_eq_true rfl, Nat.le_of_ble_eq_true rfl⟩ dX3_bribedSet_14 rfl h9 ?_
  refine w_istore_n [(3, .int r7), (0, .ref (xd Γ 36)), (1, .int p0), (2, .int p1)] dX3_bribedSet_17 rfl (by decide) rfl rfl ?_
  refine w_aload_n 1 dX3_bribedSet_18 rfl rfl rfl ?_
  refine w_iload_n 3 dX3_bribedSet_19 rfl rfl rfl ?_
  refine w_iconst (-1 : Int32) dX3_bribedSet_20 ic_iconst_m1 rfl ?_
  refine w_icmp_ne (tgt := 28) dX3_bribedSet_21 (by decide) rfl (fun q => ?_) (fun q => ?_)
  · have h := h.ff q
    refine w_iload_n 0 dX3_bribedSet_28 rfl rfl rfl ?_
    refine w_iconst (1 : Int32) dX3_bribedSet_29 ic_iconst_1 rfl ?_
    refine w_iload_n 3 dX3_bribedSet_30 rfl rfl rfl ?_
    refine w_ishl dX3_bribedSet_31 rfl ?_
    refine w_iconst (-1 : Int32) dX3_bribedSet_32 ic_iconst_m1 rfl ?_
    refine w_ixor dX3_bribedSet_33 rfl ?_
    refine w_iand dX3_bribedSet_34 rfl ?_
    exact w_sub [] rfl (b_X3_bribedSet_35 (r7 &&& (((1 : Int32) <<< (p1 &&& 31)) ^^^ (-1 : Int32))) s8 h)
  · have h := h.tt q
    refine w_iload_n 0 dX3_bribedSet_24 rfl rfl rfl ?_
    refine w_goto (tgt := 35) dX3_bribedSet_25 (by decide) ?_
    exact w_sub [] rfl (b_X3_bribedSet_35 r7 s8 h)
theorem c_X3_bribedSet {l : Launch} {D : va_G} {cy : Nat → ClassId} {ad : Nat → Nat} {p0 : Int32} {p1 : Int32} {σ σ' : St} {r : Int32} (hf : f_X3_bribedSet p0 p1 σ = some (r, σ')) : CT l D cy ad yX3_bribedSet cX3_bribedSet 4 (some .int) rX3_bribedSet [.ref (ad 36), .int p0, .int p1] σ (some (.int r)) σ' :=
  ct_of (by decide) (Nat.le_of_ble_eq_true rfl) (fun p e s m args below meth c A => e_X3_bribedSet (Γ := (p, l, e, rX3_bribedSet, s, m, args, below, meth, c, D, cy, ad, A, 0, 0, ((some (.int r)), σ'))) p0 p1 σ ⟨_, hf, rfl⟩)
theorem k_X3_bribedSet {Γ : CX} {cc : ByteArray} {nL : Nat} {own : String} {ret : Option FieldType} {rm : Room} {σ σ' : St} {pc pc' idx : Nat} {lv : List (Nat × Value)} {rest : List Value} {p0 : Int32} {p1 : Int32} {r : Int32} (hl : Cond.methodLink own idx yX3_bribedSet ∈ TB) (hw : (rest.map fun v => v.category).sum ≤ 8) (hR : rX3_bribedSet.frames + 1 ≤ rm.frames ∧ 8 + (4 + 11) + rX3_bribedSet.locals ≤ rm.locals) (hd : decode cc pc = .ok (.invokevirtual idx, 3)) (hp : pc + 3 = pc') (hf : f_X3_bribedSet p0 p1 σ = some (r, σ')) (h : WW Γ cc nL own ret rm σ' pc' lv (.int r :: rest)) : WW Γ cc nL own ret rm σ pc lv (.int p1 :: .int p0 :: .ref (xd Γ 36) :: rest) :=
  w_callV (nn := 2) (i := 36) (As := [.int p0, .int p1]) (v := (some (.int r))) (T := TX3) (N := 8) (c_X3_bribedSet hf) hl mw_X3_bribedSet (by decide +kernel) ⟨rfl, rfl⟩ hR (lt_lit (by decide)) cel_36 rfl rfl hw hd rfl hp h
/-! WarByHours.Fares.guardedTrain (I)I -/
def rX3_guardedTrain : Room := { frames := 4, cells := 0, slots := 0, locals := 92 }
def f_X3_guardedTrain_93 (K34 : Int32 × Int32 × Int32 × Int32 × St → Option (Int32 × St)) (v2 : Int32) (v3 : Int32) (v4 : Int32) (v5 : Int32) (σ : St) : Option (Int32 × St) :=
  bnd (v5 + (1 : Int32)) fun x1 =>
  K34 (v2, v3, v4, x1, σ)
theorem b_X3_guardedTrain_93 {Γ : CX} (K34 : Int32 × Int32 × Int32 × Int32 × St → Option (Int32 × St)) (hK34 : ∀ (v2 : Int32) (v3 : Int32) (v4 : Int32) (v5 : Int32) (σ : St), RR vI Γ (K34 (v2, v3, v4, v5, σ)) → WW Γ cX3_guardedTrain 7 RX3 (some .int) rX3_guardedTrain σ 34 [(0, .ref (xd Γ 36)), (2, .int v2), (3, .int v3), (4, .int v4), (5, .int v5)] []) (v2 : Int32) (v3 : Int32) (v4 : Int32) (v5 : Int32) (σ : St) (h : RR vI Γ (f_X3_guardedTrain_93 K34 v2 v3 v4 v5 σ)) : WW Γ cX3_guardedTrain 7 RX3 (some .int) rX3_guardedTrain σ 93 [(0, .ref (xd Γ 36)), (2, .int v2), (3, .int v3), (4, .int v4), (5, .int v5)] [] := by
  unfold f_X3_guardedTrain_93 at h
  obtain ⟨x1, ex1⟩ : ∃ y : Int32, y = (v5 + (1 : Int32)) := ⟨_, rfl⟩
  replace h := h.bnd ex1
  refine w_iinc 4 x1 [(5, .int x1), (0, .ref (xd Γ 36)), (2, .int v2), (3, .int v3), (4, .int v4)] dX3_guardedTrain_93 rfl (by rw [ex1, ic_iconst_1]) (by decide) rfl rfl ?_
  clear ex1
  refine w_goto (tgt := 34) dX3_guardedTrain_96 (by decide) ?_
  exact w_sub [1, 2, 3, 4, 0] rfl (hK34 v2 v3 v4 x1 σ h)
def f_X3_guardedTrain_78 (K34 : Int32 × Int32 × Int32 × Int32 × St → Option (Int32 × St)) (v2 : Int32) (v3 : Int32) (v4 : Int32) (v5 : Int32) (k0 : Int32) (σ : St) : Option (Int32 × St) :=
  if k0 ≤ v3 then
    f_X3_guardedTrain_93 K34 v2 v3 v4 v5 σ
  else
    f_X3_guardedTrain_93 K34 v2 k0 v5 v5 σ
theorem b_X3_guardedTrain_78 {Γ : CX} (K34 : Int32 × Int32 × Int32 × Int32 × St → Option (Int32 × St)) (hK34 : ∀ (v2 : Int32) (v3 : Int32) (v4 : Int32) (v5 : Int32) (σ : St), RR vI Γ (K34 (v2, v3, v4, v5, σ)) → WW Γ cX3_guardedTrain 7 RX3 (some .int) rX3_guardedTrain σ 34 [(0, .ref (xd Γ 36)), (2, .int v2), (3, .int v3), (4, .int v4), (5, .int v5)] []) (v2 : Int32) (v3 : Int32) (v4 : Int32) (v5 : Int32) (k0 : Int32) (σ : St) (h : RR vI Γ (f_X3_guardedTrain_78 K34 v2 v3 v4 v5 k0 σ)) : WW Γ cX3_guardedTrain 7 RX3 (some .int) rX3_guardedTrain σ 78 [(0, .ref (xd Γ 36)), (2, .int v2), (3, .int v3), (4, .int v4), (5, .int v5)] [.int k0] := by
  unfold f_X3_guardedTrain_78 at h
  refine w_istore [(6, .int k0), (0, .ref (xd Γ 36)), (2, .int v2), (3, .int v3), (4, .int v4), (5, .int v5)] dX3_guardedTrain_78 (by decide) rfl rfl ?_
  refine w_iload 0 dX3_guardedTrain_80 rfl rfl ?_
  refine w_iload_n 3 dX3_guardedTrain_82 rfl rfl rfl ?_
  refine w_icmp_le (tgt := 93) dX3_guardedTrain_83 (by decide) rfl (fun q => ?_) (fun q => ?_)
  · have h := h.tt q
    exact w_sub [1, 2, 3, 4, 5] rfl (b_X3_guardedTrain_93 K34 hK34 v2 v3 v4 v5 σ h)
  · have h := h.ff q
    refine w_iload 0 dX3_guardedTrain_86 rfl rfl ?_
    refine w_istore_n [(3, .int k0), (6, .int k0), (0, .ref (xd Γ 36)), (2, .int v2), (4, .int v4), (5, .int v5)] dX3_guardedTrain_88 rfl (by decide) rfl rfl ?_
    refine w_iload 5 dX3_guardedTrain_89 rfl rfl ?_
    refine w_istore [(4, .int v5), (3, .int k0), (6, .int k0), (0, .ref (xd Γ 36)), (2, .int v2), (5, .int v5)] dX3_guardedTrain_91 (by decide) rfl rfl ?_
    exact w_sub [3, 4, 1, 0, 5] rfl (b_X3_guardedTrain_93 K34 hK34 v2 k0 v5 v5 σ h)
def g_X3_guardedTrain_34 (K34 : Int32 × Int32 × Int32 × Int32 × St → Option (Int32 × St)) (x : Int32 × Int32 × Int32 × Int32 × St) : Option (Int32 × St) := match x with
  | (v2, v3, v4, v5, σ) =>
  if (gf σ 3 3) ≤ v5 then
    some (v4, σ)
  else
    bd (f_X10_isIn v2 v5 σ) fun r1 s2 =>
    if r1 = 0 then
      f_X3_guardedTrain_78 K34 v2 v3 v4 v5 (0 : Int32) s2
    else
      bd (f_X3_cheapest (v2 &&& (((1 : Int32) <<< (v5 &&& 31)) ^^^ (-1 : Int32))) s2) fun r4 s5 =>
      bd (f_X3_orPriceless r4 s5) fun r7 s8 =>
      f_X3_guardedTrain_78 K34 v2 v3 v4 v5 r7 s8
theorem l_X3_guardedTrain_34 {Γ : CX} : ∀ (n : Nat) (v2 : Int32) (v3 : Int32) (v4 : Int32) (v5 : Int32) (σ : St), RR vI Γ (itr (g_X3_guardedTrain_34) n (v2, v3, v4, v5, σ)) → WW Γ cX3_guardedTrain 7 RX3 (some .int) rX3_guardedTrain σ 34 [(0, .ref (xd Γ 36)), (2, .int v2), (3, .int v3), (4, .int v4), (5, .int v5)] [] := by
  intro n
  induction n with
  | zero => intro v2 v3 v4 v5 σ h; exact RR.no h
  | succ n hK34 =>
  intro v2 v3 v4 v5 σ h
  have h : RR vI Γ (g_X3_guardedTrain_34 (itr (g_X3_guardedTrain_34) n) (v2, v3, v4, v5, σ)) := h
  generalize itr (g_X3_guardedTrain_34) n = K34 at h hK34
  unfold g_X3_guardedTrain_34 at h
  dsimp only at h
  refine w_iload 4 dX3_guardedTrain_34 rfl rfl ?_
  refine w_aload_n 0 dX3_guardedTrain_36 rfl rfl rfl ?_
  refine gf_RX3_32 dX3_guardedTrain_37 rfl ?_
  refine gf_RX3_79 (i := 1) (isW_lit (by decide)) dX3_guardedTrain_40 rfl ?_
  refine gf_RX3_83 (i := 3) (isT_lit (by decide)) dX3_guardedTrain_43 rfl ?_
  refine w_icmp_ge (tgt := 99) dX3_guardedTrain_46 (by decide) rfl (fun q => ?_) (fun q => ?_)
  · have h := h.tt q
    refine w_iload 3 dX3_guardedTrain_99 rfl rfl ?_
    exact w_ireturn dX3_guardedTrain_101 h
  · have h := h.ff q
    refine w_iload_n 1 dX3_guardedTrain_49 rfl rfl rfl ?_
    refine w_iload 4 dX3_guardedTrain_50 rfl rfl ?_
    obtain ⟨r1, s2, h3, h⟩ := h.bd
    refine k_X10_isIn ml_RX3_89 (Nat.le_of_ble_eq_true rfl) ⟨Nat.le_of_ble_eq_true rfl, Nat.le_of_ble_eq_true rfl⟩ dX3_guardedTrain_52 rfl h3 ?_
    refine w_if_eq (tgt := 77) dX3_guardedTrain_55 (by decide) rfl (fun q => ?_) (fun q => ?_)
    · have h := h.tt q
      refine w_iconst (0 : Int32) dX3_guardedTrain_77 ic_iconst_0 rfl ?_
      exact w_sub [0, 1, 2, 3, 4] rfl (b_X3_guardedTrain_78 K34 hK34 v2 v3 v4 v5 (0 : Int32) s2 h)
    · have h := h.ff q
      refine w_aload_n 0 dX3_guardedTrain_58 rfl rfl rfl ?_
      refine w_aload_n 0 dX3_guardedTrain_59 rfl rfl rfl ?_
      refine w_iload_n 1 dX3_guardedTrain_60 rfl rfl rfl ?_
      refine w_iconst (1 : Int32) dX3_guardedTrain_61 ic_iconst_1 rfl ?_
      refine w_iload 4 dX3_guardedTrain_62 rfl rfl ?_
      refine w_ishl dX3_guardedTrain_64 rfl ?_
      refine w_iconst (-1 : Int32) dX3_guardedTrain_65 ic_iconst_m1 rfl ?_
      refine w_ixor dX3_guardedTrain_66 rfl ?_
      refine w_iand dX3_guardedTrain_67 rfl ?_
      obtain ⟨r4, s5, h6, h⟩ := h.bd
      refine k_X3_cheapest ml_RX3_70 (Nat.le_of_ble_eq_true rfl) ⟨Nat.le_of_ble_eq_true rfl, Nat.le_of_ble_eq_true rfl⟩ dX3_guardedTrain_68 rfl h6 ?_
      obtain ⟨r7, s8, h9, h⟩ := h.bd
      refine k_X3_orPriceless ml_RX3_76 (Nat.le_of_ble_eq_true rfl) ⟨Nat.le_of_ble_eq_true rfl, Nat.le_of_ble_eq_true rfl⟩ dX3_guardedTrain_71 rfl h9 ?_
      refine w_goto (tgt := 78) dX3_guardedTrain_74 (by decide) ?_
      exact w_sub [0, 1, 2, 3, 4] rfl (b_X3_guardedTrain_78 K34 hK34 v2 v3 v4 v5 r7 s8 h)
def f_X3_guardedTrain (p0 : Int32) (σ : St) : Option (Int32 × St) :=
  bd (f_X3_takePrices σ) fun _ s2 =>
  bd (f_X3_fitByDelays p0 s2) fun _ s5 =>
  bd (f_X10_trainsOf 1 p0 s5) fun r7 s8 =>
  bd (f_X3_cheapest r7 s8) fun r10 s11 =>
  bd (f_X3_orPriceless r10 s11) fun r13 s14 =>
  itr (g_X3_guardedTrain_34) FU (r7, r13, (-1 : Int32), (0 : Int32), s14)
theorem e_X3_guardedTrain {Γ : CX} (p0 : Int32) (σ : St) (h : RR vI Γ (f_X3_guardedTrain p0 σ)) : WW Γ cX3_guardedTrain 7 RX3 (some .int) rX3_guardedTrain σ 0 [(0, .ref (xd Γ 36)), (1, .int p0)] [] := by
  unfold f_X3_guardedTrain at h
  refine w_aload_n 0 dX3_guardedTrain_0 rfl rfl rfl ?_
  obtain ⟨r1, s2, h3, h⟩ := h.bd
  refine k_X3_takePrices ml_RX3_67 (Nat.le_of_ble_eq_true rfl) ⟨Nat.le_of_ble_eq_true rfl, Nat.le_of_ble_eq_true rfl⟩ dX3_guardedTrain_1 rfl h3 ?_
  refine w_aload_n 0 dX3_guardedTrain_4 rfl rfl rfl ?_
  refine w_iload_n 1 dX3_guardedTrain_5 rfl rfl rfl ?_
  obtain ⟨r4, s5, h6, h⟩ := h.bd
  refine k_X3_fitByDelays ml_RX3_73 (Nat.le_of_ble_eq_true rfl) ⟨Nat.le_of_ble_eq_true rfl, Nat.le_of_ble_eq_true rfl⟩ dX3_guardedTrain_6 rfl h6 ?_
  refine w_aload_n 0 dX3_guardedTrain_9 rfl rfl rfl ?_
  refine gf_RX3_32 dX3_guardedTrain_10 rfl ?_
  refine w_iload_n 1 dX3_guardedTrain_13 rfl rfl rfl ?_
  obtain ⟨r7, s8, h9, h⟩ := h.bd
  refine k_X10_trainsOf ml_RX3_44 (Nat.le_of_ble_eq_true rfl) ⟨Nat.le_of_ble_eq_true rfl, Nat.le_of_ble_eq_true rfl⟩ dX3_guardedTrain_14 rfl h9 ?_
  refine w_istore_n [(2, .int r7), (0, .ref (xd Γ 36)), (1, .int p0)] dX3_guardedTrain_17 rfl (by decide) rfl rfl ?_
  refine w_aload_n 1 dX3_guardedTrain_18 rfl rfl rfl ?_
  refine w_aload_n 1 dX3_guardedTrain_19 rfl rfl rfl ?_
  refine w_iload_n 0 dX3_guardedTrain_20 rfl rfl rfl ?_
  obtain ⟨r10, s11, h12, h⟩ := h.bd
  refine k_X3_cheapest ml_RX3_70 (Nat.le_of_ble_eq_true rfl) ⟨Nat.le_of_ble_eq_true rfl, Nat.le_of_ble_eq_true rfl⟩ dX3_guardedTrain_21 rfl h12 ?_
  obtain ⟨r13, s14, h15, h⟩ := h.bd
  refine k_X3_orPriceless ml_RX3_76 (Nat.le_of_ble_eq_true rfl) ⟨Nat.le_of_ble_eq_true rfl, Nat.le_of_ble_eq_true rfl⟩ dX3_guardedTrain_24 rfl h15 ?_
  refine w_istore_n [(3, .int r13), (2, .int r7), (0, .ref (xd Γ 36)), (1, .int p0)] dX3_guardedTrain_27 rfl (by decide) rfl rfl ?_
  refine w_iconst (-1 : Int32) dX3_guardedTrain_28 ic_iconst_m1 rfl ?_
  refine w_istore [(4, .int (-1 : Int32)), (3, .int r13), (2, .int r7), (0, .ref (xd Γ 36)), (1, .int p0)] dX3_guardedTrain_29 (by decide) rfl rfl ?_
  refine w_iconst (0 : Int32) dX3_guardedTrain_31 ic_iconst_0 rfl ?_
  refine w_istore [(5, .int (0 : Int32)), (4, .int (-1 : Int32)), (3, .int r13), (2, .int r7), (0, .ref (xd Γ 36)), (1, .int p0)] dX3_guardedTrain_32 (by decide) rfl rfl ?_
  exact w_sub [4, 3, 2, 1, 0] rfl (l_X3_guardedTrain_34 FU r7 r13 (-1 : Int32) (0 : Int32) s14 h)
theorem c_X3_guardedTrain {l : Launch} {D : va_G} {cy : Nat → ClassId} {ad : Nat → Nat} {p0 : Int32} {σ σ' : St} {r : Int32} (hf : f_X3_guardedTrain p0 σ = some (r, σ')) : CT l D cy ad yX3_guardedTrain cX3_guardedTrain 7 (some .int) rX3_guardedTrain [.ref (ad 36), .int p0] σ (some (.int r)) σ' :=
  ct_of (by decide) (Nat.le_of_ble_eq_true rfl) (fun p e s m args below meth c A => e_X3_guardedTrain (Γ := (p, l, e, rX3_guardedTrain, s, m, args, below, meth, c, D, cy, ad, A, 0, 0, ((some (.int r)), σ'))) p0 σ ⟨_, hf, rfl⟩)
theorem k_X3_guardedTrain {Γ : CX} {cc : ByteArray} {nL : Nat} {own : String} {ret : Option FieldType} {rm : Room} {σ σ' : St} {pc pc' idx : Nat} {lv : List (Nat × Value)} {rest : List Value} {p0 : Int32} {r : Int32} (hl : Cond.methodLink own idx yX3_guardedTrain ∈ TB) (hw : (rest.map fun v => v.category).sum ≤ 8) (hR : rX3_guardedTrain.frames + 1 ≤ rm.frames ∧ 8 + (7 + 11) + rX3_guardedTrain.locals ≤ rm.locals) (hd : decode cc pc = .ok (.invokevirtual idx, 3)) (hp : pc + 3 = pc') (hf : f_X3_guardedTrain p0 σ = some (r, σ')) (h : WW Γ cc nL own ret rm σ' pc' lv (.int r :: rest)) : WW Γ cc nL own ret rm σ pc lv (.int p0 :: .ref (xd Γ 36) :: rest) :=
  w_callV (nn := 1) (i := 36) (As := [.int p0]) (v := (some (.int r))) (T := TX3) (N := 8) (c_X3_guardedTrain hf) hl mw_X3_guardedTrain (by decide +kernel) ⟨rfl, rfl⟩ hR (lt_lit (by decide)) cel_36 rfl rfl hw hd rfl hp h
/-! WarByHours.Fares.spoiledSet (II)I -/
def rX3_spoiledSet : Room := { frames := 6, cells := 0, slots := 0, locals := 138 }
def f_X3_spoiledSet_85 (K26 : Int32 × Int32 × Int32 × Int32 × Int32 × St → Option (Int32 × St)) (v1 : Int32) (v2 : Int32) (v3 : Int32) (v4 : Int32) (v5 : Int32) (σ : St) : Option (Int32 × St) :=
  bnd (v5 + (1 : Int32)) fun x1 =>
  K26 (v1, v2, v3, v4, x1, σ)
theorem b_X3_spoiledSet_85 {Γ : CX} (K26 : Int32 × Int32 × Int32 × Int32 × Int32 × St → Option (Int32 × St)) (hK26 : ∀ (v1 : Int32) (v2 : Int32) (v3 : Int32) (v4 : Int32) (v5 : Int32) (σ : St), RR vI Γ (K26 (v1, v2, v3, v4, v5, σ)) → WW Γ cX3_spoiledSet 6 RX3 (some .int) rX3_spoiledSet σ 26 [(0, .ref (xd Γ 36)), (1, .int v1), (2, .int v2), (3, .int v3), (4, .int v4), (5, .int v5)] []) (v1 : Int32) (v2 : Int32) (v3 : Int32) (v4 : Int32) (v5 : Int32) (σ : St) (h : RR vI Γ (f_X3_spoiledSet_85 K26 v1 v2 v3 v4 v5 σ)) : WW Γ cX3_spoiledSet 6 RX3 (some .int) rX3_spoiledSet σ 85 [(0, .ref (xd Γ 36)), (1, .int v1), (2, .int v2), (3, .int v3), (4, .int v4), (5, .int v5)] [] := by
  unfold f_X3_spoiledSet_85 at h
  obtain ⟨x1, ex1⟩ : ∃ y : Int32, y = (v5 + (1 : Int32)) := ⟨_, rfl⟩
  replace h := h.bnd ex1
  refine w_iinc 5 x1 [(5, .int x1), (0, .ref (xd Γ 36)), (1, .int v1), (2, .int v2), (3, .int v3), (4, .int v4)] dX3_spoiledSet_85 rfl (by rw [ex1, ic_iconst_1]) (by decide) rfl rfl ?_
  clear ex1
  refine w_goto (tgt := 26) dX3_spoiledSet_88 (by decide) ?_
  exact w_sub [1, 2, 3, 4, 5, 0] rfl (hK26 v1 v2 v3 v4 x1 σ h)
def g_X3_spoiledSet_26 (K26 : Int32 × Int32 × Int32 × Int32 × Int32 × St → Option (Int32 × St)) (x : Int32 × Int32 × Int32 × Int32 × Int32 × St) : Option (Int32 × St) := match x with
  | (v1, v2, v3, v4, v5, σ) =>
  bd (f_X10_sets 1 σ) fun r1 s2 =>
  if r1 ≤ v5 then
    some (v4, s2)
  else
    if (v5 &&& (v3 ^^^ (-1 : Int32))) = 0 then
      gd (inb v5 (ln 37)) <|
      if v2 < (gr s2 37 v5.toNatClampNeg) then
        f_X3_spoiledSet_85 K26 v1 v2 v3 v4 v5 s2
      else
        bd (f_X2_goodAtEnd v1 v5 s2) fun r5 s6 =>
        bd (f_X2_goodAtEnd v1 v4 s6) fun r8 s9 =>
        if r8 ≤ r5 then
          f_X3_spoiledSet_85 K26 v1 v2 v3 v4 v5 s9
        else
          f_X3_spoiledSet_85 K26 v1 v2 v3 v5 v5 s9
    else
      f_X3_spoiledSet_85 K26 v1 v2 v3 v4 v5 s2
theorem l_X3_spoiledSet_26 {Γ : CX} : ∀ (n : Nat) (v1 : Int32) (v2 : Int32) (v3 : Int32) (v4 : Int32) (v5 : Int32) (σ : St), RR vI Γ (itr (g_X3_spoiledSet_26) n (v1, v2, v3, v4, v5, σ)) → WW Γ cX3_spoiledSet 6 RX3 (some .int) rX3_spoiledSet σ 26 [(0, .ref (xd Γ 36)), (1, .int v1), (2, .int v2), (3, .int v3), (4, .int v4), (5, .int v5)] [] := by
  intro n
  induction n with
  | zero => intro v1 v2 v3 v4 v5 σ h; exact RR.no h
  | succ n hK26 =>
  intro v1 v2 v3 v4 v5 σ h
  have h : RR vI Γ (g_X3_spoiledSet_26 (itr (g_X3_spoiledSet_26) n) (v1, v2, v3, v4, v5, σ)) := h
  generalize itr (g_X3_spoiledSet_26) n = K26 at h hK26
  unfold g_X3_spoiledSet_26 at h
  dsimp only at h
  refine w_iload 5 dX3_spoiledSet_26 rfl rfl ?_
  refine w_aload_n 0 dX3_spoiledSet_28 rfl rfl rfl ?_
  refine gf_RX3_32 dX3_spoiledSet_29 rfl ?_
  obtain ⟨r1, s2, h3, h⟩ := h.bd
  refine k_X10_sets ml_RX3_58 (Nat.le_of_ble_eq_true rfl) ⟨Nat.le_of_ble_eq_true rfl, Nat.le_of_ble_eq_true rfl⟩ dX3_spoiledSet_32 rfl h3 ?_
  refine w_icmp_ge (tgt := 91) dX3_spoiledSet_35 (by decide) rfl (fun q => ?_) (fun q => ?_)
  · have h := h.tt q
    refine w_iload 4 dX3_spoiledSet_91 rfl rfl ?_
    exact w_ireturn dX3_spoiledSet_93 h
  · have h := h.ff q
    refine w_iload 5 dX3_spoiledSet_38 rfl rfl ?_
    refine w_iload_n 3 dX3_spoiledSet_40 rfl rfl rfl ?_
    refine w_iconst (-1 : Int32) dX3_spoiledSet_41 ic_iconst_m1 rfl ?_
    refine w_ixor dX3_spoiledSet_42 rfl ?_
    refine w_iand dX3_spoiledSet_43 rfl ?_
    refine w_if_ne (tgt := 85) dX3_spoiledSet_44 (by decide) rfl (fun q => ?_) (fun q => ?_)
    · have h := h.ff q
      exact w_sub [0, 1, 2, 3, 4, 5] rfl (b_X3_spoiledSet_85 K26 hK26 v1 v2 v3 v4 v5 s2 h)
    · have h := h.tt q
      refine w_aload_n 0 dX3_spoiledSet_47 rfl rfl rfl ?_
      refine gf_RX3_9 dX3_spoiledSet_48 rfl ?_
      refine w_iload 5 dX3_spoiledSet_51 rfl rfl ?_
      obtain ⟨hi4, h⟩ := h.gd
      refine w_iald (i := 37) (lt_lit (by decide)) rfl hi4 dX3_spoiledSet_53 rfl ?_
      refine w_iload_n 2 dX3_spoiledSet_54 rfl rfl rfl ?_
      refine w_icmp_gt (tgt := 85) dX3_spoiledSet_55 (by decide) rfl (fun q => ?_) (fun q => ?_)
      · have h := h.tt q
        exact w_sub [0, 1, 2, 3, 4, 5] rfl (b_X3_spoiledSet_85 K26 hK26 v1 v2 v3 v4 v5 s2 h)
      · have h := h.ff q
        refine w_aload_n 0 dX3_spoiledSet_58 rfl rfl rfl ?_
        refine gf_RX3_36 dX3_spoiledSet_59 rfl ?_
        refine w_iload_n 1 dX3_spoiledSet_62 rfl rfl rfl ?_
        refine w_iload 5 dX3_spoiledSet_63 rfl rfl ?_
        obtain ⟨r5, s6, h7, h⟩ := h.bd
        refine k_X2_goodAtEnd ml_RX3_98 (Nat.le_of_ble_eq_true rfl) ⟨Nat.le_of_ble_eq_true rfl, Nat.le_of_ble_eq_true rfl⟩ dX3_spoiledSet_65 rfl h7 ?_
        refine w_aload_n 0 dX3_spoiledSet_68 rfl rfl rfl ?_
        refine gf_RX3_36 dX3_spoiledSet_69 rfl ?_
        refine w_iload_n 1 dX3_spoiledSet_72 rfl rfl rfl ?_
        refine w_iload 4 dX3_spoiledSet_73 rfl rfl ?_
        obtain ⟨r8, s9, h10, h⟩ := h.bd
        refine k_X2_goodAtEnd ml_RX3_98 (Nat.le_of_ble_eq_true rfl) ⟨Nat.le_of_ble_eq_true rfl, Nat.le_of_ble_eq_true rfl⟩ dX3_spoiledSet_75 rfl h10 ?_
        refine w_icmp_ge (tgt := 85) dX3_spoiledSet_78 (by decide) rfl (fun q => ?_) (fun q => ?_)
        · have h := h.tt q
          exact w_sub [0, 1, 2, 3, 4, 5] rfl (b_X3_spoiledSet_85 K26 hK26 v1 v2 v3 v4 v5 s9 h)
        · have h := h.ff q
          refine w_iload 5 dX3_spoiledSet_81 rfl rfl ?_
          refine w_istore [(4, .int v5), (0, .ref (xd Γ 36)), (1, .int v1), (2, .int v2), (3, .int v3), (5, .int v5)] dX3_spoiledSet_83 (by decide) rfl rfl ?_
          exact w_sub [1, 2, 3, 4, 0, 5] rfl (b_X3_spoiledSet_85 K26 hK26 v1 v2 v3 v5 v5 s9 h)
def f_X3_spoiledSet (p0 : Int32) (p1 : Int32) (σ : St) : Option (Int32 × St) :=
  bd (f_X2_reckon σ) fun _ s2 =>
  bd (f_X3_takePrices s2) fun _ s5 =>
  bd (f_X10_trainsOf 1 p0 s5) fun r7 s8 =>
  itr (g_X3_spoiledSet_26) FU (p0, p1, r7, (0 : Int32), (1 : Int32), s8)
theorem e_X3_spoiledSet {Γ : CX} (p0 : Int32) (p1 : Int32) (σ : St) (h : RR vI Γ (f_X3_spoiledSet p0 p1 σ)) : WW Γ cX3_spoiledSet 6 RX3 (some .int) rX3_spoiledSet σ 0 [(0, .ref (xd Γ 36)), (1, .int p0), (2, .int p1)] [] := by
  unfold f_X3_spoiledSet at h
  refine w_aload_n 0 dX3_spoiledSet_0 rfl rfl rfl ?_
  refine gf_RX3_36 dX3_spoiledSet_1 rfl ?_
  obtain ⟨r1, s2, h3, h⟩ := h.bd
  refine k_X2_reckon ml_RX3_93 (Nat.le_of_ble_eq_true rfl) ⟨Nat.le_of_ble_eq_true rfl, Nat.le_of_ble_eq_true rfl⟩ dX3_spoiledSet_4 rfl h3 ?_
  refine w_aload_n 0 dX3_spoiledSet_7 rfl rfl rfl ?_
  obtain ⟨r4, s5, h6, h⟩ := h.bd
  refine k_X3_takePrices ml_RX3_67 (Nat.le_of_ble_eq_true rfl) ⟨Nat.le_of_ble_eq_true rfl, Nat.le_of_ble_eq_true rfl⟩ dX3_spoiledSet_8 rfl h6 ?_
  refine w_aload_n 0 dX3_spoiledSet_11 rfl rfl rfl ?_
  refine gf_RX3_32 dX3_spoiledSet_12 rfl ?_
  refine w_iload_n 1 dX3_spoiledSet_15 rfl rfl rfl ?_
  obtain ⟨r7, s8, h9, h⟩ := h.bd
  refine k_X10_trainsOf ml_RX3_44 (Nat.le_of_ble_eq_true rfl) ⟨Nat.le_of_ble_eq_true rfl, Nat.le_of_ble_eq_true rfl⟩ dX3_spoiledSet_16 rfl h9 ?_
  refine w_istore_n [(3, .int r7), (0, .ref (xd Γ 36)), (1, .int p0), (2, .int p1)] dX3_spoiledSet_19 rfl (by decide) rfl rfl ?_
  refine w_iconst (0 : Int32) dX3_spoiledSet_20 ic_iconst_0 rfl ?_
  refine w_istore [(4, .int (0 : Int32)), (3, .int r7), (0, .ref (xd Γ 36)), (1, .int p0), (2, .int p1)] dX3_spoiledSet_21 (by decide) rfl rfl ?_
  refine w_iconst (1 : Int32) dX3_spoiledSet_23 ic_iconst_1 rfl ?_
  refine w_istore [(5, .int (1 : Int32)), (4, .int (0 : Int32)), (3, .int r7), (0, .ref (xd Γ 36)), (1, .int p0), (2, .int p1)] dX3_spoiledSet_24 (by decide) rfl rfl ?_
  exact w_sub [3, 4, 5, 2, 1, 0] rfl (l_X3_spoiledSet_26 FU p0 p1 r7 (0 : Int32) (1 : Int32) s8 h)
theorem c_X3_spoiledSet {l : Launch} {D : va_G} {cy : Nat → ClassId} {ad : Nat → Nat} {p0 : Int32} {p1 : Int32} {σ σ' : St} {r : Int32} (hf : f_X3_spoiledSet p0 p1 σ = some (r, σ')) : CT l D cy ad yX3_spoiledSet cX3_spoiledSet 6 (some .int) rX3_spoiledSet [.ref (ad 36), .int p0, .int p1] σ (some (.int r)) σ' :=
  ct_of (by decide) (Nat.le_of_ble_eq_true rfl) (fun p e s m args below meth c A => e_X3_spoiledSet (Γ := (p, l, e, rX3_spoiledSet, s, m, args, below, meth, c, D, cy, ad, A, 0, 0, ((some (.int r)), σ'))) p0 p1 σ ⟨_, hf, rfl⟩)
theorem k_X3_spoiledSet {Γ : CX} {cc : ByteArray} {nL : Nat} {own : String} {ret : Option FieldType} {rm : Room} {σ σ' : St} {pc pc' idx : Nat} {lv : List (Nat × Value)} {rest : List Value} {p0 : Int32} {p1 : Int32} {r : Int32} (hl : Cond.methodLink own idx yX3_spoiledSet ∈ TB) (hw : (rest.map fun v => v.category).sum ≤ 8) (hR : rX3_spoiledSet.frames + 1 ≤ rm.frames ∧ 8 + (6 + 11) + rX3_spoiledSet.locals ≤ rm.locals) (hd : decode cc pc = .ok (.invokevirtual idx, 3)) (hp : pc + 3 = pc') (hf : f_X3_spoiledSet p0 p1 σ = some (r, σ')) (h : WW Γ cc nL own ret rm σ' pc' lv (.int r :: rest)) : WW Γ cc nL own ret rm σ pc lv (.int p1 :: .int p0 :: .ref (xd Γ 36) :: rest) :=
  w_callV (nn := 2) (i := 36) (As := [.int p0, .int p1]) (v := (some (.int r))) (T := TX3) (N := 8) (c_X3_spoiledSet hf) hl mw_X3_spoiledSet (by decide +kernel) ⟨rfl, rfl⟩ hR (lt_lit (by decide)) cel_36 rfl rfl hw hd rfl hp h
/-! WarByHours.Fares.meetAnswers (II)V -/
def rX3_meetAnswers : Room := { frames := 2, cells := 0, slots := 0, locals := 45 }
def f_X3_meetAnswers_119 (K34 : Int32 × Int32 × Int32 × Int32 × St → Option (Unit × St)) (v1 : Int32) (v2 : Int32) (v3 : Int32) (v4 : Int32) (σ : St) : Option (Unit × St) :=
  bnd (v4 + (1 : Int32)) fun x1 =>
  K34 (v1, v2, v3, x1, σ)
theorem b_X3_meetAnswers_119 {Γ : CX} (K34 : Int32 × Int32 × Int32 × Int32 × St → Option (Unit × St)) (hK34 : ∀ (v1 : Int32) (v2 : Int32) (v3 : Int32) (v4 : Int32) (σ : St), RR vU Γ (K34 (v1, v2, v3, v4, σ)) → WW Γ cX3_meetAnswers 6 RX3 none rX3_meetAnswers σ 34 [(0, .ref (xd Γ 36)), (1, .int v1), (2, .int v2), (3, .int v3), (4, .int v4)] []) (v1 : Int32) (v2 : Int32) (v3 : Int32) (v4 : Int32) (σ : St) (h : RR vU Γ (f_X3_meetAnswers_119 K34 v1 v2 v3 v4 σ)) : WW Γ cX3_meetAnswers 6 RX3 none rX3_meetAnswers σ 119 [(0, .ref (xd Γ 36)), (1, .int v1), (2, .int v2), (3, .int v3), (4, .int v4)] [] := by
  unfold f_X3_meetAnswers_119 at h
  obtain ⟨x1, ex1⟩ : ∃ y : Int32, y = (v4 + (1 : Int32)) := ⟨_, rfl⟩
  replace h := h.bnd ex1
  refine w_iinc 4 x1 [(4, .int x1), (0, .ref (xd Γ 36)), (1, .int v1), (2, .int v2), (3, .int v3)] dX3_meetAnswers_119 rfl (by rw [ex1, ic_iconst_1]) (by decide) rfl rfl ?_
  clear ex1
  refine w_goto (tgt := 34) dX3_meetAnswers_122 (by decide) ?_
  exact w_sub [1, 2, 3, 4, 0] rfl (hK34 v1 v2 v3 x1 σ h)
def g_X3_meetAnswers_34 (K34 : Int32 × Int32 × Int32 × Int32 × St → Option (Unit × St)) (x : Int32 × Int32 × Int32 × Int32 × St) : Option (Unit × St) := match x with
  | (v1, v2, v3, v4, σ) =>
  bd (f_X10_sets 1 σ) fun r1 s2 =>
  if r1 ≤ v4 then
    some ((), s2)
  else
    bd (f_X3_isBought v4 v3 v2 s2) fun r4 s5 =>
    if r4 = 0 then
      f_X3_meetAnswers_119 K34 v1 v2 v3 v4 s5
    else
      bd (f_X2_goodAtEnd v1 v4 s5) fun r7 s8 =>
      gd (inb (v4 &&& v3) (ln 41)) <|
      gd (inb (v4 &&& v3) (ln 41)) <|
      bnd (sr s8 41 (v4 &&& v3).toNatClampNeg (if (gr s8 41 (v4 &&& v3).toNatClampNeg) < r7 then r7 else (gr s8 41 (v4 &&& v3).toNatClampNeg))) fun s12 =>
      gd (inb (v4 &&& (v3 ^^^ (-1 : Int32))) (ln 42)) <|
      gd (inb (v4 &&& (v3 ^^^ (-1 : Int32))) (ln 42)) <|
      bnd (sr s12 42 (v4 &&& (v3 ^^^ (-1 : Int32))).toNatClampNeg (if r7 < (gr s12 42 (v4 &&& (v3 ^^^ (-1 : Int32))).toNatClampNeg) then r7 else (gr s12 42 (v4 &&& (v3 ^^^ (-1 : Int32))).toNatClampNeg))) fun s15 =>
      f_X3_meetAnswers_119 K34 v1 v2 v3 v4 s15
theorem l_X3_meetAnswers_34 {Γ : CX} : ∀ (n : Nat) (v1 : Int32) (v2 : Int32) (v3 : Int32) (v4 : Int32) (σ : St), RR vU Γ (itr (g_X3_meetAnswers_34) n (v1, v2, v3, v4, σ)) → WW Γ cX3_meetAnswers 6 RX3 none rX3_meetAnswers σ 34 [(0, .ref (xd Γ 36)), (1, .int v1), (2, .int v2), (3, .int v3), (4, .int v4)] [] := by
  intro n
  induction n with
  | zero => intro v1 v2 v3 v4 σ h; exact RR.no h
  | succ n hK34 =>
  intro v1 v2 v3 v4 σ h
  have h : RR vU Γ (g_X3_meetAnswers_34 (itr (g_X3_meetAnswers_34) n) (v1, v2, v3, v4, σ)) := h
  generalize itr (g_X3_meetAnswers_34) n = K34 at h hK34
  unfold g_X3_meetAnswers_34 at h
  dsimp only at h
  refine w_iload 4 dX3_meetAnswers_34 rfl rfl ?_
  refine w_aload_n 0 dX3_meetAnswers_36 rfl rfl rfl ?_
  refine gf_RX3_32 dX3_meetAnswers_37 rfl ?_
  obtain ⟨r1, s2, h3, h⟩ := h.bd
  refine k_X10_sets ml_RX3_58 (Nat.le_of_ble_eq_true rfl) ⟨Nat.le_of_ble_eq_true rfl, Nat.le_of_ble_eq_true rfl⟩ dX3_meetAnswers_40 rfl h3 ?_
  refine w_icmp_ge (tgt := 125) dX3_meetAnswers_43 (by decide) rfl (fun q => ?_) (fun q => ?_)
  · have h := h.tt q
    exact w_return dX3_meetAnswers_125 h
  · have h := h.ff q
    refine w_aload_n 0 dX3_meetAnswers_46 rfl rfl rfl ?_
    refine w_iload 4 dX3_meetAnswers_47 rfl rfl ?_
    refine w_iload_n 3 dX3_meetAnswers_49 rfl rfl rfl ?_
    refine w_iload_n 2 dX3_meetAnswers_50 rfl rfl rfl ?_
    obtain ⟨r4, s5, h6, h⟩ := h.bd
    refine k_X3_isBought ml_RX3_110 (Nat.le_of_ble_eq_true rfl) ⟨Nat.le_of_ble_eq_true rfl, Nat.le_of_ble_eq_true rfl⟩ dX3_meetAnswers_51 rfl h6 ?_
    refine w_if_eq (tgt := 119) dX3_meetAnswers_54 (by decide) rfl (fun q => ?_) (fun q => ?_)
    · have h := h.tt q
      exact w_sub [0, 1, 2, 3, 4] rfl (b_X3_meetAnswers_119 K34 hK34 v1 v2 v3 v4 s5 h)
    · have h := h.ff q
      refine w_aload_n 0 dX3_meetAnswers_57 rfl rfl rfl ?_
      refine gf_RX3_36 dX3_meetAnswers_58 rfl ?_
      refine w_iload_n 1 dX3_meetAnswers_61 rfl rfl rfl ?_
      refine w_iload 4 dX3_meetAnswers_62 rfl rfl ?_
      obtain ⟨r7, s8, h9, h⟩ := h.bd
      refine k_X2_goodAtEnd ml_RX3_98 (Nat.le_of_ble_eq_true rfl) ⟨Nat.le_of_ble_eq_true rfl, Nat.le_of_ble_eq_true rfl⟩ dX3_meetAnswers_64 rfl h9 ?_
      refine w_istore [(5, .int r7), (0, .ref (xd Γ 36)), (1, .int v1), (2, .int v2), (3, .int v3), (4, .int v4)] dX3_meetAnswers_67 (by decide) rfl rfl ?_
      refine w_aload_n 1 dX3_meetAnswers_69 rfl rfl rfl ?_
      refine gf_RX3_26 dX3_meetAnswers_70 rfl ?_
      refine w_iload 5 dX3_meetAnswers_73 rfl rfl ?_
      refine w_iload_n 4 dX3_meetAnswers_75 rfl rfl rfl ?_
      refine w_iand dX3_meetAnswers_76 rfl ?_
      refine w_aload_n 1 dX3_meetAnswers_77 rfl rfl rfl ?_
      refine gf_RX3_26 dX3_meetAnswers_78 rfl ?_
      refine w_iload 5 dX3_meetAnswers_81 rfl rfl ?_
      refine w_iload_n 4 dX3_meetAnswers_83 rfl rfl rfl ?_
      refine w_iand dX3_meetAnswers_84 rfl ?_
      obtain ⟨hi10, h⟩ := h.gd
      refine w_iald (i := 41) (lt_lit (by decide)) rfl hi10 dX3_meetAnswers_85 rfl ?_
      refine w_iload 0 dX3_meetAnswers_86 rfl rfl ?_
      refine w_mmax ml_RX3_121 (Nat.le_of_ble_eq_true rfl) ⟨Nat.le_of_ble_eq_true rfl, Nat.le_of_ble_eq_true rfl⟩ dX3_meetAnswers_88 rfl ?_
      obtain ⟨hi11, h⟩ := h.gd
      refine w_iast (i := 41) (lt_lit (by decide)) rfl hi11 dX3_meetAnswers_91 rfl ?_
      obtain ⟨s12, es12⟩ : ∃ y : St, y = (sr s8 41 (v4 &&& v3).toNatClampNeg (if (gr s8 41 (v4 &&& v3).toNatClampNeg) < r7 then r7 else (gr s8 41 (v4 &&& v3).toNatClampNeg))) := ⟨_, rfl⟩
      rw [← es12]
      replace h := h.bnd es12
      clear es12
      refine w_aload_n 1 dX3_meetAnswers_92 rfl rfl rfl ?_
      refine gf_RX3_29 dX3_meetAnswers_93 rfl ?_
      refine w_iload 5 dX3_meetAnswers_96 rfl rfl ?_
      refine w_iload_n 4 dX3_meetAnswers_98 rfl rfl rfl ?_
      refine w_iconst (-1 : Int32) dX3_meetAnswers_99 ic_iconst_m1 rfl ?_
      refine w_ixor dX3_meetAnswers_100 rfl ?_
      refine w_iand dX3_meetAnswers_101 rfl ?_
      refine w_aload_n 1 dX3_meetAnswers_102 rfl rfl rfl ?_
      refine gf_RX3_29 dX3_meetAnswers_103 rfl ?_
      refine w_iload 5 dX3_meetAnswers_106 rfl rfl ?_
      refine w_iload_n 4 dX3_meetAnswers_108 rfl rfl rfl ?_
      refine w_iconst (-1 : Int32) dX3_meetAnswers_109 ic_iconst_m1 rfl ?_
      refine w_ixor dX3_meetAnswers_110 rfl ?_
      refine w_iand dX3_meetAnswers_111 rfl ?_
      obtain ⟨hi13, h⟩ := h.gd
      refine w_iald (i := 42) (lt_lit (by decide)) rfl hi13 dX3_meetAnswers_112 rfl ?_
      refine w_iload 0 dX3_meetAnswers_113 rfl rfl ?_
      refine w_mmin ml_RX3_105 (Nat.le_of_ble_eq_true rfl) ⟨Nat.le_of_ble_eq_true rfl, Nat.le_of_ble_eq_true rfl⟩ dX3_meetAnswers_115 rfl ?_
      obtain ⟨hi14, h⟩ := h.gd
      refine w_iast (i := 42) (lt_lit (by decide)) rfl hi14 dX3_meetAnswers_118 rfl ?_
      obtain ⟨s15, es15⟩ : ∃ y : St, y = (sr s12 42 (v4 &&& (v3 ^^^ (-1 : Int32))).toNatClampNeg (if r7 < (gr s12 42 (v4 &&& (v3 ^^^ (-1 : Int32))).toNatClampNeg) then r7 else (gr s12 42 (v4 &&& (v3 ^^^ (-1 : Int32))).toNatClampNeg))) := ⟨_, rfl⟩
      rw [← es15]
      replace h := h.bnd es15
      clear es15
      exact w_sub [1, 2, 3, 4, 5] rfl (b_X3_meetAnswers_119 K34 hK34 v1 v2 v3 v4 s15 h)
def f_X3_meetAnswers (p0 : Int32) (p1 : Int32) (σ : St) : Option (Unit × St) :=
  bd (f_X3_takePrices σ) fun _ s2 =>
  bd (f_J7_fill_53178 41 (-1000000 : Int32) s2) fun _ s5 =>
  bd (f_J7_fill_53178 42 (1000000 : Int32) s5) fun _ s8 =>
  bd (f_X10_trainsOf 1 p0 s8) fun r10 s11 =>
  itr (g_X3_meetAnswers_34) FU (p0, p1, r10, (0 : Int32), s11)
theorem e_X3_meetAnswers {Γ : CX} (p0 : Int32) (p1 : Int32) (σ : St) (h : RR vU Γ (f_X3_meetAnswers p0 p1 σ)) : WW Γ cX3_meetAnswers 6 RX3 none rX3_meetAnswers σ 0 [(0, .ref (xd Γ 36)), (1, .int p0), (2, .int p1)] [] := by
  unfold f_X3_meetAnswers at h
  refine w_aload_n 0 dX3_meetAnswers_0 rfl rfl rfl ?_
  obtain ⟨r1, s2, h3, h⟩ := h.bd
  refine k_X3_takePrices ml_RX3_67 (Nat.le_of_ble_eq_true rfl) ⟨Nat.le_of_ble_eq_true rfl, Nat.le_of_ble_eq_true rfl⟩ dX3_meetAnswers_1 rfl h3 ?_
  refine w_aload_n 0 dX3_meetAnswers_4 rfl rfl rfl ?_
  refine gf_RX3_26 dX3_meetAnswers_5 rfl ?_
  refine w_ldc (-1000000 : Int32) dX3_meetAnswers_8 cn_RX3_114 rfl ?_
  obtain ⟨r4, s5, h6, h⟩ := h.bd
  refine k_J7_fill_53178 ml_RX3_115 (Nat.le_of_ble_eq_true rfl) ⟨Nat.le_of_ble_eq_true rfl, Nat.le_of_ble_eq_true rfl⟩ dX3_meetAnswers_10 rfl h6 ?_
  refine w_aload_n 0 dX3_meetAnswers_13 rfl rfl rfl ?_
  refine gf_RX3_29 dX3_meetAnswers_14 rfl ?_
  refine w_ldc (1000000 : Int32) dX3_meetAnswers_17 cn_RX3_104 rfl ?_
  obtain ⟨r7, s8, h9, h⟩ := h.bd
  refine k_J7_fill_53178 ml_RX3_115 (Nat.le_of_ble_eq_true rfl) ⟨Nat.le_of_ble_eq_true rfl, Nat.le_of_ble_eq_true rfl⟩ dX3_meetAnswers_19 rfl h9 ?_
  refine w_aload_n 0 dX3_meetAnswers_22 rfl rfl rfl ?_
  refine gf_RX3_32 dX3_meetAnswers_23 rfl ?_
  refine w_iload_n 1 dX3_meetAnswers_26 rfl rfl rfl ?_
  obtain ⟨r10, s11, h12, h⟩ := h.bd
  refine k_X10_trainsOf ml_RX3_44 (Nat.le_of_ble_eq_true rfl) ⟨Nat.le_of_ble_eq_true rfl, Nat.le_of_ble_eq_true rfl⟩ dX3_meetAnswers_27 rfl h12 ?_
  refine w_istore_n [(3, .int r10), (0, .ref (xd Γ 36)), (1, .int p0), (2, .int p1)] dX3_meetAnswers_30 rfl (by decide) rfl rfl ?_
  refine w_iconst (0 : Int32) dX3_meetAnswers_31 ic_iconst_0 rfl ?_
  refine w_istore [(4, .int (0 : Int32)), (3, .int r10), (0, .ref (xd Γ 36)), (1, .int p0), (2, .int p1)] dX3_meetAnswers_32 (by decide) rfl rfl ?_
  exact w_sub [2, 3, 4, 1, 0] rfl (l_X3_meetAnswers_34 FU p0 p1 r10 (0 : Int32) s11 h)
theorem c_X3_meetAnswers {l : Launch} {D : va_G} {cy : Nat → ClassId} {ad : Nat → Nat} {p0 : Int32} {p1 : Int32} {σ σ' : St} {r : Unit} (hf : f_X3_meetAnswers p0 p1 σ = some (r, σ')) : CT l D cy ad yX3_meetAnswers cX3_meetAnswers 6 none rX3_meetAnswers [.ref (ad 36), .int p0, .int p1] σ none σ' :=
  ct_of (by decide) (Nat.le_of_ble_eq_true rfl) (fun p e s m args below meth c A => e_X3_meetAnswers (Γ := (p, l, e, rX3_meetAnswers, s, m, args, below, meth, c, D, cy, ad, A, 0, 0, (none, σ'))) p0 p1 σ ⟨_, hf, rfl⟩)
theorem k_X3_meetAnswers {Γ : CX} {cc : ByteArray} {nL : Nat} {own : String} {ret : Option FieldType} {rm : Room} {σ σ' : St} {pc pc' idx : Nat} {lv : List (Nat × Value)} {rest : List Value} {p0 : Int32} {p1 : Int32} {r : Unit} (hl : Cond.methodLink own idx yX3_meetAnswers ∈ TB) (hw : (rest.map fun v => v.category).sum ≤ 8) (hR : rX3_meetAnswers.frames + 1 ≤ rm.frames ∧ 8 + (6 + 11) + rX3_meetAnswers.locals ≤ rm.locals) (hd : decode cc pc = .ok (.invokevirtual idx, 3)) (hp : pc + 3 = pc') (hf : f_X3_meetAnswers p0 p1 σ = some (r, σ')) (h : WW Γ cc nL own ret rm σ' pc' lv (rest)) : WW Γ cc nL own ret rm σ pc lv (.int p1 :: .int p0 :: .ref (xd Γ 36) :: rest) :=
  w_callV (nn := 2) (i := 36) (As := [.int p0, .int p1]) (v := none) (T := TX3) (N := 8) (c_X3_meetAnswers hf) hl mw_X3_meetAnswers (by decide +kernel) ⟨rfl, rfl⟩ hR (lt_lit (by decide)) cel_36 rfl rfl hw hd rfl hp h
/-! WarByHours.Fares.takeParts (I)V -/
def rX3_takeParts : Room := { frames := 3, cells := 0, slots := 0, locals := 69 }
def f_X3_takeParts_89 (K9 : Int32 × Int32 × St → Option (Unit × St)) (v1 : Int32) (v2 : Int32) (k0 : Int32) (k1 : Int32) (σ : St) : Option (Unit × St) :=
  bd (f_X10_spread 38 k1 k0 σ) fun _ s2 =>
  bnd (v2 + (1 : Int32)) fun x4 =>
  K9 (v1, x4, s2)
theorem b_X3_takeParts_89 {Γ : CX} (K9 : Int32 × Int32 × St → Option (Unit × St)) (hK9 : ∀ (v1 : Int32) (v2 : Int32) (σ : St), RR vU Γ (K9 (v1, v2, σ)) → WW Γ cX3_takeParts 4 RX3 none rX3_takeParts σ 9 [(0, .ref (xd Γ 36)), (1, .int v1), (2, .int v2)] []) (v1 : Int32) (v2 : Int32) (k0 : Int32) (k1 : Int32) (σ : St) (h : RR vU Γ (f_X3_takeParts_89 K9 v1 v2 k0 k1 σ)) : WW Γ cX3_takeParts 4 RX3 none rX3_takeParts σ 89 [(0, .ref (xd Γ 36)), (1, .int v1), (2, .int v2)] [.int k0, .int k1, .ref (xd Γ 38)] := by
  unfold f_X3_takeParts_89 at h
  obtain ⟨r1, s2, h3, h⟩ := h.bd
  refine k_X10_spread ml_RX3_127 (Nat.le_of_ble_eq_true rfl) ⟨Nat.le_of_ble_eq_true rfl, Nat.le_of_ble_eq_true rfl⟩ dX3_takeParts_89 rfl h3 ?_
  obtain ⟨x4, ex4⟩ : ∃ y : Int32, y = (v2 + (1 : Int32)) := ⟨_, rfl⟩
  replace h := h.bnd ex4
  refine w_iinc 2 x4 [(2, .int x4), (0, .ref (xd Γ 36)), (1, .int v1)] dX3_takeParts_92 rfl (by rw [ex4, ic_iconst_1]) (by decide) rfl rfl ?_
  clear ex4
  refine w_goto (tgt := 9) dX3_takeParts_95 (by decide) ?_
  exact w_sub [1, 2, 0] rfl (hK9 v1 x4 s2 h)
def f_X3_takeParts_63 (K9 : Int32 × Int32 × St → Option (Unit × St)) (v1 : Int32) (v2 : Int32) (k0 : Int32) (σ : St) : Option (Unit × St) :=
  if k0 = 0 then
    f_X3_takeParts_89 K9 v1 v2 (0 : Int32) v2 σ
  else
    bd (f_X9_cell 3 v2 (1 : Int32) σ) fun r1 s2 =>
    f_X3_takeParts_89 K9 v1 v2 r1 v2 s2
theorem b_X3_takeParts_63 {Γ : CX} (K9 : Int32 × Int32 × St → Option (Unit × St)) (hK9 : ∀ (v1 : Int32) (v2 : Int32) (σ : St), RR vU Γ (K9 (v1, v2, σ)) → WW Γ cX3_takeParts 4 RX3 none rX3_takeParts σ 9 [(0, .ref (xd Γ 36)), (1, .int v1), (2, .int v2)] []) (v1 : Int32) (v2 : Int32) (k0 : Int32) (σ : St) (h : RR vU Γ (f_X3_takeParts_63 K9 v1 v2 k0 σ)) : WW Γ cX3_takeParts 4 RX3 none rX3_takeParts σ 63 [(0, .ref (xd Γ 36)), (1, .int v1), (2, .int v2)] [.int k0] := by
  unfold f_X3_takeParts_63 at h
  refine w_istore_n [(3, .int k0), (0, .ref (xd Γ 36)), (1, .int v1), (2, .int v2)] dX3_takeParts_63 rfl (by decide) rfl rfl ?_
  refine w_aload_n 1 dX3_takeParts_64 rfl rfl rfl ?_
  refine gf_RX3_15 dX3_takeParts_65 rfl ?_
  refine w_iload_n 3 dX3_takeParts_68 rfl rfl rfl ?_
  refine w_iload_n 0 dX3_takeParts_69 rfl rfl rfl ?_
  refine w_if_eq (tgt := 88) dX3_takeParts_70 (by decide) rfl (fun q => ?_) (fun q => ?_)
  · have h := h.tt q
    refine w_iconst (0 : Int32) dX3_takeParts_88 ic_iconst_0 rfl ?_
    exact w_sub [1, 2, 3] rfl (b_X3_takeParts_89 K9 hK9 v1 v2 (0 : Int32) v2 σ h)
  · have h := h.ff q
    refine w_aload_n 1 dX3_takeParts_73 rfl rfl rfl ?_
    refine gf_RX3_32 dX3_takeParts_74 rfl ?_
    refine gf_RX3_79 (i := 1) (isW_lit (by decide)) dX3_takeParts_77 rfl ?_
    refine w_iload_n 3 dX3_takeParts_80 rfl rfl rfl ?_
    refine w_iconst (1 : Int32) dX3_takeParts_81 ic_iconst_1 rfl ?_
    obtain ⟨r1, s2, h3, h⟩ := h.bd
    refine k_X9_cell ml_RX3_124 (Nat.le_of_ble_eq_true rfl) ⟨Nat.le_of_ble_eq_true rfl, Nat.le_of_ble_eq_true rfl⟩ dX3_takeParts_82 rfl h3 ?_
    refine w_goto (tgt := 89) dX3_takeParts_85 (by decide) ?_
    exact w_sub [1, 2, 3] rfl (b_X3_takeParts_89 K9 hK9 v1 v2 r1 v2 s2 h)
def f_X3_takeParts_62 (K9 : Int32 × Int32 × St → Option (Unit × St)) (v1 : Int32) (v2 : Int32) (σ : St) : Option (Unit × St) :=
  f_X3_takeParts_63 K9 v1 v2 (0 : Int32) σ
theorem b_X3_takeParts_62 {Γ : CX} (K9 : Int32 × Int32 × St → Option (Unit × St)) (hK9 : ∀ (v1 : Int32) (v2 : Int32) (σ : St), RR vU Γ (K9 (v1, v2, σ)) → WW Γ cX3_takeParts 4 RX3 none rX3_takeParts σ 9 [(0, .ref (xd Γ 36)), (1, .int v1), (2, .int v2)] []) (v1 : Int32) (v2 : Int32) (σ : St) (h : RR vU Γ (f_X3_takeParts_62 K9 v1 v2 σ)) : WW Γ cX3_takeParts 4 RX3 none rX3_takeParts σ 62 [(0, .ref (xd Γ 36)), (1, .int v1), (2, .int v2)] [] := by
  unfold f_X3_takeParts_62 at h
  refine w_iconst (0 : Int32) dX3_takeParts_62 ic_iconst_0 rfl ?_
  exact w_sub [0, 1, 2] rfl (b_X3_takeParts_63 K9 hK9 v1 v2 (0 : Int32) σ h)
def f_X3_takeParts_138 (K100 : Int32 × Int32 × St → Option (Unit × St)) (v1 : Int32) (v2 : Int32) (k0 : Int64) (k1 : Int32) (σ : St) : Option (Unit × St) :=
  gd (inb k1 (ln 39)) <|
  bnd (sj σ 39 k1.toNatClampNeg k0) fun s2 =>
  bnd (v2 + (1 : Int32)) fun x3 =>
  K100 (v1, x3, s2)
theorem b_X3_takeParts_138 {Γ : CX} (K100 : Int32 × Int32 × St → Option (Unit × St)) (hK100 : ∀ (v1 : Int32) (v2 : Int32) (σ : St), RR vU Γ (K100 (v1, v2, σ)) → WW Γ cX3_takeParts 4 RX3 none rX3_takeParts σ 100 [(0, .ref (xd Γ 36)), (1, .int v1), (2, .int v2)] []) (v1 : Int32) (v2 : Int32) (k0 : Int64) (k1 : Int32) (σ : St) (h : RR vU Γ (f_X3_takeParts_138 K100 v1 v2 k0 k1 σ)) : WW Γ cX3_takeParts 4 RX3 none rX3_takeParts σ 138 [(0, .ref (xd Γ 36)), (1, .int v1), (2, .int v2)] [.long k0, .int k1, .ref (xd Γ 39)] := by
  unfold f_X3_takeParts_138 at h
  obtain ⟨hi1, h⟩ := h.gd
  refine w_last (i := 39) (lt_lit (by decide)) rfl hi1 dX3_takeParts_138 rfl ?_
  obtain ⟨s2, es2⟩ : ∃ y : St, y = (sj σ 39 k1.toNatClampNeg k0) := ⟨_, rfl⟩
  rw [← es2]
  replace h := h.bnd es2
  clear es2
  obtain ⟨x3, ex3⟩ : ∃ y : Int32, y = (v2 + (1 : Int32)) := ⟨_, rfl⟩
  replace h := h.bnd ex3
  refine w_iinc 2 x3 [(2, .int x3), (0, .ref (xd Γ 36)), (1, .int v1)] dX3_takeParts_139 rfl (by rw [ex3, ic_iconst_1]) (by decide) rfl rfl ?_
  clear ex3
  refine w_goto (tgt := 100) dX3_takeParts_142 (by decide) ?_
  exact w_sub [1, 2, 0] rfl (hK100 v1 x3 s2 h)
def g_X3_takeParts_147 (K147 : Int32 × St → Option (Unit × St)) (x : Int32 × St) : Option (Unit × St) := match x with
  | (v2, σ) =>
  if (gf σ 3 3) ≤ v2 then
    some ((), σ)
  else
    bd (f_X3_mayBeLate v2 σ) fun _ s2 =>
    bnd (v2 + (1 : Int32)) fun x4 =>
    K147 (x4, s2)
theorem l_X3_takeParts_147 {Γ : CX} : ∀ (n : Nat) (v2 : Int32) (σ : St), RR vU Γ (itr (g_X3_takeParts_147) n (v2, σ)) → WW Γ cX3_takeParts 4 RX3 none rX3_takeParts σ 147 [(0, .ref (xd Γ 36)), (2, .int v2)] [] := by
  intro n
  induction n with
  | zero => intro v2 σ h; exact RR.no h
  | succ n hK147 =>
  intro v2 σ h
  have h : RR vU Γ (g_X3_takeParts_147 (itr (g_X3_takeParts_147) n) (v2, σ)) := h
  generalize itr (g_X3_takeParts_147) n = K147 at h hK147
  unfold g_X3_takeParts_147 at h
  dsimp only at h
  refine w_iload_n 1 dX3_takeParts_147 rfl rfl rfl ?_
  refine w_aload_n 0 dX3_takeParts_148 rfl rfl rfl ?_
  refine gf_RX3_32 dX3_takeParts_149 rfl ?_
  refine gf_RX3_79 (i := 1) (isW_lit (by decide)) dX3_takeParts_152 rfl ?_
  refine gf_RX3_83 (i := 3) (isT_lit (by decide)) dX3_takeParts_155 rfl ?_
  refine w_icmp_ge (tgt := 172) dX3_takeParts_158 (by decide) rfl (fun q => ?_) (fun q => ?_)
  · have h := h.tt q
    exact w_return dX3_takeParts_172 h
  · have h := h.ff q
    refine w_aload_n 0 dX3_takeParts_161 rfl rfl rfl ?_
    refine w_iload_n 1 dX3_takeParts_162 rfl rfl rfl ?_
    obtain ⟨r1, s2, h3, h⟩ := h.bd
    refine k_X3_mayBeLate ml_RX3_155 (Nat.le_of_ble_eq_true rfl) ⟨Nat.le_of_ble_eq_true rfl, Nat.le_of_ble_eq_true rfl⟩ dX3_takeParts_163 rfl h3 ?_
    obtain ⟨x4, ex4⟩ : ∃ y : Int32, y = (v2 + (1 : Int32)) := ⟨_, rfl⟩
    replace h := h.bnd ex4
    refine w_iinc 1 x4 [(2, .int x4), (0, .ref (xd Γ 36))] dX3_takeParts_166 rfl (by rw [ex4, ic_iconst_1]) (by decide) rfl rfl ?_
    clear ex4
    refine w_goto (tgt := 147) dX3_takeParts_169 (by decide) ?_
    exact w_sub [1, 0] rfl (hK147 x4 s2 h)
def g_X3_takeParts_100 (K100 : Int32 × Int32 × St → Option (Unit × St)) (x : Int32 × Int32 × St) : Option (Unit × St) := match x with
  | (v1, v2, σ) =>
  bd (f_X10_sets 1 σ) fun r1 s2 =>
  if r1 ≤ v2 then
    itr (g_X3_takeParts_147) FU ((0 : Int32), s2)
  else
    gd (inb v2 (ln 38)) <|
    bd (f_X10_needOf 1 v1 s2) fun r5 s6 =>
    if (gr s2 38 v2.toNatClampNeg) < r5 then
      f_X3_takeParts_138 K100 v1 v2 (0 : Int64) v2 s6
    else
      f_X3_takeParts_138 K100 v1 v2 (1 : Int64) v2 s6
theorem l_X3_takeParts_100 {Γ : CX} : ∀ (n : Nat) (v1 : Int32) (v2 : Int32) (σ : St), RR vU Γ (itr (g_X3_takeParts_100) n (v1, v2, σ)) → WW Γ cX3_takeParts 4 RX3 none rX3_takeParts σ 100 [(0, .ref (xd Γ 36)), (1, .int v1), (2, .int v2)] [] := by
  intro n
  induction n with
  | zero => intro v1 v2 σ h; exact RR.no h
  | succ n hK100 =>
  intro v1 v2 σ h
  have h : RR vU Γ (g_X3_takeParts_100 (itr (g_X3_takeParts_100) n) (v1, v2, σ)) := h
  generalize itr (g_X3_takeParts_100) n = K100 at h hK100
  unfold g_X3_takeParts_100 at h
  dsimp only at h
  refine w_iload_n 2 dX3_takeParts_100 rfl rfl rfl ?_
  refine w_aload_n 0 dX3_takeParts_101 rfl rfl rfl ?_
  refine gf_RX3_32 dX3_takeParts_102 rfl ?_
  obtain ⟨r1, s2, h3, h⟩ := h.bd
  refine k_X10_sets ml_RX3_58 (Nat.le_of_ble_eq_true rfl) ⟨Nat.le_of_ble_eq_true rfl, Nat.le_of_ble_eq_true rfl⟩ dX3_takeParts_105 rfl h3 ?_
  refine w_icmp_ge (tgt := 145) dX3_takeParts_108 (by decide) rfl (fun q => ?_) (fun q => ?_)
  · have h := h.tt q
    refine w_iconst (0 : Int32) dX3_takeParts_145 ic_iconst_0 rfl ?_
    refine w_istore_n [(2, .int (0 : Int32)), (0, .ref (xd Γ 36)), (1, .int v1)] dX3_takeParts_146 rfl (by decide) rfl rfl ?_
    exact w_sub [1, 0] rfl (l_X3_takeParts_147 FU (0 : Int32) s2 h)
  · have h := h.ff q
    refine w_aload_n 0 dX3_takeParts_111 rfl rfl rfl ?_
    refine gf_RX3_18 dX3_takeParts_112 rfl ?_
    refine w_iload_n 2 dX3_takeParts_115 rfl rfl rfl ?_
    refine w_aload_n 0 dX3_takeParts_116 rfl rfl rfl ?_
    refine gf_RX3_15 dX3_takeParts_117 rfl ?_
    refine w_iload_n 2 dX3_takeParts_120 rfl rfl rfl ?_
    obtain ⟨hi4, h⟩ := h.gd
    refine w_iald (i := 38) (lt_lit (by decide)) rfl hi4 dX3_takeParts_121 rfl ?_
    refine w_aload_n 0 dX3_takeParts_122 rfl rfl rfl ?_
    refine gf_RX3_32 dX3_takeParts_123 rfl ?_
    refine w_iload_n 1 dX3_takeParts_126 rfl rfl rfl ?_
    obtain ⟨r5, s6, h7, h⟩ := h.bd
    refine k_X10_needOf ml_RX3_141 (Nat.le_of_ble_eq_true rfl) ⟨Nat.le_of_ble_eq_true rfl, Nat.le_of_ble_eq_true rfl⟩ dX3_takeParts_127 rfl h7 ?_
    refine w_icmp_lt (tgt := 137) dX3_takeParts_130 (by decide) rfl (fun q => ?_) (fun q => ?_)
    · have h := h.tt q
      refine w_lconst (0 : Int64) dX3_takeParts_137 rfl rfl ?_
      exact w_sub [0, 1, 2] rfl (b_X3_takeParts_138 K100 hK100 v1 v2 (0 : Int64) v2 s6 h)
    · have h := h.ff q
      refine w_lconst (1 : Int64) dX3_takeParts_133 rfl rfl ?_
      refine w_goto (tgt := 138) dX3_takeParts_134 (by decide) ?_
      exact w_sub [0, 1, 2] rfl (b_X3_takeParts_138 K100 hK100 v1 v2 (1 : Int64) v2 s6 h)
def g_X3_takeParts_9 (K9 : Int32 × Int32 × St → Option (Unit × St)) (x : Int32 × Int32 × St) : Option (Unit × St) := match x with
  | (v1, v2, σ) =>
  if (gf σ 3 3) ≤ v2 then
    itr (g_X3_takeParts_100) FU (v1, (0 : Int32), σ)
  else
    bd (f_X9_cell 3 v2 (0 : Int32) σ) fun r1 s2 =>
    if r1 = v1 then
      bd (f_X10_arrival 1 v2 (0 : Int32) s2) fun r4 s5 =>
      if (gf s5 1 2) < r4 then
        f_X3_takeParts_62 K9 v1 v2 s5
      else
        f_X3_takeParts_63 K9 v1 v2 (1 : Int32) s5
    else
      f_X3_takeParts_62 K9 v1 v2 s2
theorem l_X3_takeParts_9 {Γ : CX} : ∀ (n : Nat) (v1 : Int32) (v2 : Int32) (σ : St), RR vU Γ (itr (g_X3_takeParts_9) n (v1, v2, σ)) → WW Γ cX3_takeParts 4 RX3 none rX3_takeParts σ 9 [(0, .ref (xd Γ 36)), (1, .int v1), (2, .int v2)] [] := by
  intro n
  induction n with
  | zero => intro v1 v2 σ h; exact RR.no h
  | succ n hK9 =>
  intro v1 v2 σ h
  have h : RR vU Γ (g_X3_takeParts_9 (itr (g_X3_takeParts_9) n) (v1, v2, σ)) := h
  generalize itr (g_X3_takeParts_9) n = K9 at h hK9
  unfold g_X3_takeParts_9 at h
  dsimp only at h
  refine w_iload_n 2 dX3_takeParts_9 rfl rfl rfl ?_
  refine w_aload_n 0 dX3_takeParts_10 rfl rfl rfl ?_
  refine gf_RX3_32 dX3_takeParts_11 rfl ?_
  refine gf_RX3_79 (i := 1) (isW_lit (by decide)) dX3_takeParts_14 rfl ?_
  refine gf_RX3_83 (i := 3) (isT_lit (by decide)) dX3_takeParts_17 rfl ?_
  refine w_icmp_ge (tgt := 98) dX3_takeParts_20 (by decide) rfl (fun q => ?_) (fun q => ?_)
  · have h := h.tt q
    refine w_iconst (0 : Int32) dX3_takeParts_98 ic_iconst_0 rfl ?_
    refine w_istore_n [(2, .int (0 : Int32)), (0, .ref (xd Γ 36)), (1, .int v1)] dX3_takeParts_99 rfl (by decide) rfl rfl ?_
    exact w_sub [1, 2, 0] rfl (l_X3_takeParts_100 FU v1 (0 : Int32) σ h)
  · have h := h.ff q
    refine w_aload_n 0 dX3_takeParts_23 rfl rfl rfl ?_
    refine gf_RX3_32 dX3_takeParts_24 rfl ?_
    refine gf_RX3_79 (i := 1) (isW_lit (by decide)) dX3_takeParts_27 rfl ?_
    refine w_iload_n 2 dX3_takeParts_30 rfl rfl rfl ?_
    refine w_iconst (0 : Int32) dX3_takeParts_31 ic_iconst_0 rfl ?_
    obtain ⟨r1, s2, h3, h⟩ := h.bd
    refine k_X9_cell ml_RX3_124 (Nat.le_of_ble_eq_true rfl) ⟨Nat.le_of_ble_eq_true rfl, Nat.le_of_ble_eq_true rfl⟩ dX3_takeParts_32 rfl h3 ?_
    refine w_iload_n 1 dX3_takeParts_35 rfl rfl rfl ?_
    refine w_icmp_ne (tgt := 62) dX3_takeParts_36 (by decide) rfl (fun q => ?_) (fun q => ?_)
    · have h := h.ff q
      exact w_sub [0, 1, 2] rfl (b_X3_takeParts_62 K9 hK9 v1 v2 s2 h)
    · have h := h.tt q
      refine w_aload_n 0 dX3_takeParts_39 rfl rfl rfl ?_
      refine gf_RX3_32 dX3_takeParts_40 rfl ?_
      refine w_iload_n 2 dX3_takeParts_43 rfl rfl rfl ?_
      refine w_iconst (0 : Int32) dX3_takeParts_44 ic_iconst_0 rfl ?_
      obtain ⟨r4, s5, h6, h⟩ := h.bd
      refine k_X10_arrival ml_RX3_152 (Nat.le_of_ble_eq_true rfl) ⟨Nat.le_of_ble_eq_true rfl, Nat.le_of_ble_eq_true rfl⟩ dX3_takeParts_45 rfl h6 ?_
      refine w_aload_n 0 dX3_takeParts_48 rfl rfl rfl ?_
      refine gf_RX3_32 dX3_takeParts_49 rfl ?_
      refine gf_RX3_131 (i := 1) (isW_lit (by decide)) dX3_takeParts_52 rfl ?_
      refine w_icmp_gt (tgt := 62) dX3_takeParts_55 (by decide) rfl (fun q => ?_) (fun q => ?_)
      · have h := h.tt q
        exact w_sub [0, 1, 2] rfl (b_X3_takeParts_62 K9 hK9 v1 v2 s5 h)
      · have h := h.ff q
        refine w_iconst (1 : Int32) dX3_takeParts_58 ic_iconst_1 rfl ?_
        refine w_goto (tgt := 63) dX3_takeParts_59 (by decide) ?_
        exact w_sub [0, 1, 2] rfl (b_X3_takeParts_63 K9 hK9 v1 v2 (1 : Int32) s5 h)
def f_X3_takeParts (p0 : Int32) (σ : St) : Option (Unit × St) :=
  gd (inb (0 : Int32) (ln 38)) <|
  bnd (sr σ 38 (0 : Int32).toNatClampNeg (0 : Int32)) fun s2 =>
  itr (g_X3_takeParts_9) FU (p0, (0 : Int32), s2)
theorem e_X3_takeParts {Γ : CX} (p0 : Int32) (σ : St) (h : RR vU Γ (f_X3_takeParts p0 σ)) : WW Γ cX3_takeParts 4 RX3 none rX3_takeParts σ 0 [(0, .ref (xd Γ 36)), (1, .int p0)] [] := by
  unfold f_X3_takeParts at h
  refine w_aload_n 0 dX3_takeParts_0 rfl rfl rfl ?_
  refine gf_RX3_15 dX3_takeParts_1 rfl ?_
  refine w_iconst (0 : Int32) dX3_takeParts_4 ic_iconst_0 rfl ?_
  refine w_iconst (0 : Int32) dX3_takeParts_5 ic_iconst_0 rfl ?_
  obtain ⟨hi1, h⟩ := h.gd
  refine w_iast (i := 38) (lt_lit (by decide)) rfl hi1 dX3_takeParts_6 rfl ?_
  obtain ⟨s2, es2⟩ : ∃ y : St, y = (sr σ 38 (0 : Int32).toNatClampNeg (0 : Int32)) := ⟨_, rfl⟩
  rw [← es2]
  replace h := h.bnd es2
  clear es2
  refine w_iconst (0 : Int32) dX3_takeParts_7 ic_iconst_0 rfl ?_
  refine w_istore_n [(2, .int (0 : Int32)), (0, .ref (xd Γ 36)), (1, .int p0)] dX3_takeParts_8 rfl (by decide) rfl rfl ?_
  exact w_sub [1, 2, 0] rfl (l_X3_takeParts_9 FU p0 (0 : Int32) s2 h)
theorem c_X3_takeParts {l : Launch} {D : va_G} {cy : Nat → ClassId} {ad : Nat → Nat} {p0 : Int32} {σ σ' : St} {r : Unit} (hf : f_X3_takeParts p0 σ = some (r, σ')) : CT l D cy ad yX3_takeParts cX3_takeParts 4 none rX3_takeParts [.ref (ad 36), .int p0] σ none σ' :=
  ct_of (by decide) (Nat.le_of_ble_eq_true rfl) (fun p e s m args below meth c A => e_X3_takeParts (Γ := (p, l, e, rX3_takeParts, s, m, args, below, meth, c, D, cy, ad, A, 0, 0, (none, σ'))) p0 σ ⟨_, hf, rfl⟩)
theorem k_X3_takeParts {Γ : CX} {cc : ByteArray} {nL : Nat} {own : String} {ret : Option FieldType} {rm : Room} {σ σ' : St} {pc pc' idx : Nat} {lv : List (Nat × Value)} {rest : List Value} {p0 : Int32} {r : Unit} (hl : Cond.methodLink own idx yX3_takeParts ∈ TB) (hw : (rest.map fun v => v.category).sum ≤ 8) (hR : rX3_takeParts.frames + 1 ≤ rm.frames ∧ 8 + (4 + 11) + rX3_takeParts.locals ≤ rm.locals) (hd : decode cc pc = .ok (.invokevirtual idx, 3)) (hp : pc + 3 = pc') (hf : f_X3_takeParts p0 σ = some (r, σ')) (h : WW Γ cc nL own ret rm σ' pc' lv (rest)) : WW Γ cc nL own ret rm σ pc lv (.int p0 :: .ref (xd Γ 36) :: rest) :=
  w_callV (nn := 1) (i := 36) (As := [.int p0]) (v := none) (T := TX3) (N := 8) (c_X3_takeParts hf) hl mw_X3_takeParts (by decide +kernel) ⟨rfl, rfl⟩ hR (lt_lit (by decide)) cel_36 rfl rfl hw hd rfl hp h
/-! WarByHours.Peace.countReadings (I)I -/
def rX4_countReadings : Room := { frames := 2, cells := 0, slots := 0, locals := 49 }
def f_X4_countReadings_24 (K4 : Int32 × Int32 × Int32 × St → Option (Int32 × St)) (v1 : Int32) (v2 : Int32) (v3 : Int32) (σ : St) : Option (Int32 × St) :=
  bnd (v3 + (1 : Int32)) fun x1 =>
  K4 (v1, v2, x1, σ)
theorem b_X4_countReadings_24 {Γ : CX} (K4 : Int32 × Int32 × Int32 × St → Option (Int32 × St)) (hK4 : ∀ (v1 : Int32) (v2 : Int32) (v3 : Int32) (σ : St), RR vI Γ (K4 (v1, v2, v3, σ)) → WW Γ cX4_countReadings 4 RX4 (some .int) rX4_countReadings σ 4 [(0, .ref (xd Γ 48)), (1, .int v1), (2, .int v2), (3, .int v3)] []) (v1 : Int32) (v2 : Int32) (v3 : Int32) (σ : St) (h : RR vI Γ (f_X4_countReadings_24 K4 v1 v2 v3 σ)) : WW Γ cX4_countReadings 4 RX4 (some .int) rX4_countReadings σ 24 [(0, .ref (xd Γ 48)), (1, .int v1), (2, .int v2), (3, .int v3)] [] := by
  unfold f_X4_countReadings_24 at h
  obtain ⟨x1, ex1⟩ : ∃ y : Int32, y = (v3 + (1 : Int32)) := ⟨_, rfl⟩
  replace h := h.bnd ex1
  refine w_iinc 3 x1 [(3, .int x1), (0, .ref (xd Γ 48)), (1, .int v1), (2, .int v2)] dX4_countReadings_24 rfl (by rw [ex1, ic_iconst_1]) (by decide) rfl rfl ?_
  clear ex1
  refine w_goto (tgt := 4) dX4_countReadings_27 (by decide) ?_
  exact w_sub [1, 2, 3, 0] rfl (hK4 v1 v2 x1 σ h)
def g_X4_countReadings_4 (K4 : Int32 × Int32 × Int32 × St → Option (Int32 × St)) (x : Int32 × Int32 × Int32 × St) : Option (Int32 × St) := match x with
  | (v1, v2, v3, σ) =>
  bd (f_X4_allReadings σ) fun r1 s2 =>
  if r1 ≤ v3 then
    some (v2, s2)
  else
    bd (f_X4_isHeld v1 v3 s2) fun r4 s5 =>
    if r4 = 0 then
      f_X4_countReadings_24 K4 v1 v2 v3 s5
    else
      bnd (v2 + (1 : Int32)) fun x7 =>
      f_X4_countReadings_24 K4 v1 x7 v3 s5
theorem l_X4_countReadings_4 {Γ : CX} : ∀ (n : Nat) (v1 : Int32) (v2 : Int32) (v3 : Int32) (σ : St), RR vI Γ (itr (g_X4_countReadings_4) n (v1, v2, v3, σ)) → WW Γ cX4_countReadings 4 RX4 (some .int) rX4_countReadings σ 4 [(0, .ref (xd Γ 48)), (1, .int v1), (2, .int v2), (3, .int v3)] [] := by
  intro n
  induction n with
  | zero => intro v1 v2 v3 σ h; exact RR.no h
  | succ n hK4 =>
  intro v1 v2 v3 σ h
  have h : RR vI Γ (g_X4_countReadings_4 (itr (g_X4_countReadings_4) n) (v1, v2, v3, σ)) := h
  generalize itr (g_X4_countReadings_4) n = K4 at h hK4
  unfold g_X4_countReadings_4 at h
  dsimp only at h
  refine w_iload_n 3 dX4_countReadings_4 rfl rfl rfl ?_
  refine w_aload_n 0 dX4_countReadings_5 rfl rfl rfl ?_
  obtain ⟨r1, s2, h3, h⟩ := h.bd
  refine k_X4_allReadings ml_RX4_15 (Nat.le_of_ble_eq_true rfl) ⟨Nat.le_of_ble_eq_true rfl, Nat.le_of_ble_eq_true rfl⟩ dX4_countReadings_6 rfl h3 ?_
  refine w_icmp_ge (tgt := 30) dX4_countReadings_9 (by decide) rfl (fun q => ?_) (fun q => ?_)
  · have h := h.tt q
    refine w_iload_n 2 dX4_countReadings_30 rfl rfl rfl ?_
    exact w_ireturn dX4_countReadings_31 h
  · have h := h.ff q
    refine w_aload_n 0 dX4_countReadings_12 rfl rfl rfl ?_
    refine w_iload_n 1 dX4_countReadings_13 rfl rfl rfl ?_
    refine w_iload_n 3 dX4_countReadings_14 rfl rfl rfl ?_
    obtain ⟨r4, s5, h6, h⟩ := h.bd
    refine k_X4_isHeld ml_RX4_19 (Nat.le_of_ble_eq_true rfl) ⟨Nat.le_of_ble_eq_true rfl, Nat.le_of_ble_eq_true rfl⟩ dX4_countReadings_15 rfl h6 ?_
    refine w_if_eq (tgt := 24) dX4_countReadings_18 (by decide) rfl (fun q => ?_) (fun q => ?_)
    · have h := h.tt q
      exact w_sub [0, 1, 2, 3] rfl (b_X4_countReadings_24 K4 hK4 v1 v2 v3 s5 h)
    · have h := h.ff q
      obtain ⟨x7, ex7⟩ : ∃ y : Int32, y = (v2 + (1 : Int32)) := ⟨_, rfl⟩
      replace h := h.bnd ex7
      refine w_iinc 2 x7 [(2, .int x7), (0, .ref (xd Γ 48)), (1, .int v1), (3, .int v3)] dX4_countReadings_21 rfl (by rw [ex7, ic_iconst_1]) (by decide) rfl rfl ?_
      clear ex7
      exact w_sub [1, 2, 0, 3] rfl (b_X4_countReadings_24 K4 hK4 v1 x7 v3 s5 h)
def f_X4_countReadings (p0 : Int32) (σ : St) : Option (Int32 × St) :=
  itr (g_X4_countReadings_4) FU (p0, (0 : Int32), (0 : Int32), σ)
theorem e_X4_countReadings {Γ : CX} (p0 : Int32) (σ : St) (h : RR vI Γ (f_X4_countReadings p0 σ)) : WW Γ cX4_countReadings 4 RX4 (some .int) rX4_countReadings σ 0 [(0, .ref (xd Γ 48)), (1, .int p0)] [] := by
  unfold f_X4_countReadings at h
  refine w_iconst (0 : Int32) dX4_countReadings_0 ic_iconst_0 rfl ?_
  refine w_istore_n [(2, .int (0 : Int32)), (0, .ref (xd Γ 48)), (1, .int p0)] dX4_countReadings_1 rfl (by decide) rfl rfl ?_
  refine w_iconst (0 : Int32) dX4_countReadings_2 ic_iconst_0 rfl ?_
  refine w_istore_n [(3, .int (0 : Int32)), (2, .int (0 : Int32)), (0, .ref (xd Γ 48)), (1, .int p0)] dX4_countReadings_3 rfl (by decide) rfl rfl ?_
  exact w_sub [2, 3, 1, 0] rfl (l_X4_countReadings_4 FU p0 (0 : Int32) (0 : Int32) σ h)
theorem c_X4_countReadings {l : Launch} {D : va_G} {cy : Nat → ClassId} {ad : Nat → Nat} {p0 : Int32} {σ σ' : St} {r : Int32} (hf : f_X4_countReadings p0 σ = some (r, σ')) : CT l D cy ad yX4_countReadings cX4_countReadings 4 (some .int) rX4_countReadings [.ref (ad 48), .int p0] σ (some (.int r)) σ' :=
  ct_of (by decide) (Nat.le_of_ble_eq_true rfl) (fun p e s m args below meth c A => e_X4_countReadings (Γ := (p, l, e, rX4_countReadings, s, m, args, below, meth, c, D, cy, ad, A, 0, 0, ((some (.int r)), σ'))) p0 σ ⟨_, hf, rfl⟩)
theorem k_X4_countReadings {Γ : CX} {cc : ByteArray} {nL : Nat} {own : String} {ret : Option FieldType} {rm : Room} {σ σ' : St} {pc pc' idx : Nat} {lv : List (Nat × Value)} {rest : List Value} {p0 : Int32} {r : Int32} (hl : Cond.methodLink own idx yX4_countReadings ∈ TB) (hw : (rest.map fun v => v.category).sum ≤ 8) (hR : rX4_countReadings.frames + 1 ≤ rm.frames ∧ 8 + (4 + 11) + rX4_countReadings.locals ≤ rm.locals) (hd : decode cc pc = .ok (.invokevirtual idx, 3)) (hp : pc + 3 = pc') (hf : f_X4_countReadings p0 σ = some (r, σ')) (h : WW Γ cc nL own ret rm σ' pc' lv (.int r :: rest)) : WW Γ cc nL own ret rm σ pc lv (.int p0 :: .ref (xd Γ 48) :: rest) :=
  w_callV (nn := 1) (i := 48) (As := [.int p0]) (v := (some (.int r))) (T := TX4) (N := 1) (c_X4_countReadings hf) hl mw_X4_countReadings (by decide +kernel) ⟨rfl, rfl⟩ hR (lt_lit (by decide)) cel_48 rfl rfl hw hd rfl hp h
/-! WarByHours.Peace.loopholeMinutes ()J -/
def rX4_loopholeMinutes : Room := { frames := 2, cells := 0, slots := 0, locals := 49 }
def f_X4_loopholeMinutes_39 (K4 : Int64 × Int32 × St → Option (Int64 × St)) (v1 : Int64) (v3 : Int32) (σ : St) : Option (Int64 × St) :=
  bnd (v3 + (1 : Int32)) fun x1 =>
  K4 (v1, x1, σ)
theorem b_X4_loopholeMinutes_39 {Γ : CX} (K4 : Int64 × Int32 × St → Option (Int64 × St)) (hK4 : ∀ (v1 : Int64) (v3 : Int32) (σ : St), RR vL Γ (K4 (v1, v3, σ)) → WW Γ cX4_loopholeMinutes 4 RX4 (some .long) rX4_loopholeMinutes σ 4 [(0, .ref (xd Γ 48)), (1, .long v1), (3, .int v3)] []) (v1 : Int64) (v3 : Int32) (σ : St) (h : RR vL Γ (f_X4_loopholeMinutes_39 K4 v1 v3 σ)) : WW Γ cX4_loopholeMinutes 4 RX4 (some .long) rX4_loopholeMinutes σ 39 [(0, .ref (xd Γ 48)), (1, .long v1), (3, .int v3)] [] := by
  unfold f_X4_loopholeMinutes_39 at h
  obtain ⟨x1, ex1⟩ : ∃ y : Int32, y = (v3 + (1 : Int32)) := ⟨_, rfl⟩
  replace h := h.bnd ex1
  refine w_iinc 2 x1 [(3, .int x1), (0, .ref (xd Γ 48)), (1, .long v1)] dX4_loopholeMinutes_39 rfl (by rw [ex1, ic_iconst_1]) (by decide) rfl rfl ?_
  clear ex1
  refine w_goto (tgt := 4) dX4_loopholeMinutes_42 (by decide) ?_
  exact w_sub [1, 2, 0] rfl (hK4 v1 x1 σ h)
def g_X4_loopholeMinutes_4 (K4 : Int64 × Int32 × St → Option (Int64 × St)) (x : Int64 × Int32 × St) : Option (Int64 × St) := match x with
  | (v1, v3, σ) =>
  if (59 : Int32) < v3 then
    some (v1, σ)
  else
    bd (f_X4_isHeld v3 (0 : Int32) σ) fun r1 s2 =>
    if r1 = 0 then
      f_X4_loopholeMinutes_39 K4 v1 v3 s2
    else
      bd (f_X4_allReadings s2) fun r4 s5 =>
      bd (f_X4_isHeld v3 (r4 - (1 : Int32)) s5) fun r7 s8 =>
      if r7 = 0 then
        bnd ((v1 ||| ((1 : Int64) <<< (v3.toInt64 &&& 63)))) fun x10 =>
        f_X4_loopholeMinutes_39 K4 x10 v3 s8
      else
        f_X4_loopholeMinutes_39 K4 v1 v3 s8
theorem l_X4_loopholeMinutes_4 {Γ : CX} : ∀ (n : Nat) (v1 : Int64) (v3 : Int32) (σ : St), RR vL Γ (itr (g_X4_loopholeMinutes_4) n (v1, v3, σ)) → WW Γ cX4_loopholeMinutes 4 RX4 (some .long) rX4_loopholeMinutes σ 4 [(0, .ref (xd Γ 48)), (1, .long v1), (3, .int v3)] [] := by
  intro n
  induction n with
  | zero => intro v1 v3 σ h; exact RR.no h
  | succ n hK4 =>
  intro v1 v3 σ h
  have h : RR vL Γ (g_X4_loopholeMinutes_4 (itr (g_X4_loopholeMinutes_4) n) (v1, v3, σ)) := h
  generalize itr (g_X4_loopholeMinutes_4) n = K4 at h hK4
  unfold g_X4_loopholeMinutes_4 at h
  dsimp only at h
  refine w_iload_n 2 dX4_loopholeMinutes_4 rfl rfl rfl ?_
  refine w_bipush (59 : Int32) dX4_loopholeMinutes_5 ic_bipush_59 rfl ?_
  refine w_icmp_gt (tgt := 45) dX4_loopholeMinutes_7 (by decide) rfl (fun q => ?_) (fun q => ?_)
  · have h := h.tt q
    refine w_lload_n 1 dX4_loopholeMinutes_45 rfl rfl rfl ?_
    exact w_lreturn dX4_loopholeMinutes_46 h
  · have h := h.ff q
    refine w_aload_n 0 dX4_loopholeMinutes_10 rfl rfl rfl ?_
    refine w_iload_n 2 dX4_loopholeMinutes_11 rfl rfl rfl ?_
    refine w_iconst (0 : Int32) dX4_loopholeMinutes_12 ic_iconst_0 rfl ?_
    obtain ⟨r1, s2, h3, h⟩ := h.bd
    refine k_X4_isHeld ml_RX4_19 (Nat.le_of_ble_eq_true rfl) ⟨Nat.le_of_ble_eq_true rfl, Nat.le_of_ble_eq_true rfl⟩ dX4_loopholeMinutes_13 rfl h3 ?_
    refine w_if_eq (tgt := 39) dX4_loopholeMinutes_16 (by decide) rfl (fun q => ?_) (fun q => ?_)
    · have h := h.tt q
      exact w_sub [0, 1, 2] rfl (b_X4_loopholeMinutes_39 K4 hK4 v1 v3 s2 h)
    · have h := h.ff q
      refine w_aload_n 0 dX4_loopholeMinutes_19 rfl rfl rfl ?_
      refine w_iload_n 2 dX4_loopholeMinutes_20 rfl rfl rfl ?_
      refine w_aload_n 0 dX4_loopholeMinutes_21 rfl rfl rfl ?_
      obtain ⟨r4, s5, h6, h⟩ := h.bd
      refine k_X4_allReadings ml_RX4_15 (Nat.le_of_ble_eq_true rfl) ⟨Nat.le_of_ble_eq_true rfl, Nat.le_of_ble_eq_true rfl⟩ dX4_loopholeMinutes_22 rfl h6 ?_
      refine w_iconst (1 : Int32) dX4_loopholeMinutes_25 ic_iconst_1 rfl ?_
      refine w_isub dX4_loopholeMinutes_26 rfl ?_
      obtain ⟨r7, s8, h9, h⟩ := h.bd
      refine k_X4_isHeld ml_RX4_19 (Nat.le_of_ble_eq_true rfl) ⟨Nat.le_of_ble_eq_true rfl, Nat.le_of_ble_eq_true rfl⟩ dX4_loopholeMinutes_27 rfl h9 ?_
      refine w_if_ne (tgt := 39) dX4_loopholeMinutes_30 (by decide) rfl (fun q => ?_) (fun q => ?_)
      · have h := h.ff q
        exact w_sub [0, 1, 2] rfl (b_X4_loopholeMinutes_39 K4 hK4 v1 v3 s8 h)
      · have h := h.tt q
        refine w_lload_n 1 dX4_loopholeMinutes_33 rfl rfl rfl ?_
        refine w_lconst (1 : Int64) dX4_loopholeMinutes_34 rfl rfl ?_
        refine w_iload_n 2 dX4_loopholeMinutes_35 rfl rfl rfl ?_
        refine w_lshl dX4_loopholeMinutes_36 rfl ?_
        refine w_lor dX4_loopholeMinutes_37 rfl ?_
        refine w_nmL (fun x10 ex10 => ?_)
        replace h := h.bnd ex10
        clear ex10
        refine w_lstore_n [(1, .long x10), (0, .ref (xd Γ 48)), (3, .int v3)] dX4_loopholeMinutes_38 rfl (by decide) rfl rfl ?_
        exact w_sub [1, 0, 2] rfl (b_X4_loopholeMinutes_39 K4 hK4 x10 v3 s8 h)
def f_X4_loopholeMinutes (σ : St) : Option (Int64 × St) :=
  itr (g_X4_loopholeMinutes_4) FU ((0 : Int64), (0 : Int32), σ)
theorem e_X4_loopholeMinutes {Γ : CX} (σ : St) (h : RR vL Γ (f_X4_loopholeMinutes σ)) : WW Γ cX4_loopholeMinutes 4 RX4 (some .long) rX4_loopholeMinutes σ 0 [(0, .ref (xd Γ 48))] [] := by
  unfold f_X4_loopholeMinutes at h
  refine w_lconst (0 : Int64) dX4_loopholeMinutes_0 rfl rfl ?_
  refine w_lstore_n [(1, .long (0 : Int64)), (0, .ref (xd Γ 48))] dX4_loopholeMinutes_1 rfl (by decide) rfl rfl ?_
  refine w_iconst (0 : Int32) dX4_loopholeMinutes_2 ic_iconst_0 rfl ?_
  refine w_istore_n [(3, .int (0 : Int32)), (1, .long (0 : Int64)), (0, .ref (xd Γ 48))] dX4_loopholeMinutes_3 rfl (by decide) rfl rfl ?_
  exact w_sub [2, 1, 0] rfl (l_X4_loopholeMinutes_4 FU (0 : Int64) (0 : Int32) σ h)
theorem c_X4_loopholeMinutes {l : Launch} {D : va_G} {cy : Nat → ClassId} {ad : Nat → Nat}  {σ σ' : St} {r : Int64} (hf : f_X4_loopholeMinutes σ = some (r, σ')) : CT l D cy ad yX4_loopholeMinutes cX4_loopholeMinutes 4 (some .long) rX4_loopholeMinutes [.ref (ad 48)] σ (some (.long r)) σ' :=
  ct_of (by decide) (Nat.le_of_ble_eq_true rfl) (fun p e s m args below meth c A => e_X4_loopholeMinutes (Γ := (p, l, e, rX4_loopholeMinutes, s, m, args, below, meth, c, D, cy, ad, A, 0, 0, ((some (.long r)), σ'))) σ ⟨_, hf, rfl⟩)
theorem k_X4_loopholeMinutes {Γ : CX} {cc : ByteArray} {nL : Nat} {own : String} {ret : Option FieldType} {rm : Room} {σ σ' : St} {pc pc' idx : Nat} {lv : List (Nat × Value)} {rest : List Value}  {r : Int64} (hl : Cond.methodLink own idx yX4_loopholeMinutes ∈ TB) (hw : (rest.map fun v => v.category).sum ≤ 8) (hR : rX4_loopholeMinutes.frames + 1 ≤ rm.frames ∧ 8 + (4 + 11) + rX4_loopholeMinutes.locals ≤ rm.locals) (hd : decode cc pc = .ok (.invokevirtual idx, 3)) (hp : pc + 3 = pc') (hf : f_X4_loopholeMinutes σ = some (r, σ')) (h : WW Γ cc nL own ret rm σ' pc' lv (.long r :: rest)) : WW Γ cc nL own ret rm σ pc lv (.ref (xd Γ 48) :: rest) :=
  w_callV (nn := 0) (i := 48) (As := []) (v := (some (.long r))) (T := TX4) (N := 1) (c_X4_loopholeMinutes hf) hl mw_X4_loopholeMinutes (by decide +kernel) ⟨rfl, rfl⟩ hR (lt_lit (by decide)) cel_48 rfl rfl hw hd rfl hp h
/-! WarByHours.Peace.firstSafeMinute ()I -/
def rX4_firstSafeMinute : Room := { frames := 2, cells := 0, slots := 0, locals := 49 }
def g_X4_firstSafeMinute_2 (K2 : Int32 × St → Option (Int32 × St)) (x : Int32 × St) : Option (Int32 × St) := match x with
  | (v1, σ) =>
  if (59 : Int32) < v1 then
    some ((-1 : Int32), σ)
  else
    bd (f_X4_allReadings σ) fun r1 s2 =>
    bd (f_X4_isHeld v1 (r1 - (1 : Int32)) s2) fun r4 s5 =>
    if r4 = 0 then
      bnd (v1 + (1 : Int32)) fun x7 =>
      K2 (x7, s5)
    else
      some (v1, s5)
theorem l_X4_firstSafeMinute_2 {Γ : CX} : ∀ (n : Nat) (v1 : Int32) (σ : St), RR vI Γ (itr (g_X4_firstSafeMinute_2) n (v1, σ)) → WW Γ cX4_firstSafeMinute 2 RX4 (some .int) rX4_firstSafeMinute σ 2 [(0, .ref (xd Γ 48)), (1, .int v1)] [] := by
  intro n
  induction n with
  | zero => intro v1 σ h; exact RR.no h
  | succ n hK2 =>
  intro v1 σ h
  have h : RR vI Γ (g_X4_firstSafeMinute_2 (itr (g_X4_firstSafeMinute_2) n) (v1, σ)) := h
  generalize itr (g_X4_firstSafeMinute_2) n = K2 at h hK2
  unfold g_X4_firstSafeMinute_2 at h
  dsimp only at h
  refine w_iload_n 1 dX4_firstSafeMinute_2 rfl rfl rfl ?_
  refine w_bipush (59 : Int32) dX4_firstSafeMinute_3 ic_bipush_59 rfl ?_
  refine w_icmp_gt (tgt := 30) dX4_firstSafeMinute_5 (by decide) rfl (fun q => ?_) (fun q => ?_)
  · have h := h.tt q
    refine w_iconst (-1 : Int32) dX4_firstSafeMinute_30 ic_iconst_m1 rfl ?_
    exact w_ireturn dX4_firstSafeMinute_31 h
  · have h := h.ff q
    refine w_aload_n 0 dX4_firstSafeMinute_8 rfl rfl rfl ?_
    refine w_iload_n 1 dX4_firstSafeMinute_9 rfl rfl rfl ?_
    refine w_aload_n 0 dX4_firstSafeMinute_10 rfl rfl rfl ?_
    obtain ⟨r1, s2, h3, h⟩ := h.bd
    refine k_X4_allReadings ml_RX4_15 (Nat.le_of_ble_eq_true rfl) ⟨Nat.le_of_ble_eq_true rfl, Nat.le_of_ble_eq_true rfl⟩ dX4_firstSafeMinute_11 rfl h3 ?_
    refine w_iconst (1 : Int32) dX4_firstSafeMinute_14 ic_iconst_1 rfl ?_
    refine w_isub dX4_firstSafeMinute_15 rfl ?_
    obtain ⟨r4, s5, h6, h⟩ := h.bd
    refine k_X4_isHeld ml_RX4_19 (Nat.le_of_ble_eq_true rfl) ⟨Nat.le_of_ble_eq_true rfl, Nat.le_of_ble_eq_true rfl⟩ dX4_firstSafeMinute_16 rfl h6 ?_
    refine w_if_eq (tgt := 24) dX4_firstSafeMinute_19 (by decide) rfl (fun q => ?_) (fun q => ?_)
    · have h := h.tt q
      obtain ⟨x7, ex7⟩ : ∃ y : Int32, y = (v1 + (1 : Int32)) := ⟨_, rfl⟩
      replace h := h.bnd ex7
      refine w_iinc 1 x7 [(1, .int x7), (0, .ref (xd Γ 48))] dX4_firstSafeMinute_24 rfl (by rw [ex7, ic_iconst_1]) (by decide) rfl rfl ?_
      clear ex7
      refine w_goto (tgt := 2) dX4_firstSafeMinute_27 (by decide) ?_
      exact w_sub [1, 0] rfl (hK2 x7 s5 h)
    · have h := h.ff q
      refine w_iload_n 1 dX4_firstSafeMinute_22 rfl rfl rfl ?_
      exact w_ireturn dX4_firstSafeMinute_23 h
def f_X4_firstSafeMinute (σ : St) : Option (Int32 × St) :=
  itr (g_X4_firstSafeMinute_2) FU ((0 : Int32), σ)
theorem e_X4_firstSafeMinute {Γ : CX} (σ : St) (h : RR vI Γ (f_X4_firstSafeMinute σ)) : WW Γ cX4_firstSafeMinute 2 RX4 (some .int) rX4_firstSafeMinute σ 0 [(0, .ref (xd Γ 48))] [] := by
  unfold f_X4_firstSafeMinute at h
  refine w_iconst (0 : Int32) dX4_firstSafeMinute_0 ic_iconst_0 rfl ?_
  refine w_istore_n [(1, .int (0 : Int32)), (0, .ref (xd Γ 48))] dX4_firstSafeMinute_1 rfl (by decide) rfl rfl ?_
  exact w_sub [1, 0] rfl (l_X4_firstSafeMinute_2 FU (0 : Int32) σ h)
theorem c_X4_firstSafeMinute {l : Launch} {D : va_G} {cy : Nat → ClassId} {ad : Nat → Nat}  {σ σ' : St} {r : Int32} (hf : f_X4_firstSafeMinute σ = some (r, σ')) : CT l D cy ad yX4_firstSafeMinute cX4_firstSafeMinute 2 (some .int) rX4_firstSafeMinute [.ref (ad 48)] σ (some (.int r)) σ' :=
  ct_of (by decide) (Nat.le_of_ble_eq_true rfl) (fun p e s m args below meth c A => e_X4_firstSafeMinute (Γ := (p, l, e, rX4_firstSafeMinute, s, m, args, below, meth, c, D, cy, ad, A, 0, 0, ((some (.int r)), σ'))) σ ⟨_, hf, rfl⟩)
theorem k_X4_firstSafeMinute {Γ : CX} {cc : ByteArray} {nL : Nat} {own : String} {ret : Option FieldType} {rm : Room} {σ σ' : St} {pc pc' idx : Nat} {lv : List (Nat × Value)} {rest : List Value}  {r : Int32} (hl : Cond.methodLink own idx yX4_firstSafeMinute ∈ TB) (hw : (rest.map fun v => v.category).sum ≤ 8) (hR : rX4_firstSafeMinute.frames + 1 ≤ rm.frames ∧ 8 + (2 + 11) + rX4_firstSafeMinute.locals ≤ rm.locals) (hd : decode cc pc = .ok (.invokevirtual idx, 3)) (hp : pc + 3 = pc') (hf : f_X4_firstSafeMinute σ = some (r, σ')) (h : WW Γ cc nL own ret rm σ' pc' lv (.int r :: rest)) : WW Γ cc nL own ret rm σ pc lv (.ref (xd Γ 48) :: rest) :=
  w_callV (nn := 0) (i := 48) (As := []) (v := (some (.int r))) (T := TX4) (N := 1) (c_X4_firstSafeMinute hf) hl mw_X4_firstSafeMinute (by decide +kernel) ⟨rfl, rfl⟩ hR (lt_lit (by decide)) cel_48 rfl rfl hw hd rfl hp h
/-! WarByHours.Peace.closingBounds (I)I -/
def rX4_closingBounds : Room := { frames := 2, cells := 0, slots := 0, locals := 49 }
def f_X4_closingBounds_57 (K20 : Int32 × Int32 × Int32 × Int32 × St → Option (Int32 × St)) (v1 : Int32) (v2 : Int32) (v3 : Int32) (v4 : Int32) (σ : St) : Option (Int32 × St) :=
  bnd (v4 + (1 : Int32)) fun x1 =>
  K20 (v1, v2, v3, x1, σ)
theorem b_X4_closingBounds_57 {Γ : CX} (K20 : Int32 × Int32 × Int32 × Int32 × St → Option (Int32 × St)) (hK20 : ∀ (v1 : Int32) (v2 : Int32) (v3 : Int32) (v4 : Int32) (σ : St), RR vI Γ (K20 (v1, v2, v3, v4, σ)) → WW Γ cX4_closingBounds 5 RX4 (some .int) rX4_closingBounds σ 20 [(0, .ref (xd Γ 48)), (1, .int v1), (2, .int v2), (3, .int v3), (4, .int v4)] []) (v1 : Int32) (v2 : Int32) (v3 : Int32) (v4 : Int32) (σ : St) (h : RR vI Γ (f_X4_closingBounds_57 K20 v1 v2 v3 v4 σ)) : WW Γ cX4_closingBounds 5 RX4 (some .int) rX4_closingBounds σ 57 [(0, .ref (xd Γ 48)), (1, .int v1), (2, .int v2), (3, .int v3), (4, .int v4)] [] := by
  unfold f_X4_closingBounds_57 at h
  obtain ⟨x1, ex1⟩ : ∃ y : Int32, y = (v4 + (1 : Int32)) := ⟨_, rfl⟩
  replace h := h.bnd ex1
  refine w_iinc 4 x1 [(4, .int x1), (0, .ref (xd Γ 48)), (1, .int v1), (2, .int v2), (3, .int v3)] dX4_closingBounds_57 rfl (by rw [ex1, ic_iconst_1]) (by decide) rfl rfl ?_
  clear ex1
  refine w_goto (tgt := 20) dX4_closingBounds_60 (by decide) ?_
  exact w_sub [1, 2, 3, 4, 0] rfl (hK20 v1 v2 v3 x1 σ h)
def g_X4_closingBounds_20 (K20 : Int32 × Int32 × Int32 × Int32 × St → Option (Int32 × St)) (x : Int32 × Int32 × Int32 × Int32 × St) : Option (Int32 × St) := match x with
  | (v1, v2, v3, v4, σ) =>
  bd (f_X4_allReadings σ) fun r1 s2 =>
  if r1 ≤ v4 then
    some (v2, s2)
  else
    bd (f_J6_bitCount_0f7a4 v4 s2) fun r4 s5 =>
    if v3 ≤ r4 then
      f_X4_closingBounds_57 K20 v1 v2 v3 v4 s5
    else
      bd (f_X4_isHeld v1 v4 s5) fun r7 s8 =>
      if r7 = 0 then
        bd (f_J6_bitCount_0f7a4 v4 s8) fun r10 s11 =>
        f_X4_closingBounds_57 K20 v1 v4 r10 v4 s11
      else
        f_X4_closingBounds_57 K20 v1 v2 v3 v4 s8
theorem l_X4_closingBounds_20 {Γ : CX} : ∀ (n : Nat) (v1 : Int32) (v2 : Int32) (v3 : Int32) (v4 : Int32) (σ : St), RR vI Γ (itr (g_X4_closingBounds_20) n (v1, v2, v3, v4, σ)) → WW Γ cX4_closingBounds 5 RX4 (some .int) rX4_closingBounds σ 20 [(0, .ref (xd Γ 48)), (1, .int v1), (2, .int v2), (3, .int v3), (4, .int v4)] [] := by
  intro n
  induction n with
  | zero => intro v1 v2 v3 v4 σ h; exact RR.no h
  | succ n hK20 =>
  intro v1 v2 v3 v4 σ h
  have h : RR vI Γ (g_X4_closingBounds_20 (itr (g_X4_closingBounds_20) n) (v1, v2, v3, v4, σ)) := h
  generalize itr (g_X4_closingBounds_20) n = K20 at h hK20
  unfold g_X4_closingBounds_20 at h
  dsimp only at h
  refine w_iload 4 dX4_closingBounds_20 rfl rfl ?_
  refine w_aload_n 0 dX4_closingBounds_22 rfl rfl rfl ?_
  obtain ⟨r1, s2, h3, h⟩ := h.bd
  refine k_X4_allReadings ml_RX4_15 (Nat.le_of_ble_eq_true rfl) ⟨Nat.le_of_ble_eq_true rfl, Nat.le_of_ble_eq_true rfl⟩ dX4_closingBounds_23 rfl h3 ?_
  refine w_icmp_ge (tgt := 63) dX4_closingBounds_26 (by decide) rfl (fun q => ?_) (fun q => ?_)
  · have h := h.tt q
    refine w_iload_n 2 dX4_closingBounds_63 rfl rfl rfl ?_
    exact w_ireturn dX4_closingBounds_64 h
  · have h := h.ff q
    refine w_iload 4 dX4_closingBounds_29 rfl rfl ?_
    obtain ⟨r4, s5, h6, h⟩ := h.bd
    refine k_J6_bitCount_0f7a4 ml_RX4_35 (Nat.le_of_ble_eq_true rfl) ⟨Nat.le_of_ble_eq_true rfl, Nat.le_of_ble_eq_true rfl⟩ dX4_closingBounds_31 rfl h6 ?_
    refine w_iload_n 3 dX4_closingBounds_34 rfl rfl rfl ?_
    refine w_icmp_ge (tgt := 57) dX4_closingBounds_35 (by decide) rfl (fun q => ?_) (fun q => ?_)
    · have h := h.tt q
      exact w_sub [0, 1, 2, 3, 4] rfl (b_X4_closingBounds_57 K20 hK20 v1 v2 v3 v4 s5 h)
    · have h := h.ff q
      refine w_aload_n 0 dX4_closingBounds_38 rfl rfl rfl ?_
      refine w_iload_n 1 dX4_closingBounds_39 rfl rfl rfl ?_
      refine w_iload 4 dX4_closingBounds_40 rfl rfl ?_
      obtain ⟨r7, s8, h9, h⟩ := h.bd
      refine k_X4_isHeld ml_RX4_19 (Nat.le_of_ble_eq_true rfl) ⟨Nat.le_of_ble_eq_true rfl, Nat.le_of_ble_eq_true rfl⟩ dX4_closingBounds_42 rfl h9 ?_
      refine w_if_ne (tgt := 57) dX4_closingBounds_45 (by decide) rfl (fun q => ?_) (fun q => ?_)
      · have h := h.ff q
        exact w_sub [0, 1, 2, 3, 4] rfl (b_X4_closingBounds_57 K20 hK20 v1 v2 v3 v4 s8 h)
      · have h := h.tt q
        refine w_iload 4 dX4_closingBounds_48 rfl rfl ?_
        refine w_istore_n [(2, .int v4), (0, .ref (xd Γ 48)), (1, .int v1), (3, .int v3), (4, .int v4)] dX4_closingBounds_50 rfl (by decide) rfl rfl ?_
        refine w_iload 4 dX4_closingBounds_51 rfl rfl ?_
        obtain ⟨r10, s11, h12, h⟩ := h.bd
        refine k_J6_bitCount_0f7a4 ml_RX4_35 (Nat.le_of_ble_eq_true rfl) ⟨Nat.le_of_ble_eq_true rfl, Nat.le_of_ble_eq_true rfl⟩ dX4_closingBounds_53 rfl h12 ?_
        refine w_istore_n [(3, .int r10), (2, .int v4), (0, .ref (xd Γ 48)), (1, .int v1), (4, .int v4)] dX4_closingBounds_56 rfl (by decide) rfl rfl ?_
        exact w_sub [2, 3, 1, 0, 4] rfl (b_X4_closingBounds_57 K20 hK20 v1 v4 r10 v4 s11 h)
def f_X4_closingBounds (p0 : Int32) (σ : St) : Option (Int32 × St) :=
  bnd ((((2 : Int32) * (gf σ 9 3)) + (1 : Int32))) fun x1 =>
  itr (g_X4_closingBounds_20) FU (p0, (-1 : Int32), x1, (0 : Int32), σ)
theorem e_X4_closingBounds {Γ : CX} (p0 : Int32) (σ : St) (h : RR vI Γ (f_X4_closingBounds p0 σ)) : WW Γ cX4_closingBounds 5 RX4 (some .int) rX4_closingBounds σ 0 [(0, .ref (xd Γ 48)), (1, .int p0)] [] := by
  unfold f_X4_closingBounds at h
  refine w_iconst (-1 : Int32) dX4_closingBounds_0 ic_iconst_m1 rfl ?_
  refine w_istore_n [(2, .int (-1 : Int32)), (0, .ref (xd Γ 48)), (1, .int p0)] dX4_closingBounds_1 rfl (by decide) rfl rfl ?_
  refine w_iconst (2 : Int32) dX4_closingBounds_2 ic_iconst_2 rfl ?_
  refine w_aload_n 1 dX4_closingBounds_3 rfl rfl rfl ?_
  refine gf_RX4_9 dX4_closingBounds_4 rfl ?_
  refine gf_RX4_23 (i := 1) (isW_lit (by decide)) dX4_closingBounds_7 rfl ?_
  refine gf_RX4_29 (i := 9) (isT_lit (by decide)) dX4_closingBounds_10 rfl ?_
  refine w_imul dX4_closingBounds_13 rfl ?_
  refine w_iconst (1 : Int32) dX4_closingBounds_14 ic_iconst_1 rfl ?_
  refine w_iadd dX4_closingBounds_15 rfl ?_
  refine w_nmI (fun x1 ex1 => ?_)
  replace h := h.bnd ex1
  clear ex1
  refine w_istore_n [(3, .int x1), (2, .int (-1 : Int32)), (0, .ref (xd Γ 48)), (1, .int p0)] dX4_closingBounds_16 rfl (by decide) rfl rfl ?_
  refine w_iconst (0 : Int32) dX4_closingBounds_17 ic_iconst_0 rfl ?_
  refine w_istore [(4, .int (0 : Int32)), (3, .int x1), (2, .int (-1 : Int32)), (0, .ref (xd Γ 48)), (1, .int p0)] dX4_closingBounds_18 (by decide) rfl rfl ?_
  exact w_sub [3, 4, 2, 1, 0] rfl (l_X4_closingBounds_20 FU p0 (-1 : Int32) x1 (0 : Int32) σ h)
theorem c_X4_closingBounds {l : Launch} {D : va_G} {cy : Nat → ClassId} {ad : Nat → Nat} {p0 : Int32} {σ σ' : St} {r : Int32} (hf : f_X4_closingBounds p0 σ = some (r, σ')) : CT l D cy ad yX4_closingBounds cX4_closingBounds 5 (some .int) rX4_closingBounds [.ref (ad 48), .int p0] σ (some (.int r)) σ' :=
  ct_of (by decide) (Nat.le_of_ble_eq_true rfl) (fun p e s m args below meth c A => e_X4_closingBounds (Γ := (p, l, e, rX4_closingBounds, s, m, args, below, meth, c, D, cy, ad, A, 0, 0, ((some (.int r)), σ'))) p0 σ ⟨_, hf, rfl⟩)
theorem k_X4_closingBounds {Γ : CX} {cc : ByteArray} {nL : Nat} {own : String} {ret : Option FieldType} {rm : Room} {σ σ' : St} {pc pc' idx : Nat} {lv : List (Nat × Value)} {rest : List Value} {p0 : Int32} {r : Int32} (hl : Cond.methodLink own idx yX4_closingBounds ∈ TB) (hw : (rest.map fun v => v.category).sum ≤ 8) (hR : rX4_closingBounds.frames + 1 ≤ rm.frames ∧ 8 + (5 + 11) + rX4_closingBounds.locals ≤ rm.locals) (hd : decode cc pc = .ok (.invokevirtual idx, 3)) (hp : pc + 3 = pc') (hf : f_X4_closingBounds p0 σ = some (r, σ')) (h : WW Γ cc nL own ret rm σ' pc' lv (.int r :: rest)) : WW Γ cc nL own ret rm σ pc lv (.int p0 :: .ref (xd Γ 48) :: rest) :=
  w_callV (nn := 1) (i := 48) (As := [.int p0]) (v := (some (.int r))) (T := TX4) (N := 1) (c_X4_closingBounds hf) hl mw_X4_closingBounds (by decide +kernel) ⟨rfl, rfl⟩ hR (lt_lit (by decide)) cel_48 rfl rfl hw hd rfl hp h
/-! WarByHours.Places.settle (II)V -/
def rX5_settle : Room := { frames := 2, cells := 0, slots := 0, locals := 50 }
def f_X5_settle_88 (K8 : Int32 × Int32 × Int32 × St → Option (Unit × St)) (K16 : Int32 × Int32 × Int32 × Int32 × St → Option (Unit × St)) (v1 : Int32) (v2 : Int32) (v3 : Int32) (v4 : Int32) (σ : St) : Option (Unit × St) :=
  bnd (v4 + (1 : Int32)) fun x1 =>
  K16 (v1, v2, v3, x1, σ)
theorem b_X5_settle_88 {Γ : CX} (K8 : Int32 × Int32 × Int32 × St → Option (Unit × St)) (K16 : Int32 × Int32 × Int32 × Int32 × St → Option (Unit × St)) (hK8 : ∀ (v1 : Int32) (v2 : Int32) (v3 : Int32) (σ : St), RR vU Γ (K8 (v1, v2, v3, σ)) → WW Γ cX5_settle 6 RX5 none rX5_settle σ 8 [(0, .ref (xd Γ 43)), (1, .int v1), (2, .int v2), (3, .int v3)] []) (hK16 : ∀ (v1 : Int32) (v2 : Int32) (v3 : Int32) (v4 : Int32) (σ : St), RR vU Γ (K16 (v1, v2, v3, v4, σ)) → WW Γ cX5_settle 6 RX5 none rX5_settle σ 16 [(0, .ref (xd Γ 43)), (1, .int v1), (2, .int v2), (3, .int v3), (4, .int v4)] []) (v1 : Int32) (v2 : Int32) (v3 : Int32) (v4 : Int32) (σ : St) (h : RR vU Γ (f_X5_settle_88 K8 K16 v1 v2 v3 v4 σ)) : WW Γ cX5_settle 6 RX5 none rX5_settle σ 88 [(0, .ref (xd Γ 43)), (1, .int v1), (2, .int v2), (3, .int v3), (4, .int v4)] [] := by
  unfold f_X5_settle_88 at h
  obtain ⟨x1, ex1⟩ : ∃ y : Int32, y = (v4 + (1 : Int32)) := ⟨_, rfl⟩
  replace h := h.bnd ex1
  refine w_iinc 4 x1 [(4, .int x1), (0, .ref (xd Γ 43)), (1, .int v1), (2, .int v2), (3, .int v3)] dX5_settle_88 rfl (by rw [ex1, ic_iconst_1]) (by decide) rfl rfl ?_
  clear ex1
  refine w_goto (tgt := 16) dX5_settle_91 (by decide) ?_
  exact w_sub [1, 2, 3, 4, 0] rfl (hK16 v1 v2 v3 x1 σ h)
def g_X5_settle_16 (K8 : Int32 × Int32 × Int32 × St → Option (Unit × St)) (K16 : Int32 × Int32 × Int32 × Int32 × St → Option (Unit × St)) (x : Int32 × Int32 × Int32 × Int32 × St) : Option (Unit × St) := match x with
  | (v1, v2, v3, v4, σ) =>
  if v1 < (v3 + v4) then
    bnd (v3 + (1 : Int32)) fun x1 =>
    K8 (v1, v2, x1, σ)
  else
    bd (f_X5_put 46 v3 v4 v1 σ) fun _ s3 =>
    bd (f_X5_meet v2 s3) fun r5 s6 =>
    if r5 ≤ (gf s6 43 0) then
      f_X5_settle_88 K8 K16 v1 v2 v3 v4 s6
    else
      bnd (sf s6 43 0 r5) fun s8 =>
      bd (f_X5_put 44 v3 v4 v1 s8) fun _ s10 =>
      gd (inb (0 : Int32) (ln 47)) <|
      gd (inb (1 : Int32) (ln 47)) <|
      bd (f_X5_put 45 (gr s10 47 (0 : Int32).toNatClampNeg) (gr s10 47 (1 : Int32).toNatClampNeg) v2 s10) fun _ s15 =>
      f_X5_settle_88 K8 K16 v1 v2 v3 v4 s15
theorem l_X5_settle_16 {Γ : CX} (K8 : Int32 × Int32 × Int32 × St → Option (Unit × St)) (hK8 : ∀ (v1 : Int32) (v2 : Int32) (v3 : Int32) (σ : St), RR vU Γ (K8 (v1, v2, v3, σ)) → WW Γ cX5_settle 6 RX5 none rX5_settle σ 8 [(0, .ref (xd Γ 43)), (1, .int v1), (2, .int v2), (3, .int v3)] []) : ∀ (n : Nat) (v1 : Int32) (v2 : Int32) (v3 : Int32) (v4 : Int32) (σ : St), RR vU Γ (itr (g_X5_settle_16 K8) n (v1, v2, v3, v4, σ)) → WW Γ cX5_settle 6 RX5 none rX5_settle σ 16 [(0, .ref (xd Γ 43)), (1, .int v1), (2, .int v2), (3, .int v3), (4, .int v4)] [] := by
  intro n
  induction n with
  | zero => intro v1 v2 v3 v4 σ h; exact RR.no h
  | succ n hK16 =>
  intro v1 v2 v3 v4 σ h
  have h : RR vU Γ (g_X5_settle_16 K8 (itr (g_X5_settle_16 K8) n) (v1, v2, v3, v4, σ)) := h
  generalize itr (g_X5_settle_16 K8) n = K16 at h hK16
  unfold g_X5_settle_16 at h
  dsimp only at h
  refine w_iload_n 3 dX5_settle_16 rfl rfl rfl ?_
  refine w_iload 4 dX5_settle_17 rfl rfl ?_
  refine w_iadd dX5_settle_19 rfl ?_
  refine w_iload_n 1 dX5_settle_20 rfl rfl rfl ?_
  refine w_icmp_gt (tgt := 94) dX5_settle_21 (by decide) rfl (fun q => ?_) (fun q => ?_)
  · have h := h.tt q
    obtain ⟨x1, ex1⟩ : ∃ y : Int32, y = (v3 + (1 : Int32)) := ⟨_, rfl⟩
    replace h := h.bnd ex1
    refine w_iinc 3 x1 [(3, .int x1), (0, .ref (xd Γ 43)), (1, .int v1), (2, .int v2), (4, .int v4)] dX5_settle_94 rfl (by rw [ex1, ic_iconst_1]) (by decide) rfl rfl ?_
    clear ex1
    refine w_goto (tgt := 8) dX5_settle_97 (by decide) ?_
    exact w_sub [1, 2, 3, 0] rfl (hK8 v1 v2 x1 σ h)
  · have h := h.ff q
    refine w_aload_n 0 dX5_settle_24 rfl rfl rfl ?_
    refine gf_RX5_16 dX5_settle_25 rfl ?_
    refine w_iload_n 3 dX5_settle_28 rfl rfl rfl ?_
    refine w_iload 4 dX5_settle_29 rfl rfl ?_
    refine w_iload_n 1 dX5_settle_31 rfl rfl rfl ?_
    obtain ⟨r2, s3, h4, h⟩ := h.bd
    refine k_X5_put ml_RX5_26 (Nat.le_of_ble_eq_true rfl) ⟨Nat.le_of_ble_eq_true rfl, Nat.le_of_ble_eq_true rfl⟩ dX5_settle_32 rfl h4 ?_
    refine w_aload_n 0 dX5_settle_35 rfl rfl rfl ?_
    refine w_iload_n 2 dX5_settle_36 rfl rfl rfl ?_
    obtain ⟨r5, s6, h7, h⟩ := h.bd
    refine k_X5_meet ml_RX5_30 (Nat.le_of_ble_eq_true rfl) ⟨Nat.le_of_ble_eq_true rfl, Nat.le_of_ble_eq_true rfl⟩ dX5_settle_37 rfl h7 ?_
    refine w_istore [(5, .int r5), (0, .ref (xd Γ 43)), (1, .int v1), (2, .int v2), (3, .int v3), (4, .int v4)] dX5_settle_40 (by decide) rfl rfl ?_
    refine w_iload 0 dX5_settle_42 rfl rfl ?_
    refine w_aload_n 1 dX5_settle_44 rfl rfl rfl ?_
    refine gf_RX5_22 dX5_settle_45 rfl ?_
    refine w_icmp_le (tgt := 88) dX5_settle_48 (by decide) rfl (fun q => ?_) (fun q => ?_)
    · have h := h.tt q
      exact w_sub [1, 2, 3, 4, 5] rfl (b_X5_settle_88 K8 K16 hK8 hK16 v1 v2 v3 v4 s6 h)
    · have h := h.ff q
      refine w_aload_n 1 dX5_settle_51 rfl rfl rfl ?_
      refine w_iload 0 dX5_settle_52 rfl rfl ?_
      refine pf_RX5_22 dX5_settle_54 rfl ?_
      obtain ⟨s8, es8⟩ : ∃ y : St, y = (sf s6 43 0 r5) := ⟨_, rfl⟩
      rw [← es8]
      replace h := h.bnd es8
      clear es8
      refine w_aload_n 1 dX5_settle_57 rfl rfl rfl ?_
      refine gf_RX5_9 dX5_settle_58 rfl ?_
      refine w_iload_n 4 dX5_settle_61 rfl rfl rfl ?_
      refine w_iload 5 dX5_settle_62 rfl rfl ?_
      refine w_iload_n 2 dX5_settle_64 rfl rfl rfl ?_
      obtain ⟨r9, s10, h11, h⟩ := h.bd
      refine k_X5_put ml_RX5_26 (Nat.le_of_ble_eq_true rfl) ⟨Nat.le_of_ble_eq_true rfl, Nat.le_of_ble_eq_true rfl⟩ dX5_settle_65 rfl h11 ?_
      refine w_aload_n 1 dX5_settle_68 rfl rfl rfl ?_
      refine gf_RX5_13 dX5_settle_69 rfl ?_
      refine w_aload_n 1 dX5_settle_72 rfl rfl rfl ?_
      refine gf_RX5_19 dX5_settle_73 rfl ?_
      refine w_iconst (0 : Int32) dX5_settle_76 ic_iconst_0 rfl ?_
      obtain ⟨hi12, h⟩ := h.gd
      refine w_iald (i := 47) (lt_lit (by decide)) rfl hi12 dX5_settle_77 rfl ?_
      refine w_aload_n 1 dX5_settle_78 rfl rfl rfl ?_
      refine gf_RX5_19 dX5_settle_79 rfl ?_
      refine w_iconst (1 : Int32) dX5_settle_82 ic_iconst_1 rfl ?_
      obtain ⟨hi13, h⟩ := h.gd
      refine w_iald (i := 47) (lt_lit (by decide)) rfl hi13 dX5_settle_83 rfl ?_
      refine w_iload_n 3 dX5_settle_84 rfl rfl rfl ?_
      obtain ⟨r14, s15, h16, h⟩ := h.bd
      refine k_X5_put ml_RX5_26 (Nat.le_of_ble_eq_true rfl) ⟨Nat.le_of_ble_eq_true rfl, Nat.le_of_ble_eq_true rfl⟩ dX5_settle_85 rfl h16 ?_
      exact w_sub [1, 2, 3, 4, 5] rfl (b_X5_settle_88 K8 K16 hK8 hK16 v1 v2 v3 v4 s15 h)
def g_X5_settle_8 (K8 : Int32 × Int32 × Int32 × St → Option (Unit × St)) (x : Int32 × Int32 × Int32 × St) : Option (Unit × St) := match x with
  | (v1, v2, v3, σ) =>
  if v1 < v3 then
    some ((), σ)
  else
    itr (g_X5_settle_16 K8) FU (v1, v2, v3, (0 : Int32), σ)
theorem l_X5_settle_8 {Γ : CX} : ∀ (n : Nat) (v1 : Int32) (v2 : Int32) (v3 : Int32) (σ : St), RR vU Γ (itr (g_X5_settle_8) n (v1, v2, v3, σ)) → WW Γ cX5_settle 6 RX5 none rX5_settle σ 8 [(0, .ref (xd Γ 43)), (1, .int v1), (2, .int v2), (3, .int v3)] [] := by
  intro n
  induction n with
  | zero => intro v1 v2 v3 σ h; exact RR.no h
  | succ n hK8 =>
  intro v1 v2 v3 σ h
  have h : RR vU Γ (g_X5_settle_8 (itr (g_X5_settle_8) n) (v1, v2, v3, σ)) := h
  generalize itr (g_X5_settle_8) n = K8 at h hK8
  unfold g_X5_settle_8 at h
  dsimp only at h
  refine w_iload_n 3 dX5_settle_8 rfl rfl rfl ?_
  refine w_iload_n 1 dX5_settle_9 rfl rfl rfl ?_
  refine w_icmp_gt (tgt := 100) dX5_settle_10 (by decide) rfl (fun q => ?_) (fun q => ?_)
  · have h := h.tt q
    exact w_return dX5_settle_100 h
  · have h := h.ff q
    refine w_iconst (0 : Int32) dX5_settle_13 ic_iconst_0 rfl ?_
    refine w_istore [(4, .int (0 : Int32)), (0, .ref (xd Γ 43)), (1, .int v1), (2, .int v2), (3, .int v3)] dX5_settle_14 (by decide) rfl rfl ?_
    exact w_sub [1, 2, 3, 4, 0] rfl (l_X5_settle_16 K8 hK8 FU v1 v2 v3 (0 : Int32) σ h)
def f_X5_settle (p0 : Int32) (p1 : Int32) (σ : St) : Option (Unit × St) :=
  bnd (sf σ 43 0 (-4 : Int32)) fun s1 =>
  itr (g_X5_settle_8) FU (p0, p1, (0 : Int32), s1)
theorem e_X5_settle {Γ : CX} (p0 : Int32) (p1 : Int32) (σ : St) (h : RR vU Γ (f_X5_settle p0 p1 σ)) : WW Γ cX5_settle 6 RX5 none rX5_settle σ 0 [(0, .ref (xd Γ 43)), (1, .int p0), (2, .int p1)] [] := by
  unfold f_X5_settle at h
  refine w_aload_n 0 dX5_settle_0 rfl rfl rfl ?_
  refine w_bipush (-4 : Int32) dX5_settle_1 ic_bipush_m4 rfl ?_
  refine pf_RX5_22 dX5_settle_3 rfl ?_
  obtain ⟨s1, es1⟩ : ∃ y : St, y = (sf σ 43 0 (-4 : Int32)) := ⟨_, rfl⟩
  rw [← es1]
  replace h := h.bnd es1
  clear es1
  refine w_iconst (0 : Int32) dX5_settle_6 ic_iconst_0 rfl ?_
  refine w_istore_n [(3, .int (0 : Int32)), (0, .ref (xd Γ 43)), (1, .int p0), (2, .int p1)] dX5_settle_7 rfl (by decide) rfl rfl ?_
  exact w_sub [1, 2, 3, 0] rfl (l_X5_settle_8 FU p0 p1 (0 : Int32) s1 h)
theorem c_X5_settle {l : Launch} {D : va_G} {cy : Nat → ClassId} {ad : Nat → Nat} {p0 : Int32} {p1 : Int32} {σ σ' : St} {r : Unit} (hf : f_X5_settle p0 p1 σ = some (r, σ')) : CT l D cy ad yX5_settle cX5_settle 6 none rX5_settle [.ref (ad 43), .int p0, .int p1] σ none σ' :=
  ct_of (by decide) (Nat.le_of_ble_eq_true rfl) (fun p e s m args below meth c A => e_X5_settle (Γ := (p, l, e, rX5_settle, s, m, args, below, meth, c, D, cy, ad, A, 0, 0, (none, σ'))) p0 p1 σ ⟨_, hf, rfl⟩)
theorem k_X5_settle {Γ : CX} {cc : ByteArray} {nL : Nat} {own : String} {ret : Option FieldType} {rm : Room} {σ σ' : St} {pc pc' idx : Nat} {lv : List (Nat × Value)} {rest : List Value} {p0 : Int32} {p1 : Int32} {r : Unit} (hl : Cond.methodLink own idx yX5_settle ∈ TB) (hw : (rest.map fun v => v.category).sum ≤ 8) (hR : rX5_settle.frames + 1 ≤ rm.frames ∧ 8 + (6 + 11) + rX5_settle.locals ≤ rm.locals) (hd : decode cc pc = .ok (.invokevirtual idx, 3)) (hp : pc + 3 = pc') (hf : f_X5_settle p0 p1 σ = some (r, σ')) (h : WW Γ cc nL own ret rm σ' pc' lv (rest)) : WW Γ cc nL own ret rm σ pc lv (.int p1 :: .int p0 :: .ref (xd Γ 43) :: rest) :=
  w_callV (nn := 2) (i := 43) (As := [.int p0, .int p1]) (v := none) (T := TX5) (N := 5) (c_X5_settle hf) hl mw_X5_settle (by decide +kernel) ⟨rfl, rfl⟩ hR (lt_lit (by decide)) cel_43 rfl rfl hw hd rfl hp h
/-! WarByHours.Reader.begin (LWarByHours$Table;)V -/
def rX6_begin : Room := { frames := 2, cells := 0, slots := 0, locals := 43 }
def f_X6_begin (u0 : Nat) (σ : St) : Option (Unit × St) :=
  gd (isT σ u0) <|
  bd (f_X9_isFull u0 σ) fun r1 s2 =>
  if r1 = 0 then
    bd (f_X9_add u0 s2) fun _ s5 =>
    bd (f_X6_advance s5) fun _ s8 =>
    some ((), s8)
  else
    bd (f_X6_blame (3 : Int32) s2) fun _ s11 =>
    some ((), s11)
theorem e_X6_begin {Γ : CX} (u0 : Nat) (σ : St) (h : RR vU Γ (f_X6_begin u0 σ)) : WW Γ cX6_begin 2 RX6 none rX6_begin σ 0 [(0, .ref (xd Γ 29)), (1, .ref (xd Γ u0))] [] := by
  unfold f_X6_begin at h
  obtain ⟨hg_u0_σ, h⟩ := h.gd
  refine w_aload_n 1 dX6_begin_0 rfl rfl rfl ?_
  obtain ⟨r1, s2, h3, h⟩ := h.bd
  refine k_X9_isFull ml_RX6_176 (Nat.le_of_ble_eq_true rfl) ⟨Nat.le_of_ble_eq_true rfl, Nat.le_of_ble_eq_true rfl⟩ dX6_begin_1 rfl h3 ?_
  refine w_if_eq (tgt := 13) dX6_begin_4 (by decide) rfl (fun q => ?_) (fun q => ?_)
  · have h := h.tt q
    refine w_aload_n 1 dX6_begin_13 rfl rfl rfl ?_
    obtain ⟨r4, s5, h6, h⟩ := h.bd
    refine k_X9_add ml_RX6_180 (Nat.le_of_ble_eq_true rfl) ⟨Nat.le_of_ble_eq_true rfl, Nat.le_of_ble_eq_true rfl⟩ dX6_begin_14 rfl h6 ?_
    refine w_aload_n 0 dX6_begin_17 rfl rfl rfl ?_
    obtain ⟨r7, s8, h9, h⟩ := h.bd
    refine k_X6_advance ml_RX6_37 (Nat.le_of_ble_eq_true rfl) ⟨Nat.le_of_ble_eq_true rfl, Nat.le_of_ble_eq_true rfl⟩ dX6_begin_18 rfl h9 ?_
    exact w_return dX6_begin_21 h
  · have h := h.ff q
    refine w_aload_n 0 dX6_begin_7 rfl rfl rfl ?_
    refine w_iconst (3 : Int32) dX6_begin_8 ic_iconst_3 rfl ?_
    obtain ⟨r10, s11, h12, h⟩ := h.bd
    refine k_X6_blame ml_RX6_94 (Nat.le_of_ble_eq_true rfl) ⟨Nat.le_of_ble_eq_true rfl, Nat.le_of_ble_eq_true rfl⟩ dX6_begin_9 rfl h12 ?_
    exact w_return dX6_begin_12 h
theorem c_X6_begin {l : Launch} {D : va_G} {cy : Nat → ClassId} {ad : Nat → Nat} {u0 : Nat} {σ σ' : St} {r : Unit} (hf : f_X6_begin u0 σ = some (r, σ')) : CT l D cy ad yX6_begin cX6_begin 2 none rX6_begin [.ref (ad 29), .ref (ad u0)] σ none σ' :=
  ct_of (by decide) (Nat.le_of_ble_eq_true rfl) (fun p e s m args below meth c A => e_X6_begin (Γ := (p, l, e, rX6_begin, s, m, args, below, meth, c, D, cy, ad, A, 0, 0, (none, σ'))) u0 σ ⟨_, hf, rfl⟩)
theorem k_X6_begin {Γ : CX} {cc : ByteArray} {nL : Nat} {own : String} {ret : Option FieldType} {rm : Room} {σ σ' : St} {pc pc' idx : Nat} {lv : List (Nat × Value)} {rest : List Value} {u0 : Nat} {r : Unit} (hl : Cond.methodLink own idx yX6_begin ∈ TB) (hw : (rest.map fun v => v.category).sum ≤ 8) (hR : rX6_begin.frames + 1 ≤ rm.frames ∧ 8 + (2 + 11) + rX6_begin.locals ≤ rm.locals) (hd : decode cc pc = .ok (.invokevirtual idx, 3)) (hp : pc + 3 = pc') (hf : f_X6_begin u0 σ = some (r, σ')) (h : WW Γ cc nL own ret rm σ' pc' lv (rest)) : WW Γ cc nL own ret rm σ pc lv (.ref (xd Γ u0) :: .ref (xd Γ 29) :: rest) :=
  w_callV (nn := 1) (i := 29) (As := [.ref (xd Γ u0)]) (v := none) (T := TX6) (N := 9) (c_X6_begin hf) hl mw_X6_begin (by decide +kernel) ⟨rfl, rfl⟩ hR (lt_lit (by decide)) cel_29 rfl rfl hw hd rfl hp h
/-! WarByHours.Reader.number (II)I -/
def rX6_number : Room := { frames := 2, cells := 0, slots := 0, locals := 43 }
def f_X6_number_30 (σ : St) : Option (Int32 × St) :=
  bd (f_X6_blame (2 : Int32) σ) fun _ s2 =>
  some ((0 : Int32), s2)
theorem b_X6_number_30 {Γ : CX} (σ : St) (h : RR vI Γ (f_X6_number_30 σ)) : WW Γ cX6_number 4 RX6 (some .int) rX6_number σ 30 [(0, .ref (xd Γ 29))] [] := by
  unfold f_X6_number_30 at h
  refine w_aload_n 0 dX6_number_30 rfl rfl rfl ?_
  refine w_iconst (2 : Int32) dX6_number_31 ic_iconst_2 rfl ?_
  obtain ⟨r1, s2, h3, h⟩ := h.bd
  refine k_X6_blame ml_RX6_94 (Nat.le_of_ble_eq_true rfl) ⟨Nat.le_of_ble_eq_true rfl, Nat.le_of_ble_eq_true rfl⟩ dX6_number_32 rfl h3 ?_
  refine w_iconst (0 : Int32) dX6_number_35 ic_iconst_0 rfl ?_
  exact w_ireturn dX6_number_36 h
def f_X6_number (p0 : Int32) (p1 : Int32) (σ : St) : Option (Int32 × St) :=
  if (gf σ 29 7) = (3 : Int32) then
    bnd ((gf σ 29 8)) fun x1 =>
    if x1 < p0 then
      f_X6_number_30 σ
    else
      if x1 ≤ p1 then
        bd (f_X6_advance σ) fun _ s3 =>
        some (x1, s3)
      else
        f_X6_number_30 σ
  else
    bd (f_X6_blame (1 : Int32) σ) fun _ s6 =>
    some ((0 : Int32), s6)
theorem e_X6_number {Γ : CX} (p0 : Int32) (p1 : Int32) (σ : St) (h : RR vI Γ (f_X6_number p0 p1 σ)) : WW Γ cX6_number 4 RX6 (some .int) rX6_number σ 0 [(0, .ref (xd Γ 29)), (1, .int p0), (2, .int p1)] [] := by
  unfold f_X6_number at h
  refine w_aload_n 0 dX6_number_0 rfl rfl rfl ?_
  refine gf_RX6_40 dX6_number_1 rfl ?_
  refine w_iconst (3 : Int32) dX6_number_4 ic_iconst_3 rfl ?_
  refine w_icmp_eq (tgt := 15) dX6_number_5 (by decide) rfl (fun q => ?_) (fun q => ?_)
  · have h := h.tt q
    refine w_aload_n 0 dX6_number_15 rfl rfl rfl ?_
    refine gf_RX6_183 dX6_number_16 rfl ?_
    refine w_nmI (fun x1 ex1 => ?_)
    replace h := h.bnd ex1
    clear ex1
    refine w_istore_n [(3, .int x1), (0, .ref (xd Γ 29)), (1, .int p0), (2, .int p1)] dX6_number_19 rfl (by decide) rfl rfl ?_
    refine w_iload_n 0 dX6_number_20 rfl rfl rfl ?_
    refine w_iload_n 2 dX6_number_21 rfl rfl rfl ?_
    refine w_icmp_lt (tgt := 30) dX6_number_22 (by decide) rfl (fun q => ?_) (fun q => ?_)
    · have h := h.tt q
      exact w_sub [1] rfl (b_X6_number_30 σ h)
    · have h := h.ff q
      refine w_iload_n 0 dX6_number_25 rfl rfl rfl ?_
      refine w_iload_n 3 dX6_number_26 rfl rfl rfl ?_
      refine w_icmp_le (tgt := 37) dX6_number_27 (by decide) rfl (fun q => ?_) (fun q => ?_)
      · have h := h.tt q
        refine w_aload_n 1 dX6_number_37 rfl rfl rfl ?_
        obtain ⟨r2, s3, h4, h⟩ := h.bd
        refine k_X6_advance ml_RX6_37 (Nat.le_of_ble_eq_true rfl) ⟨Nat.le_of_ble_eq_true rfl, Nat.le_of_ble_eq_true rfl⟩ dX6_number_38 rfl h4 ?_
        refine w_iload_n 0 dX6_number_41 rfl rfl rfl ?_
        exact w_ireturn dX6_number_42 h
      · have h := h.ff q
        exact w_sub [1] rfl (b_X6_number_30 σ h)
  · have h := h.ff q
    refine w_aload_n 0 dX6_number_8 rfl rfl rfl ?_
    refine w_iconst (1 : Int32) dX6_number_9 ic_iconst_1 rfl ?_
    obtain ⟨r5, s6, h7, h⟩ := h.bd
    refine k_X6_blame ml_RX6_94 (Nat.le_of_ble_eq_true rfl) ⟨Nat.le_of_ble_eq_true rfl, Nat.le_of_ble_eq_true rfl⟩ dX6_number_10 rfl h7 ?_
    refine w_iconst (0 : Int32) dX6_number_13 ic_iconst_0 rfl ?_
    exact w_ireturn dX6_number_14 h
theorem c_X6_number {l : Launch} {D : va_G} {cy : Nat → ClassId} {ad : Nat → Nat} {p0 : Int32} {p1 : Int32} {σ σ' : St} {r : Int32} (hf : f_X6_number p0 p1 σ = some (r, σ')) : CT l D cy ad yX6_number cX6_number 4 (some .int) rX6_number [.ref (ad 29), .int p0, .int p1] σ (some (.int r)) σ' :=
  ct_of (by decide) (Nat.le_of_ble_eq_true rfl) (fun p e s m args below meth c A => e_X6_number (Γ := (p, l, e, rX6_number, s, m, args, below, meth, c, D, cy, ad, A, 0, 0, ((some (.int r)), σ'))) p0 p1 σ ⟨_, hf, rfl⟩)
theorem k_X6_number {Γ : CX} {cc : ByteArray} {nL : Nat} {own : String} {ret : Option FieldType} {rm : Room} {σ σ' : St} {pc pc' idx : Nat} {lv : List (Nat × Value)} {rest : List Value} {p0 : Int32} {p1 : Int32} {r : Int32} (hl : Cond.methodLink own idx yX6_number ∈ TB) (hw : (rest.map fun v => v.category).sum ≤ 8) (hR : rX6_number.frames + 1 ≤ rm.frames ∧ 8 + (4 + 11) + rX6_number.locals ≤ rm.locals) (hd : decode cc pc = .ok (.invokevirtual idx, 3)) (hp : pc + 3 = pc') (hf : f_X6_number p0 p1 σ = some (r, σ')) (h : WW Γ cc nL own ret rm σ' pc' lv (.int r :: rest)) : WW Γ cc nL own ret rm σ pc lv (.int p1 :: .int p0 :: .ref (xd Γ 29) :: rest) :=
  w_callV (nn := 2) (i := 29) (As := [.int p0, .int p1]) (v := (some (.int r))) (T := TX6) (N := 9) (c_X6_number hf) hl mw_X6_number (by decide +kernel) ⟨rfl, rfl⟩ hR (lt_lit (by decide)) cel_29 rfl rfl hw hd rfl hp h
/-! WarByHours.Reader.sign ()V -/
def rX6_sign : Room := { frames := 2, cells := 0, slots := 0, locals := 43 }
def f_X6_sign (σ : St) : Option (Unit × St) :=
  if (gf σ 29 7) = (4 : Int32) then
    bd (f_X6_advance σ) fun _ s2 =>
    some ((), s2)
  else
    bd (f_X6_blame (1 : Int32) σ) fun _ s5 =>
    some ((), s5)
theorem e_X6_sign {Γ : CX} (σ : St) (h : RR vU Γ (f_X6_sign σ)) : WW Γ cX6_sign 1 RX6 none rX6_sign σ 0 [(0, .ref (xd Γ 29))] [] := by
  unfold f_X6_sign at h
  refine w_aload_n 0 dX6_sign_0 rfl rfl rfl ?_
  refine gf_RX6_40 dX6_sign_1 rfl ?_
  refine w_iconst (4 : Int32) dX6_sign_4 ic_iconst_4 rfl ?_
  refine w_icmp_eq (tgt := 14) dX6_sign_5 (by decide) rfl (fun q => ?_) (fun q => ?_)
  · have h := h.tt q
    refine w_aload_n 0 dX6_sign_14 rfl rfl rfl ?_
    obtain ⟨r1, s2, h3, h⟩ := h.bd
    refine k_X6_advance ml_RX6_37 (Nat.le_of_ble_eq_true rfl) ⟨Nat.le_of_ble_eq_true rfl, Nat.le_of_ble_eq_true rfl⟩ dX6_sign_15 rfl h3 ?_
    exact w_return dX6_sign_18 h
  · have h := h.ff q
    refine w_aload_n 0 dX6_sign_8 rfl rfl rfl ?_
    refine w_iconst (1 : Int32) dX6_sign_9 ic_iconst_1 rfl ?_
    obtain ⟨r4, s5, h6, h⟩ := h.bd
    refine k_X6_blame ml_RX6_94 (Nat.le_of_ble_eq_true rfl) ⟨Nat.le_of_ble_eq_true rfl, Nat.le_of_ble_eq_true rfl⟩ dX6_sign_10 rfl h6 ?_
    exact w_return dX6_sign_13 h
theorem c_X6_sign {l : Launch} {D : va_G} {cy : Nat → ClassId} {ad : Nat → Nat}  {σ σ' : St} {r : Unit} (hf : f_X6_sign σ = some (r, σ')) : CT l D cy ad yX6_sign cX6_sign 1 none rX6_sign [.ref (ad 29)] σ none σ' :=
  ct_of (by decide) (Nat.le_of_ble_eq_true rfl) (fun p e s m args below meth c A => e_X6_sign (Γ := (p, l, e, rX6_sign, s, m, args, below, meth, c, D, cy, ad, A, 0, 0, (none, σ'))) σ ⟨_, hf, rfl⟩)
theorem k_X6_sign {Γ : CX} {cc : ByteArray} {nL : Nat} {own : String} {ret : Option FieldType} {rm : Room} {σ σ' : St} {pc pc' idx : Nat} {lv : List (Nat × Value)} {rest : List Value}  {r : Unit} (hl : Cond.methodLink own idx yX6_sign ∈ TB) (hw : (rest.map fun v => v.category).sum ≤ 8) (hR : rX6_sign.frames + 1 ≤ rm.frames ∧ 8 + (1 + 11) + rX6_sign.locals ≤ rm.locals) (hd : decode cc pc = .ok (.invokevirtual idx, 3)) (hp : pc + 3 = pc') (hf : f_X6_sign σ = some (r, σ')) (h : WW Γ cc nL own ret rm σ' pc' lv (rest)) : WW Γ cc nL own ret rm σ pc lv (.ref (xd Γ 29) :: rest) :=
  w_callV (nn := 0) (i := 29) (As := []) (v := none) (T := TX6) (N := 9) (c_X6_sign hf) hl mw_X6_sign (by decide +kernel) ⟨rfl, rfl⟩ hR (lt_lit (by decide)) cel_29 rfl rfl hw hd rfl hp h
/-! WarByHours.Suspects.fitting (I)I -/
def rX8_fitting : Room := { frames := 2, cells := 0, slots := 0, locals := 43 }
def f_X8_fitting_36 (K4 : Int32 × Int32 × Int32 × St → Option (Int32 × St)) (v1 : Int32) (v2 : Int32) (v3 : Int32) (σ : St) : Option (Int32 × St) :=
  bnd (v3 + (1 : Int32)) fun x1 =>
  K4 (v1, v2, x1, σ)
theorem b_X8_fitting_36 {Γ : CX} (K4 : Int32 × Int32 × Int32 × St → Option (Int32 × St)) (hK4 : ∀ (v1 : Int32) (v2 : Int32) (v3 : Int32) (σ : St), RR vI Γ (K4 (v1, v2, v3, σ)) → WW Γ cX8_fitting 4 RX8 (some .int) rX8_fitting σ 4 [(0, .ref (xd Γ 49)), (1, .int v1), (2, .int v2), (3, .int v3)] []) (v1 : Int32) (v2 : Int32) (v3 : Int32) (σ : St) (h : RR vI Γ (f_X8_fitting_36 K4 v1 v2 v3 σ)) : WW Γ cX8_fitting 4 RX8 (some .int) rX8_fitting σ 36 [(0, .ref (xd Γ 49)), (1, .int v1), (2, .int v2), (3, .int v3)] [] := by
  unfold f_X8_fitting_36 at h
  obtain ⟨x1, ex1⟩ : ∃ y : Int32, y = (v3 + (1 : Int32)) := ⟨_, rfl⟩
  replace h := h.bnd ex1
  refine w_iinc 3 x1 [(3, .int x1), (0, .ref (xd Γ 49)), (1, .int v1), (2, .int v2)] dX8_fitting_36 rfl (by rw [ex1, ic_iconst_1]) (by decide) rfl rfl ?_
  clear ex1
  refine w_goto (tgt := 4) dX8_fitting_39 (by decide) ?_
  exact w_sub [1, 2, 3, 0] rfl (hK4 v1 v2 x1 σ h)
def g_X8_fitting_4 (K4 : Int32 × Int32 × Int32 × St → Option (Int32 × St)) (x : Int32 × Int32 × Int32 × St) : Option (Int32 × St) := match x with
  | (v1, v2, v3, σ) =>
  if (gf σ 11 3) ≤ v3 then
    some (v2, σ)
  else
    bd (f_X8_knownTo v3 σ) fun r1 s2 =>
    if (v1 &&& (r1 ^^^ (-1 : Int32))) = 0 then
      bnd ((v2 ||| ((1 : Int32) <<< (v3 &&& 31)))) fun x4 =>
      f_X8_fitting_36 K4 v1 x4 v3 s2
    else
      f_X8_fitting_36 K4 v1 v2 v3 s2
theorem l_X8_fitting_4 {Γ : CX} : ∀ (n : Nat) (v1 : Int32) (v2 : Int32) (v3 : Int32) (σ : St), RR vI Γ (itr (g_X8_fitting_4) n (v1, v2, v3, σ)) → WW Γ cX8_fitting 4 RX8 (some .int) rX8_fitting σ 4 [(0, .ref (xd Γ 49)), (1, .int v1), (2, .int v2), (3, .int v3)] [] := by
  intro n
  induction n with
  | zero => intro v1 v2 v3 σ h; exact RR.no h
  | succ n hK4 =>
  intro v1 v2 v3 σ h
  have h : RR vI Γ (g_X8_fitting_4 (itr (g_X8_fitting_4) n) (v1, v2, v3, σ)) := h
  generalize itr (g_X8_fitting_4) n = K4 at h hK4
  unfold g_X8_fitting_4 at h
  dsimp only at h
  refine w_iload_n 3 dX8_fitting_4 rfl rfl rfl ?_
  refine w_aload_n 0 dX8_fitting_5 rfl rfl rfl ?_
  refine gf_RX8_9 dX8_fitting_6 rfl ?_
  refine gf_RX8_15 (i := 1) (isW_lit (by decide)) dX8_fitting_9 rfl ?_
  refine gf_RX8_21 (i := 11) (isT_lit (by decide)) dX8_fitting_12 rfl ?_
  refine w_icmp_ge (tgt := 42) dX8_fitting_15 (by decide) rfl (fun q => ?_) (fun q => ?_)
  · have h := h.tt q
    refine w_iload_n 2 dX8_fitting_42 rfl rfl rfl ?_
    exact w_ireturn dX8_fitting_43 h
  · have h := h.ff q
    refine w_iload_n 1 dX8_fitting_18 rfl rfl rfl ?_
    refine w_aload_n 0 dX8_fitting_19 rfl rfl rfl ?_
    refine w_iload_n 3 dX8_fitting_20 rfl rfl rfl ?_
    obtain ⟨r1, s2, h3, h⟩ := h.bd
    refine k_X8_knownTo ml_RX8_27 (Nat.le_of_ble_eq_true rfl) ⟨Nat.le_of_ble_eq_true rfl, Nat.le_of_ble_eq_true rfl⟩ dX8_fitting_21 rfl h3 ?_
    refine w_iconst (-1 : Int32) dX8_fitting_24 ic_iconst_m1 rfl ?_
    refine w_ixor dX8_fitting_25 rfl ?_
    refine w_iand dX8_fitting_26 rfl ?_
    refine w_if_ne (tgt := 36) dX8_fitting_27 (by decide) rfl (fun q => ?_) (fun q => ?_)
    · have h := h.ff q
      exact w_sub [0, 1, 2, 3] rfl (b_X8_fitting_36 K4 hK4 v1 v2 v3 s2 h)
    · have h := h.tt q
      refine w_iload_n 2 dX8_fitting_30 rfl rfl rfl ?_
      refine w_iconst (1 : Int32) dX8_fitting_31 ic_iconst_1 rfl ?_
      refine w_iload_n 3 dX8_fitting_32 rfl rfl rfl ?_
      refine w_ishl dX8_fitting_33 rfl ?_
      refine w_ior dX8_fitting_34 rfl ?_
      refine w_nmI (fun x4 ex4 => ?_)
      replace h := h.bnd ex4
      clear ex4
      refine w_istore_n [(2, .int x4), (0, .ref (xd Γ 49)), (1, .int v1), (3, .int v3)] dX8_fitting_35 rfl (by decide) rfl rfl ?_
      exact w_sub [1, 2, 0, 3] rfl (b_X8_fitting_36 K4 hK4 v1 x4 v3 s2 h)
def f_X8_fitting (p0 : Int32) (σ : St) : Option (Int32 × St) :=
  itr (g_X8_fitting_4) FU (p0, (0 : Int32), (0 : Int32), σ)
theorem e_X8_fitting {Γ : CX} (p0 : Int32) (σ : St) (h : RR vI Γ (f_X8_fitting p0 σ)) : WW Γ cX8_fitting 4 RX8 (some .int) rX8_fitting σ 0 [(0, .ref (xd Γ 49)), (1, .int p0)] [] := by
  unfold f_X8_fitting at h
  refine w_iconst (0 : Int32) dX8_fitting_0 ic_iconst_0 rfl ?_
  refine w_istore_n [(2, .int (0 : Int32)), (0, .ref (xd Γ 49)), (1, .int p0)] dX8_fitting_1 rfl (by decide) rfl rfl ?_
  refine w_iconst (0 : Int32) dX8_fitting_2 ic_iconst_0 rfl ?_
  refine w_istore_n [(3, .int (0 : Int32)), (2, .int (0 : Int32)), (0, .ref (xd Γ 49)), (1, .int p0)] dX8_fitting_3 rfl (by decide) rfl rfl ?_
  exact w_sub [2, 3, 1, 0] rfl (l_X8_fitting_4 FU p0 (0 : Int32) (0 : Int32) σ h)
theorem c_X8_fitting {l : Launch} {D : va_G} {cy : Nat → ClassId} {ad : Nat → Nat} {p0 : Int32} {σ σ' : St} {r : Int32} (hf : f_X8_fitting p0 σ = some (r, σ')) : CT l D cy ad yX8_fitting cX8_fitting 4 (some .int) rX8_fitting [.ref (ad 49), .int p0] σ (some (.int r)) σ' :=
  ct_of (by decide) (Nat.le_of_ble_eq_true rfl) (fun p e s m args below meth c A => e_X8_fitting (Γ := (p, l, e, rX8_fitting, s, m, args, below, meth, c, D, cy, ad, A, 0, 0, ((some (.int r)), σ'))) p0 σ ⟨_, hf, rfl⟩)
theorem k_X8_fitting {Γ : CX} {cc : ByteArray} {nL : Nat} {own : String} {ret : Option FieldType} {rm : Room} {σ σ' : St} {pc pc' idx : Nat} {lv : List (Nat × Value)} {rest : List Value} {p0 : Int32} {r : Int32} (hl : Cond.methodLink own idx yX8_fitting ∈ TB) (hw : (rest.map fun v => v.category).sum ≤ 8) (hR : rX8_fitting.frames + 1 ≤ rm.frames ∧ 8 + (4 + 11) + rX8_fitting.locals ≤ rm.locals) (hd : decode cc pc = .ok (.invokevirtual idx, 3)) (hp : pc + 3 = pc') (hf : f_X8_fitting p0 σ = some (r, σ')) (h : WW Γ cc nL own ret rm σ' pc' lv (.int r :: rest)) : WW Γ cc nL own ret rm σ pc lv (.int p0 :: .ref (xd Γ 49) :: rest) :=
  w_callV (nn := 1) (i := 49) (As := [.int p0]) (v := (some (.int r))) (T := TX8) (N := 1) (c_X8_fitting hf) hl mw_X8_fitting (by decide +kernel) ⟨rfl, rfl⟩ hR (lt_lit (by decide)) cel_49 rfl rfl hw hd rfl hp h
/-! WarByHours.Suspects.leftAtWorst (II)I -/
def rX8_leftAtWorst : Room := { frames := 3, cells := 0, slots := 0, locals := 66 }
def f_X8_leftAtWorst (p0 : Int32) (p1 : Int32) (σ : St) : Option (Int32 × St) :=
  bd (f_X8_fitting p0 σ) fun r1 s2 =>
  bd (f_J6_bitCount_0f7a4 r1 s2) fun r4 s5 =>
  if p1 = (-1 : Int32) then
    some (r4, s5)
  else
    bd (f_X8_fitting (p0 ||| ((1 : Int32) <<< (p1 &&& 31))) s5) fun r7 s8 =>
    bd (f_J6_bitCount_0f7a4 r7 s8) fun r10 s11 =>
    some ((if r10 < (r4 - r10) then (r4 - r10) else r10), s11)
theorem e_X8_leftAtWorst {Γ : CX} (p0 : Int32) (p1 : Int32) (σ : St) (h : RR vI Γ (f_X8_leftAtWorst p0 p1 σ)) : WW Γ cX8_leftAtWorst 5 RX8 (some .int) rX8_leftAtWorst σ 0 [(0, .ref (xd Γ 49)), (1, .int p0), (2, .int p1)] [] := by
  unfold f_X8_leftAtWorst at h
  refine w_aload_n 0 dX8_leftAtWorst_0 rfl rfl rfl ?_
  refine w_iload_n 1 dX8_leftAtWorst_1 rfl rfl rfl ?_
  obtain ⟨r1, s2, h3, h⟩ := h.bd
  refine k_X8_fitting ml_RX8_31 (Nat.le_of_ble_eq_true rfl) ⟨Nat.le_of_ble_eq_true rfl, Nat.le_of_ble_eq_true rfl⟩ dX8_leftAtWorst_2 rfl h3 ?_
  obtain ⟨r4, s5, h6, h⟩ := h.bd
  refine k_J6_bitCount_0f7a4 ml_RX8_34 (Nat.le_of_ble_eq_true rfl) ⟨Nat.le_of_ble_eq_true rfl, Nat.le_of_ble_eq_true rfl⟩ dX8_leftAtWorst_5 rfl h6 ?_
  refine w_istore_n [(3, .int r4), (0, .ref (xd Γ 49)), (1, .int p0), (2, .int p1)] dX8_leftAtWorst_8 rfl (by decide) rfl rfl ?_
  refine w_iload_n 3 dX8_leftAtWorst_9 rfl rfl rfl ?_
  refine w_iconst (-1 : Int32) dX8_leftAtWorst_10 ic_iconst_m1 rfl ?_
  refine w_icmp_ne (tgt := 16) dX8_leftAtWorst_11 (by decide) rfl (fun q => ?_) (fun q => ?_)
  · have h := h.ff q
    refine w_aload_n 1 dX8_leftAtWorst_16 rfl rfl rfl ?_
    refine w_iload_n 2 dX8_leftAtWorst_17 rfl rfl rfl ?_
    refine w_iconst (1 : Int32) dX8_leftAtWorst_18 ic_iconst_1 rfl ?_
    refine w_iload_n 3 dX8_leftAtWorst_19 rfl rfl rfl ?_
    refine w_ishl dX8_leftAtWorst_20 rfl ?_
    refine w_ior dX8_leftAtWorst_21 rfl ?_
    obtain ⟨r7, s8, h9, h⟩ := h.bd
    refine k_X8_fitting ml_RX8_31 (Nat.le_of_ble_eq_true rfl) ⟨Nat.le_of_ble_eq_true rfl, Nat.le_of_ble_eq_true rfl⟩ dX8_leftAtWorst_22 rfl h9 ?_
    obtain ⟨r10, s11, h12, h⟩ := h.bd
    refine k_J6_bitCount_0f7a4 ml_RX8_34 (Nat.le_of_ble_eq_true rfl) ⟨Nat.le_of_ble_eq_true rfl, Nat.le_of_ble_eq_true rfl⟩ dX8_leftAtWorst_25 rfl h12 ?_
    refine w_istore [(4, .int r10), (3, .int r4), (0, .ref (xd Γ 49)), (1, .int p0), (2, .int p1)] dX8_leftAtWorst_28 (by decide) rfl rfl ?_
    refine w_iload 0 dX8_leftAtWorst_30 rfl rfl ?_
    refine w_iload_n 1 dX8_leftAtWorst_32 rfl rfl rfl ?_
    refine w_iload 0 dX8_leftAtWorst_33 rfl rfl ?_
    refine w_isub dX8_leftAtWorst_35 rfl ?_
    refine w_mmax ml_RX8_50 (Nat.le_of_ble_eq_true rfl) ⟨Nat.le_of_ble_eq_true rfl, Nat.le_of_ble_eq_true rfl⟩ dX8_leftAtWorst_36 rfl ?_
    exact w_ireturn dX8_leftAtWorst_39 h
  · have h := h.tt q
    refine w_iload_n 0 dX8_leftAtWorst_14 rfl rfl rfl ?_
    exact w_ireturn dX8_leftAtWorst_15 h
theorem c_X8_leftAtWorst {l : Launch} {D : va_G} {cy : Nat → ClassId} {ad : Nat → Nat} {p0 : Int32} {p1 : Int32} {σ σ' : St} {r : Int32} (hf : f_X8_leftAtWorst p0 p1 σ = some (r, σ')) : CT l D cy ad yX8_leftAtWorst cX8_leftAtWorst 5 (some .int) rX8_leftAtWorst [.ref (ad 49), .int p0, .int p1] σ (some (.int r)) σ' :=
  ct_of (by decide) (Nat.le_of_ble_eq_true rfl) (fun p e s m args below meth c A => e_X8_leftAtWorst (Γ := (p, l, e, rX8_leftAtWorst, s, m, args, below, meth, c, D, cy, ad, A, 0, 0, ((some (.int r)), σ'))) p0 p1 σ ⟨_, hf, rfl⟩)
theorem k_X8_leftAtWorst {Γ : CX} {cc : ByteArray} {nL : Nat} {own : String} {ret : Option FieldType} {rm : Room} {σ σ' : St} {pc pc' idx : Nat} {lv : List (Nat × Value)} {rest : List Value} {p0 : Int32} {p1 : Int32} {r : Int32} (hl : Cond.methodLink own idx yX8_leftAtWorst ∈ TB) (hw : (rest.map fun v => v.category).sum ≤ 8) (hR : rX8_leftAtWorst.frames + 1 ≤ rm.frames ∧ 8 + (5 + 11) + rX8_leftAtWorst.locals ≤ rm.locals) (hd : decode cc pc = .ok (.invokevirtual idx, 3)) (hp : pc + 3 = pc') (hf : f_X8_leftAtWorst p0 p1 σ = some (r, σ')) (h : WW Γ cc nL own ret rm σ' pc' lv (.int r :: rest)) : WW Γ cc nL own ret rm σ pc lv (.int p1 :: .int p0 :: .ref (xd Γ 49) :: rest) :=
  w_callV (nn := 2) (i := 49) (As := [.int p0, .int p1]) (v := (some (.int r))) (T := TX8) (N := 1) (c_X8_leftAtWorst hf) hl mw_X8_leftAtWorst (by decide +kernel) ⟨rfl, rfl⟩ hR (lt_lit (by decide)) cel_49 rfl rfl hw hd rfl hp h
/-! WarByHours.Suspects.knownToAll (I)I -/
def rX8_knownToAll : Room := { frames := 3, cells := 0, slots := 0, locals := 66 }
def f_X8_knownToAll_60 (K27 : Int32 × Int32 × Int32 × St → Option (Int32 × St)) (v2 : Int32) (v3 : Int32) (v4 : Int32) (σ : St) : Option (Int32 × St) :=
  bnd (v4 + (1 : Int32)) fun x1 =>
  K27 (v2, v3, x1, σ)
theorem b_X8_knownToAll_60 {Γ : CX} (K27 : Int32 × Int32 × Int32 × St → Option (Int32 × St)) (hK27 : ∀ (v2 : Int32) (v3 : Int32) (v4 : Int32) (σ : St), RR vI Γ (K27 (v2, v3, v4, σ)) → WW Γ cX8_knownToAll 5 RX8 (some .int) rX8_knownToAll σ 27 [(0, .ref (xd Γ 49)), (2, .int v2), (3, .int v3), (4, .int v4)] []) (v2 : Int32) (v3 : Int32) (v4 : Int32) (σ : St) (h : RR vI Γ (f_X8_knownToAll_60 K27 v2 v3 v4 σ)) : WW Γ cX8_knownToAll 5 RX8 (some .int) rX8_knownToAll σ 60 [(0, .ref (xd Γ 49)), (2, .int v2), (3, .int v3), (4, .int v4)] [] := by
  unfold f_X8_knownToAll_60 at h
  obtain ⟨x1, ex1⟩ : ∃ y : Int32, y = (v4 + (1 : Int32)) := ⟨_, rfl⟩
  replace h := h.bnd ex1
  refine w_iinc 3 x1 [(4, .int x1), (0, .ref (xd Γ 49)), (2, .int v2), (3, .int v3)] dX8_knownToAll_60 rfl (by rw [ex1, ic_iconst_1]) (by decide) rfl rfl ?_
  clear ex1
  refine w_goto (tgt := 27) dX8_knownToAll_63 (by decide) ?_
  exact w_sub [1, 2, 3, 0] rfl (hK27 v2 v3 x1 σ h)
def g_X8_knownToAll_27 (K27 : Int32 × Int32 × Int32 × St → Option (Int32 × St)) (x : Int32 × Int32 × Int32 × St) : Option (Int32 × St) := match x with
  | (v2, v3, v4, σ) =>
  if (gf σ 11 3) ≤ v4 then
    some (v3, σ)
  else
    bd (f_X10_isIn v2 v4 σ) fun r1 s2 =>
    if r1 = 0 then
      f_X8_knownToAll_60 K27 v2 v3 v4 s2
    else
      bd (f_X8_knownTo v4 s2) fun r4 s5 =>
      bnd ((v3 &&& r4)) fun x7 =>
      f_X8_knownToAll_60 K27 v2 x7 v4 s5
theorem l_X8_knownToAll_27 {Γ : CX} : ∀ (n : Nat) (v2 : Int32) (v3 : Int32) (v4 : Int32) (σ : St), RR vI Γ (itr (g_X8_knownToAll_27) n (v2, v3, v4, σ)) → WW Γ cX8_knownToAll 5 RX8 (some .int) rX8_knownToAll σ 27 [(0, .ref (xd Γ 49)), (2, .int v2), (3, .int v3), (4, .int v4)] [] := by
  intro n
  induction n with
  | zero => intro v2 v3 v4 σ h; exact RR.no h
  | succ n hK27 =>
  intro v2 v3 v4 σ h
  have h : RR vI Γ (g_X8_knownToAll_27 (itr (g_X8_knownToAll_27) n) (v2, v3, v4, σ)) := h
  generalize itr (g_X8_knownToAll_27) n = K27 at h hK27
  unfold g_X8_knownToAll_27 at h
  dsimp only at h
  refine w_iload 3 dX8_knownToAll_27 rfl rfl ?_
  refine w_aload_n 0 dX8_knownToAll_29 rfl rfl rfl ?_
  refine gf_RX8_9 dX8_knownToAll_30 rfl ?_
  refine gf_RX8_15 (i := 1) (isW_lit (by decide)) dX8_knownToAll_33 rfl ?_
  refine gf_RX8_21 (i := 11) (isT_lit (by decide)) dX8_knownToAll_36 rfl ?_
  refine w_icmp_ge (tgt := 66) dX8_knownToAll_39 (by decide) rfl (fun q => ?_) (fun q => ?_)
  · have h := h.tt q
    refine w_iload_n 2 dX8_knownToAll_66 rfl rfl rfl ?_
    exact w_ireturn dX8_knownToAll_67 h
  · have h := h.ff q
    refine w_iload_n 1 dX8_knownToAll_42 rfl rfl rfl ?_
    refine w_iload 3 dX8_knownToAll_43 rfl rfl ?_
    obtain ⟨r1, s2, h3, h⟩ := h.bd
    refine k_X10_isIn ml_RX8_46 (Nat.le_of_ble_eq_true rfl) ⟨Nat.le_of_ble_eq_true rfl, Nat.le_of_ble_eq_true rfl⟩ dX8_knownToAll_45 rfl h3 ?_
    refine w_if_eq (tgt := 60) dX8_knownToAll_48 (by decide) rfl (fun q => ?_) (fun q => ?_)
    · have h := h.tt q
      exact w_sub [0, 1, 2, 3] rfl (b_X8_knownToAll_60 K27 hK27 v2 v3 v4 s2 h)
    · have h := h.ff q
      refine w_iload_n 2 dX8_knownToAll_51 rfl rfl rfl ?_
      refine w_aload_n 0 dX8_knownToAll_52 rfl rfl rfl ?_
      refine w_iload 3 dX8_knownToAll_53 rfl rfl ?_
      obtain ⟨r4, s5, h6, h⟩ := h.bd
      refine k_X8_knownTo ml_RX8_27 (Nat.le_of_ble_eq_true rfl) ⟨Nat.le_of_ble_eq_true rfl, Nat.le_of_ble_eq_true rfl⟩ dX8_knownToAll_55 rfl h6 ?_
      refine w_iand dX8_knownToAll_58 rfl ?_
      refine w_nmI (fun x7 ex7 => ?_)
      replace h := h.bnd ex7
      clear ex7
      refine w_istore_n [(3, .int x7), (0, .ref (xd Γ 49)), (2, .int v2), (4, .int v4)] dX8_knownToAll_59 rfl (by decide) rfl rfl ?_
      exact w_sub [1, 2, 0, 3] rfl (b_X8_knownToAll_60 K27 hK27 v2 x7 v4 s5 h)
def f_X8_knownToAll_23 (v2 : Int32) (k0 : Int32) (σ : St) : Option (Int32 × St) :=
  itr (g_X8_knownToAll_27) FU (v2, k0, (0 : Int32), σ)
theorem b_X8_knownToAll_23 {Γ : CX} (v2 : Int32) (k0 : Int32) (σ : St) (h : RR vI Γ (f_X8_knownToAll_23 v2 k0 σ)) : WW Γ cX8_knownToAll 5 RX8 (some .int) rX8_knownToAll σ 23 [(0, .ref (xd Γ 49)), (2, .int v2)] [.int k0] := by
  unfold f_X8_knownToAll_23 at h
  refine w_istore_n [(3, .int k0), (0, .ref (xd Γ 49)), (2, .int v2)] dX8_knownToAll_23 rfl (by decide) rfl rfl ?_
  refine w_iconst (0 : Int32) dX8_knownToAll_24 ic_iconst_0 rfl ?_
  refine w_istore [(4, .int (0 : Int32)), (3, .int k0), (0, .ref (xd Γ 49)), (2, .int v2)] dX8_knownToAll_25 (by decide) rfl rfl ?_
  exact w_sub [2, 3, 1, 0] rfl (l_X8_knownToAll_27 FU v2 k0 (0 : Int32) σ h)
def f_X8_knownToAll (p0 : Int32) (σ : St) : Option (Int32 × St) :=
  bd (f_X8_fitting p0 σ) fun r1 s2 =>
  if r1 = 0 then
    f_X8_knownToAll_23 r1 (0 : Int32) s2
  else
    bd (f_X10_sets 1 s2) fun r4 s5 =>
    f_X8_knownToAll_23 r1 (r4 - (1 : Int32)) s5
theorem e_X8_knownToAll {Γ : CX} (p0 : Int32) (σ : St) (h : RR vI Γ (f_X8_knownToAll p0 σ)) : WW Γ cX8_knownToAll 5 RX8 (some .int) rX8_knownToAll σ 0 [(0, .ref (xd Γ 49)), (1, .int p0)] [] := by
  unfold f_X8_knownToAll at h
  refine w_aload_n 0 dX8_knownToAll_0 rfl rfl rfl ?_
  refine w_iload_n 1 dX8_knownToAll_1 rfl rfl rfl ?_
  obtain ⟨r1, s2, h3, h⟩ := h.bd
  refine k_X8_fitting ml_RX8_31 (Nat.le_of_ble_eq_true rfl) ⟨Nat.le_of_ble_eq_true rfl, Nat.le_of_ble_eq_true rfl⟩ dX8_knownToAll_2 rfl h3 ?_
  refine w_istore_n [(2, .int r1), (0, .ref (xd Γ 49)), (1, .int p0)] dX8_knownToAll_5 rfl (by decide) rfl rfl ?_
  refine w_iload_n 0 dX8_knownToAll_6 rfl rfl rfl ?_
  refine w_if_ne (tgt := 14) dX8_knownToAll_7 (by decide) rfl (fun q => ?_) (fun q => ?_)
  · have h := h.ff q
    refine w_aload_n 1 dX8_knownToAll_14 rfl rfl rfl ?_
    refine gf_RX8_9 dX8_knownToAll_15 rfl ?_
    obtain ⟨r4, s5, h6, h⟩ := h.bd
    refine k_X10_sets ml_RX8_55 (Nat.le_of_ble_eq_true rfl) ⟨Nat.le_of_ble_eq_true rfl, Nat.le_of_ble_eq_true rfl⟩ dX8_knownToAll_18 rfl h6 ?_
    refine w_iconst (1 : Int32) dX8_knownToAll_21 ic_iconst_1 rfl ?_
    refine w_isub dX8_knownToAll_22 rfl ?_
    exact w_sub [1, 0] rfl (b_X8_knownToAll_23 r1 (r4 - (1 : Int32)) s5 h)
  · have h := h.tt q
    refine w_iconst (0 : Int32) dX8_knownToAll_10 ic_iconst_0 rfl ?_
    refine w_goto (tgt := 23) dX8_knownToAll_11 (by decide) ?_
    exact w_sub [1, 0] rfl (b_X8_knownToAll_23 r1 (0 : Int32) s2 h)
theorem c_X8_knownToAll {l : Launch} {D : va_G} {cy : Nat → ClassId} {ad : Nat → Nat} {p0 : Int32} {σ σ' : St} {r : Int32} (hf : f_X8_knownToAll p0 σ = some (r, σ')) : CT l D cy ad yX8_knownToAll cX8_knownToAll 5 (some .int) rX8_knownToAll [.ref (ad 49), .int p0] σ (some (.int r)) σ' :=
  ct_of (by decide) (Nat.le_of_ble_eq_true rfl) (fun p e s m args below meth c A => e_X8_knownToAll (Γ := (p, l, e, rX8_knownToAll, s, m, args, below, meth, c, D, cy, ad, A, 0, 0, ((some (.int r)), σ'))) p0 σ ⟨_, hf, rfl⟩)
theorem k_X8_knownToAll {Γ : CX} {cc : ByteArray} {nL : Nat} {own : String} {ret : Option FieldType} {rm : Room} {σ σ' : St} {pc pc' idx : Nat} {lv : List (Nat × Value)} {rest : List Value} {p0 : Int32} {r : Int32} (hl : Cond.methodLink own idx yX8_knownToAll ∈ TB) (hw : (rest.map fun v => v.category).sum ≤ 8) (hR : rX8_knownToAll.frames + 1 ≤ rm.frames ∧ 8 + (5 + 11) + rX8_knownToAll.locals ≤ rm.locals) (hd : decode cc pc = .ok (.invokevirtual idx, 3)) (hp : pc + 3 = pc') (hf : f_X8_knownToAll p0 σ = some (r, σ')) (h : WW Γ cc nL own ret rm σ' pc' lv (.int r :: rest)) : WW Γ cc nL own ret rm σ pc lv (.int p0 :: .ref (xd Γ 49) :: rest) :=
  w_callV (nn := 1) (i := 49) (As := [.int p0]) (v := (some (.int r))) (T := TX8) (N := 1) (c_X8_knownToAll hf) hl mw_X8_knownToAll (by decide +kernel) ⟨rfl, rfl⟩ hR (lt_lit (by decide)) cel_49 rfl rfl hw hd rfl hp h
/-! WarByHours.Suspects.knownToSome (I)I -/
def rX8_knownToSome : Room := { frames := 3, cells := 0, slots := 0, locals := 66 }
def f_X8_knownToSome_44 (K11 : Int32 × Int32 × Int32 × St → Option (Int32 × St)) (v2 : Int32) (v3 : Int32) (v4 : Int32) (σ : St) : Option (Int32 × St) :=
  bnd (v4 + (1 : Int32)) fun x1 =>
  K11 (v2, v3, x1, σ)
theorem b_X8_knownToSome_44 {Γ : CX} (K11 : Int32 × Int32 × Int32 × St → Option (Int32 × St)) (hK11 : ∀ (v2 : Int32) (v3 : Int32) (v4 : Int32) (σ : St), RR vI Γ (K11 (v2, v3, v4, σ)) → WW Γ cX8_knownToSome 5 RX8 (some .int) rX8_knownToSome σ 11 [(0, .ref (xd Γ 49)), (2, .int v2), (3, .int v3), (4, .int v4)] []) (v2 : Int32) (v3 : Int32) (v4 : Int32) (σ : St) (h : RR vI Γ (f_X8_knownToSome_44 K11 v2 v3 v4 σ)) : WW Γ cX8_knownToSome 5 RX8 (some .int) rX8_knownToSome σ 44 [(0, .ref (xd Γ 49)), (2, .int v2), (3, .int v3), (4, .int v4)] [] := by
  unfold f_X8_knownToSome_44 at h
  obtain ⟨x1, ex1⟩ : ∃ y : Int32, y = (v4 + (1 : Int32)) := ⟨_, rfl⟩
  replace h := h.bnd ex1
  refine w_iinc 3 x1 [(4, .int x1), (0, .ref (xd Γ 49)), (2, .int v2), (3, .int v3)] dX8_knownToSome_44 rfl (by rw [ex1, ic_iconst_1]) (by decide) rfl rfl ?_
  clear ex1
  refine w_goto (tgt := 11) dX8_knownToSome_47 (by decide) ?_
  exact w_sub [1, 2, 3, 0] rfl (hK11 v2 v3 x1 σ h)
def g_X8_knownToSome_11 (K11 : Int32 × Int32 × Int32 × St → Option (Int32 × St)) (x : Int32 × Int32 × Int32 × St) : Option (Int32 × St) := match x with
  | (v2, v3, v4, σ) =>
  if (gf σ 11 3) ≤ v4 then
    some (v3, σ)
  else
    bd (f_X10_isIn v2 v4 σ) fun r1 s2 =>
    if r1 = 0 then
      f_X8_knownToSome_44 K11 v2 v3 v4 s2
    else
      bd (f_X8_knownTo v4 s2) fun r4 s5 =>
      bnd ((v3 ||| r4)) fun x7 =>
      f_X8_knownToSome_44 K11 v2 x7 v4 s5
theorem l_X8_knownToSome_11 {Γ : CX} : ∀ (n : Nat) (v2 : Int32) (v3 : Int32) (v4 : Int32) (σ : St), RR vI Γ (itr (g_X8_knownToSome_11) n (v2, v3, v4, σ)) → WW Γ cX8_knownToSome 5 RX8 (some .int) rX8_knownToSome σ 11 [(0, .ref (xd Γ 49)), (2, .int v2), (3, .int v3), (4, .int v4)] [] := by
  intro n
  induction n with
  | zero => intro v2 v3 v4 σ h; exact RR.no h
  | succ n hK11 =>
  intro v2 v3 v4 σ h
  have h : RR vI Γ (g_X8_knownToSome_11 (itr (g_X8_knownToSome_11) n) (v2, v3, v4, σ)) := h
  generalize itr (g_X8_knownToSome_11) n = K11 at h hK11
  unfold g_X8_knownToSome_11 at h
  dsimp only at h
  refine w_iload 3 dX8_knownToSome_11 rfl rfl ?_
  refine w_aload_n 0 dX8_knownToSome_13 rfl rfl rfl ?_
  refine gf_RX8_9 dX8_knownToSome_14 rfl ?_
  refine gf_RX8_15 (i := 1) (isW_lit (by decide)) dX8_knownToSome_17 rfl ?_
  refine gf_RX8_21 (i := 11) (isT_lit (by decide)) dX8_knownToSome_20 rfl ?_
  refine w_icmp_ge (tgt := 50) dX8_knownToSome_23 (by decide) rfl (fun q => ?_) (fun q => ?_)
  · have h := h.tt q
    refine w_iload_n 2 dX8_knownToSome_50 rfl rfl rfl ?_
    exact w_ireturn dX8_knownToSome_51 h
  · have h := h.ff q
    refine w_iload_n 1 dX8_knownToSome_26 rfl rfl rfl ?_
    refine w_iload 3 dX8_knownToSome_27 rfl rfl ?_
    obtain ⟨r1, s2, h3, h⟩ := h.bd
    refine k_X10_isIn ml_RX8_46 (Nat.le_of_ble_eq_true rfl) ⟨Nat.le_of_ble_eq_true rfl, Nat.le_of_ble_eq_true rfl⟩ dX8_knownToSome_29 rfl h3 ?_
    refine w_if_eq (tgt := 44) dX8_knownToSome_32 (by decide) rfl (fun q => ?_) (fun q => ?_)
    · have h := h.tt q
      exact w_sub [0, 1, 2, 3] rfl (b_X8_knownToSome_44 K11 hK11 v2 v3 v4 s2 h)
    · have h := h.ff q
      refine w_iload_n 2 dX8_knownToSome_35 rfl rfl rfl ?_
      refine w_aload_n 0 dX8_knownToSome_36 rfl rfl rfl ?_
      refine w_iload 3 dX8_knownToSome_37 rfl rfl ?_
      obtain ⟨r4, s5, h6, h⟩ := h.bd
      refine k_X8_knownTo ml_RX8_27 (Nat.le_of_ble_eq_true rfl) ⟨Nat.le_of_ble_eq_true rfl, Nat.le_of_ble_eq_true rfl⟩ dX8_knownToSome_39 rfl h6 ?_
      refine w_ior dX8_knownToSome_42 rfl ?_
      refine w_nmI (fun x7 ex7 => ?_)
      replace h := h.bnd ex7
      clear ex7
      refine w_istore_n [(3, .int x7), (0, .ref (xd Γ 49)), (2, .int v2), (4, .int v4)] dX8_knownToSome_43 rfl (by decide) rfl rfl ?_
      exact w_sub [1, 2, 0, 3] rfl (b_X8_knownToSome_44 K11 hK11 v2 x7 v4 s5 h)
def f_X8_knownToSome (p0 : Int32) (σ : St) : Option (Int32 × St) :=
  bd (f_X8_fitting p0 σ) fun r1 s2 =>
  itr (g_X8_knownToSome_11) FU (r1, (0 : Int32), (0 : Int32), s2)
theorem e_X8_knownToSome {Γ : CX} (p0 : Int32) (σ : St) (h : RR vI Γ (f_X8_knownToSome p0 σ)) : WW Γ cX8_knownToSome 5 RX8 (some .int) rX8_knownToSome σ 0 [(0, .ref (xd Γ 49)), (1, .int p0)] [] := by
  unfold f_X8_knownToSome at h
  refine w_aload_n 0 dX8_knownToSome_0 rfl rfl rfl ?_
  refine w_iload_n 1 dX8_knownToSome_1 rfl rfl rfl ?_
  obtain ⟨r1, s2, h3, h⟩ := h.bd
  refine k_X8_fitting ml_RX8_31 (Nat.le_of_ble_eq_true rfl) ⟨Nat.le_of_ble_eq_true rfl, Nat.le_of_ble_eq_true rfl⟩ dX8_knownToSome_2 rfl h3 ?_
  refine w_istore_n [(2, .int r1), (0, .ref (xd Γ 49)), (1, .int p0)] dX8_knownToSome_5 rfl (by decide) rfl rfl ?_
  refine w_iconst (0 : Int32) dX8_knownToSome_6 ic_iconst_0 rfl ?_
  refine w_istore_n [(3, .int (0 : Int32)), (2, .int r1), (0, .ref (xd Γ 49)), (1, .int p0)] dX8_knownToSome_7 rfl (by decide) rfl rfl ?_
  refine w_iconst (0 : Int32) dX8_knownToSome_8 ic_iconst_0 rfl ?_
  refine w_istore [(4, .int (0 : Int32)), (3, .int (0 : Int32)), (2, .int r1), (0, .ref (xd Γ 49)), (1, .int p0)] dX8_knownToSome_9 (by decide) rfl rfl ?_
  exact w_sub [3, 2, 1, 0] rfl (l_X8_knownToSome_11 FU r1 (0 : Int32) (0 : Int32) s2 h)
theorem c_X8_knownToSome {l : Launch} {D : va_G} {cy : Nat → ClassId} {ad : Nat → Nat} {p0 : Int32} {σ σ' : St} {r : Int32} (hf : f_X8_knownToSome p0 σ = some (r, σ')) : CT l D cy ad yX8_knownToSome cX8_knownToSome 5 (some .int) rX8_knownToSome [.ref (ad 49), .int p0] σ (some (.int r)) σ' :=
  ct_of (by decide) (Nat.le_of_ble_eq_true rfl) (fun p e s m args below meth c A => e_X8_knownToSome (Γ := (p, l, e, rX8_knownToSome, s, m, args, below, meth, c, D, cy, ad, A, 0, 0, ((some (.int r)), σ'))) p0 σ ⟨_, hf, rfl⟩)
theorem k_X8_knownToSome {Γ : CX} {cc : ByteArray} {nL : Nat} {own : String} {ret : Option FieldType} {rm : Room} {σ σ' : St} {pc pc' idx : Nat} {lv : List (Nat × Value)} {rest : List Value} {p0 : Int32} {r : Int32} (hl : Cond.methodLink own idx yX8_knownToSome ∈ TB) (hw : (rest.map fun v => v.category).sum ≤ 8) (hR : rX8_knownToSome.frames + 1 ≤ rm.frames ∧ 8 + (5 + 11) + rX8_knownToSome.locals ≤ rm.locals) (hd : decode cc pc = .ok (.invokevirtual idx, 3)) (hp : pc + 3 = pc') (hf : f_X8_knownToSome p0 σ = some (r, σ')) (h : WW Γ cc nL own ret rm σ' pc' lv (.int r :: rest)) : WW Γ cc nL own ret rm σ pc lv (.int p0 :: .ref (xd Γ 49) :: rest) :=
  w_callV (nn := 1) (i := 49) (As := [.int p0]) (v := (some (.int r))) (T := TX8) (N := 1) (c_X8_knownToSome hf) hl mw_X8_knownToSome (by decide +kernel) ⟨rfl, rfl⟩ hR (lt_lit (by decide)) cel_49 rfl rfl hw hd rfl hp h
/-! WarByHours.bribe (I)I -/
def rX11_bribe : Room := { frames := 5, cells := 0, slots := 0, locals := 115 }
def f_X11_bribe_32 (k0 : Int32) (σ : St) : Option (Int32 × St) :=
  some (k0, σ)
theorem b_X11_bribe_32 {Γ : CX} (k0 : Int32) (σ : St) (h : RR vI Γ (f_X11_bribe_32 k0 σ)) : WW Γ cX11_bribe 2 RX11 (some .int) rX11_bribe σ 32 [] [.int k0] := by
  unfold f_X11_bribe_32 at h
  exact w_ireturn dX11_bribe_32 h
def f_X11_bribe (p0 : Int32) (σ : St) : Option (Int32 × St) :=
  bd (f_X10_hasSide 1 p0 σ) fun r1 s2 =>
  if r1 = 0 then
    f_X11_bribe_32 (-2 : Int32) s2
  else
    bd (f_X3_bribedSet p0 (-1 : Int32) s2) fun r4 s5 =>
    bd (f_X10_priceOf 1 r4 s5) fun r7 s8 =>
    f_X11_bribe_32 r7 s8
theorem e_X11_bribe {Γ : CX} (p0 : Int32) (σ : St) (h : RR vI Γ (f_X11_bribe p0 σ)) : WW Γ cX11_bribe 2 RX11 (some .int) rX11_bribe σ 0 [(0, .ref (xd Γ 0)), (1, .int p0)] [] := by
  unfold f_X11_bribe at h
  refine w_aload_n 0 dX11_bribe_0 rfl rfl rfl ?_
  refine gf_RX11_10 dX11_bribe_1 rfl ?_
  refine w_iload_n 1 dX11_bribe_4 rfl rfl rfl ?_
  obtain ⟨r1, s2, h3, h⟩ := h.bd
  refine k_X10_hasSide ml_RX11_126 (Nat.le_of_ble_eq_true rfl) ⟨Nat.le_of_ble_eq_true rfl, Nat.le_of_ble_eq_true rfl⟩ dX11_bribe_5 rfl h3 ?_
  refine w_if_eq (tgt := 30) dX11_bribe_8 (by decide) rfl (fun q => ?_) (fun q => ?_)
  · have h := h.tt q
    refine w_bipush (-2 : Int32) dX11_bribe_30 ic_bipush_m2 rfl ?_
    exact w_sub [] rfl (b_X11_bribe_32 (-2 : Int32) s2 h)
  · have h := h.ff q
    refine w_aload_n 0 dX11_bribe_11 rfl rfl rfl ?_
    refine gf_RX11_10 dX11_bribe_12 rfl ?_
    refine w_aload_n 0 dX11_bribe_15 rfl rfl rfl ?_
    refine gf_RX11_40 dX11_bribe_16 rfl ?_
    refine w_iload_n 1 dX11_bribe_19 rfl rfl rfl ?_
    refine w_iconst (-1 : Int32) dX11_bribe_20 ic_iconst_m1 rfl ?_
    obtain ⟨r4, s5, h6, h⟩ := h.bd
    refine k_X3_bribedSet ml_RX11_241 (Nat.le_of_ble_eq_true rfl) ⟨Nat.le_of_ble_eq_true rfl, Nat.le_of_ble_eq_true rfl⟩ dX11_bribe_21 rfl h6 ?_
    obtain ⟨r7, s8, h9, h⟩ := h.bd
    refine k_X10_priceOf ml_RX11_228 (Nat.le_of_ble_eq_true rfl) ⟨Nat.le_of_ble_eq_true rfl, Nat.le_of_ble_eq_true rfl⟩ dX11_bribe_24 rfl h9 ?_
    refine w_goto (tgt := 32) dX11_bribe_27 (by decide) ?_
    exact w_sub [] rfl (b_X11_bribe_32 r7 s8 h)
theorem c_X11_bribe {l : Launch} {D : va_G} {cy : Nat → ClassId} {ad : Nat → Nat} {p0 : Int32} {σ σ' : St} {r : Int32} (hf : f_X11_bribe p0 σ = some (r, σ')) : CT l D cy ad yX11_bribe cX11_bribe 2 (some .int) rX11_bribe [.ref (ad 0), .int p0] σ (some (.int r)) σ' :=
  ct_of (by decide) (Nat.le_of_ble_eq_true rfl) (fun p e s m args below meth c A => e_X11_bribe (Γ := (p, l, e, rX11_bribe, s, m, args, below, meth, c, D, cy, ad, A, 0, 0, ((some (.int r)), σ'))) p0 σ ⟨_, hf, rfl⟩)
theorem k_X11_bribe {Γ : CX} {cc : ByteArray} {nL : Nat} {own : String} {ret : Option FieldType} {rm : Room} {σ σ' : St} {pc pc' idx : Nat} {lv : List (Nat × Value)} {rest : List Value} {p0 : Int32} {r : Int32} (hl : Cond.methodLink own idx yX11_bribe ∈ TB) (hw : (rest.map fun v => v.category).sum ≤ 8) (hR : rX11_bribe.frames + 1 ≤ rm.frames ∧ 8 + (2 + 11) + rX11_bribe.locals ≤ rm.locals) (hd : decode cc pc = .ok (.invokevirtual idx, 3)) (hp : pc + 3 = pc') (hf : f_X11_bribe p0 σ = some (r, σ')) (h : WW Γ cc nL own ret rm σ' pc' lv (.int r :: rest)) : WW Γ cc nL own ret rm σ pc lv (.int p0 :: .ref (xd Γ 0) :: rest) :=
  w_callV (nn := 1) (i := 0) (As := [.int p0]) (v := (some (.int r))) (T := TX11) (N := 11) (c_X11_bribe hf) hl mw_X11_bribe (by decide +kernel) ⟨rfl, rfl⟩ hR (lt_lit (by decide)) cel_0 rfl rfl hw hd rfl hp h
/-! WarByHours.bribed (I)I -/
def rX11_bribed : Room := { frames := 5, cells := 0, slots := 0, locals := 115 }
def f_X11_bribed_25 (k0 : Int32) (σ : St) : Option (Int32 × St) :=
  some (k0, σ)
theorem b_X11_bribed_25 {Γ : CX} (k0 : Int32) (σ : St) (h : RR vI Γ (f_X11_bribed_25 k0 σ)) : WW Γ cX11_bribed 2 RX11 (some .int) rX11_bribed σ 25 [] [.int k0] := by
  unfold f_X11_bribed_25 at h
  exact w_ireturn dX11_bribed_25 h
def f_X11_bribed (p0 : Int32) (σ : St) : Option (Int32 × St) :=
  bd (f_X10_hasSide 1 p0 σ) fun r1 s2 =>
  if r1 = 0 then
    f_X11_bribed_25 (-2 : Int32) s2
  else
    bd (f_X3_bribedSet p0 (-1 : Int32) s2) fun r4 s5 =>
    f_X11_bribed_25 r4 s5
theorem e_X11_bribed {Γ : CX} (p0 : Int32) (σ : St) (h : RR vI Γ (f_X11_bribed p0 σ)) : WW Γ cX11_bribed 2 RX11 (some .int) rX11_bribed σ 0 [(0, .ref (xd Γ 0)), (1, .int p0)] [] := by
  unfold f_X11_bribed at h
  refine w_aload_n 0 dX11_bribed_0 rfl rfl rfl ?_
  refine gf_RX11_10 dX11_bribed_1 rfl ?_
  refine w_iload_n 1 dX11_bribed_4 rfl rfl rfl ?_
  obtain ⟨r1, s2, h3, h⟩ := h.bd
  refine k_X10_hasSide ml_RX11_126 (Nat.le_of_ble_eq_true rfl) ⟨Nat.le_of_ble_eq_true rfl, Nat.le_of_ble_eq_true rfl⟩ dX11_bribed_5 rfl h3 ?_
  refine w_if_eq (tgt := 23) dX11_bribed_8 (by decide) rfl (fun q => ?_) (fun q => ?_)
  · have h := h.tt q
    refine w_bipush (-2 : Int32) dX11_bribed_23 ic_bipush_m2 rfl ?_
    exact w_sub [] rfl (b_X11_bribed_25 (-2 : Int32) s2 h)
  · have h := h.ff q
    refine w_aload_n 0 dX11_bribed_11 rfl rfl rfl ?_
    refine gf_RX11_40 dX11_bribed_12 rfl ?_
    refine w_iload_n 1 dX11_bribed_15 rfl rfl rfl ?_
    refine w_iconst (-1 : Int32) dX11_bribed_16 ic_iconst_m1 rfl ?_
    obtain ⟨r4, s5, h6, h⟩ := h.bd
    refine k_X3_bribedSet ml_RX11_241 (Nat.le_of_ble_eq_true rfl) ⟨Nat.le_of_ble_eq_true rfl, Nat.le_of_ble_eq_true rfl⟩ dX11_bribed_17 rfl h6 ?_
    refine w_goto (tgt := 25) dX11_bribed_20 (by decide) ?_
    exact w_sub [] rfl (b_X11_bribed_25 r4 s5 h)
theorem c_X11_bribed {l : Launch} {D : va_G} {cy : Nat → ClassId} {ad : Nat → Nat} {p0 : Int32} {σ σ' : St} {r : Int32} (hf : f_X11_bribed p0 σ = some (r, σ')) : CT l D cy ad yX11_bribed cX11_bribed 2 (some .int) rX11_bribed [.ref (ad 0), .int p0] σ (some (.int r)) σ' :=
  ct_of (by decide) (Nat.le_of_ble_eq_true rfl) (fun p e s m args below meth c A => e_X11_bribed (Γ := (p, l, e, rX11_bribed, s, m, args, below, meth, c, D, cy, ad, A, 0, 0, ((some (.int r)), σ'))) p0 σ ⟨_, hf, rfl⟩)
theorem k_X11_bribed {Γ : CX} {cc : ByteArray} {nL : Nat} {own : String} {ret : Option FieldType} {rm : Room} {σ σ' : St} {pc pc' idx : Nat} {lv : List (Nat × Value)} {rest : List Value} {p0 : Int32} {r : Int32} (hl : Cond.methodLink own idx yX11_bribed ∈ TB) (hw : (rest.map fun v => v.category).sum ≤ 8) (hR : rX11_bribed.frames + 1 ≤ rm.frames ∧ 8 + (2 + 11) + rX11_bribed.locals ≤ rm.locals) (hd : decode cc pc = .ok (.invokevirtual idx, 3)) (hp : pc + 3 = pc') (hf : f_X11_bribed p0 σ = some (r, σ')) (h : WW Γ cc nL own ret rm σ' pc' lv (.int r :: rest)) : WW Γ cc nL own ret rm σ pc lv (.int p0 :: .ref (xd Γ 0) :: rest) :=
  w_callV (nn := 1) (i := 0) (As := [.int p0]) (v := (some (.int r))) (T := TX11) (N := 11) (c_X11_bribed hf) hl mw_X11_bribed (by decide +kernel) ⟨rfl, rfl⟩ hR (lt_lit (by decide)) cel_0 rfl rfl hw hd rfl hp h
/-! WarByHours.guard (I)I -/
def rX11_guard : Room := { frames := 5, cells := 0, slots := 0, locals := 118 }
def f_X11_guard_24 (k0 : Int32) (σ : St) : Option (Int32 × St) :=
  some (k0, σ)
theorem b_X11_guard_24 {Γ : CX} (k0 : Int32) (σ : St) (h : RR vI Γ (f_X11_guard_24 k0 σ)) : WW Γ cX11_guard 2 RX11 (some .int) rX11_guard σ 24 [] [.int k0] := by
  unfold f_X11_guard_24 at h
  exact w_ireturn dX11_guard_24 h
def f_X11_guard (p0 : Int32) (σ : St) : Option (Int32 × St) :=
  bd (f_X10_hasSide 1 p0 σ) fun r1 s2 =>
  if r1 = 0 then
    f_X11_guard_24 (-2 : Int32) s2
  else
    bd (f_X3_guardedTrain p0 s2) fun r4 s5 =>
    f_X11_guard_24 r4 s5
theorem e_X11_guard {Γ : CX} (p0 : Int32) (σ : St) (h : RR vI Γ (f_X11_guard p0 σ)) : WW Γ cX11_guard 2 RX11 (some .int) rX11_guard σ 0 [(0, .ref (xd Γ 0)), (1, .int p0)] [] := by
  unfold f_X11_guard at h
  refine w_aload_n 0 dX11_guard_0 rfl rfl rfl ?_
  refine gf_RX11_10 dX11_guard_1 rfl ?_
  refine w_iload_n 1 dX11_guard_4 rfl rfl rfl ?_
  obtain ⟨r1, s2, h3, h⟩ := h.bd
  refine k_X10_hasSide ml_RX11_126 (Nat.le_of_ble_eq_true rfl) ⟨Nat.le_of_ble_eq_true rfl, Nat.le_of_ble_eq_true rfl⟩ dX11_guard_5 rfl h3 ?_
  refine w_if_eq (tgt := 22) dX11_guard_8 (by decide) rfl (fun q => ?_) (fun q => ?_)
  · have h := h.tt q
    refine w_bipush (-2 : Int32) dX11_guard_22 ic_bipush_m2 rfl ?_
    exact w_sub [] rfl (b_X11_guard_24 (-2 : Int32) s2 h)
  · have h := h.ff q
    refine w_aload_n 0 dX11_guard_11 rfl rfl rfl ?_
    refine gf_RX11_40 dX11_guard_12 rfl ?_
    refine w_iload_n 1 dX11_guard_15 rfl rfl rfl ?_
    obtain ⟨r4, s5, h6, h⟩ := h.bd
    refine k_X3_guardedTrain ml_RX11_244 (Nat.le_of_ble_eq_true rfl) ⟨Nat.le_of_ble_eq_true rfl, Nat.le_of_ble_eq_true rfl⟩ dX11_guard_16 rfl h6 ?_
    refine w_goto (tgt := 24) dX11_guard_19 (by decide) ?_
    exact w_sub [] rfl (b_X11_guard_24 r4 s5 h)
theorem c_X11_guard {l : Launch} {D : va_G} {cy : Nat → ClassId} {ad : Nat → Nat} {p0 : Int32} {σ σ' : St} {r : Int32} (hf : f_X11_guard p0 σ = some (r, σ')) : CT l D cy ad yX11_guard cX11_guard 2 (some .int) rX11_guard [.ref (ad 0), .int p0] σ (some (.int r)) σ' :=
  ct_of (by decide) (Nat.le_of_ble_eq_true rfl) (fun p e s m args below meth c A => e_X11_guard (Γ := (p, l, e, rX11_guard, s, m, args, below, meth, c, D, cy, ad, A, 0, 0, ((some (.int r)), σ'))) p0 σ ⟨_, hf, rfl⟩)
theorem k_X11_guard {Γ : CX} {cc : ByteArray} {nL : Nat} {own : String} {ret : Option FieldType} {rm : Room} {σ σ' : St} {pc pc' idx : Nat} {lv : List (Nat × Value)} {rest : List Value} {p0 : Int32} {r : Int32} (hl : Cond.methodLink own idx yX11_guard ∈ TB) (hw : (rest.map fun v => v.category).sum ≤ 8) (hR : rX11_guard.frames + 1 ≤ rm.frames ∧ 8 + (2 + 11) + rX11_guard.locals ≤ rm.locals) (hd : decode cc pc = .ok (.invokevirtual idx, 3)) (hp : pc + 3 = pc') (hf : f_X11_guard p0 σ = some (r, σ')) (h : WW Γ cc nL own ret rm σ' pc' lv (.int r :: rest)) : WW Γ cc nL own ret rm σ pc lv (.int p0 :: .ref (xd Γ 0) :: rest) :=
  w_callV (nn := 1) (i := 0) (As := [.int p0]) (v := (some (.int r))) (T := TX11) (N := 11) (c_X11_guard hf) hl mw_X11_guard (by decide +kernel) ⟨rfl, rfl⟩ hR (lt_lit (by decide)) cel_0 rfl rfl hw hd rfl hp h
/-! WarByHours.guarded (I)I -/
def rX11_guarded : Room := { frames := 5, cells := 0, slots := 0, locals := 118 }
def f_X11_guarded_50 (k0 : Int32) (σ : St) : Option (Int32 × St) :=
  some (k0, σ)
theorem b_X11_guarded_50 {Γ : CX} (k0 : Int32) (σ : St) (h : RR vI Γ (f_X11_guarded_50 k0 σ)) : WW Γ cX11_guarded 3 RX11 (some .int) rX11_guarded σ 50 [] [.int k0] := by
  unfold f_X11_guarded_50 at h
  exact w_ireturn dX11_guarded_50 h
def f_X11_guarded_23 (v1 : Int32) (k0 : Int32) (σ : St) : Option (Int32 × St) :=
  if k0 = (-1 : Int32) then
    f_X11_guarded_50 (-2 : Int32) σ
  else
    bd (f_X3_bribedSet v1 k0 σ) fun r1 s2 =>
    bd (f_X10_priceOf 1 r1 s2) fun r4 s5 =>
    f_X11_guarded_50 r4 s5
theorem b_X11_guarded_23 {Γ : CX} (v1 : Int32) (k0 : Int32) (σ : St) (h : RR vI Γ (f_X11_guarded_23 v1 k0 σ)) : WW Γ cX11_guarded 3 RX11 (some .int) rX11_guarded σ 23 [(0, .ref (xd Γ 0)), (1, .int v1)] [.int k0] := by
  unfold f_X11_guarded_23 at h
  refine w_istore_n [(2, .int k0), (0, .ref (xd Γ 0)), (1, .int v1)] dX11_guarded_23 rfl (by decide) rfl rfl ?_
  refine w_iload_n 0 dX11_guarded_24 rfl rfl rfl ?_
  refine w_iconst (-1 : Int32) dX11_guarded_25 ic_iconst_m1 rfl ?_
  refine w_icmp_ne (tgt := 34) dX11_guarded_26 (by decide) rfl (fun q => ?_) (fun q => ?_)
  · have h := h.ff q
    refine w_aload_n 1 dX11_guarded_34 rfl rfl rfl ?_
    refine gf_RX11_10 dX11_guarded_35 rfl ?_
    refine w_aload_n 1 dX11_guarded_38 rfl rfl rfl ?_
    refine gf_RX11_40 dX11_guarded_39 rfl ?_
    refine w_iload_n 2 dX11_guarded_42 rfl rfl rfl ?_
    refine w_iload_n 0 dX11_guarded_43 rfl rfl rfl ?_
    obtain ⟨r1, s2, h3, h⟩ := h.bd
    refine k_X3_bribedSet ml_RX11_241 (Nat.le_of_ble_eq_true rfl) ⟨Nat.le_of_ble_eq_true rfl, Nat.le_of_ble_eq_true rfl⟩ dX11_guarded_44 rfl h3 ?_
    obtain ⟨r4, s5, h6, h⟩ := h.bd
    refine k_X10_priceOf ml_RX11_228 (Nat.le_of_ble_eq_true rfl) ⟨Nat.le_of_ble_eq_true rfl, Nat.le_of_ble_eq_true rfl⟩ dX11_guarded_47 rfl h6 ?_
    exact w_sub [] rfl (b_X11_guarded_50 r4 s5 h)
  · have h := h.tt q
    refine w_bipush (-2 : Int32) dX11_guarded_29 ic_bipush_m2 rfl ?_
    refine w_goto (tgt := 50) dX11_guarded_31 (by decide) ?_
    exact w_sub [] rfl (b_X11_guarded_50 (-2 : Int32) σ h)
def f_X11_guarded (p0 : Int32) (σ : St) : Option (Int32 × St) :=
  bd (f_X10_hasSide 1 p0 σ) fun r1 s2 =>
  if r1 = 0 then
    f_X11_guarded_23 p0 (-1 : Int32) s2
  else
    bd (f_X3_guardedTrain p0 s2) fun r4 s5 =>
    f_X11_guarded_23 p0 r4 s5
theorem e_X11_guarded {Γ : CX} (p0 : Int32) (σ : St) (h : RR vI Γ (f_X11_guarded p0 σ)) : WW Γ cX11_guarded 3 RX11 (some .int) rX11_guarded σ 0 [(0, .ref (xd Γ 0)), (1, .int p0)] [] := by
  unfold f_X11_guarded at h
  refine w_aload_n 0 dX11_guarded_0 rfl rfl rfl ?_
  refine gf_RX11_10 dX11_guarded_1 rfl ?_
  refine w_iload_n 1 dX11_guarded_4 rfl rfl rfl ?_
  obtain ⟨r1, s2, h3, h⟩ := h.bd
  refine k_X10_hasSide ml_RX11_126 (Nat.le_of_ble_eq_true rfl) ⟨Nat.le_of_ble_eq_true rfl, Nat.le_of_ble_eq_true rfl⟩ dX11_guarded_5 rfl h3 ?_
  refine w_if_eq (tgt := 22) dX11_guarded_8 (by decide) rfl (fun q => ?_) (fun q => ?_)
  · have h := h.tt q
    refine w_iconst (-1 : Int32) dX11_guarded_22 ic_iconst_m1 rfl ?_
    exact w_sub [0, 1] rfl (b_X11_guarded_23 p0 (-1 : Int32) s2 h)
  · have h := h.ff q
    refine w_aload_n 0 dX11_guarded_11 rfl rfl rfl ?_
    refine gf_RX11_40 dX11_guarded_12 rfl ?_
    refine w_iload_n 1 dX11_guarded_15 rfl rfl rfl ?_
    obtain ⟨r4, s5, h6, h⟩ := h.bd
    refine k_X3_guardedTrain ml_RX11_244 (Nat.le_of_ble_eq_true rfl) ⟨Nat.le_of_ble_eq_true rfl, Nat.le_of_ble_eq_true rfl⟩ dX11_guarded_16 rfl h6 ?_
    refine w_goto (tgt := 23) dX11_guarded_19 (by decide) ?_
    exact w_sub [0, 1] rfl (b_X11_guarded_23 p0 r4 s5 h)
theorem c_X11_guarded {l : Launch} {D : va_G} {cy : Nat → ClassId} {ad : Nat → Nat} {p0 : Int32} {σ σ' : St} {r : Int32} (hf : f_X11_guarded p0 σ = some (r, σ')) : CT l D cy ad yX11_guarded cX11_guarded 3 (some .int) rX11_guarded [.ref (ad 0), .int p0] σ (some (.int r)) σ' :=
  ct_of (by decide) (Nat.le_of_ble_eq_true rfl) (fun p e s m args below meth c A => e_X11_guarded (Γ := (p, l, e, rX11_guarded, s, m, args, below, meth, c, D, cy, ad, A, 0, 0, ((some (.int r)), σ'))) p0 σ ⟨_, hf, rfl⟩)
theorem k_X11_guarded {Γ : CX} {cc : ByteArray} {nL : Nat} {own : String} {ret : Option FieldType} {rm : Room} {σ σ' : St} {pc pc' idx : Nat} {lv : List (Nat × Value)} {rest : List Value} {p0 : Int32} {r : Int32} (hl : Cond.methodLink own idx yX11_guarded ∈ TB) (hw : (rest.map fun v => v.category).sum ≤ 8) (hR : rX11_guarded.frames + 1 ≤ rm.frames ∧ 8 + (3 + 11) + rX11_guarded.locals ≤ rm.locals) (hd : decode cc pc = .ok (.invokevirtual idx, 3)) (hp : pc + 3 = pc') (hf : f_X11_guarded p0 σ = some (r, σ')) (h : WW Γ cc nL own ret rm σ' pc' lv (.int r :: rest)) : WW Γ cc nL own ret rm σ pc lv (.int p0 :: .ref (xd Γ 0) :: rest) :=
  w_callV (nn := 1) (i := 0) (As := [.int p0]) (v := (some (.int r))) (T := TX11) (N := 11) (c_X11_guarded hf) hl mw_X11_guarded (by decide +kernel) ⟨rfl, rfl⟩ hR (lt_lit (by decide)) cel_0 rfl rfl hw hd rfl hp h
/-! WarByHours.spoil (II)I -/
def rX11_spoil : Room := { frames := 7, cells := 0, slots := 0, locals := 163 }
def f_X11_spoil_32 (k0 : Int32) (σ : St) : Option (Int32 × St) :=
  some (k0, σ)
theorem b_X11_spoil_32 {Γ : CX} (k0 : Int32) (σ : St) (h : RR vI Γ (f_X11_spoil_32 k0 σ)) : WW Γ cX11_spoil 3 RX11 (some .int) rX11_spoil σ 32 [] [.int k0] := by
  unfold f_X11_spoil_32 at h
  exact w_ireturn dX11_spoil_32 h
def f_X11_spoil (p0 : Int32) (p1 : Int32) (σ : St) : Option (Int32 × St) :=
  bd (f_X11_isPurse p0 p1 σ) fun r1 s2 =>
  if r1 = 0 then
    f_X11_spoil_32 (-1000 : Int32) s2
  else
    bd (f_X3_spoiledSet p0 p1 s2) fun r4 s5 =>
    bd (f_X2_goodAtEnd p0 r4 s5) fun r7 s8 =>
    f_X11_spoil_32 r7 s8
theorem e_X11_spoil {Γ : CX} (p0 : Int32) (p1 : Int32) (σ : St) (h : RR vI Γ (f_X11_spoil p0 p1 σ)) : WW Γ cX11_spoil 3 RX11 (some .int) rX11_spoil σ 0 [(0, .ref (xd Γ 0)), (1, .int p0), (2, .int p1)] [] := by
  unfold f_X11_spoil at h
  refine w_aload_n 0 dX11_spoil_0 rfl rfl rfl ?_
  refine w_iload_n 1 dX11_spoil_1 rfl rfl rfl ?_
  refine w_iload_n 2 dX11_spoil_2 rfl rfl rfl ?_
  obtain ⟨r1, s2, h3, h⟩ := h.bd
  refine k_X11_isPurse ml_RX11_247 (Nat.le_of_ble_eq_true rfl) ⟨Nat.le_of_ble_eq_true rfl, Nat.le_of_ble_eq_true rfl⟩ dX11_spoil_3 rfl h3 ?_
  refine w_if_eq (tgt := 29) dX11_spoil_6 (by decide) rfl (fun q => ?_) (fun q => ?_)
  · have h := h.tt q
    refine w_sipush (-1000 : Int32) dX11_spoil_29 ic_sipush_m1000 rfl ?_
    exact w_sub [] rfl (b_X11_spoil_32 (-1000 : Int32) s2 h)
  · have h := h.ff q
    refine w_aload_n 0 dX11_spoil_9 rfl rfl rfl ?_
    refine gf_RX11_31 dX11_spoil_10 rfl ?_
    refine w_iload_n 1 dX11_spoil_13 rfl rfl rfl ?_
    refine w_aload_n 0 dX11_spoil_14 rfl rfl rfl ?_
    refine gf_RX11_40 dX11_spoil_15 rfl ?_
    refine w_iload_n 1 dX11_spoil_18 rfl rfl rfl ?_
    refine w_iload_n 2 dX11_spoil_19 rfl rfl rfl ?_
    obtain ⟨r4, s5, h6, h⟩ := h.bd
    refine k_X3_spoiledSet ml_RX11_250 (Nat.le_of_ble_eq_true rfl) ⟨Nat.le_of_ble_eq_true rfl, Nat.le_of_ble_eq_true rfl⟩ dX11_spoil_20 rfl h6 ?_
    obtain ⟨r7, s8, h9, h⟩ := h.bd
    refine k_X2_goodAtEnd ml_RX11_184 (Nat.le_of_ble_eq_true rfl) ⟨Nat.le_of_ble_eq_true rfl, Nat.le_of_ble_eq_true rfl⟩ dX11_spoil_23 rfl h9 ?_
    refine w_goto (tgt := 32) dX11_spoil_26 (by decide) ?_
    exact w_sub [] rfl (b_X11_spoil_32 r7 s8 h)
theorem c_X11_spoil {l : Launch} {D : va_G} {cy : Nat → ClassId} {ad : Nat → Nat} {p0 : Int32} {p1 : Int32} {σ σ' : St} {r : Int32} (hf : f_X11_spoil p0 p1 σ = some (r, σ')) : CT l D cy ad yX11_spoil cX11_spoil 3 (some .int) rX11_spoil [.ref (ad 0), .int p0, .int p1] σ (some (.int r)) σ' :=
  ct_of (by decide) (Nat.le_of_ble_eq_true rfl) (fun p e s m args below meth c A => e_X11_spoil (Γ := (p, l, e, rX11_spoil, s, m, args, below, meth, c, D, cy, ad, A, 0, 0, ((some (.int r)), σ'))) p0 p1 σ ⟨_, hf, rfl⟩)
theorem k_X11_spoil {Γ : CX} {cc : ByteArray} {nL : Nat} {own : String} {ret : Option FieldType} {rm : Room} {σ σ' : St} {pc pc' idx : Nat} {lv : List (Nat × Value)} {rest : List Value} {p0 : Int32} {p1 : Int32} {r : Int32} (hl : Cond.methodLink own idx yX11_spoil ∈ TB) (hw : (rest.map fun v => v.category).sum ≤ 8) (hR : rX11_spoil.frames + 1 ≤ rm.frames ∧ 8 + (3 + 11) + rX11_spoil.locals ≤ rm.locals) (hd : decode cc pc = .ok (.invokevirtual idx, 3)) (hp : pc + 3 = pc') (hf : f_X11_spoil p0 p1 σ = some (r, σ')) (h : WW Γ cc nL own ret rm σ' pc' lv (.int r :: rest)) : WW Γ cc nL own ret rm σ pc lv (.int p1 :: .int p0 :: .ref (xd Γ 0) :: rest) :=
  w_callV (nn := 2) (i := 0) (As := [.int p0, .int p1]) (v := (some (.int r))) (T := TX11) (N := 11) (c_X11_spoil hf) hl mw_X11_spoil (by decide +kernel) ⟨rfl, rfl⟩ hR (lt_lit (by decide)) cel_0 rfl rfl hw hd rfl hp h
/-! WarByHours.spoils (II)I -/
def rX11_spoils : Room := { frames := 7, cells := 0, slots := 0, locals := 163 }
def f_X11_spoils_23 (k0 : Int32) (σ : St) : Option (Int32 × St) :=
  some (k0, σ)
theorem b_X11_spoils_23 {Γ : CX} (k0 : Int32) (σ : St) (h : RR vI Γ (f_X11_spoils_23 k0 σ)) : WW Γ cX11_spoils 3 RX11 (some .int) rX11_spoils σ 23 [] [.int k0] := by
  unfold f_X11_spoils_23 at h
  exact w_ireturn dX11_spoils_23 h
def f_X11_spoils (p0 : Int32) (p1 : Int32) (σ : St) : Option (Int32 × St) :=
  bd (f_X11_isPurse p0 p1 σ) fun r1 s2 =>
  if r1 = 0 then
    f_X11_spoils_23 (-2 : Int32) s2
  else
    bd (f_X3_spoiledSet p0 p1 s2) fun r4 s5 =>
    f_X11_spoils_23 r4 s5
theorem e_X11_spoils {Γ : CX} (p0 : Int32) (p1 : Int32) (σ : St) (h : RR vI Γ (f_X11_spoils p0 p1 σ)) : WW Γ cX11_spoils 3 RX11 (some .int) rX11_spoils σ 0 [(0, .ref (xd Γ 0)), (1, .int p0), (2, .int p1)] [] := by
  unfold f_X11_spoils at h
  refine w_aload_n 0 dX11_spoils_0 rfl rfl rfl ?_
  refine w_iload_n 1 dX11_spoils_1 rfl rfl rfl ?_
  refine w_iload_n 2 dX11_spoils_2 rfl rfl rfl ?_
  obtain ⟨r1, s2, h3, h⟩ := h.bd
  refine k_X11_isPurse ml_RX11_247 (Nat.le_of_ble_eq_true rfl) ⟨Nat.le_of_ble_eq_true rfl, Nat.le_of_ble_eq_true rfl⟩ dX11_spoils_3 rfl h3 ?_
  refine w_if_eq (tgt := 21) dX11_spoils_6 (by decide) rfl (fun q => ?_) (fun q => ?_)
  · have h := h.tt q
    refine w_bipush (-2 : Int32) dX11_spoils_21 ic_bipush_m2 rfl ?_
    exact w_sub [] rfl (b_X11_spoils_23 (-2 : Int32) s2 h)
  · have h := h.ff q
    refine w_aload_n 0 dX11_spoils_9 rfl rfl rfl ?_
    refine gf_RX11_40 dX11_spoils_10 rfl ?_
    refine w_iload_n 1 dX11_spoils_13 rfl rfl rfl ?_
    refine w_iload_n 2 dX11_spoils_14 rfl rfl rfl ?_
    obtain ⟨r4, s5, h6, h⟩ := h.bd
    refine k_X3_spoiledSet ml_RX11_250 (Nat.le_of_ble_eq_true rfl) ⟨Nat.le_of_ble_eq_true rfl, Nat.le_of_ble_eq_true rfl⟩ dX11_spoils_15 rfl h6 ?_
    refine w_goto (tgt := 23) dX11_spoils_18 (by decide) ?_
    exact w_sub [] rfl (b_X11_spoils_23 r4 s5 h)
theorem c_X11_spoils {l : Launch} {D : va_G} {cy : Nat → ClassId} {ad : Nat → Nat} {p0 : Int32} {p1 : Int32} {σ σ' : St} {r : Int32} (hf : f_X11_spoils p0 p1 σ = some (r, σ')) : CT l D cy ad yX11_spoils cX11_spoils 3 (some .int) rX11_spoils [.ref (ad 0), .int p0, .int p1] σ (some (.int r)) σ' :=
  ct_of (by decide) (Nat.le_of_ble_eq_true rfl) (fun p e s m args below meth c A => e_X11_spoils (Γ := (p, l, e, rX11_spoils, s, m, args, below, meth, c, D, cy, ad, A, 0, 0, ((some (.int r)), σ'))) p0 p1 σ ⟨_, hf, rfl⟩)
theorem k_X11_spoils {Γ : CX} {cc : ByteArray} {nL : Nat} {own : String} {ret : Option FieldType} {rm : Room} {σ σ' : St} {pc pc' idx : Nat} {lv : List (Nat × Value)} {rest : List Value} {p0 : Int32} {p1 : Int32} {r : Int32} (hl : Cond.methodLink own idx yX11_spoils ∈ TB) (hw : (rest.map fun v => v.category).sum ≤ 8) (hR : rX11_spoils.frames + 1 ≤ rm.frames ∧ 8 + (3 + 11) + rX11_spoils.locals ≤ rm.locals) (hd : decode cc pc = .ok (.invokevirtual idx, 3)) (hp : pc + 3 = pc') (hf : f_X11_spoils p0 p1 σ = some (r, σ')) (h : WW Γ cc nL own ret rm σ' pc' lv (.int r :: rest)) : WW Γ cc nL own ret rm σ pc lv (.int p1 :: .int p0 :: .ref (xd Γ 0) :: rest) :=
  w_callV (nn := 2) (i := 0) (As := [.int p0, .int p1]) (v := (some (.int r))) (T := TX11) (N := 11) (c_X11_spoils hf) hl mw_X11_spoils (by decide +kernel) ⟨rfl, rfl⟩ hR (lt_lit (by decide)) cel_0 rfl rfl hw hd rfl hp h
/-! WarByHours.hold (II)I -/
def rX11_hold : Room := { frames := 3, cells := 0, slots := 0, locals := 75 }
def f_X11_hold_14 (σ : St) : Option (Int32 × St) :=
  some ((-1000 : Int32), σ)
theorem b_X11_hold_14 {Γ : CX} (σ : St) (h : RR vI Γ (f_X11_hold_14 σ)) : WW Γ cX11_hold 3 RX11 (some .int) rX11_hold σ 14 [] [] := by
  unfold f_X11_hold_14 at h
  refine w_sipush (-1000 : Int32) dX11_hold_14 ic_sipush_m1000 rfl ?_
  exact w_ireturn dX11_hold_17 h
def f_X11_hold (p0 : Int32) (p1 : Int32) (σ : St) : Option (Int32 × St) :=
  bd (f_X11_isHost p0 σ) fun r1 s2 =>
  if r1 = 0 then
    f_X11_hold_14 s2
  else
    bd (f_X11_isHost p1 s2) fun r4 s5 =>
    if r4 = 0 then
      f_X11_hold_14 s5
    else
      bd (f_X5_settle p0 p1 s5) fun _ s8 =>
      some ((gf s8 43 0), s8)
theorem e_X11_hold {Γ : CX} (p0 : Int32) (p1 : Int32) (σ : St) (h : RR vI Γ (f_X11_hold p0 p1 σ)) : WW Γ cX11_hold 3 RX11 (some .int) rX11_hold σ 0 [(0, .ref (xd Γ 0)), (1, .int p0), (2, .int p1)] [] := by
  unfold f_X11_hold at h
  refine w_iload_n 1 dX11_hold_0 rfl rfl rfl ?_
  obtain ⟨r1, s2, h3, h⟩ := h.bd
  refine k_X11_isHost ml_RX11_265 (Nat.le_of_ble_eq_true rfl) ⟨Nat.le_of_ble_eq_true rfl, Nat.le_of_ble_eq_true rfl⟩ dX11_hold_1 rfl h3 ?_
  refine w_if_eq (tgt := 14) dX11_hold_4 (by decide) rfl (fun q => ?_) (fun q => ?_)
  · have h := h.tt q
    exact w_sub [] rfl (b_X11_hold_14 s2 h)
  · have h := h.ff q
    refine w_iload_n 2 dX11_hold_7 rfl rfl rfl ?_
    obtain ⟨r4, s5, h6, h⟩ := h.bd
    refine k_X11_isHost ml_RX11_265 (Nat.le_of_ble_eq_true rfl) ⟨Nat.le_of_ble_eq_true rfl, Nat.le_of_ble_eq_true rfl⟩ dX11_hold_8 rfl h6 ?_
    refine w_if_ne (tgt := 18) dX11_hold_11 (by decide) rfl (fun q => ?_) (fun q => ?_)
    · have h := h.ff q
      refine w_aload_n 0 dX11_hold_18 rfl rfl rfl ?_
      refine gf_RX11_47 dX11_hold_19 rfl ?_
      refine w_iload_n 1 dX11_hold_22 rfl rfl rfl ?_
      refine w_iload_n 2 dX11_hold_23 rfl rfl rfl ?_
      obtain ⟨r7, s8, h9, h⟩ := h.bd
      refine k_X5_settle ml_RX11_268 (Nat.le_of_ble_eq_true rfl) ⟨Nat.le_of_ble_eq_true rfl, Nat.le_of_ble_eq_true rfl⟩ dX11_hold_24 rfl h9 ?_
      refine w_aload_n 0 dX11_hold_27 rfl rfl rfl ?_
      refine gf_RX11_47 dX11_hold_28 rfl ?_
      refine gf_RX11_272 dX11_hold_31 rfl ?_
      exact w_ireturn dX11_hold_34 h
    · have h := h.tt q
      exact w_sub [] rfl (b_X11_hold_14 s5 h)
theorem c_X11_hold {l : Launch} {D : va_G} {cy : Nat → ClassId} {ad : Nat → Nat} {p0 : Int32} {p1 : Int32} {σ σ' : St} {r : Int32} (hf : f_X11_hold p0 p1 σ = some (r, σ')) : CT l D cy ad yX11_hold cX11_hold 3 (some .int) rX11_hold [.ref (ad 0), .int p0, .int p1] σ (some (.int r)) σ' :=
  ct_of (by decide) (Nat.le_of_ble_eq_true rfl) (fun p e s m args below meth c A => e_X11_hold (Γ := (p, l, e, rX11_hold, s, m, args, below, meth, c, D, cy, ad, A, 0, 0, ((some (.int r)), σ'))) p0 p1 σ ⟨_, hf, rfl⟩)
theorem k_X11_hold {Γ : CX} {cc : ByteArray} {nL : Nat} {own : String} {ret : Option FieldType} {rm : Room} {σ σ' : St} {pc pc' idx : Nat} {lv : List (Nat × Value)} {rest : List Value} {p0 : Int32} {p1 : Int32} {r : Int32} (hl : Cond.methodLink own idx yX11_hold ∈ TB) (hw : (rest.map fun v => v.category).sum ≤ 8) (hR : rX11_hold.frames + 1 ≤ rm.frames ∧ 8 + (3 + 11) + rX11_hold.locals ≤ rm.locals) (hd : decode cc pc = .ok (.invokevirtual idx, 3)) (hp : pc + 3 = pc') (hf : f_X11_hold p0 p1 σ = some (r, σ')) (h : WW Γ cc nL own ret rm σ' pc' lv (.int r :: rest)) : WW Γ cc nL own ret rm σ pc lv (.int p1 :: .int p0 :: .ref (xd Γ 0) :: rest) :=
  w_callV (nn := 2) (i := 0) (As := [.int p0, .int p1]) (v := (some (.int r))) (T := TX11) (N := 11) (c_X11_hold hf) hl mw_X11_hold (by decide +kernel) ⟨rfl, rfl⟩ hR (lt_lit (by decide)) cel_0 rfl rfl hw hd rfl hp h
/-! WarByHours.holds (III)I -/
def rX11_holds : Room := { frames := 3, cells := 0, slots := 0, locals := 75 }
def f_X11_holds_21 (σ : St) : Option (Int32 × St) :=
  some ((-2 : Int32), σ)
theorem b_X11_holds_21 {Γ : CX} (σ : St) (h : RR vI Γ (f_X11_holds_21 σ)) : WW Γ cX11_holds 4 RX11 (some .int) rX11_holds σ 21 [] [] := by
  unfold f_X11_holds_21 at h
  refine w_bipush (-2 : Int32) dX11_holds_21 ic_bipush_m2 rfl ?_
  exact w_ireturn dX11_holds_23 h
def f_X11_holds (p0 : Int32) (p1 : Int32) (p2 : Int32) (σ : St) : Option (Int32 × St) :=
  bd (f_X11_isHost p0 σ) fun r1 s2 =>
  if r1 = 0 then
    f_X11_holds_21 s2
  else
    bd (f_X11_isHost p1 s2) fun r4 s5 =>
    if r4 = 0 then
      f_X11_holds_21 s5
    else
      bd (f_X11_isPlace p2 s5) fun r7 s8 =>
      if r7 = 0 then
        f_X11_holds_21 s8
      else
        bd (f_X5_settle p0 p1 s8) fun _ s11 =>
        gd (inb p2 (ln 44)) <|
        some ((gr s11 44 p2.toNatClampNeg), s11)
theorem e_X11_holds {Γ : CX} (p0 : Int32) (p1 : Int32) (p2 : Int32) (σ : St) (h : RR vI Γ (f_X11_holds p0 p1 p2 σ)) : WW Γ cX11_holds 4 RX11 (some .int) rX11_holds σ 0 [(0, .ref (xd Γ 0)), (1, .int p0), (2, .int p1), (3, .int p2)] [] := by
  unfold f_X11_holds at h
  refine w_iload_n 1 dX11_holds_0 rfl rfl rfl ?_
  obtain ⟨r1, s2, h3, h⟩ := h.bd
  refine k_X11_isHost ml_RX11_265 (Nat.le_of_ble_eq_true rfl) ⟨Nat.le_of_ble_eq_true rfl, Nat.le_of_ble_eq_true rfl⟩ dX11_holds_1 rfl h3 ?_
  refine w_if_eq (tgt := 21) dX11_holds_4 (by decide) rfl (fun q => ?_) (fun q => ?_)
  · have h := h.tt q
    exact w_sub [] rfl (b_X11_holds_21 s2 h)
  · have h := h.ff q
    refine w_iload_n 2 dX11_holds_7 rfl rfl rfl ?_
    obtain ⟨r4, s5, h6, h⟩ := h.bd
    refine k_X11_isHost ml_RX11_265 (Nat.le_of_ble_eq_true rfl) ⟨Nat.le_of_ble_eq_true rfl, Nat.le_of_ble_eq_true rfl⟩ dX11_holds_8 rfl h6 ?_
    refine w_if_eq (tgt := 21) dX11_holds_11 (by decide) rfl (fun q => ?_) (fun q => ?_)
    · have h := h.tt q
      exact w_sub [] rfl (b_X11_holds_21 s5 h)
    · have h := h.ff q
      refine w_iload_n 3 dX11_holds_14 rfl rfl rfl ?_
      obtain ⟨r7, s8, h9, h⟩ := h.bd
      refine k_X11_isPlace ml_RX11_275 (Nat.le_of_ble_eq_true rfl) ⟨Nat.le_of_ble_eq_true rfl, Nat.le_of_ble_eq_true rfl⟩ dX11_holds_15 rfl h9 ?_
      refine w_if_ne (tgt := 24) dX11_holds_18 (by decide) rfl (fun q => ?_) (fun q => ?_)
      · have h := h.ff q
        refine w_aload_n 0 dX11_holds_24 rfl rfl rfl ?_
        refine gf_RX11_47 dX11_holds_25 rfl ?_
        refine w_iload_n 1 dX11_holds_28 rfl rfl rfl ?_
        refine w_iload_n 2 dX11_holds_29 rfl rfl rfl ?_
        obtain ⟨r10, s11, h12, h⟩ := h.bd
        refine k_X5_settle ml_RX11_268 (Nat.le_of_ble_eq_true rfl) ⟨Nat.le_of_ble_eq_true rfl, Nat.le_of_ble_eq_true rfl⟩ dX11_holds_30 rfl h12 ?_
        refine w_aload_n 0 dX11_holds_33 rfl rfl rfl ?_
        refine gf_RX11_47 dX11_holds_34 rfl ?_
        refine gf_RX11_278 dX11_holds_37 rfl ?_
        refine w_iload_n 3 dX11_holds_40 rfl rfl rfl ?_
        obtain ⟨hi13, h⟩ := h.gd
        refine w_iald (i := 44) (lt_lit (by decide)) rfl hi13 dX11_holds_41 rfl ?_
        exact w_ireturn dX11_holds_42 h
      · have h := h.tt q
        exact w_sub [] rfl (b_X11_holds_21 s8 h)
theorem c_X11_holds {l : Launch} {D : va_G} {cy : Nat → ClassId} {ad : Nat → Nat} {p0 : Int32} {p1 : Int32} {p2 : Int32} {σ σ' : St} {r : Int32} (hf : f_X11_holds p0 p1 p2 σ = some (r, σ')) : CT l D cy ad yX11_holds cX11_holds 4 (some .int) rX11_holds [.ref (ad 0), .int p0, .int p1, .int p2] σ (some (.int r)) σ' :=
  ct_of (by decide) (Nat.le_of_ble_eq_true rfl) (fun p e s m args below meth c A => e_X11_holds (Γ := (p, l, e, rX11_holds, s, m, args, below, meth, c, D, cy, ad, A, 0, 0, ((some (.int r)), σ'))) p0 p1 p2 σ ⟨_, hf, rfl⟩)
theorem k_X11_holds {Γ : CX} {cc : ByteArray} {nL : Nat} {own : String} {ret : Option FieldType} {rm : Room} {σ σ' : St} {pc pc' idx : Nat} {lv : List (Nat × Value)} {rest : List Value} {p0 : Int32} {p1 : Int32} {p2 : Int32} {r : Int32} (hl : Cond.methodLink own idx yX11_holds ∈ TB) (hw : (rest.map fun v => v.category).sum ≤ 8) (hR : rX11_holds.frames + 1 ≤ rm.frames ∧ 8 + (4 + 11) + rX11_holds.locals ≤ rm.locals) (hd : decode cc pc = .ok (.invokevirtual idx, 3)) (hp : pc + 3 = pc') (hf : f_X11_holds p0 p1 p2 σ = some (r, σ')) (h : WW Γ cc nL own ret rm σ' pc' lv (.int r :: rest)) : WW Γ cc nL own ret rm σ pc lv (.int p2 :: .int p1 :: .int p0 :: .ref (xd Γ 0) :: rest) :=
  w_callV (nn := 3) (i := 0) (As := [.int p0, .int p1, .int p2]) (v := (some (.int r))) (T := TX11) (N := 11) (c_X11_holds hf) hl mw_X11_holds (by decide +kernel) ⟨rfl, rfl⟩ hR (lt_lit (by decide)) cel_0 rfl rfl hw hd rfl hp h
/-! WarByHours.reply (III)I -/
def rX11_reply : Room := { frames := 3, cells := 0, slots := 0, locals := 75 }
def f_X11_reply_21 (σ : St) : Option (Int32 × St) :=
  some ((-2 : Int32), σ)
theorem b_X11_reply_21 {Γ : CX} (σ : St) (h : RR vI Γ (f_X11_reply_21 σ)) : WW Γ cX11_reply 4 RX11 (some .int) rX11_reply σ 21 [] [] := by
  unfold f_X11_reply_21 at h
  refine w_bipush (-2 : Int32) dX11_reply_21 ic_bipush_m2 rfl ?_
  exact w_ireturn dX11_reply_23 h
def f_X11_reply (p0 : Int32) (p1 : Int32) (p2 : Int32) (σ : St) : Option (Int32 × St) :=
  bd (f_X11_isHost p0 σ) fun r1 s2 =>
  if r1 = 0 then
    f_X11_reply_21 s2
  else
    bd (f_X11_isHost p1 s2) fun r4 s5 =>
    if r4 = 0 then
      f_X11_reply_21 s5
    else
      bd (f_X11_isPlace p2 s5) fun r7 s8 =>
      if r7 = 0 then
        f_X11_reply_21 s8
      else
        bd (f_X5_settle p0 p1 s8) fun _ s11 =>
        gd (inb p2 (ln 45)) <|
        some ((gr s11 45 p2.toNatClampNeg), s11)
theorem e_X11_reply {Γ : CX} (p0 : Int32) (p1 : Int32) (p2 : Int32) (σ : St) (h : RR vI Γ (f_X11_reply p0 p1 p2 σ)) : WW Γ cX11_reply 4 RX11 (some .int) rX11_reply σ 0 [(0, .ref (xd Γ 0)), (1, .int p0), (2, .int p1), (3, .int p2)] [] := by
  unfold f_X11_reply at h
  refine w_iload_n 1 dX11_reply_0 rfl rfl rfl ?_
  obtain ⟨r1, s2, h3, h⟩ := h.bd
  refine k_X11_isHost ml_RX11_265 (Nat.le_of_ble_eq_true rfl) ⟨Nat.le_of_ble_eq_true rfl, Nat.le_of_ble_eq_true rfl⟩ dX11_reply_1 rfl h3 ?_
  refine w_if_eq (tgt := 21) dX11_reply_4 (by decide) rfl (fun q => ?_) (fun q => ?_)
  · have h := h.tt q
    exact w_sub [] rfl (b_X11_reply_21 s2 h)
  · have h := h.ff q
    refine w_iload_n 2 dX11_reply_7 rfl rfl rfl ?_
    obtain ⟨r4, s5, h6, h⟩ := h.bd
    refine k_X11_isHost ml_RX11_265 (Nat.le_of_ble_eq_true rfl) ⟨Nat.le_of_ble_eq_true rfl, Nat.le_of_ble_eq_true rfl⟩ dX11_reply_8 rfl h6 ?_
    refine w_if_eq (tgt := 21) dX11_reply_11 (by decide) rfl (fun q => ?_) (fun q => ?_)
    · have h := h.tt q
      exact w_sub [] rfl (b_X11_reply_21 s5 h)
    · have h := h.ff q
      refine w_iload_n 3 dX11_reply_14 rfl rfl rfl ?_
      obtain ⟨r7, s8, h9, h⟩ := h.bd
      refine k_X11_isPlace ml_RX11_275 (Nat.le_of_ble_eq_true rfl) ⟨Nat.le_of_ble_eq_true rfl, Nat.le_of_ble_eq_true rfl⟩ dX11_reply_15 rfl h9 ?_
      refine w_if_ne (tgt := 24) dX11_reply_18 (by decide) rfl (fun q => ?_) (fun q => ?_)
      · have h := h.ff q
        refine w_aload_n 0 dX11_reply_24 rfl rfl rfl ?_
        refine gf_RX11_47 dX11_reply_25 rfl ?_
        refine w_iload_n 1 dX11_reply_28 rfl rfl rfl ?_
        refine w_iload_n 2 dX11_reply_29 rfl rfl rfl ?_
        obtain ⟨r10, s11, h12, h⟩ := h.bd
        refine k_X5_settle ml_RX11_268 (Nat.le_of_ble_eq_true rfl) ⟨Nat.le_of_ble_eq_true rfl, Nat.le_of_ble_eq_true rfl⟩ dX11_reply_30 rfl h12 ?_
        refine w_aload_n 0 dX11_reply_33 rfl rfl rfl ?_
        refine gf_RX11_47 dX11_reply_34 rfl ?_
        refine gf_RX11_282 dX11_reply_37 rfl ?_
        refine w_iload_n 3 dX11_reply_40 rfl rfl rfl ?_
        obtain ⟨hi13, h⟩ := h.gd
        refine w_iald (i := 45) (lt_lit (by decide)) rfl hi13 dX11_reply_41 rfl ?_
        exact w_ireturn dX11_reply_42 h
      · have h := h.tt q
        exact w_sub [] rfl (b_X11_reply_21 s8 h)
theorem c_X11_reply {l : Launch} {D : va_G} {cy : Nat → ClassId} {ad : Nat → Nat} {p0 : Int32} {p1 : Int32} {p2 : Int32} {σ σ' : St} {r : Int32} (hf : f_X11_reply p0 p1 p2 σ = some (r, σ')) : CT l D cy ad yX11_reply cX11_reply 4 (some .int) rX11_reply [.ref (ad 0), .int p0, .int p1, .int p2] σ (some (.int r)) σ' :=
  ct_of (by decide) (Nat.le_of_ble_eq_true rfl) (fun p e s m args below meth c A => e_X11_reply (Γ := (p, l, e, rX11_reply, s, m, args, below, meth, c, D, cy, ad, A, 0, 0, ((some (.int r)), σ'))) p0 p1 p2 σ ⟨_, hf, rfl⟩)
theorem k_X11_reply {Γ : CX} {cc : ByteArray} {nL : Nat} {own : String} {ret : Option FieldType} {rm : Room} {σ σ' : St} {pc pc' idx : Nat} {lv : List (Nat × Value)} {rest : List Value} {p0 : Int32} {p1 : Int32} {p2 : Int32} {r : Int32} (hl : Cond.methodLink own idx yX11_reply ∈ TB) (hw : (rest.map fun v => v.category).sum ≤ 8) (hR : rX11_reply.frames + 1 ≤ rm.frames ∧ 8 + (4 + 11) + rX11_reply.locals ≤ rm.locals) (hd : decode cc pc = .ok (.invokevirtual idx, 3)) (hp : pc + 3 = pc') (hf : f_X11_reply p0 p1 p2 σ = some (r, σ')) (h : WW Γ cc nL own ret rm σ' pc' lv (.int r :: rest)) : WW Γ cc nL own ret rm σ pc lv (.int p2 :: .int p1 :: .int p0 :: .ref (xd Γ 0) :: rest) :=
  w_callV (nn := 3) (i := 0) (As := [.int p0, .int p1, .int p2]) (v := (some (.int r))) (T := TX11) (N := 11) (c_X11_reply hf) hl mw_X11_reply (by decide +kernel) ⟨rfl, rfl⟩ hR (lt_lit (by decide)) cel_0 rfl rfl hw hd rfl hp h
/-! WarByHours.readings (I)I -/
def rX11_readings : Room := { frames := 3, cells := 0, slots := 0, locals := 72 }
def f_X11_readings_21 (k0 : Int32) (σ : St) : Option (Int32 × St) :=
  some (k0, σ)
theorem b_X11_readings_21 {Γ : CX} (k0 : Int32) (σ : St) (h : RR vI Γ (f_X11_readings_21 k0 σ)) : WW Γ cX11_readings 2 RX11 (some .int) rX11_readings σ 21 [] [.int k0] := by
  unfold f_X11_readings_21 at h
  exact w_ireturn dX11_readings_21 h
def f_X11_readings (p0 : Int32) (σ : St) : Option (Int32 × St) :=
  bd (f_X11_isPeaceMinute p0 σ) fun r1 s2 =>
  if r1 = 0 then
    f_X11_readings_21 (-2 : Int32) s2
  else
    bd (f_X4_countReadings p0 s2) fun r4 s5 =>
    f_X11_readings_21 r4 s5
theorem e_X11_readings {Γ : CX} (p0 : Int32) (σ : St) (h : RR vI Γ (f_X11_readings p0 σ)) : WW Γ cX11_readings 2 RX11 (some .int) rX11_readings σ 0 [(0, .ref (xd Γ 0)), (1, .int p0)] [] := by
  unfold f_X11_readings at h
  refine w_aload_n 0 dX11_readings_0 rfl rfl rfl ?_
  refine w_iload_n 1 dX11_readings_1 rfl rfl rfl ?_
  obtain ⟨r1, s2, h3, h⟩ := h.bd
  refine k_X11_isPeaceMinute ml_RX11_285 (Nat.le_of_ble_eq_true rfl) ⟨Nat.le_of_ble_eq_true rfl, Nat.le_of_ble_eq_true rfl⟩ dX11_readings_2 rfl h3 ?_
  refine w_if_eq (tgt := 19) dX11_readings_5 (by decide) rfl (fun q => ?_) (fun q => ?_)
  · have h := h.tt q
    refine w_bipush (-2 : Int32) dX11_readings_19 ic_bipush_m2 rfl ?_
    exact w_sub [] rfl (b_X11_readings_21 (-2 : Int32) s2 h)
  · have h := h.ff q
    refine w_aload_n 0 dX11_readings_8 rfl rfl rfl ?_
    refine gf_RX11_54 dX11_readings_9 rfl ?_
    refine w_iload_n 1 dX11_readings_12 rfl rfl rfl ?_
    obtain ⟨r4, s5, h6, h⟩ := h.bd
    refine k_X4_countReadings ml_RX11_288 (Nat.le_of_ble_eq_true rfl) ⟨Nat.le_of_ble_eq_true rfl, Nat.le_of_ble_eq_true rfl⟩ dX11_readings_13 rfl h6 ?_
    refine w_goto (tgt := 21) dX11_readings_16 (by decide) ?_
    exact w_sub [] rfl (b_X11_readings_21 r4 s5 h)
theorem c_X11_readings {l : Launch} {D : va_G} {cy : Nat → ClassId} {ad : Nat → Nat} {p0 : Int32} {σ σ' : St} {r : Int32} (hf : f_X11_readings p0 σ = some (r, σ')) : CT l D cy ad yX11_readings cX11_readings 2 (some .int) rX11_readings [.ref (ad 0), .int p0] σ (some (.int r)) σ' :=
  ct_of (by decide) (Nat.le_of_ble_eq_true rfl) (fun p e s m args below meth c A => e_X11_readings (Γ := (p, l, e, rX11_readings, s, m, args, below, meth, c, D, cy, ad, A, 0, 0, ((some (.int r)), σ'))) p0 σ ⟨_, hf, rfl⟩)
theorem k_X11_readings {Γ : CX} {cc : ByteArray} {nL : Nat} {own : String} {ret : Option FieldType} {rm : Room} {σ σ' : St} {pc pc' idx : Nat} {lv : List (Nat × Value)} {rest : List Value} {p0 : Int32} {r : Int32} (hl : Cond.methodLink own idx yX11_readings ∈ TB) (hw : (rest.map fun v => v.category).sum ≤ 8) (hR : rX11_readings.frames + 1 ≤ rm.frames ∧ 8 + (2 + 11) + rX11_readings.locals ≤ rm.locals) (hd : decode cc pc = .ok (.invokevirtual idx, 3)) (hp : pc + 3 = pc') (hf : f_X11_readings p0 σ = some (r, σ')) (h : WW Γ cc nL own ret rm σ' pc' lv (.int r :: rest)) : WW Γ cc nL own ret rm σ pc lv (.int p0 :: .ref (xd Γ 0) :: rest) :=
  w_callV (nn := 1) (i := 0) (As := [.int p0]) (v := (some (.int r))) (T := TX11) (N := 11) (c_X11_readings hf) hl mw_X11_readings (by decide +kernel) ⟨rfl, rfl⟩ hR (lt_lit (by decide)) cel_0 rfl rfl hw hd rfl hp h
/-! WarByHours.loopholes ()J -/
def rX11_loopholes : Room := { frames := 3, cells := 0, slots := 0, locals := 72 }
def f_X11_loopholes_23 (k0 : Int64) (σ : St) : Option (Int64 × St) :=
  some (k0, σ)
theorem b_X11_loopholes_23 {Γ : CX} (k0 : Int64) (σ : St) (h : RR vL Γ (f_X11_loopholes_23 k0 σ)) : WW Γ cX11_loopholes 1 RX11 (some .long) rX11_loopholes σ 23 [] [.long k0] := by
  unfold f_X11_loopholes_23 at h
  exact w_lreturn dX11_loopholes_23 h
def f_X11_loopholes (σ : St) : Option (Int64 × St) :=
  bd (f_X10_isTold 1 σ) fun r1 s2 =>
  if r1 = 0 then
    f_X11_loopholes_23 (-2 : Int64) s2
  else
    bd (f_X4_loopholeMinutes s2) fun r4 s5 =>
    f_X11_loopholes_23 r4 s5
theorem e_X11_loopholes {Γ : CX} (σ : St) (h : RR vL Γ (f_X11_loopholes σ)) : WW Γ cX11_loopholes 1 RX11 (some .long) rX11_loopholes σ 0 [(0, .ref (xd Γ 0))] [] := by
  unfold f_X11_loopholes at h
  refine w_aload_n 0 dX11_loopholes_0 rfl rfl rfl ?_
  refine gf_RX11_10 dX11_loopholes_1 rfl ?_
  obtain ⟨r1, s2, h3, h⟩ := h.bd
  refine k_X10_isTold ml_RX11_133 (Nat.le_of_ble_eq_true rfl) ⟨Nat.le_of_ble_eq_true rfl, Nat.le_of_ble_eq_true rfl⟩ dX11_loopholes_4 rfl h3 ?_
  refine w_if_eq (tgt := 20) dX11_loopholes_7 (by decide) rfl (fun q => ?_) (fun q => ?_)
  · have h := h.tt q
    refine w_ldc2_w (-2 : Int64) dX11_loopholes_20 cl_RX11_196 rfl ?_
    exact w_sub [] rfl (b_X11_loopholes_23 (-2 : Int64) s2 h)
  · have h := h.ff q
    refine w_aload_n 0 dX11_loopholes_10 rfl rfl rfl ?_
    refine gf_RX11_54 dX11_loopholes_11 rfl ?_
    obtain ⟨r4, s5, h6, h⟩ := h.bd
    refine k_X4_loopholeMinutes ml_RX11_291 (Nat.le_of_ble_eq_true rfl) ⟨Nat.le_of_ble_eq_true rfl, Nat.le_of_ble_eq_true rfl⟩ dX11_loopholes_14 rfl h6 ?_
    refine w_goto (tgt := 23) dX11_loopholes_17 (by decide) ?_
    exact w_sub [] rfl (b_X11_loopholes_23 r4 s5 h)
theorem c_X11_loopholes {l : Launch} {D : va_G} {cy : Nat → ClassId} {ad : Nat → Nat}  {σ σ' : St} {r : Int64} (hf : f_X11_loopholes σ = some (r, σ')) : CT l D cy ad yX11_loopholes cX11_loopholes 1 (some .long) rX11_loopholes [.ref (ad 0)] σ (some (.long r)) σ' :=
  ct_of (by decide) (Nat.le_of_ble_eq_true rfl) (fun p e s m args below meth c A => e_X11_loopholes (Γ := (p, l, e, rX11_loopholes, s, m, args, below, meth, c, D, cy, ad, A, 0, 0, ((some (.long r)), σ'))) σ ⟨_, hf, rfl⟩)
theorem k_X11_loopholes {Γ : CX} {cc : ByteArray} {nL : Nat} {own : String} {ret : Option FieldType} {rm : Room} {σ σ' : St} {pc pc' idx : Nat} {lv : List (Nat × Value)} {rest : List Value}  {r : Int64} (hl : Cond.methodLink own idx yX11_loopholes ∈ TB) (hw : (rest.map fun v => v.category).sum ≤ 8) (hR : rX11_loopholes.frames + 1 ≤ rm.frames ∧ 8 + (1 + 11) + rX11_loopholes.locals ≤ rm.locals) (hd : decode cc pc = .ok (.invokevirtual idx, 3)) (hp : pc + 3 = pc') (hf : f_X11_loopholes σ = some (r, σ')) (h : WW Γ cc nL own ret rm σ' pc' lv (.long r :: rest)) : WW Γ cc nL own ret rm σ pc lv (.ref (xd Γ 0) :: rest) :=
  w_callV (nn := 0) (i := 0) (As := []) (v := (some (.long r))) (T := TX11) (N := 11) (c_X11_loopholes hf) hl mw_X11_loopholes (by decide +kernel) ⟨rfl, rfl⟩ hR (lt_lit (by decide)) cel_0 rfl rfl hw hd rfl hp h
/-! WarByHours.close (I)I -/
def rX11_close : Room := { frames := 3, cells := 0, slots := 0, locals := 73 }
def f_X11_close_33 (k0 : Int32) (σ : St) : Option (Int32 × St) :=
  some (k0, σ)
theorem b_X11_close_33 {Γ : CX} (k0 : Int32) (σ : St) (h : RR vI Γ (f_X11_close_33 k0 σ)) : WW Γ cX11_close 3 RX11 (some .int) rX11_close σ 33 [] [.int k0] := by
  unfold f_X11_close_33 at h
  exact w_ireturn dX11_close_33 h
def f_X11_close (p0 : Int32) (σ : St) : Option (Int32 × St) :=
  bd (f_X11_isPeaceMinute p0 σ) fun r1 s2 =>
  if r1 = 0 then
    some ((-2 : Int32), s2)
  else
    bd (f_X4_closingBounds p0 s2) fun r4 s5 =>
    if r4 = (-1 : Int32) then
      f_X11_close_33 (-1 : Int32) s5
    else
      bd (f_J6_bitCount_0f7a4 r4 s5) fun r7 s8 =>
      f_X11_close_33 r7 s8
theorem e_X11_close {Γ : CX} (p0 : Int32) (σ : St) (h : RR vI Γ (f_X11_close p0 σ)) : WW Γ cX11_close 3 RX11 (some .int) rX11_close σ 0 [(0, .ref (xd Γ 0)), (1, .int p0)] [] := by
  unfold f_X11_close at h
  refine w_aload_n 0 dX11_close_0 rfl rfl rfl ?_
  refine w_iload_n 1 dX11_close_1 rfl rfl rfl ?_
  obtain ⟨r1, s2, h3, h⟩ := h.bd
  refine k_X11_isPeaceMinute ml_RX11_285 (Nat.le_of_ble_eq_true rfl) ⟨Nat.le_of_ble_eq_true rfl, Nat.le_of_ble_eq_true rfl⟩ dX11_close_2 rfl h3 ?_
  refine w_if_ne (tgt := 11) dX11_close_5 (by decide) rfl (fun q => ?_) (fun q => ?_)
  · have h := h.ff q
    refine w_aload_n 0 dX11_close_11 rfl rfl rfl ?_
    refine gf_RX11_54 dX11_close_12 rfl ?_
    refine w_iload_n 1 dX11_close_15 rfl rfl rfl ?_
    obtain ⟨r4, s5, h6, h⟩ := h.bd
    refine k_X4_closingBounds ml_RX11_295 (Nat.le_of_ble_eq_true rfl) ⟨Nat.le_of_ble_eq_true rfl, Nat.le_of_ble_eq_true rfl⟩ dX11_close_16 rfl h6 ?_
    refine w_istore_n [(2, .int r4), (0, .ref (xd Γ 0)), (1, .int p0)] dX11_close_19 rfl (by decide) rfl rfl ?_
    refine w_iload_n 0 dX11_close_20 rfl rfl rfl ?_
    refine w_iconst (-1 : Int32) dX11_close_21 ic_iconst_m1 rfl ?_
    refine w_icmp_ne (tgt := 29) dX11_close_22 (by decide) rfl (fun q => ?_) (fun q => ?_)
    · have h := h.ff q
      refine w_iload_n 0 dX11_close_29 rfl rfl rfl ?_
      obtain ⟨r7, s8, h9, h⟩ := h.bd
      refine k_J6_bitCount_0f7a4 ml_RX11_205 (Nat.le_of_ble_eq_true rfl) ⟨Nat.le_of_ble_eq_true rfl, Nat.le_of_ble_eq_true rfl⟩ dX11_close_30 rfl h9 ?_
      exact w_sub [] rfl (b_X11_close_33 r7 s8 h)
    · have h := h.tt q
      refine w_iconst (-1 : Int32) dX11_close_25 ic_iconst_m1 rfl ?_
      refine w_goto (tgt := 33) dX11_close_26 (by decide) ?_
      exact w_sub [] rfl (b_X11_close_33 (-1 : Int32) s5 h)
  · have h := h.tt q
    refine w_bipush (-2 : Int32) dX11_close_8 ic_bipush_m2 rfl ?_
    exact w_ireturn dX11_close_10 h
theorem c_X11_close {l : Launch} {D : va_G} {cy : Nat → ClassId} {ad : Nat → Nat} {p0 : Int32} {σ σ' : St} {r : Int32} (hf : f_X11_close p0 σ = some (r, σ')) : CT l D cy ad yX11_close cX11_close 3 (some .int) rX11_close [.ref (ad 0), .int p0] σ (some (.int r)) σ' :=
  ct_of (by decide) (Nat.le_of_ble_eq_true rfl) (fun p e s m args below meth c A => e_X11_close (Γ := (p, l, e, rX11_close, s, m, args, below, meth, c, D, cy, ad, A, 0, 0, ((some (.int r)), σ'))) p0 σ ⟨_, hf, rfl⟩)
theorem k_X11_close {Γ : CX} {cc : ByteArray} {nL : Nat} {own : String} {ret : Option FieldType} {rm : Room} {σ σ' : St} {pc pc' idx : Nat} {lv : List (Nat × Value)} {rest : List Value} {p0 : Int32} {r : Int32} (hl : Cond.methodLink own idx yX11_close ∈ TB) (hw : (rest.map fun v => v.category).sum ≤ 8) (hR : rX11_close.frames + 1 ≤ rm.frames ∧ 8 + (3 + 11) + rX11_close.locals ≤ rm.locals) (hd : decode cc pc = .ok (.invokevirtual idx, 3)) (hp : pc + 3 = pc') (hf : f_X11_close p0 σ = some (r, σ')) (h : WW Γ cc nL own ret rm σ' pc' lv (.int r :: rest)) : WW Γ cc nL own ret rm σ pc lv (.int p0 :: .ref (xd Γ 0) :: rest) :=
  w_callV (nn := 1) (i := 0) (As := [.int p0]) (v := (some (.int r))) (T := TX11) (N := 11) (c_X11_close hf) hl mw_X11_close (by decide +kernel) ⟨rfl, rfl⟩ hR (lt_lit (by decide)) cel_0 rfl rfl hw hd rfl hp h
/-! WarByHours.closed (I)I -/
def rX11_closed : Room := { frames := 3, cells := 0, slots := 0, locals := 73 }
def f_X11_closed_21 (k0 : Int32) (σ : St) : Option (Int32 × St) :=
  some (k0, σ)
theorem b_X11_closed_21 {Γ : CX} (k0 : Int32) (σ : St) (h : RR vI Γ (f_X11_closed_21 k0 σ)) : WW Γ cX11_closed 2 RX11 (some .int) rX11_closed σ 21 [] [.int k0] := by
  unfold f_X11_closed_21 at h
  exact w_ireturn dX11_closed_21 h
def f_X11_closed (p0 : Int32) (σ : St) : Option (Int32 × St) :=
  bd (f_X11_isPeaceMinute p0 σ) fun r1 s2 =>
  if r1 = 0 then
    f_X11_closed_21 (-2 : Int32) s2
  else
    bd (f_X4_closingBounds p0 s2) fun r4 s5 =>
    f_X11_closed_21 r4 s5
theorem e_X11_closed {Γ : CX} (p0 : Int32) (σ : St) (h : RR vI Γ (f_X11_closed p0 σ)) : WW Γ cX11_closed 2 RX11 (some .int) rX11_closed σ 0 [(0, .ref (xd Γ 0)), (1, .int p0)] [] := by
  unfold f_X11_closed at h
  refine w_aload_n 0 dX11_closed_0 rfl rfl rfl ?_
  refine w_iload_n 1 dX11_closed_1 rfl rfl rfl ?_
  obtain ⟨r1, s2, h3, h⟩ := h.bd
  refine k_X11_isPeaceMinute ml_RX11_285 (Nat.le_of_ble_eq_true rfl) ⟨Nat.le_of_ble_eq_true rfl, Nat.le_of_ble_eq_true rfl⟩ dX11_closed_2 rfl h3 ?_
  refine w_if_eq (tgt := 19) dX11_closed_5 (by decide) rfl (fun q => ?_) (fun q => ?_)
  · have h := h.tt q
    refine w_bipush (-2 : Int32) dX11_closed_19 ic_bipush_m2 rfl ?_
    exact w_sub [] rfl (b_X11_closed_21 (-2 : Int32) s2 h)
  · have h := h.ff q
    refine w_aload_n 0 dX11_closed_8 rfl rfl rfl ?_
    refine gf_RX11_54 dX11_closed_9 rfl ?_
    refine w_iload_n 1 dX11_closed_12 rfl rfl rfl ?_
    obtain ⟨r4, s5, h6, h⟩ := h.bd
    refine k_X4_closingBounds ml_RX11_295 (Nat.le_of_ble_eq_true rfl) ⟨Nat.le_of_ble_eq_true rfl, Nat.le_of_ble_eq_true rfl⟩ dX11_closed_13 rfl h6 ?_
    refine w_goto (tgt := 21) dX11_closed_16 (by decide) ?_
    exact w_sub [] rfl (b_X11_closed_21 r4 s5 h)
theorem c_X11_closed {l : Launch} {D : va_G} {cy : Nat → ClassId} {ad : Nat → Nat} {p0 : Int32} {σ σ' : St} {r : Int32} (hf : f_X11_closed p0 σ = some (r, σ')) : CT l D cy ad yX11_closed cX11_closed 2 (some .int) rX11_closed [.ref (ad 0), .int p0] σ (some (.int r)) σ' :=
  ct_of (by decide) (Nat.le_of_ble_eq_true rfl) (fun p e s m args below meth c A => e_X11_closed (Γ := (p, l, e, rX11_closed, s, m, args, below, meth, c, D, cy, ad, A, 0, 0, ((some (.int r)), σ'))) p0 σ ⟨_, hf, rfl⟩)
theorem k_X11_closed {Γ : CX} {cc : ByteArray} {nL : Nat} {own : String} {ret : Option FieldType} {rm : Room} {σ σ' : St} {pc pc' idx : Nat} {lv : List (Nat × Value)} {rest : List Value} {p0 : Int32} {r : Int32} (hl : Cond.methodLink own idx yX11_closed ∈ TB) (hw : (rest.map fun v => v.category).sum ≤ 8) (hR : rX11_closed.frames + 1 ≤ rm.frames ∧ 8 + (2 + 11) + rX11_closed.locals ≤ rm.locals) (hd : decode cc pc = .ok (.invokevirtual idx, 3)) (hp : pc + 3 = pc') (hf : f_X11_closed p0 σ = some (r, σ')) (h : WW Γ cc nL own ret rm σ' pc' lv (.int r :: rest)) : WW Γ cc nL own ret rm σ pc lv (.int p0 :: .ref (xd Γ 0) :: rest) :=
  w_callV (nn := 1) (i := 0) (As := [.int p0]) (v := (some (.int r))) (T := TX11) (N := 11) (c_X11_closed hf) hl mw_X11_closed (by decide +kernel) ⟨rfl, rfl⟩ hR (lt_lit (by decide)) cel_0 rfl rfl hw hd rfl hp h
/-! WarByHours.signs ()I -/
def rX11_signs : Room := { frames := 3, cells := 0, slots := 0, locals := 70 }
def f_X11_signs_22 (k0 : Int32) (σ : St) : Option (Int32 × St) :=
  some (k0, σ)
theorem b_X11_signs_22 {Γ : CX} (k0 : Int32) (σ : St) (h : RR vI Γ (f_X11_signs_22 k0 σ)) : WW Γ cX11_signs 1 RX11 (some .int) rX11_signs σ 22 [] [.int k0] := by
  unfold f_X11_signs_22 at h
  exact w_ireturn dX11_signs_22 h
def f_X11_signs (σ : St) : Option (Int32 × St) :=
  bd (f_X10_isTold 1 σ) fun r1 s2 =>
  if r1 = 0 then
    f_X11_signs_22 (-2 : Int32) s2
  else
    bd (f_X4_firstSafeMinute s2) fun r4 s5 =>
    f_X11_signs_22 r4 s5
theorem e_X11_signs {Γ : CX} (σ : St) (h : RR vI Γ (f_X11_signs σ)) : WW Γ cX11_signs 1 RX11 (some .int) rX11_signs σ 0 [(0, .ref (xd Γ 0))] [] := by
  unfold f_X11_signs at h
  refine w_aload_n 0 dX11_signs_0 rfl rfl rfl ?_
  refine gf_RX11_10 dX11_signs_1 rfl ?_
  obtain ⟨r1, s2, h3, h⟩ := h.bd
  refine k_X10_isTold ml_RX11_133 (Nat.le_of_ble_eq_true rfl) ⟨Nat.le_of_ble_eq_true rfl, Nat.le_of_ble_eq_true rfl⟩ dX11_signs_4 rfl h3 ?_
  refine w_if_eq (tgt := 20) dX11_signs_7 (by decide) rfl (fun q => ?_) (fun q => ?_)
  · have h := h.tt q
    refine w_bipush (-2 : Int32) dX11_signs_20 ic_bipush_m2 rfl ?_
    exact w_sub [] rfl (b_X11_signs_22 (-2 : Int32) s2 h)
  · have h := h.ff q
    refine w_aload_n 0 dX11_signs_10 rfl rfl rfl ?_
    refine gf_RX11_54 dX11_signs_11 rfl ?_
    obtain ⟨r4, s5, h6, h⟩ := h.bd
    refine k_X4_firstSafeMinute ml_RX11_298 (Nat.le_of_ble_eq_true rfl) ⟨Nat.le_of_ble_eq_true rfl, Nat.le_of_ble_eq_true rfl⟩ dX11_signs_14 rfl h6 ?_
    refine w_goto (tgt := 22) dX11_signs_17 (by decide) ?_
    exact w_sub [] rfl (b_X11_signs_22 r4 s5 h)
theorem c_X11_signs {l : Launch} {D : va_G} {cy : Nat → ClassId} {ad : Nat → Nat}  {σ σ' : St} {r : Int32} (hf : f_X11_signs σ = some (r, σ')) : CT l D cy ad yX11_signs cX11_signs 1 (some .int) rX11_signs [.ref (ad 0)] σ (some (.int r)) σ' :=
  ct_of (by decide) (Nat.le_of_ble_eq_true rfl) (fun p e s m args below meth c A => e_X11_signs (Γ := (p, l, e, rX11_signs, s, m, args, below, meth, c, D, cy, ad, A, 0, 0, ((some (.int r)), σ'))) σ ⟨_, hf, rfl⟩)
theorem k_X11_signs {Γ : CX} {cc : ByteArray} {nL : Nat} {own : String} {ret : Option FieldType} {rm : Room} {σ σ' : St} {pc pc' idx : Nat} {lv : List (Nat × Value)} {rest : List Value}  {r : Int32} (hl : Cond.methodLink own idx yX11_signs ∈ TB) (hw : (rest.map fun v => v.category).sum ≤ 8) (hR : rX11_signs.frames + 1 ≤ rm.frames ∧ 8 + (1 + 11) + rX11_signs.locals ≤ rm.locals) (hd : decode cc pc = .ok (.invokevirtual idx, 3)) (hp : pc + 3 = pc') (hf : f_X11_signs σ = some (r, σ')) (h : WW Γ cc nL own ret rm σ' pc' lv (.int r :: rest)) : WW Γ cc nL own ret rm σ pc lv (.ref (xd Γ 0) :: rest) :=
  w_callV (nn := 0) (i := 0) (As := []) (v := (some (.int r))) (T := TX11) (N := 11) (c_X11_signs hf) hl mw_X11_signs (by decide +kernel) ⟨rfl, rfl⟩ hR (lt_lit (by decide)) cel_0 rfl rfl hw hd rfl hp h
/-! WarByHours.spies (I)I -/
def rX11_spies : Room := { frames := 3, cells := 0, slots := 0, locals := 66 }
def f_X11_spies_24 (k0 : Int32) (σ : St) : Option (Int32 × St) :=
  some (k0, σ)
theorem b_X11_spies_24 {Γ : CX} (k0 : Int32) (σ : St) (h : RR vI Γ (f_X11_spies_24 k0 σ)) : WW Γ cX11_spies 2 RX11 (some .int) rX11_spies σ 24 [] [.int k0] := by
  unfold f_X11_spies_24 at h
  exact w_ireturn dX11_spies_24 h
def f_X11_spies (p0 : Int32) (σ : St) : Option (Int32 × St) :=
  bd (f_X10_hasSet 1 p0 σ) fun r1 s2 =>
  if r1 = 0 then
    f_X11_spies_24 (-2 : Int32) s2
  else
    bd (f_X8_fitting p0 s2) fun r4 s5 =>
    f_X11_spies_24 r4 s5
theorem e_X11_spies {Γ : CX} (p0 : Int32) (σ : St) (h : RR vI Γ (f_X11_spies p0 σ)) : WW Γ cX11_spies 2 RX11 (some .int) rX11_spies σ 0 [(0, .ref (xd Γ 0)), (1, .int p0)] [] := by
  unfold f_X11_spies at h
  refine w_aload_n 0 dX11_spies_0 rfl rfl rfl ?_
  refine gf_RX11_10 dX11_spies_1 rfl ?_
  refine w_iload_n 1 dX11_spies_4 rfl rfl rfl ?_
  obtain ⟨r1, s2, h3, h⟩ := h.bd
  refine k_X10_hasSet ml_RX11_155 (Nat.le_of_ble_eq_true rfl) ⟨Nat.le_of_ble_eq_true rfl, Nat.le_of_ble_eq_true rfl⟩ dX11_spies_5 rfl h3 ?_
  refine w_if_eq (tgt := 22) dX11_spies_8 (by decide) rfl (fun q => ?_) (fun q => ?_)
  · have h := h.tt q
    refine w_bipush (-2 : Int32) dX11_spies_22 ic_bipush_m2 rfl ?_
    exact w_sub [] rfl (b_X11_spies_24 (-2 : Int32) s2 h)
  · have h := h.ff q
    refine w_aload_n 0 dX11_spies_11 rfl rfl rfl ?_
    refine gf_RX11_61 dX11_spies_12 rfl ?_
    refine w_iload_n 1 dX11_spies_15 rfl rfl rfl ?_
    obtain ⟨r4, s5, h6, h⟩ := h.bd
    refine k_X8_fitting ml_RX11_307 (Nat.le_of_ble_eq_true rfl) ⟨Nat.le_of_ble_eq_true rfl, Nat.le_of_ble_eq_true rfl⟩ dX11_spies_16 rfl h6 ?_
    refine w_goto (tgt := 24) dX11_spies_19 (by decide) ?_
    exact w_sub [] rfl (b_X11_spies_24 r4 s5 h)
theorem c_X11_spies {l : Launch} {D : va_G} {cy : Nat → ClassId} {ad : Nat → Nat} {p0 : Int32} {σ σ' : St} {r : Int32} (hf : f_X11_spies p0 σ = some (r, σ')) : CT l D cy ad yX11_spies cX11_spies 2 (some .int) rX11_spies [.ref (ad 0), .int p0] σ (some (.int r)) σ' :=
  ct_of (by decide) (Nat.le_of_ble_eq_true rfl) (fun p e s m args below meth c A => e_X11_spies (Γ := (p, l, e, rX11_spies, s, m, args, below, meth, c, D, cy, ad, A, 0, 0, ((some (.int r)), σ'))) p0 σ ⟨_, hf, rfl⟩)
theorem k_X11_spies {Γ : CX} {cc : ByteArray} {nL : Nat} {own : String} {ret : Option FieldType} {rm : Room} {σ σ' : St} {pc pc' idx : Nat} {lv : List (Nat × Value)} {rest : List Value} {p0 : Int32} {r : Int32} (hl : Cond.methodLink own idx yX11_spies ∈ TB) (hw : (rest.map fun v => v.category).sum ≤ 8) (hR : rX11_spies.frames + 1 ≤ rm.frames ∧ 8 + (2 + 11) + rX11_spies.locals ≤ rm.locals) (hd : decode cc pc = .ok (.invokevirtual idx, 3)) (hp : pc + 3 = pc') (hf : f_X11_spies p0 σ = some (r, σ')) (h : WW Γ cc nL own ret rm σ' pc' lv (.int r :: rest)) : WW Γ cc nL own ret rm σ pc lv (.int p0 :: .ref (xd Γ 0) :: rest) :=
  w_callV (nn := 1) (i := 0) (As := [.int p0]) (v := (some (.int r))) (T := TX11) (N := 11) (c_X11_spies hf) hl mw_X11_spies (by decide +kernel) ⟨rfl, rfl⟩ hR (lt_lit (by decide)) cel_0 rfl rfl hw hd rfl hp h
/-! WarByHours.known (II)I -/
def rX11_known : Room := { frames := 4, cells := 0, slots := 0, locals := 90 }
def f_X11_known_18 (σ : St) : Option (Int32 × St) :=
  some ((-2 : Int32), σ)
theorem b_X11_known_18 {Γ : CX} (σ : St) (h : RR vI Γ (f_X11_known_18 σ)) : WW Γ cX11_known 3 RX11 (some .int) rX11_known σ 18 [] [] := by
  unfold f_X11_known_18 at h
  refine w_bipush (-2 : Int32) dX11_known_18 ic_bipush_m2 rfl ?_
  exact w_ireturn dX11_known_20 h
def f_X11_known_44 (k0 : Int32) (σ : St) : Option (Int32 × St) :=
  some (k0, σ)
theorem b_X11_known_44 {Γ : CX} (k0 : Int32) (σ : St) (h : RR vI Γ (f_X11_known_44 k0 σ)) : WW Γ cX11_known 3 RX11 (some .int) rX11_known σ 44 [] [.int k0] := by
  unfold f_X11_known_44 at h
  exact w_ireturn dX11_known_44 h
def f_X11_known (p0 : Int32) (p1 : Int32) (σ : St) : Option (Int32 × St) :=
  bd (f_X10_hasSet 1 p0 σ) fun r1 s2 =>
  if r1 = 0 then
    f_X11_known_18 s2
  else
    bd (f_X11_isPart p1 s2) fun r4 s5 =>
    if r4 = 0 then
      f_X11_known_18 s5
    else
      if p1 = 0 then
        bd (f_X8_knownToAll p0 s5) fun r10 s11 =>
        f_X11_known_44 r10 s11
      else
        bd (f_X8_knownToSome p0 s5) fun r7 s8 =>
        f_X11_known_44 r7 s8
theorem e_X11_known {Γ : CX} (p0 : Int32) (p1 : Int32) (σ : St) (h : RR vI Γ (f_X11_known p0 p1 σ)) : WW Γ cX11_known 3 RX11 (some .int) rX11_known σ 0 [(0, .ref (xd Γ 0)), (1, .int p0), (2, .int p1)] [] := by
  unfold f_X11_known at h
  refine w_aload_n 0 dX11_known_0 rfl rfl rfl ?_
  refine gf_RX11_10 dX11_known_1 rfl ?_
  refine w_iload_n 1 dX11_known_4 rfl rfl rfl ?_
  obtain ⟨r1, s2, h3, h⟩ := h.bd
  refine k_X10_hasSet ml_RX11_155 (Nat.le_of_ble_eq_true rfl) ⟨Nat.le_of_ble_eq_true rfl, Nat.le_of_ble_eq_true rfl⟩ dX11_known_5 rfl h3 ?_
  refine w_if_eq (tgt := 18) dX11_known_8 (by decide) rfl (fun q => ?_) (fun q => ?_)
  · have h := h.tt q
    exact w_sub [] rfl (b_X11_known_18 s2 h)
  · have h := h.ff q
    refine w_iload_n 2 dX11_known_11 rfl rfl rfl ?_
    obtain ⟨r4, s5, h6, h⟩ := h.bd
    refine k_X11_isPart ml_RX11_193 (Nat.le_of_ble_eq_true rfl) ⟨Nat.le_of_ble_eq_true rfl, Nat.le_of_ble_eq_true rfl⟩ dX11_known_12 rfl h6 ?_
    refine w_if_ne (tgt := 21) dX11_known_15 (by decide) rfl (fun q => ?_) (fun q => ?_)
    · have h := h.ff q
      refine w_iload_n 2 dX11_known_21 rfl rfl rfl ?_
      refine w_if_ne (tgt := 36) dX11_known_22 (by decide) rfl (fun q => ?_) (fun q => ?_)
      · have h := h.ff q
        refine w_aload_n 0 dX11_known_36 rfl rfl rfl ?_
        refine gf_RX11_61 dX11_known_37 rfl ?_
        refine w_iload_n 1 dX11_known_40 rfl rfl rfl ?_
        obtain ⟨r7, s8, h9, h⟩ := h.bd
        refine k_X8_knownToSome ml_RX11_319 (Nat.le_of_ble_eq_true rfl) ⟨Nat.le_of_ble_eq_true rfl, Nat.le_of_ble_eq_true rfl⟩ dX11_known_41 rfl h9 ?_
        exact w_sub [] rfl (b_X11_known_44 r7 s8 h)
      · have h := h.tt q
        refine w_aload_n 0 dX11_known_25 rfl rfl rfl ?_
        refine gf_RX11_61 dX11_known_26 rfl ?_
        refine w_iload_n 1 dX11_known_29 rfl rfl rfl ?_
        obtain ⟨r10, s11, h12, h⟩ := h.bd
        refine k_X8_knownToAll ml_RX11_316 (Nat.le_of_ble_eq_true rfl) ⟨Nat.le_of_ble_eq_true rfl, Nat.le_of_ble_eq_true rfl⟩ dX11_known_30 rfl h12 ?_
        refine w_goto (tgt := 44) dX11_known_33 (by decide) ?_
        exact w_sub [] rfl (b_X11_known_44 r10 s11 h)
    · have h := h.tt q
      exact w_sub [] rfl (b_X11_known_18 s5 h)
theorem c_X11_known {l : Launch} {D : va_G} {cy : Nat → ClassId} {ad : Nat → Nat} {p0 : Int32} {p1 : Int32} {σ σ' : St} {r : Int32} (hf : f_X11_known p0 p1 σ = some (r, σ')) : CT l D cy ad yX11_known cX11_known 3 (some .int) rX11_known [.ref (ad 0), .int p0, .int p1] σ (some (.int r)) σ' :=
  ct_of (by decide) (Nat.le_of_ble_eq_true rfl) (fun p e s m args below meth c A => e_X11_known (Γ := (p, l, e, rX11_known, s, m, args, below, meth, c, D, cy, ad, A, 0, 0, ((some (.int r)), σ'))) p0 p1 σ ⟨_, hf, rfl⟩)
theorem k_X11_known {Γ : CX} {cc : ByteArray} {nL : Nat} {own : String} {ret : Option FieldType} {rm : Room} {σ σ' : St} {pc pc' idx : Nat} {lv : List (Nat × Value)} {rest : List Value} {p0 : Int32} {p1 : Int32} {r : Int32} (hl : Cond.methodLink own idx yX11_known ∈ TB) (hw : (rest.map fun v => v.category).sum ≤ 8) (hR : rX11_known.frames + 1 ≤ rm.frames ∧ 8 + (3 + 11) + rX11_known.locals ≤ rm.locals) (hd : decode cc pc = .ok (.invokevirtual idx, 3)) (hp : pc + 3 = pc') (hf : f_X11_known p0 p1 σ = some (r, σ')) (h : WW Γ cc nL own ret rm σ' pc' lv (.int r :: rest)) : WW Γ cc nL own ret rm σ pc lv (.int p1 :: .int p0 :: .ref (xd Γ 0) :: rest) :=
  w_callV (nn := 2) (i := 0) (As := [.int p0, .int p1]) (v := (some (.int r))) (T := TX11) (N := 11) (c_X11_known hf) hl mw_X11_known (by decide +kernel) ⟨rfl, rfl⟩ hR (lt_lit (by decide)) cel_0 rfl rfl hw hd rfl hp h
/-! WarByHours.grant ()I -/
def rX11_grant : Room := { frames := 3, cells := 0, slots := 0, locals := 75 }
def f_X11_grant_30 (k0 : Int32) (σ : St) : Option (Int32 × St) :=
  some (k0, σ)
theorem b_X11_grant_30 {Γ : CX} (k0 : Int32) (σ : St) (h : RR vI Γ (f_X11_grant_30 k0 σ)) : WW Γ cX11_grant 1 RX11 (some .int) rX11_grant σ 30 [] [.int k0] := by
  unfold f_X11_grant_30 at h
  exact w_ireturn dX11_grant_30 h
def f_X11_grant (σ : St) : Option (Int32 × St) :=
  bd (f_X10_isTold 1 σ) fun r1 s2 =>
  if r1 = 0 then
    f_X11_grant_30 (-2 : Int32) s2
  else
    bd (f_X0_bestSet (0 : Int32) s2) fun r4 s5 =>
    bd (f_X0_worthOf r4 s5) fun r7 s8 =>
    f_X11_grant_30 r7 s8
theorem e_X11_grant {Γ : CX} (σ : St) (h : RR vI Γ (f_X11_grant σ)) : WW Γ cX11_grant 1 RX11 (some .int) rX11_grant σ 0 [(0, .ref (xd Γ 0))] [] := by
  unfold f_X11_grant at h
  refine w_aload_n 0 dX11_grant_0 rfl rfl rfl ?_
  refine gf_RX11_10 dX11_grant_1 rfl ?_
  obtain ⟨r1, s2, h3, h⟩ := h.bd
  refine k_X10_isTold ml_RX11_133 (Nat.le_of_ble_eq_true rfl) ⟨Nat.le_of_ble_eq_true rfl, Nat.le_of_ble_eq_true rfl⟩ dX11_grant_4 rfl h3 ?_
  refine w_if_eq (tgt := 28) dX11_grant_7 (by decide) rfl (fun q => ?_) (fun q => ?_)
  · have h := h.tt q
    refine w_bipush (-2 : Int32) dX11_grant_28 ic_bipush_m2 rfl ?_
    exact w_sub [] rfl (b_X11_grant_30 (-2 : Int32) s2 h)
  · have h := h.ff q
    refine w_aload_n 0 dX11_grant_10 rfl rfl rfl ?_
    refine gf_RX11_68 dX11_grant_11 rfl ?_
    refine w_aload_n 0 dX11_grant_14 rfl rfl rfl ?_
    refine gf_RX11_68 dX11_grant_15 rfl ?_
    refine w_iconst (0 : Int32) dX11_grant_18 ic_iconst_0 rfl ?_
    obtain ⟨r4, s5, h6, h⟩ := h.bd
    refine k_X0_bestSet ml_RX11_322 (Nat.le_of_ble_eq_true rfl) ⟨Nat.le_of_ble_eq_true rfl, Nat.le_of_ble_eq_true rfl⟩ dX11_grant_19 rfl h6 ?_
    obtain ⟨r7, s8, h9, h⟩ := h.bd
    refine k_X0_worthOf ml_RX11_326 (Nat.le_of_ble_eq_true rfl) ⟨Nat.le_of_ble_eq_true rfl, Nat.le_of_ble_eq_true rfl⟩ dX11_grant_22 rfl h9 ?_
    refine w_goto (tgt := 30) dX11_grant_25 (by decide) ?_
    exact w_sub [] rfl (b_X11_grant_30 r7 s8 h)
theorem c_X11_grant {l : Launch} {D : va_G} {cy : Nat → ClassId} {ad : Nat → Nat}  {σ σ' : St} {r : Int32} (hf : f_X11_grant σ = some (r, σ')) : CT l D cy ad yX11_grant cX11_grant 1 (some .int) rX11_grant [.ref (ad 0)] σ (some (.int r)) σ' :=
  ct_of (by decide) (Nat.le_of_ble_eq_true rfl) (fun p e s m args below meth c A => e_X11_grant (Γ := (p, l, e, rX11_grant, s, m, args, below, meth, c, D, cy, ad, A, 0, 0, ((some (.int r)), σ'))) σ ⟨_, hf, rfl⟩)
theorem k_X11_grant {Γ : CX} {cc : ByteArray} {nL : Nat} {own : String} {ret : Option FieldType} {rm : Room} {σ σ' : St} {pc pc' idx : Nat} {lv : List (Nat × Value)} {rest : List Value}  {r : Int32} (hl : Cond.methodLink own idx yX11_grant ∈ TB) (hw : (rest.map fun v => v.category).sum ≤ 8) (hR : rX11_grant.frames + 1 ≤ rm.frames ∧ 8 + (1 + 11) + rX11_grant.locals ≤ rm.locals) (hd : decode cc pc = .ok (.invokevirtual idx, 3)) (hp : pc + 3 = pc') (hf : f_X11_grant σ = some (r, σ')) (h : WW Γ cc nL own ret rm σ' pc' lv (.int r :: rest)) : WW Γ cc nL own ret rm σ pc lv (.ref (xd Γ 0) :: rest) :=
  w_callV (nn := 0) (i := 0) (As := []) (v := (some (.int r))) (T := TX11) (N := 11) (c_X11_grant hf) hl mw_X11_grant (by decide +kernel) ⟨rfl, rfl⟩ hR (lt_lit (by decide)) cel_0 rfl rfl hw hd rfl hp h
/-! WarByHours.granted ()I -/
def rX11_granted : Room := { frames := 3, cells := 0, slots := 0, locals := 75 }
def f_X11_granted_23 (k0 : Int32) (σ : St) : Option (Int32 × St) :=
  some (k0, σ)
theorem b_X11_granted_23 {Γ : CX} (k0 : Int32) (σ : St) (h : RR vI Γ (f_X11_granted_23 k0 σ)) : WW Γ cX11_granted 1 RX11 (some .int) rX11_granted σ 23 [] [.int k0] := by
  unfold f_X11_granted_23 at h
  exact w_ireturn dX11_granted_23 h
def f_X11_granted (σ : St) : Option (Int32 × St) :=
  bd (f_X10_isTold 1 σ) fun r1 s2 =>
  if r1 = 0 then
    f_X11_granted_23 (-2 : Int32) s2
  else
    bd (f_X0_bestSet (0 : Int32) s2) fun r4 s5 =>
    f_X11_granted_23 r4 s5
theorem e_X11_granted {Γ : CX} (σ : St) (h : RR vI Γ (f_X11_granted σ)) : WW Γ cX11_granted 1 RX11 (some .int) rX11_granted σ 0 [(0, .ref (xd Γ 0))] [] := by
  unfold f_X11_granted at h
  refine w_aload_n 0 dX11_granted_0 rfl rfl rfl ?_
  refine gf_RX11_10 dX11_granted_1 rfl ?_
  obtain ⟨r1, s2, h3, h⟩ := h.bd
  refine k_X10_isTold ml_RX11_133 (Nat.le_of_ble_eq_true rfl) ⟨Nat.le_of_ble_eq_true rfl, Nat.le_of_ble_eq_true rfl⟩ dX11_granted_4 rfl h3 ?_
  refine w_if_eq (tgt := 21) dX11_granted_7 (by decide) rfl (fun q => ?_) (fun q => ?_)
  · have h := h.tt q
    refine w_bipush (-2 : Int32) dX11_granted_21 ic_bipush_m2 rfl ?_
    exact w_sub [] rfl (b_X11_granted_23 (-2 : Int32) s2 h)
  · have h := h.ff q
    refine w_aload_n 0 dX11_granted_10 rfl rfl rfl ?_
    refine gf_RX11_68 dX11_granted_11 rfl ?_
    refine w_iconst (0 : Int32) dX11_granted_14 ic_iconst_0 rfl ?_
    obtain ⟨r4, s5, h6, h⟩ := h.bd
    refine k_X0_bestSet ml_RX11_322 (Nat.le_of_ble_eq_true rfl) ⟨Nat.le_of_ble_eq_true rfl, Nat.le_of_ble_eq_true rfl⟩ dX11_granted_15 rfl h6 ?_
    refine w_goto (tgt := 23) dX11_granted_18 (by decide) ?_
    exact w_sub [] rfl (b_X11_granted_23 r4 s5 h)
theorem c_X11_granted {l : Launch} {D : va_G} {cy : Nat → ClassId} {ad : Nat → Nat}  {σ σ' : St} {r : Int32} (hf : f_X11_granted σ = some (r, σ')) : CT l D cy ad yX11_granted cX11_granted 1 (some .int) rX11_granted [.ref (ad 0)] σ (some (.int r)) σ' :=
  ct_of (by decide) (Nat.le_of_ble_eq_true rfl) (fun p e s m args below meth c A => e_X11_granted (Γ := (p, l, e, rX11_granted, s, m, args, below, meth, c, D, cy, ad, A, 0, 0, ((some (.int r)), σ'))) σ ⟨_, hf, rfl⟩)
theorem k_X11_granted {Γ : CX} {cc : ByteArray} {nL : Nat} {own : String} {ret : Option FieldType} {rm : Room} {σ σ' : St} {pc pc' idx : Nat} {lv : List (Nat × Value)} {rest : List Value}  {r : Int32} (hl : Cond.methodLink own idx yX11_granted ∈ TB) (hw : (rest.map fun v => v.category).sum ≤ 8) (hR : rX11_granted.frames + 1 ≤ rm.frames ∧ 8 + (1 + 11) + rX11_granted.locals ≤ rm.locals) (hd : decode cc pc = .ok (.invokevirtual idx, 3)) (hp : pc + 3 = pc') (hf : f_X11_granted σ = some (r, σ')) (h : WW Γ cc nL own ret rm σ' pc' lv (.int r :: rest)) : WW Γ cc nL own ret rm σ pc lv (.ref (xd Γ 0) :: rest) :=
  w_callV (nn := 0) (i := 0) (As := []) (v := (some (.int r))) (T := TX11) (N := 11) (c_X11_granted hf) hl mw_X11_granted (by decide +kernel) ⟨rfl, rfl⟩ hR (lt_lit (by decide)) cel_0 rfl rfl hw hd rfl hp h
/-! WarByHours.halves ()I -/
def rX11_halves : Room := { frames := 3, cells := 0, slots := 0, locals := 75 }
def f_X11_halves_30 (k0 : Int32) (σ : St) : Option (Int32 × St) :=
  some (k0, σ)
theorem b_X11_halves_30 {Γ : CX} (k0 : Int32) (σ : St) (h : RR vI Γ (f_X11_halves_30 k0 σ)) : WW Γ cX11_halves 1 RX11 (some .int) rX11_halves σ 30 [] [.int k0] := by
  unfold f_X11_halves_30 at h
  exact w_ireturn dX11_halves_30 h
def f_X11_halves (σ : St) : Option (Int32 × St) :=
  bd (f_X10_isTold 1 σ) fun r1 s2 =>
  if r1 = 0 then
    f_X11_halves_30 (-2 : Int32) s2
  else
    bd (f_X0_bestSet (1 : Int32) s2) fun r4 s5 =>
    bd (f_X0_worthOf r4 s5) fun r7 s8 =>
    f_X11_halves_30 r7 s8
theorem e_X11_halves {Γ : CX} (σ : St) (h : RR vI Γ (f_X11_halves σ)) : WW Γ cX11_halves 1 RX11 (some .int) rX11_halves σ 0 [(0, .ref (xd Γ 0))] [] := by
  unfold f_X11_halves at h
  refine w_aload_n 0 dX11_halves_0 rfl rfl rfl ?_
  refine gf_RX11_10 dX11_halves_1 rfl ?_
  obtain ⟨r1, s2, h3, h⟩ := h.bd
  refine k_X10_isTold ml_RX11_133 (Nat.le_of_ble_eq_true rfl) ⟨Nat.le_of_ble_eq_true rfl, Nat.le_of_ble_eq_true rfl⟩ dX11_halves_4 rfl h3 ?_
  refine w_if_eq (tgt := 28) dX11_halves_7 (by decide) rfl (fun q => ?_) (fun q => ?_)
  · have h := h.tt q
    refine w_bipush (-2 : Int32) dX11_halves_28 ic_bipush_m2 rfl ?_
    exact w_sub [] rfl (b_X11_halves_30 (-2 : Int32) s2 h)
  · have h := h.ff q
    refine w_aload_n 0 dX11_halves_10 rfl rfl rfl ?_
    refine gf_RX11_68 dX11_halves_11 rfl ?_
    refine w_aload_n 0 dX11_halves_14 rfl rfl rfl ?_
    refine gf_RX11_68 dX11_halves_15 rfl ?_
    refine w_iconst (1 : Int32) dX11_halves_18 ic_iconst_1 rfl ?_
    obtain ⟨r4, s5, h6, h⟩ := h.bd
    refine k_X0_bestSet ml_RX11_322 (Nat.le_of_ble_eq_true rfl) ⟨Nat.le_of_ble_eq_true rfl, Nat.le_of_ble_eq_true rfl⟩ dX11_halves_19 rfl h6 ?_
    obtain ⟨r7, s8, h9, h⟩ := h.bd
    refine k_X0_worthOf ml_RX11_326 (Nat.le_of_ble_eq_true rfl) ⟨Nat.le_of_ble_eq_true rfl, Nat.le_of_ble_eq_true rfl⟩ dX11_halves_22 rfl h9 ?_
    refine w_goto (tgt := 30) dX11_halves_25 (by decide) ?_
    exact w_sub [] rfl (b_X11_halves_30 r7 s8 h)
theorem c_X11_halves {l : Launch} {D : va_G} {cy : Nat → ClassId} {ad : Nat → Nat}  {σ σ' : St} {r : Int32} (hf : f_X11_halves σ = some (r, σ')) : CT l D cy ad yX11_halves cX11_halves 1 (some .int) rX11_halves [.ref (ad 0)] σ (some (.int r)) σ' :=
  ct_of (by decide) (Nat.le_of_ble_eq_true rfl) (fun p e s m args below meth c A => e_X11_halves (Γ := (p, l, e, rX11_halves, s, m, args, below, meth, c, D, cy, ad, A, 0, 0, ((some (.int r)), σ'))) σ ⟨_, hf, rfl⟩)
theorem k_X11_halves {Γ : CX} {cc : ByteArray} {nL : Nat} {own : String} {ret : Option FieldType} {rm : Room} {σ σ' : St} {pc pc' idx : Nat} {lv : List (Nat × Value)} {rest : List Value}  {r : Int32} (hl : Cond.methodLink own idx yX11_halves ∈ TB) (hw : (rest.map fun v => v.category).sum ≤ 8) (hR : rX11_halves.frames + 1 ≤ rm.frames ∧ 8 + (1 + 11) + rX11_halves.locals ≤ rm.locals) (hd : decode cc pc = .ok (.invokevirtual idx, 3)) (hp : pc + 3 = pc') (hf : f_X11_halves σ = some (r, σ')) (h : WW Γ cc nL own ret rm σ' pc' lv (.int r :: rest)) : WW Γ cc nL own ret rm σ pc lv (.ref (xd Γ 0) :: rest) :=
  w_callV (nn := 0) (i := 0) (As := []) (v := (some (.int r))) (T := TX11) (N := 11) (c_X11_halves hf) hl mw_X11_halves (by decide +kernel) ⟨rfl, rfl⟩ hR (lt_lit (by decide)) cel_0 rfl rfl hw hd rfl hp h
/-! WarByHours.halved ()I -/
def rX11_halved : Room := { frames := 3, cells := 0, slots := 0, locals := 75 }
def f_X11_halved_23 (k0 : Int32) (σ : St) : Option (Int32 × St) :=
  some (k0, σ)
theorem b_X11_halved_23 {Γ : CX} (k0 : Int32) (σ : St) (h : RR vI Γ (f_X11_halved_23 k0 σ)) : WW Γ cX11_halved 1 RX11 (some .int) rX11_halved σ 23 [] [.int k0] := by
  unfold f_X11_halved_23 at h
  exact w_ireturn dX11_halved_23 h
def f_X11_halved (σ : St) : Option (Int32 × St) :=
  bd (f_X10_isTold 1 σ) fun r1 s2 =>
  if r1 = 0 then
    f_X11_halved_23 (-2 : Int32) s2
  else
    bd (f_X0_bestSet (1 : Int32) s2) fun r4 s5 =>
    f_X11_halved_23 r4 s5
theorem e_X11_halved {Γ : CX} (σ : St) (h : RR vI Γ (f_X11_halved σ)) : WW Γ cX11_halved 1 RX11 (some .int) rX11_halved σ 0 [(0, .ref (xd Γ 0))] [] := by
  unfold f_X11_halved at h
  refine w_aload_n 0 dX11_halved_0 rfl rfl rfl ?_
  refine gf_RX11_10 dX11_halved_1 rfl ?_
  obtain ⟨r1, s2, h3, h⟩ := h.bd
  refine k_X10_isTold ml_RX11_133 (Nat.le_of_ble_eq_true rfl) ⟨Nat.le_of_ble_eq_true rfl, Nat.le_of_ble_eq_true rfl⟩ dX11_halved_4 rfl h3 ?_
  refine w_if_eq (tgt := 21) dX11_halved_7 (by decide) rfl (fun q => ?_) (fun q => ?_)
  · have h := h.tt q
    refine w_bipush (-2 : Int32) dX11_halved_21 ic_bipush_m2 rfl ?_
    exact w_sub [] rfl (b_X11_halved_23 (-2 : Int32) s2 h)
  · have h := h.ff q
    refine w_aload_n 0 dX11_halved_10 rfl rfl rfl ?_
    refine gf_RX11_68 dX11_halved_11 rfl ?_
    refine w_iconst (1 : Int32) dX11_halved_14 ic_iconst_1 rfl ?_
    obtain ⟨r4, s5, h6, h⟩ := h.bd
    refine k_X0_bestSet ml_RX11_322 (Nat.le_of_ble_eq_true rfl) ⟨Nat.le_of_ble_eq_true rfl, Nat.le_of_ble_eq_true rfl⟩ dX11_halved_15 rfl h6 ?_
    refine w_goto (tgt := 23) dX11_halved_18 (by decide) ?_
    exact w_sub [] rfl (b_X11_halved_23 r4 s5 h)
theorem c_X11_halved {l : Launch} {D : va_G} {cy : Nat → ClassId} {ad : Nat → Nat}  {σ σ' : St} {r : Int32} (hf : f_X11_halved σ = some (r, σ')) : CT l D cy ad yX11_halved cX11_halved 1 (some .int) rX11_halved [.ref (ad 0)] σ (some (.int r)) σ' :=
  ct_of (by decide) (Nat.le_of_ble_eq_true rfl) (fun p e s m args below meth c A => e_X11_halved (Γ := (p, l, e, rX11_halved, s, m, args, below, meth, c, D, cy, ad, A, 0, 0, ((some (.int r)), σ'))) σ ⟨_, hf, rfl⟩)
theorem k_X11_halved {Γ : CX} {cc : ByteArray} {nL : Nat} {own : String} {ret : Option FieldType} {rm : Room} {σ σ' : St} {pc pc' idx : Nat} {lv : List (Nat × Value)} {rest : List Value}  {r : Int32} (hl : Cond.methodLink own idx yX11_halved ∈ TB) (hw : (rest.map fun v => v.category).sum ≤ 8) (hR : rX11_halved.frames + 1 ≤ rm.frames ∧ 8 + (1 + 11) + rX11_halved.locals ≤ rm.locals) (hd : decode cc pc = .ok (.invokevirtual idx, 3)) (hp : pc + 3 = pc') (hf : f_X11_halved σ = some (r, σ')) (h : WW Γ cc nL own ret rm σ' pc' lv (.int r :: rest)) : WW Γ cc nL own ret rm σ pc lv (.ref (xd Γ 0) :: rest) :=
  w_callV (nn := 0) (i := 0) (As := []) (v := (some (.int r))) (T := TX11) (N := 11) (c_X11_halved hf) hl mw_X11_halved (by decide +kernel) ⟨rfl, rfl⟩ hR (lt_lit (by decide)) cel_0 rfl rfl hw hd rfl hp h
/-! WarByHours.Course.worstSet (I)I -/
def rX2_worstSet : Room := { frames := 6, cells := 0, slots := 0, locals := 138 }
def f_X2_worstSet_57 (K8 : Int32 × Int32 × Int32 × St → Option (Int32 × St)) (v1 : Int32) (v2 : Int32) (v3 : Int32) (σ : St) : Option (Int32 × St) :=
  bnd (v3 + (1 : Int32)) fun x1 =>
  K8 (v1, v2, x1, σ)
theorem b_X2_worstSet_57 {Γ : CX} (K8 : Int32 × Int32 × Int32 × St → Option (Int32 × St)) (hK8 : ∀ (v1 : Int32) (v2 : Int32) (v3 : Int32) (σ : St), RR vI Γ (K8 (v1, v2, v3, σ)) → WW Γ cX2_worstSet 5 RX2 (some .int) rX2_worstSet σ 8 [(0, .ref (xd Γ 31)), (1, .int v1), (2, .int v2), (3, .int v3)] []) (v1 : Int32) (v2 : Int32) (v3 : Int32) (σ : St) (h : RR vI Γ (f_X2_worstSet_57 K8 v1 v2 v3 σ)) : WW Γ cX2_worstSet 5 RX2 (some .int) rX2_worstSet σ 57 [(0, .ref (xd Γ 31)), (1, .int v1), (2, .int v2), (3, .int v3)] [] := by
  unfold f_X2_worstSet_57 at h
  obtain ⟨x1, ex1⟩ : ∃ y : Int32, y = (v3 + (1 : Int32)) := ⟨_, rfl⟩
  replace h := h.bnd ex1
  refine w_iinc 3 x1 [(3, .int x1), (0, .ref (xd Γ 31)), (1, .int v1), (2, .int v2)] dX2_worstSet_57 rfl (by rw [ex1, ic_iconst_1]) (by decide) rfl rfl ?_
  clear ex1
  refine w_goto (tgt := 8) dX2_worstSet_60 (by decide) ?_
  exact w_sub [1, 2, 3, 0] rfl (hK8 v1 v2 x1 σ h)
def f_X2_worstSet_55 (K8 : Int32 × Int32 × Int32 × St → Option (Int32 × St)) (v1 : Int32) (v3 : Int32) (σ : St) : Option (Int32 × St) :=
  f_X2_worstSet_57 K8 v1 v3 v3 σ
theorem b_X2_worstSet_55 {Γ : CX} (K8 : Int32 × Int32 × Int32 × St → Option (Int32 × St)) (hK8 : ∀ (v1 : Int32) (v2 : Int32) (v3 : Int32) (σ : St), RR vI Γ (K8 (v1, v2, v3, σ)) → WW Γ cX2_worstSet 5 RX2 (some .int) rX2_worstSet σ 8 [(0, .ref (xd Γ 31)), (1, .int v1), (2, .int v2), (3, .int v3)] []) (v1 : Int32) (v3 : Int32) (σ : St) (h : RR vI Γ (f_X2_worstSet_55 K8 v1 v3 σ)) : WW Γ cX2_worstSet 5 RX2 (some .int) rX2_worstSet σ 55 [(0, .ref (xd Γ 31)), (1, .int v1), (3, .int v3)] [] := by
  unfold f_X2_worstSet_55 at h
  refine w_iload_n 2 dX2_worstSet_55 rfl rfl rfl ?_
  refine w_istore_n [(2, .int v3), (0, .ref (xd Γ 31)), (1, .int v1), (3, .int v3)] dX2_worstSet_56 rfl (by decide) rfl rfl ?_
  exact w_sub [1, 2, 0, 3] rfl (b_X2_worstSet_57 K8 hK8 v1 v3 v3 σ h)
def g_X2_worstSet_8 (K8 : Int32 × Int32 × Int32 × St → Option (Int32 × St)) (x : Int32 × Int32 × Int32 × St) : Option (Int32 × St) := match x with
  | (v1, v2, v3, σ) =>
  bd (f_X10_sets 1 σ) fun r1 s2 =>
  if r1 ≤ v3 then
    some (v2, s2)
  else
    bd (f_X2_goodAtEnd v1 v2 s2) fun r4 s5 =>
    bd (f_X2_goodAtEnd v1 v3 s5) fun r7 s8 =>
    bnd ((r4 - r7)) fun x10 =>
    if 0 < x10 then
      f_X2_worstSet_55 K8 v1 v3 s8
    else
      if x10 = 0 then
        bd (f_J6_bitCount_0f7a4 v3 s8) fun r11 s12 =>
        bd (f_J6_bitCount_0f7a4 v2 s12) fun r14 s15 =>
        if r14 ≤ r11 then
          f_X2_worstSet_57 K8 v1 v2 v3 s15
        else
          f_X2_worstSet_55 K8 v1 v3 s15
      else
        f_X2_worstSet_57 K8 v1 v2 v3 s8
theorem l_X2_worstSet_8 {Γ : CX} : ∀ (n : Nat) (v1 : Int32) (v2 : Int32) (v3 : Int32) (σ : St), RR vI Γ (itr (g_X2_worstSet_8) n (v1, v2, v3, σ)) → WW Γ cX2_worstSet 5 RX2 (some .int) rX2_worstSet σ 8 [(0, .ref (xd Γ 31)), (1, .int v1), (2, .int v2), (3, .int v3)] [] := by
  intro n
  induction n with
  | zero => intro v1 v2 v3 σ h; exact RR.no h
  | succ n hK8 =>
  intro v1 v2 v3 σ h
  have h : RR vI Γ (g_X2_worstSet_8 (itr (g_X2_worstSet_8) n) (v1, v2, v3, σ)) := h
  generalize itr (g_X2_worstSet_8) n = K8 at h hK8
  unfold g_X2_worstSet_8 at h
  dsimp only at h
  refine w_iload_n 3 dX2_worstSet_8 rfl rfl rfl ?_
  refine w_aload_n 0 dX2_worstSet_9 rfl rfl rfl ?_
  refine gf_RX2_24 dX2_worstSet_10 rfl ?_
  obtain ⟨r1, s2, h3, h⟩ := h.bd
  refine k_X10_sets ml_RX2_83 (Nat.le_of_ble_eq_true rfl) ⟨Nat.le_of_ble_eq_true rfl, Nat.le_of_ble_eq_true rfl⟩ dX2_worstSet_13 rfl h3 ?_
  refine w_icmp_ge (tgt := 63) dX2_worstSet_16 (by decide) rfl (fun q => ?_) (fun q => ?_)
  · have h := h.tt q
    refine w_iload_n 2 dX2_worstSet_63 rfl rfl rfl ?_
    exact w_ireturn dX2_worstSet_64 h
  · have h := h.ff q
    refine w_aload_n 0 dX2_worstSet_19 rfl rfl rfl ?_
    refine w_iload_n 1 dX2_worstSet_20 rfl rfl rfl ?_
    refine w_iload_n 2 dX2_worstSet_21 rfl rfl rfl ?_
    obtain ⟨r4, s5, h6, h⟩ := h.bd
    refine k_X2_goodAtEnd ml_RX2_87 (Nat.le_of_ble_eq_true rfl) ⟨Nat.le_of_ble_eq_true rfl, Nat.le_of_ble_eq_true rfl⟩ dX2_worstSet_22 rfl h6 ?_
    refine w_aload_n 0 dX2_worstSet_25 rfl rfl rfl ?_
    refine w_iload_n 1 dX2_worstSet_26 rfl rfl rfl ?_
    refine w_iload_n 3 dX2_worstSet_27 rfl rfl rfl ?_
    obtain ⟨r7, s8, h9, h⟩ := h.bd
    refine k_X2_goodAtEnd ml_RX2_87 (Nat.le_of_ble_eq_true rfl) ⟨Nat.le_of_ble_eq_true rfl, Nat.le_of_ble_eq_true rfl⟩ dX2_worstSet_28 rfl h9 ?_
    refine w_isub dX2_worstSet_31 rfl ?_
    refine w_nmI (fun x10 ex10 => ?_)
    replace h := h.bnd ex10
    clear ex10
    refine w_istore [(4, .int x10), (0, .ref (xd Γ 31)), (1, .int v1), (2, .int v2), (3, .int v3)] dX2_worstSet_32 (by decide) rfl rfl ?_
    refine w_iload 0 dX2_worstSet_34 rfl rfl ?_
    refine w_if_gt (tgt := 55) dX2_worstSet_36 (by decide) rfl (fun q => ?_) (fun q => ?_)
    · have h := h.tt q
      exact w_sub [1, 2, 4] rfl (b_X2_worstSet_55 K8 hK8 v1 v3 s8 h)
    · have h := h.ff q
      refine w_iload 0 dX2_worstSet_39 rfl rfl ?_
      refine w_if_ne (tgt := 57) dX2_worstSet_41 (by decide) rfl (fun q => ?_) (fun q => ?_)
      · have h := h.ff q
        exact w_sub [1, 2, 3, 4] rfl (b_X2_worstSet_57 K8 hK8 v1 v2 v3 s8 h)
      · have h := h.tt q
        refine w_iload_n 4 dX2_worstSet_44 rfl rfl rfl ?_
        obtain ⟨r11, s12, h13, h⟩ := h.bd
        refine k_J6_bitCount_0f7a4 ml_RX2_90 (Nat.le_of_ble_eq_true rfl) ⟨Nat.le_of_ble_eq_true rfl, Nat.le_of_ble_eq_true rfl⟩ dX2_worstSet_45 rfl h13 ?_
        refine w_iload_n 3 dX2_worstSet_48 rfl rfl rfl ?_
        obtain ⟨r14, s15, h16, h⟩ := h.bd
        refine k_J6_bitCount_0f7a4 ml_RX2_90 (Nat.le_of_ble_eq_true rfl) ⟨Nat.le_of_ble_eq_true rfl, Nat.le_of_ble_eq_true rfl⟩ dX2_worstSet_49 rfl h16 ?_
        refine w_icmp_ge (tgt := 57) dX2_worstSet_52 (by decide) rfl (fun q => ?_) (fun q => ?_)
        · have h := h.tt q
          exact w_sub [1, 2, 3, 4] rfl (b_X2_worstSet_57 K8 hK8 v1 v2 v3 s15 h)
        · have h := h.ff q
          exact w_sub [1, 2, 4] rfl (b_X2_worstSet_55 K8 hK8 v1 v3 s15 h)
def f_X2_worstSet (p0 : Int32) (σ : St) : Option (Int32 × St) :=
  bd (f_X2_reckon σ) fun _ s2 =>
  itr (g_X2_worstSet_8) FU (p0, (0 : Int32), (1 : Int32), s2)
theorem e_X2_worstSet {Γ : CX} (p0 : Int32) (σ : St) (h : RR vI Γ (f_X2_worstSet p0 σ)) : WW Γ cX2_worstSet 5 RX2 (some .int) rX2_worstSet σ 0 [(0, .ref (xd Γ 31)), (1, .int p0)] [] := by
  unfold f_X2_worstSet at h
  refine w_aload_n 0 dX2_worstSet_0 rfl rfl rfl ?_
  obtain ⟨r1, s2, h3, h⟩ := h.bd
  refine k_X2_reckon ml_RX2_80 (Nat.le_of_ble_eq_true rfl) ⟨Nat.le_of_ble_eq_true rfl, Nat.le_of_ble_eq_true rfl⟩ dX2_worstSet_1 rfl h3 ?_
  refine w_iconst (0 : Int32) dX2_worstSet_4 ic_iconst_0 rfl ?_
  refine w_istore_n [(2, .int (0 : Int32)), (0, .ref (xd Γ 31)), (1, .int p0)] dX2_worstSet_5 rfl (by decide) rfl rfl ?_
  refine w_iconst (1 : Int32) dX2_worstSet_6 ic_iconst_1 rfl ?_
  refine w_istore_n [(3, .int (1 : Int32)), (2, .int (0 : Int32)), (0, .ref (xd Γ 31)), (1, .int p0)] dX2_worstSet_7 rfl (by decide) rfl rfl ?_
  exact w_sub [2, 3, 1, 0] rfl (l_X2_worstSet_8 FU p0 (0 : Int32) (1 : Int32) s2 h)
theorem c_X2_worstSet {l : Launch} {D : va_G} {cy : Nat → ClassId} {ad : Nat → Nat} {p0 : Int32} {σ σ' : St} {r : Int32} (hf : f_X2_worstSet p0 σ = some (r, σ')) : CT l D cy ad yX2_worstSet cX2_worstSet 5 (some .int) rX2_worstSet [.ref (ad 31), .int p0] σ (some (.int r)) σ' :=
  ct_of (by decide) (Nat.le_of_ble_eq_true rfl) (fun p e s m args below meth c A => e_X2_worstSet (Γ := (p, l, e, rX2_worstSet, s, m, args, below, meth, c, D, cy, ad, A, 0, 0, ((some (.int r)), σ'))) p0 σ ⟨_, hf, rfl⟩)
theorem k_X2_worstSet {Γ : CX} {cc : ByteArray} {nL : Nat} {own : String} {ret : Option FieldType} {rm : Room} {σ σ' : St} {pc pc' idx : Nat} {lv : List (Nat × Value)} {rest : List Value} {p0 : Int32} {r : Int32} (hl : Cond.methodLink own idx yX2_worstSet ∈ TB) (hw : (rest.map fun v => v.category).sum ≤ 8) (hR : rX2_worstSet.frames + 1 ≤ rm.frames ∧ 8 + (5 + 11) + rX2_worstSet.locals ≤ rm.locals) (hd : decode cc pc = .ok (.invokevirtual idx, 3)) (hp : pc + 3 = pc') (hf : f_X2_worstSet p0 σ = some (r, σ')) (h : WW Γ cc nL own ret rm σ' pc' lv (.int r :: rest)) : WW Γ cc nL own ret rm σ pc lv (.int p0 :: .ref (xd Γ 31) :: rest) :=
  w_callV (nn := 1) (i := 31) (As := [.int p0]) (v := (some (.int r))) (T := TX2) (N := 6) (c_X2_worstSet hf) hl mw_X2_worstSet (by decide +kernel) ⟨rfl, rfl⟩ hR (lt_lit (by decide)) cel_31 rfl rfl hw hd rfl hp h
/-! WarByHours.Course.countWays (I)I -/
def rX2_countWays : Room := { frames := 6, cells := 0, slots := 0, locals := 138 }
def f_X2_countWays_31 (K8 : Int32 × Int32 × Int32 × St → Option (Int32 × St)) (v1 : Int32) (v2 : Int32) (v3 : Int32) (σ : St) : Option (Int32 × St) :=
  bnd (v3 + (1 : Int32)) fun x1 =>
  K8 (v1, v2, x1, σ)
theorem b_X2_countWays_31 {Γ : CX} (K8 : Int32 × Int32 × Int32 × St → Option (Int32 × St)) (hK8 : ∀ (v1 : Int32) (v2 : Int32) (v3 : Int32) (σ : St), RR vI Γ (K8 (v1, v2, v3, σ)) → WW Γ cX2_countWays 4 RX2 (some .int) rX2_countWays σ 8 [(0, .ref (xd Γ 31)), (1, .int v1), (2, .int v2), (3, .int v3)] []) (v1 : Int32) (v2 : Int32) (v3 : Int32) (σ : St) (h : RR vI Γ (f_X2_countWays_31 K8 v1 v2 v3 σ)) : WW Γ cX2_countWays 4 RX2 (some .int) rX2_countWays σ 31 [(0, .ref (xd Γ 31)), (1, .int v1), (2, .int v2), (3, .int v3)] [] := by
  unfold f_X2_countWays_31 at h
  obtain ⟨x1, ex1⟩ : ∃ y : Int32, y = (v3 + (1 : Int32)) := ⟨_, rfl⟩
  replace h := h.bnd ex1
  refine w_iinc 3 x1 [(3, .int x1), (0, .ref (xd Γ 31)), (1, .int v1), (2, .int v2)] dX2_countWays_31 rfl (by rw [ex1, ic_iconst_1]) (by decide) rfl rfl ?_
  clear ex1
  refine w_goto (tgt := 8) dX2_countWays_34 (by decide) ?_
  exact w_sub [1, 2, 3, 0] rfl (hK8 v1 v2 x1 σ h)
def g_X2_countWays_8 (K8 : Int32 × Int32 × Int32 × St → Option (Int32 × St)) (x : Int32 × Int32 × Int32 × St) : Option (Int32 × St) := match x with
  | (v1, v2, v3, σ) =>
  bd (f_X10_sets 1 σ) fun r1 s2 =>
  if r1 ≤ v3 then
    some (v2, s2)
  else
    bd (f_X2_reckonedWinner v3 s2) fun r4 s5 =>
    if r4 = v1 then
      bnd (v2 + (1 : Int32)) fun x7 =>
      f_X2_countWays_31 K8 v1 x7 v3 s5
    else
      f_X2_countWays_31 K8 v1 v2 v3 s5
theorem l_X2_countWays_8 {Γ : CX} : ∀ (n : Nat) (v1 : Int32) (v2 : Int32) (v3 : Int32) (σ : St), RR vI Γ (itr (g_X2_countWays_8) n (v1, v2, v3, σ)) → WW Γ cX2_countWays 4 RX2 (some .int) rX2_countWays σ 8 [(0, .ref (xd Γ 31)), (1, .int v1), (2, .int v2), (3, .int v3)] [] := by
  intro n
  induction n with
  | zero => intro v1 v2 v3 σ h; exact RR.no h
  | succ n hK8 =>
  intro v1 v2 v3 σ h
  have h : RR vI Γ (g_X2_countWays_8 (itr (g_X2_countWays_8) n) (v1, v2, v3, σ)) := h
  generalize itr (g_X2_countWays_8) n = K8 at h hK8
  unfold g_X2_countWays_8 at h
  dsimp only at h
  refine w_iload_n 3 dX2_countWays_8 rfl rfl rfl ?_
  refine w_aload_n 0 dX2_countWays_9 rfl rfl rfl ?_
  refine gf_RX2_24 dX2_countWays_10 rfl ?_
  obtain ⟨r1, s2, h3, h⟩ := h.bd
  refine k_X10_sets ml_RX2_83 (Nat.le_of_ble_eq_true rfl) ⟨Nat.le_of_ble_eq_true rfl, Nat.le_of_ble_eq_true rfl⟩ dX2_countWays_13 rfl h3 ?_
  refine w_icmp_ge (tgt := 37) dX2_countWays_16 (by decide) rfl (fun q => ?_) (fun q => ?_)
  · have h := h.tt q
    refine w_iload_n 2 dX2_countWays_37 rfl rfl rfl ?_
    exact w_ireturn dX2_countWays_38 h
  · have h := h.ff q
    refine w_aload_n 0 dX2_countWays_19 rfl rfl rfl ?_
    refine w_iload_n 3 dX2_countWays_20 rfl rfl rfl ?_
    obtain ⟨r4, s5, h6, h⟩ := h.bd
    refine k_X2_reckonedWinner ml_RX2_95 (Nat.le_of_ble_eq_true rfl) ⟨Nat.le_of_ble_eq_true rfl, Nat.le_of_ble_eq_true rfl⟩ dX2_countWays_21 rfl h6 ?_
    refine w_iload_n 1 dX2_countWays_24 rfl rfl rfl ?_
    refine w_icmp_ne (tgt := 31) dX2_countWays_25 (by decide) rfl (fun q => ?_) (fun q => ?_)
    · have h := h.ff q
      exact w_sub [0, 1, 2, 3] rfl (b_X2_countWays_31 K8 hK8 v1 v2 v3 s5 h)
    · have h := h.tt q
      obtain ⟨x7, ex7⟩ : ∃ y : Int32, y = (v2 + (1 : Int32)) := ⟨_, rfl⟩
      replace h := h.bnd ex7
      refine w_iinc 2 x7 [(2, .int x7), (0, .ref (xd Γ 31)), (1, .int v1), (3, .int v3)] dX2_countWays_28 rfl (by rw [ex7, ic_iconst_1]) (by decide) rfl rfl ?_
      clear ex7
      exact w_sub [1, 2, 0, 3] rfl (b_X2_countWays_31 K8 hK8 v1 x7 v3 s5 h)
def f_X2_countWays (p0 : Int32) (σ : St) : Option (Int32 × St) :=
  bd (f_X2_reckon σ) fun _ s2 =>
  itr (g_X2_countWays_8) FU (p0, (0 : Int32), (0 : Int32), s2)
theorem e_X2_countWays {Γ : CX} (p0 : Int32) (σ : St) (h : RR vI Γ (f_X2_countWays p0 σ)) : WW Γ cX2_countWays 4 RX2 (some .int) rX2_countWays σ 0 [(0, .ref (xd Γ 31)), (1, .int p0)] [] := by
  unfold f_X2_countWays at h
  refine w_aload_n 0 dX2_countWays_0 rfl rfl rfl ?_
  obtain ⟨r1, s2, h3, h⟩ := h.bd
  refine k_X2_reckon ml_RX2_80 (Nat.le_of_ble_eq_true rfl) ⟨Nat.le_of_ble_eq_true rfl, Nat.le_of_ble_eq_true rfl⟩ dX2_countWays_1 rfl h3 ?_
  refine w_iconst (0 : Int32) dX2_countWays_4 ic_iconst_0 rfl ?_
  refine w_istore_n [(2, .int (0 : Int32)), (0, .ref (xd Γ 31)), (1, .int p0)] dX2_countWays_5 rfl (by decide) rfl rfl ?_
  refine w_iconst (0 : Int32) dX2_countWays_6 ic_iconst_0 rfl ?_
  refine w_istore_n [(3, .int (0 : Int32)), (2, .int (0 : Int32)), (0, .ref (xd Γ 31)), (1, .int p0)] dX2_countWays_7 rfl (by decide) rfl rfl ?_
  exact w_sub [2, 3, 1, 0] rfl (l_X2_countWays_8 FU p0 (0 : Int32) (0 : Int32) s2 h)
theorem c_X2_countWays {l : Launch} {D : va_G} {cy : Nat → ClassId} {ad : Nat → Nat} {p0 : Int32} {σ σ' : St} {r : Int32} (hf : f_X2_countWays p0 σ = some (r, σ')) : CT l D cy ad yX2_countWays cX2_countWays 4 (some .int) rX2_countWays [.ref (ad 31), .int p0] σ (some (.int r)) σ' :=
  ct_of (by decide) (Nat.le_of_ble_eq_true rfl) (fun p e s m args below meth c A => e_X2_countWays (Γ := (p, l, e, rX2_countWays, s, m, args, below, meth, c, D, cy, ad, A, 0, 0, ((some (.int r)), σ'))) p0 σ ⟨_, hf, rfl⟩)
theorem k_X2_countWays {Γ : CX} {cc : ByteArray} {nL : Nat} {own : String} {ret : Option FieldType} {rm : Room} {σ σ' : St} {pc pc' idx : Nat} {lv : List (Nat × Value)} {rest : List Value} {p0 : Int32} {r : Int32} (hl : Cond.methodLink own idx yX2_countWays ∈ TB) (hw : (rest.map fun v => v.category).sum ≤ 8) (hR : rX2_countWays.frames + 1 ≤ rm.frames ∧ 8 + (4 + 11) + rX2_countWays.locals ≤ rm.locals) (hd : decode cc pc = .ok (.invokevirtual idx, 3)) (hp : pc + 3 = pc') (hf : f_X2_countWays p0 σ = some (r, σ')) (h : WW Γ cc nL own ret rm σ' pc' lv (.int r :: rest)) : WW Γ cc nL own ret rm σ pc lv (.int p0 :: .ref (xd Γ 31) :: rest) :=
  w_callV (nn := 1) (i := 31) (As := [.int p0]) (v := (some (.int r))) (T := TX2) (N := 6) (c_X2_countWays hf) hl mw_X2_countWays (by decide +kernel) ⟨rfl, rfl⟩ hR (lt_lit (by decide)) cel_31 rfl rfl hw hd rfl hp h
/-! WarByHours.Course.idleTrains ()I -/
def rX2_idleTrains : Room := { frames := 6, cells := 0, slots := 0, locals := 138 }
def f_X2_idleTrains_38 (K8 : Int32 × Int32 × St → Option (Int32 × St)) (v1 : Int32) (v2 : Int32) (σ : St) : Option (Int32 × St) :=
  bnd (v2 + (1 : Int32)) fun x1 =>
  K8 (v1, x1, σ)
theorem b_X2_idleTrains_38 {Γ : CX} (K8 : Int32 × Int32 × St → Option (Int32 × St)) (hK8 : ∀ (v1 : Int32) (v2 : Int32) (σ : St), RR vI Γ (K8 (v1, v2, σ)) → WW Γ cX2_idleTrains 3 RX2 (some .int) rX2_idleTrains σ 8 [(0, .ref (xd Γ 31)), (1, .int v1), (2, .int v2)] []) (v1 : Int32) (v2 : Int32) (σ : St) (h : RR vI Γ (f_X2_idleTrains_38 K8 v1 v2 σ)) : WW Γ cX2_idleTrains 3 RX2 (some .int) rX2_idleTrains σ 38 [(0, .ref (xd Γ 31)), (1, .int v1), (2, .int v2)] [] := by
  unfold f_X2_idleTrains_38 at h
  obtain ⟨x1, ex1⟩ : ∃ y : Int32, y = (v2 + (1 : Int32)) := ⟨_, rfl⟩
  replace h := h.bnd ex1
  refine w_iinc 2 x1 [(2, .int x1), (0, .ref (xd Γ 31)), (1, .int v1)] dX2_idleTrains_38 rfl (by rw [ex1, ic_iconst_1]) (by decide) rfl rfl ?_
  clear ex1
  refine w_goto (tgt := 8) dX2_idleTrains_41 (by decide) ?_
  exact w_sub [1, 2, 0] rfl (hK8 v1 x1 σ h)
def g_X2_idleTrains_8 (K8 : Int32 × Int32 × St → Option (Int32 × St)) (x : Int32 × Int32 × St) : Option (Int32 × St) := match x with
  | (v1, v2, σ) =>
  if (gf σ 3 3) ≤ v2 then
    some (v1, σ)
  else
    bd (f_X2_isIdle ((1 : Int32) <<< (v2 &&& 31)) σ) fun r1 s2 =>
    if r1 = 0 then
      f_X2_idleTrains_38 K8 v1 v2 s2
    else
      bnd ((v1 ||| ((1 : Int32) <<< (v2 &&& 31)))) fun x4 =>
      f_X2_idleTrains_38 K8 x4 v2 s2
theorem l_X2_idleTrains_8 {Γ : CX} : ∀ (n : Nat) (v1 : Int32) (v2 : Int32) (σ : St), RR vI Γ (itr (g_X2_idleTrains_8) n (v1, v2, σ)) → WW Γ cX2_idleTrains 3 RX2 (some .int) rX2_idleTrains σ 8 [(0, .ref (xd Γ 31)), (1, .int v1), (2, .int v2)] [] := by
  intro n
  induction n with
  | zero => intro v1 v2 σ h; exact RR.no h
  | succ n hK8 =>
  intro v1 v2 σ h
  have h : RR vI Γ (g_X2_idleTrains_8 (itr (g_X2_idleTrains_8) n) (v1, v2, σ)) := h
  generalize itr (g_X2_idleTrains_8) n = K8 at h hK8
  unfold g_X2_idleTrains_8 at h
  dsimp only at h
  refine w_iload_n 2 dX2_idleTrains_8 rfl rfl rfl ?_
  refine w_aload_n 0 dX2_idleTrains_9 rfl rfl rfl ?_
  refine gf_RX2_24 dX2_idleTrains_10 rfl ?_
  refine gf_RX2_98 (i := 1) (isW_lit (by decide)) dX2_idleTrains_13 rfl ?_
  refine gf_RX2_102 (i := 3) (isT_lit (by decide)) dX2_idleTrains_16 rfl ?_
  refine w_icmp_ge (tgt := 44) dX2_idleTrains_19 (by decide) rfl (fun q => ?_) (fun q => ?_)
  · have h := h.tt q
    refine w_iload_n 1 dX2_idleTrains_44 rfl rfl rfl ?_
    exact w_ireturn dX2_idleTrains_45 h
  · have h := h.ff q
    refine w_aload_n 0 dX2_idleTrains_22 rfl rfl rfl ?_
    refine w_iconst (1 : Int32) dX2_idleTrains_23 ic_iconst_1 rfl ?_
    refine w_iload_n 2 dX2_idleTrains_24 rfl rfl rfl ?_
    refine w_ishl dX2_idleTrains_25 rfl ?_
    obtain ⟨r1, s2, h3, h⟩ := h.bd
    refine k_X2_isIdle ml_RX2_107 (Nat.le_of_ble_eq_true rfl) ⟨Nat.le_of_ble_eq_true rfl, Nat.le_of_ble_eq_true rfl⟩ dX2_idleTrains_26 rfl h3 ?_
    refine w_if_eq (tgt := 38) dX2_idleTrains_29 (by decide) rfl (fun q => ?_) (fun q => ?_)
    · have h := h.tt q
      exact w_sub [0, 1, 2] rfl (b_X2_idleTrains_38 K8 hK8 v1 v2 s2 h)
    · have h := h.ff q
      refine w_iload_n 1 dX2_idleTrains_32 rfl rfl rfl ?_
      refine w_iconst (1 : Int32) dX2_idleTrains_33 ic_iconst_1 rfl ?_
      refine w_iload_n 2 dX2_idleTrains_34 rfl rfl rfl ?_
      refine w_ishl dX2_idleTrains_35 rfl ?_
      refine w_ior dX2_idleTrains_36 rfl ?_
      refine w_nmI (fun x4 ex4 => ?_)
      replace h := h.bnd ex4
      clear ex4
      refine w_istore_n [(1, .int x4), (0, .ref (xd Γ 31)), (2, .int v2)] dX2_idleTrains_37 rfl (by decide) rfl rfl ?_
      exact w_sub [1, 0, 2] rfl (b_X2_idleTrains_38 K8 hK8 x4 v2 s2 h)
def f_X2_idleTrains (σ : St) : Option (Int32 × St) :=
  bd (f_X2_reckon σ) fun _ s2 =>
  itr (g_X2_idleTrains_8) FU ((0 : Int32), (0 : Int32), s2)
theorem e_X2_idleTrains {Γ : CX} (σ : St) (h : RR vI Γ (f_X2_idleTrains σ)) : WW Γ cX2_idleTrains 3 RX2 (some .int) rX2_idleTrains σ 0 [(0, .ref (xd Γ 31))] [] := by
  unfold f_X2_idleTrains at h
  refine w_aload_n 0 dX2_idleTrains_0 rfl rfl rfl ?_
  obtain ⟨r1, s2, h3, h⟩ := h.bd
  refine k_X2_reckon ml_RX2_80 (Nat.le_of_ble_eq_true rfl) ⟨Nat.le_of_ble_eq_true rfl, Nat.le_of_ble_eq_true rfl⟩ dX2_idleTrains_1 rfl h3 ?_
  refine w_iconst (0 : Int32) dX2_idleTrains_4 ic_iconst_0 rfl ?_
  refine w_istore_n [(1, .int (0 : Int32)), (0, .ref (xd Γ 31))] dX2_idleTrains_5 rfl (by decide) rfl rfl ?_
  refine w_iconst (0 : Int32) dX2_idleTrains_6 ic_iconst_0 rfl ?_
  refine w_istore_n [(2, .int (0 : Int32)), (1, .int (0 : Int32)), (0, .ref (xd Γ 31))] dX2_idleTrains_7 rfl (by decide) rfl rfl ?_
  exact w_sub [2, 1, 0] rfl (l_X2_idleTrains_8 FU (0 : Int32) (0 : Int32) s2 h)
theorem c_X2_idleTrains {l : Launch} {D : va_G} {cy : Nat → ClassId} {ad : Nat → Nat}  {σ σ' : St} {r : Int32} (hf : f_X2_idleTrains σ = some (r, σ')) : CT l D cy ad yX2_idleTrains cX2_idleTrains 3 (some .int) rX2_idleTrains [.ref (ad 31)] σ (some (.int r)) σ' :=
  ct_of (by decide) (Nat.le_of_ble_eq_true rfl) (fun p e s m args below meth c A => e_X2_idleTrains (Γ := (p, l, e, rX2_idleTrains, s, m, args, below, meth, c, D, cy, ad, A, 0, 0, ((some (.int r)), σ'))) σ ⟨_, hf, rfl⟩)
theorem k_X2_idleTrains {Γ : CX} {cc : ByteArray} {nL : Nat} {own : String} {ret : Option FieldType} {rm : Room} {σ σ' : St} {pc pc' idx : Nat} {lv : List (Nat × Value)} {rest : List Value}  {r : Int32} (hl : Cond.methodLink own idx yX2_idleTrains ∈ TB) (hw : (rest.map fun v => v.category).sum ≤ 8) (hR : rX2_idleTrains.frames + 1 ≤ rm.frames ∧ 8 + (3 + 11) + rX2_idleTrains.locals ≤ rm.locals) (hd : decode cc pc = .ok (.invokevirtual idx, 3)) (hp : pc + 3 = pc') (hf : f_X2_idleTrains σ = some (r, σ')) (h : WW Γ cc nL own ret rm σ' pc' lv (.int r :: rest)) : WW Γ cc nL own ret rm σ pc lv (.ref (xd Γ 31) :: rest) :=
  w_callV (nn := 0) (i := 31) (As := []) (v := (some (.int r))) (T := TX2) (N := 6) (c_X2_idleTrains hf) hl mw_X2_idleTrains (by decide +kernel) ⟨rfl, rfl⟩ hR (lt_lit (by decide)) cel_31 rfl rfl hw hd rfl hp h
/-! WarByHours.Course.winningParts (I)J -/
def rX2_winningParts : Room := { frames := 6, cells := 0, slots := 0, locals := 138 }
def f_X2_winningParts_43 (K9 : Int32 × Int64 × Int32 × St → Option (Int64 × St)) (v1 : Int32) (v2 : Int64) (v4 : Int32) (σ : St) : Option (Int64 × St) :=
  bnd (v4 + (1 : Int32)) fun x1 =>
  K9 (v1, v2, x1, σ)
theorem b_X2_winningParts_43 {Γ : CX} (K9 : Int32 × Int64 × Int32 × St → Option (Int64 × St)) (hK9 : ∀ (v1 : Int32) (v2 : Int64) (v4 : Int32) (σ : St), RR vL Γ (K9 (v1, v2, v4, σ)) → WW Γ cX2_winningParts 5 RX2 (some .long) rX2_winningParts σ 9 [(0, .ref (xd Γ 31)), (1, .int v1), (2, .long v2), (4, .int v4)] []) (v1 : Int32) (v2 : Int64) (v4 : Int32) (σ : St) (h : RR vL Γ (f_X2_winningParts_43 K9 v1 v2 v4 σ)) : WW Γ cX2_winningParts 5 RX2 (some .long) rX2_winningParts σ 43 [(0, .ref (xd Γ 31)), (1, .int v1), (2, .long v2), (4, .int v4)] [] := by
  unfold f_X2_winningParts_43 at h
  obtain ⟨x1, ex1⟩ : ∃ y : Int32, y = (v4 + (1 : Int32)) := ⟨_, rfl⟩
  replace h := h.bnd ex1
  refine w_iinc 3 x1 [(4, .int x1), (0, .ref (xd Γ 31)), (1, .int v1), (2, .long v2)] dX2_winningParts_43 rfl (by rw [ex1, ic_iconst_1]) (by decide) rfl rfl ?_
  clear ex1
  refine w_goto (tgt := 9) dX2_winningParts_46 (by decide) ?_
  exact w_sub [1, 2, 3, 0] rfl (hK9 v1 v2 x1 σ h)
def g_X2_winningParts_9 (K9 : Int32 × Int64 × Int32 × St → Option (Int64 × St)) (x : Int32 × Int64 × Int32 × St) : Option (Int64 × St) := match x with
  | (v1, v2, v4, σ) =>
  bd (f_X10_sets 1 σ) fun r1 s2 =>
  if r1 ≤ v4 then
    some (v2, s2)
  else
    bd (f_X2_reckonedWinner v4 s2) fun r4 s5 =>
    if r4 = v1 then
      bd (f_X1_delayParts 1 v4 s5) fun r7 s8 =>
      bnd ((v2 + r7)) fun x10 =>
      f_X2_winningParts_43 K9 v1 x10 v4 s8
    else
      f_X2_winningParts_43 K9 v1 v2 v4 s5
theorem l_X2_winningParts_9 {Γ : CX} : ∀ (n : Nat) (v1 : Int32) (v2 : Int64) (v4 : Int32) (σ : St), RR vL Γ (itr (g_X2_winningParts_9) n (v1, v2, v4, σ)) → WW Γ cX2_winningParts 5 RX2 (some .long) rX2_winningParts σ 9 [(0, .ref (xd Γ 31)), (1, .int v1), (2, .long v2), (4, .int v4)] [] := by
  intro n
  induction n with
  | zero => intro v1 v2 v4 σ h; exact RR.no h
  | succ n hK9 =>
  intro v1 v2 v4 σ h
  have h : RR vL Γ (g_X2_winningParts_9 (itr (g_X2_winningParts_9) n) (v1, v2, v4, σ)) := h
  generalize itr (g_X2_winningParts_9) n = K9 at h hK9
  unfold g_X2_winningParts_9 at h
  dsimp only at h
  refine w_iload 3 dX2_winningParts_9 rfl rfl ?_
  refine w_aload_n 0 dX2_winningParts_11 rfl rfl rfl ?_
  refine gf_RX2_24 dX2_winningParts_12 rfl ?_
  obtain ⟨r1, s2, h3, h⟩ := h.bd
  refine k_X10_sets ml_RX2_83 (Nat.le_of_ble_eq_true rfl) ⟨Nat.le_of_ble_eq_true rfl, Nat.le_of_ble_eq_true rfl⟩ dX2_winningParts_15 rfl h3 ?_
  refine w_icmp_ge (tgt := 49) dX2_winningParts_18 (by decide) rfl (fun q => ?_) (fun q => ?_)
  · have h := h.tt q
    refine w_lload_n 2 dX2_winningParts_49 rfl rfl rfl ?_
    exact w_lreturn dX2_winningParts_50 h
  · have h := h.ff q
    refine w_aload_n 0 dX2_winningParts_21 rfl rfl rfl ?_
    refine w_iload 3 dX2_winningParts_22 rfl rfl ?_
    obtain ⟨r4, s5, h6, h⟩ := h.bd
    refine k_X2_reckonedWinner ml_RX2_95 (Nat.le_of_ble_eq_true rfl) ⟨Nat.le_of_ble_eq_true rfl, Nat.le_of_ble_eq_true rfl⟩ dX2_winningParts_24 rfl h6 ?_
    refine w_iload_n 1 dX2_winningParts_27 rfl rfl rfl ?_
    refine w_icmp_ne (tgt := 43) dX2_winningParts_28 (by decide) rfl (fun q => ?_) (fun q => ?_)
    · have h := h.ff q
      exact w_sub [0, 1, 2, 3] rfl (b_X2_winningParts_43 K9 hK9 v1 v2 v4 s5 h)
    · have h := h.tt q
      refine w_lload_n 2 dX2_winningParts_31 rfl rfl rfl ?_
      refine w_aload_n 0 dX2_winningParts_32 rfl rfl rfl ?_
      refine gf_RX2_24 dX2_winningParts_33 rfl ?_
      refine w_iload 3 dX2_winningParts_36 rfl rfl ?_
      obtain ⟨r7, s8, h9, h⟩ := h.bd
      refine k_X1_delayParts ml_RX2_110 (Nat.le_of_ble_eq_true rfl) ⟨Nat.le_of_ble_eq_true rfl, Nat.le_of_ble_eq_true rfl⟩ dX2_winningParts_38 rfl h9 ?_
      refine w_ladd dX2_winningParts_41 rfl ?_
      refine w_nmL (fun x10 ex10 => ?_)
      replace h := h.bnd ex10
      clear ex10
      refine w_lstore_n [(2, .long x10), (0, .ref (xd Γ 31)), (1, .int v1), (4, .int v4)] dX2_winningParts_42 rfl (by decide) rfl rfl ?_
      exact w_sub [1, 2, 0, 3] rfl (b_X2_winningParts_43 K9 hK9 v1 x10 v4 s8 h)
def f_X2_winningParts (p0 : Int32) (σ : St) : Option (Int64 × St) :=
  bd (f_X2_reckon σ) fun _ s2 =>
  itr (g_X2_winningParts_9) FU (p0, (0 : Int64), (0 : Int32), s2)
theorem e_X2_winningParts {Γ : CX} (p0 : Int32) (σ : St) (h : RR vL Γ (f_X2_winningParts p0 σ)) : WW Γ cX2_winningParts 5 RX2 (some .long) rX2_winningParts σ 0 [(0, .ref (xd Γ 31)), (1, .int p0)] [] := by
  unfold f_X2_winningParts at h
  refine w_aload_n 0 dX2_winningParts_0 rfl rfl rfl ?_
  obtain ⟨r1, s2, h3, h⟩ := h.bd
  refine k_X2_reckon ml_RX2_80 (Nat.le_of_ble_eq_true rfl) ⟨Nat.le_of_ble_eq_true rfl, Nat.le_of_ble_eq_true rfl⟩ dX2_winningParts_1 rfl h3 ?_
  refine w_lconst (0 : Int64) dX2_winningParts_4 rfl rfl ?_
  refine w_lstore_n [(2, .long (0 : Int64)), (0, .ref (xd Γ 31)), (1, .int p0)] dX2_winningParts_5 rfl (by decide) rfl rfl ?_
  refine w_iconst (0 : Int32) dX2_winningParts_6 ic_iconst_0 rfl ?_
  refine w_istore [(4, .int (0 : Int32)), (2, .long (0 : Int64)), (0, .ref (xd Γ 31)), (1, .int p0)] dX2_winningParts_7 (by decide) rfl rfl ?_
  exact w_sub [2, 3, 1, 0] rfl (l_X2_winningParts_9 FU p0 (0 : Int64) (0 : Int32) s2 h)
theorem c_X2_winningParts {l : Launch} {D : va_G} {cy : Nat → ClassId} {ad : Nat → Nat} {p0 : Int32} {σ σ' : St} {r : Int64} (hf : f_X2_winningParts p0 σ = some (r, σ')) : CT l D cy ad yX2_winningParts cX2_winningParts 5 (some .long) rX2_winningParts [.ref (ad 31), .int p0] σ (some (.long r)) σ' :=
  ct_of (by decide) (Nat.le_of_ble_eq_true rfl) (fun p e s m args below meth c A => e_X2_winningParts (Γ := (p, l, e, rX2_winningParts, s, m, args, below, meth, c, D, cy, ad, A, 0, 0, ((some (.long r)), σ'))) p0 σ ⟨_, hf, rfl⟩)
theorem k_X2_winningParts {Γ : CX} {cc : ByteArray} {nL : Nat} {own : String} {ret : Option FieldType} {rm : Room} {σ σ' : St} {pc pc' idx : Nat} {lv : List (Nat × Value)} {rest : List Value} {p0 : Int32} {r : Int64} (hl : Cond.methodLink own idx yX2_winningParts ∈ TB) (hw : (rest.map fun v => v.category).sum ≤ 8) (hR : rX2_winningParts.frames + 1 ≤ rm.frames ∧ 8 + (5 + 11) + rX2_winningParts.locals ≤ rm.locals) (hd : decode cc pc = .ok (.invokevirtual idx, 3)) (hp : pc + 3 = pc') (hf : f_X2_winningParts p0 σ = some (r, σ')) (h : WW Γ cc nL own ret rm σ' pc' lv (.long r :: rest)) : WW Γ cc nL own ret rm σ pc lv (.int p0 :: .ref (xd Γ 31) :: rest) :=
  w_callV (nn := 1) (i := 31) (As := [.int p0]) (v := (some (.long r))) (T := TX2) (N := 6) (c_X2_winningParts hf) hl mw_X2_winningParts (by decide +kernel) ⟨rfl, rfl⟩ hR (lt_lit (by decide)) cel_31 rfl rfl hw hd rfl hp h
/-! WarByHours.Fares.enoughParts (I)J -/
def rX3_enoughParts : Room := { frames := 4, cells := 0, slots := 0, locals := 92 }
def f_X3_enoughParts_31 (k0 : Int64) (σ : St) : Option (Int64 × St) :=
  some (k0, σ)
theorem b_X3_enoughParts_31 {Γ : CX} (k0 : Int64) (σ : St) (h : RR vL Γ (f_X3_enoughParts_31 k0 σ)) : WW Γ cX3_enoughParts 3 RX3 (some .long) rX3_enoughParts σ 31 [] [.long k0] := by
  unfold f_X3_enoughParts_31 at h
  exact w_lreturn dX3_enoughParts_31 h
def f_X3_enoughParts (p0 : Int32) (σ : St) : Option (Int64 × St) :=
  bd (f_X3_takeParts p0 σ) fun _ s2 =>
  bd (f_X10_trainsOf 1 p0 s2) fun r4 s5 =>
  if (512 : Int32) ≤ r4 then
    f_X3_enoughParts_31 (0 : Int64) s5
  else
    gd (inb r4 (ln 39)) <|
    f_X3_enoughParts_31 (gj s5 39 r4.toNatClampNeg) s5
theorem e_X3_enoughParts {Γ : CX} (p0 : Int32) (σ : St) (h : RR vL Γ (f_X3_enoughParts p0 σ)) : WW Γ cX3_enoughParts 3 RX3 (some .long) rX3_enoughParts σ 0 [(0, .ref (xd Γ 36)), (1, .int p0)] [] := by
  unfold f_X3_enoughParts at h
  refine w_aload_n 0 dX3_enoughParts_0 rfl rfl rfl ?_
  refine w_iload_n 1 dX3_enoughParts_1 rfl rfl rfl ?_
  obtain ⟨r1, s2, h3, h⟩ := h.bd
  refine k_X3_takeParts ml_RX3_40 (Nat.le_of_ble_eq_true rfl) ⟨Nat.le_of_ble_eq_true rfl, Nat.le_of_ble_eq_true rfl⟩ dX3_enoughParts_2 rfl h3 ?_
  refine w_aload_n 0 dX3_enoughParts_5 rfl rfl rfl ?_
  refine gf_RX3_32 dX3_enoughParts_6 rfl ?_
  refine w_iload_n 1 dX3_enoughParts_9 rfl rfl rfl ?_
  obtain ⟨r4, s5, h6, h⟩ := h.bd
  refine k_X10_trainsOf ml_RX3_44 (Nat.le_of_ble_eq_true rfl) ⟨Nat.le_of_ble_eq_true rfl, Nat.le_of_ble_eq_true rfl⟩ dX3_enoughParts_10 rfl h6 ?_
  refine w_istore_n [(2, .int r4), (0, .ref (xd Γ 36)), (1, .int p0)] dX3_enoughParts_13 rfl (by decide) rfl rfl ?_
  refine w_iload_n 0 dX3_enoughParts_14 rfl rfl rfl ?_
  refine w_sipush (512 : Int32) dX3_enoughParts_15 ic_sipush_512 rfl ?_
  refine w_icmp_ge (tgt := 30) dX3_enoughParts_18 (by decide) rfl (fun q => ?_) (fun q => ?_)
  · have h := h.tt q
    refine w_lconst (0 : Int64) dX3_enoughParts_30 rfl rfl ?_
    exact w_sub [] rfl (b_X3_enoughParts_31 (0 : Int64) s5 h)
  · have h := h.ff q
    refine w_aload_n 1 dX3_enoughParts_21 rfl rfl rfl ?_
    refine gf_RX3_18 dX3_enoughParts_22 rfl ?_
    refine w_iload_n 0 dX3_enoughParts_25 rfl rfl rfl ?_
    obtain ⟨hi7, h⟩ := h.gd
    refine w_lald (i := 39) (lt_lit (by decide)) rfl hi7 dX3_enoughParts_26 rfl ?_
    refine w_goto (tgt := 31) dX3_enoughParts_27 (by decide) ?_
    exact w_sub [] rfl (b_X3_enoughParts_31 (gj s5 39 r4.toNatClampNeg) s5 h)
theorem c_X3_enoughParts {l : Launch} {D : va_G} {cy : Nat → ClassId} {ad : Nat → Nat} {p0 : Int32} {σ σ' : St} {r : Int64} (hf : f_X3_enoughParts p0 σ = some (r, σ')) : CT l D cy ad yX3_enoughParts cX3_enoughParts 3 (some .long) rX3_enoughParts [.ref (ad 36), .int p0] σ (some (.long r)) σ' :=
  ct_of (by decide) (Nat.le_of_ble_eq_true rfl) (fun p e s m args below meth c A => e_X3_enoughParts (Γ := (p, l, e, rX3_enoughParts, s, m, args, below, meth, c, D, cy, ad, A, 0, 0, ((some (.long r)), σ'))) p0 σ ⟨_, hf, rfl⟩)
theorem k_X3_enoughParts {Γ : CX} {cc : ByteArray} {nL : Nat} {own : String} {ret : Option FieldType} {rm : Room} {σ σ' : St} {pc pc' idx : Nat} {lv : List (Nat × Value)} {rest : List Value} {p0 : Int32} {r : Int64} (hl : Cond.methodLink own idx yX3_enoughParts ∈ TB) (hw : (rest.map fun v => v.category).sum ≤ 8) (hR : rX3_enoughParts.frames + 1 ≤ rm.frames ∧ 8 + (3 + 11) + rX3_enoughParts.locals ≤ rm.locals) (hd : decode cc pc = .ok (.invokevirtual idx, 3)) (hp : pc + 3 = pc') (hf : f_X3_enoughParts p0 σ = some (r, σ')) (h : WW Γ cc nL own ret rm σ' pc' lv (.long r :: rest)) : WW Γ cc nL own ret rm σ pc lv (.int p0 :: .ref (xd Γ 36) :: rest) :=
  w_callV (nn := 1) (i := 36) (As := [.int p0]) (v := (some (.long r))) (T := TX3) (N := 8) (c_X3_enoughParts hf) hl mw_X3_enoughParts (by decide +kernel) ⟨rfl, rfl⟩ hR (lt_lit (by decide)) cel_36 rfl rfl hw hd rfl hp h
/-! WarByHours.Fares.answeredGood (II)I -/
def rX3_answeredGood : Room := { frames := 6, cells := 0, slots := 0, locals := 138 }
def f_X3_answeredGood_75 (K29 : Int32 × Int32 × Int32 × Int32 × St → Option (Int32 × St)) (v2 : Int32) (v3 : Int32) (v4 : Int32) (v5 : Int32) (σ : St) : Option (Int32 × St) :=
  bnd (v5 + (1 : Int32)) fun x1 =>
  K29 (v2, v3, v4, x1, σ)
theorem b_X3_answeredGood_75 {Γ : CX} (K29 : Int32 × Int32 × Int32 × Int32 × St → Option (Int32 × St)) (hK29 : ∀ (v2 : Int32) (v3 : Int32) (v4 : Int32) (v5 : Int32) (σ : St), RR vI Γ (K29 (v2, v3, v4, v5, σ)) → WW Γ cX3_answeredGood 6 RX3 (some .int) rX3_answeredGood σ 29 [(0, .ref (xd Γ 36)), (2, .int v2), (3, .int v3), (4, .int v4), (5, .int v5)] []) (v2 : Int32) (v3 : Int32) (v4 : Int32) (v5 : Int32) (σ : St) (h : RR vI Γ (f_X3_answeredGood_75 K29 v2 v3 v4 v5 σ)) : WW Γ cX3_answeredGood 6 RX3 (some .int) rX3_answeredGood σ 75 [(0, .ref (xd Γ 36)), (2, .int v2), (3, .int v3), (4, .int v4), (5, .int v5)] [] := by
  unfold f_X3_answeredGood_75 at h
  obtain ⟨x1, ex1⟩ : ∃ y : Int32, y = (v5 + (1 : Int32)) := ⟨_, rfl⟩
  replace h := h.bnd ex1
  refine w_iinc 4 x1 [(5, .int x1), (0, .ref (xd Γ 36)), (2, .int v2), (3, .int v3), (4, .int v4)] dX3_answeredGood_75 rfl (by rw [ex1, ic_iconst_1]) (by decide) rfl rfl ?_
  clear ex1
  refine w_goto (tgt := 29) dX3_answeredGood_78 (by decide) ?_
  exact w_sub [1, 2, 3, 4, 0] rfl (hK29 v2 v3 v4 x1 σ h)
def g_X3_answeredGood_29 (K29 : Int32 × Int32 × Int32 × Int32 × St → Option (Int32 × St)) (x : Int32 × Int32 × Int32 × Int32 × St) : Option (Int32 × St) := match x with
  | (v2, v3, v4, v5, σ) =>
  bd (f_X10_sets 1 σ) fun r1 s2 =>
  if r1 ≤ v5 then
    some (v4, s2)
  else
    if (v5 &&& (v3 ^^^ (-1 : Int32))) = 0 then
      gd (inb v5 (ln 37)) <|
      if v2 < (gr s2 37 v5.toNatClampNeg) then
        f_X3_answeredGood_75 K29 v2 v3 v4 v5 s2
      else
        gd (inb v5 (ln 41)) <|
        bnd ((if (gr s2 41 v5.toNatClampNeg) < v4 then (gr s2 41 v5.toNatClampNeg) else v4)) fun x6 =>
        f_X3_answeredGood_75 K29 v2 v3 x6 v5 s2
    else
      f_X3_answeredGood_75 K29 v2 v3 v4 v5 s2
theorem l_X3_answeredGood_29 {Γ : CX} : ∀ (n : Nat) (v2 : Int32) (v3 : Int32) (v4 : Int32) (v5 : Int32) (σ : St), RR vI Γ (itr (g_X3_answeredGood_29) n (v2, v3, v4, v5, σ)) → WW Γ cX3_answeredGood 6 RX3 (some .int) rX3_answeredGood σ 29 [(0, .ref (xd Γ 36)), (2, .int v2), (3, .int v3), (4, .int v4), (5, .int v5)] [] := by
  intro n
  induction n with
  | zero => intro v2 v3 v4 v5 σ h; exact RR.no h
  | succ n hK29 =>
  intro v2 v3 v4 v5 σ h
  have h : RR vI Γ (g_X3_answeredGood_29 (itr (g_X3_answeredGood_29) n) (v2, v3, v4, v5, σ)) := h
  generalize itr (g_X3_answeredGood_29) n = K29 at h hK29
  unfold g_X3_answeredGood_29 at h
  dsimp only at h
  refine w_iload 4 dX3_answeredGood_29 rfl rfl ?_
  refine w_aload_n 0 dX3_answeredGood_31 rfl rfl rfl ?_
  refine gf_RX3_32 dX3_answeredGood_32 rfl ?_
  obtain ⟨r1, s2, h3, h⟩ := h.bd
  refine k_X10_sets ml_RX3_58 (Nat.le_of_ble_eq_true rfl) ⟨Nat.le_of_ble_eq_true rfl, Nat.le_of_ble_eq_true rfl⟩ dX3_answeredGood_35 rfl h3 ?_
  refine w_icmp_ge (tgt := 81) dX3_answeredGood_38 (by decide) rfl (fun q => ?_) (fun q => ?_)
  · have h := h.tt q
    refine w_iload 3 dX3_answeredGood_81 rfl rfl ?_
    exact w_ireturn dX3_answeredGood_83 h
  · have h := h.ff q
    refine w_iload 4 dX3_answeredGood_41 rfl rfl ?_
    refine w_iload_n 2 dX3_answeredGood_43 rfl rfl rfl ?_
    refine w_iconst (-1 : Int32) dX3_answeredGood_44 ic_iconst_m1 rfl ?_
    refine w_ixor dX3_answeredGood_45 rfl ?_
    refine w_iand dX3_answeredGood_46 rfl ?_
    refine w_if_ne (tgt := 75) dX3_answeredGood_47 (by decide) rfl (fun q => ?_) (fun q => ?_)
    · have h := h.ff q
      exact w_sub [0, 1, 2, 3, 4] rfl (b_X3_answeredGood_75 K29 hK29 v2 v3 v4 v5 s2 h)
    · have h := h.tt q
      refine w_aload_n 0 dX3_answeredGood_50 rfl rfl rfl ?_
      refine gf_RX3_9 dX3_answeredGood_51 rfl ?_
      refine w_iload 4 dX3_answeredGood_54 rfl rfl ?_
      obtain ⟨hi4, h⟩ := h.gd
      refine w_iald (i := 37) (lt_lit (by decide)) rfl hi4 dX3_answeredGood_56 rfl ?_
      refine w_iload_n 1 dX3_answeredGood_57 rfl rfl rfl ?_
      refine w_icmp_gt (tgt := 75) dX3_answeredGood_58 (by decide) rfl (fun q => ?_) (fun q => ?_)
      · have h := h.tt q
        exact w_sub [0, 1, 2, 3, 4] rfl (b_X3_answeredGood_75 K29 hK29 v2 v3 v4 v5 s2 h)
      · have h := h.ff q
        refine w_iload 3 dX3_answeredGood_61 rfl rfl ?_
        refine w_aload_n 0 dX3_answeredGood_63 rfl rfl rfl ?_
        refine gf_RX3_26 dX3_answeredGood_64 rfl ?_
        refine w_iload 4 dX3_answeredGood_67 rfl rfl ?_
        obtain ⟨hi5, h⟩ := h.gd
        refine w_iald (i := 41) (lt_lit (by decide)) rfl hi5 dX3_answeredGood_69 rfl ?_
        refine w_mmin ml_RX3_105 (Nat.le_of_ble_eq_true rfl) ⟨Nat.le_of_ble_eq_true rfl, Nat.le_of_ble_eq_true rfl⟩ dX3_answeredGood_70 rfl ?_
        refine w_nmI (fun x6 ex6 => ?_)
        replace h := h.bnd ex6
        clear ex6
        refine w_istore [(4, .int x6), (0, .ref (xd Γ 36)), (2, .int v2), (3, .int v3), (5, .int v5)] dX3_answeredGood_73 (by decide) rfl rfl ?_
        exact w_sub [1, 2, 3, 0, 4] rfl (b_X3_answeredGood_75 K29 hK29 v2 v3 x6 v5 s2 h)
def f_X3_answeredGood (p0 : Int32) (p1 : Int32) (σ : St) : Option (Int32 × St) :=
  bd (f_X2_reckon σ) fun _ s2 =>
  bd (f_X3_meetAnswers p0 p1 s2) fun _ s5 =>
  bd (f_X10_trainsOf 1 p0 s5) fun r7 s8 =>
  itr (g_X3_answeredGood_29) FU (p1, r7, (1000000 : Int32), (0 : Int32), s8)
theorem e_X3_answeredGood {Γ : CX} (p0 : Int32) (p1 : Int32) (σ : St) (h : RR vI Γ (f_X3_answeredGood p0 p1 σ)) : WW Γ cX3_answeredGood 6 RX3 (some .int) rX3_answeredGood σ 0 [(0, .ref (xd Γ 36)), (1, .int p0), (2, .int p1)] [] := by
  unfold f_X3_answeredGood at h
  refine w_aload_n 0 dX3_answeredGood_0 rfl rfl rfl ?_
  refine gf_RX3_36 dX3_answeredGood_1 rfl ?_
  obtain ⟨r1, s2, h3, h⟩ := h.bd
  refine k_X2_reckon ml_RX3_93 (Nat.le_of_ble_eq_true rfl) ⟨Nat.le_of_ble_eq_true rfl, Nat.le_of_ble_eq_true rfl⟩ dX3_answeredGood_4 rfl h3 ?_
  refine w_aload_n 0 dX3_answeredGood_7 rfl rfl rfl ?_
  refine w_iload_n 1 dX3_answeredGood_8 rfl rfl rfl ?_
  refine w_iload_n 2 dX3_answeredGood_9 rfl rfl rfl ?_
  obtain ⟨r4, s5, h6, h⟩ := h.bd
  refine k_X3_meetAnswers ml_RX3_101 (Nat.le_of_ble_eq_true rfl) ⟨Nat.le_of_ble_eq_true rfl, Nat.le_of_ble_eq_true rfl⟩ dX3_answeredGood_10 rfl h6 ?_
  refine w_aload_n 0 dX3_answeredGood_13 rfl rfl rfl ?_
  refine gf_RX3_32 dX3_answeredGood_14 rfl ?_
  refine w_iload_n 1 dX3_answeredGood_17 rfl rfl rfl ?_
  obtain ⟨r7, s8, h9, h⟩ := h.bd
  refine k_X10_trainsOf ml_RX3_44 (Nat.le_of_ble_eq_true rfl) ⟨Nat.le_of_ble_eq_true rfl, Nat.le_of_ble_eq_true rfl⟩ dX3_answeredGood_18 rfl h9 ?_
  refine w_istore_n [(3, .int r7), (0, .ref (xd Γ 36)), (1, .int p0), (2, .int p1)] dX3_answeredGood_21 rfl (by decide) rfl rfl ?_
  refine w_ldc (1000000 : Int32) dX3_answeredGood_22 cn_RX3_104 rfl ?_
  refine w_istore [(4, .int (1000000 : Int32)), (3, .int r7), (0, .ref (xd Γ 36)), (1, .int p0), (2, .int p1)] dX3_answeredGood_24 (by decide) rfl rfl ?_
  refine w_iconst (0 : Int32) dX3_answeredGood_26 ic_iconst_0 rfl ?_
  refine w_istore [(5, .int (0 : Int32)), (4, .int (1000000 : Int32)), (3, .int r7), (0, .ref (xd Γ 36)), (1, .int p0), (2, .int p1)] dX3_answeredGood_27 (by decide) rfl rfl ?_
  exact w_sub [3, 5, 2, 1, 0] rfl (l_X3_answeredGood_29 FU p1 r7 (1000000 : Int32) (0 : Int32) s8 h)
theorem c_X3_answeredGood {l : Launch} {D : va_G} {cy : Nat → ClassId} {ad : Nat → Nat} {p0 : Int32} {p1 : Int32} {σ σ' : St} {r : Int32} (hf : f_X3_answeredGood p0 p1 σ = some (r, σ')) : CT l D cy ad yX3_answeredGood cX3_answeredGood 6 (some .int) rX3_answeredGood [.ref (ad 36), .int p0, .int p1] σ (some (.int r)) σ' :=
  ct_of (by decide) (Nat.le_of_ble_eq_true rfl) (fun p e s m args below meth c A => e_X3_answeredGood (Γ := (p, l, e, rX3_answeredGood, s, m, args, below, meth, c, D, cy, ad, A, 0, 0, ((some (.int r)), σ'))) p0 p1 σ ⟨_, hf, rfl⟩)
theorem k_X3_answeredGood {Γ : CX} {cc : ByteArray} {nL : Nat} {own : String} {ret : Option FieldType} {rm : Room} {σ σ' : St} {pc pc' idx : Nat} {lv : List (Nat × Value)} {rest : List Value} {p0 : Int32} {p1 : Int32} {r : Int32} (hl : Cond.methodLink own idx yX3_answeredGood ∈ TB) (hw : (rest.map fun v => v.category).sum ≤ 8) (hR : rX3_answeredGood.frames + 1 ≤ rm.frames ∧ 8 + (6 + 11) + rX3_answeredGood.locals ≤ rm.locals) (hd : decode cc pc = .ok (.invokevirtual idx, 3)) (hp : pc + 3 = pc') (hf : f_X3_answeredGood p0 p1 σ = some (r, σ')) (h : WW Γ cc nL own ret rm σ' pc' lv (.int r :: rest)) : WW Γ cc nL own ret rm σ pc lv (.int p1 :: .int p0 :: .ref (xd Γ 36) :: rest) :=
  w_callV (nn := 2) (i := 36) (As := [.int p0, .int p1]) (v := (some (.int r))) (T := TX3) (N := 8) (c_X3_answeredGood hf) hl mw_X3_answeredGood (by decide +kernel) ⟨rfl, rfl⟩ hR (lt_lit (by decide)) cel_36 rfl rfl hw hd rfl hp h
/-! WarByHours.Fares.countRests (I)I -/
def rX3_countRests : Room := { frames := 6, cells := 0, slots := 0, locals := 138 }
def f_X3_countRests_95 (K27 : Int32 × Int32 × Int32 × Int32 × St → Option (Int32 × St)) (v1 : Int32) (v2 : Int32) (v3 : Int32) (v4 : Int32) (σ : St) : Option (Int32 × St) :=
  bnd (v4 + (1 : Int32)) fun x1 =>
  K27 (v1, v2, v3, x1, σ)
theorem b_X3_countRests_95 {Γ : CX} (K27 : Int32 × Int32 × Int32 × Int32 × St → Option (Int32 × St)) (hK27 : ∀ (v1 : Int32) (v2 : Int32) (v3 : Int32) (v4 : Int32) (σ : St), RR vI Γ (K27 (v1, v2, v3, v4, σ)) → WW Γ cX3_countRests 6 RX3 (some .int) rX3_countRests σ 27 [(0, .ref (xd Γ 36)), (1, .int v1), (2, .int v2), (3, .int v3), (4, .int v4)] []) (v1 : Int32) (v2 : Int32) (v3 : Int32) (v4 : Int32) (σ : St) (h : RR vI Γ (f_X3_countRests_95 K27 v1 v2 v3 v4 σ)) : WW Γ cX3_countRests 6 RX3 (some .int) rX3_countRests σ 95 [(0, .ref (xd Γ 36)), (1, .int v1), (2, .int v2), (3, .int v3), (4, .int v4)] [] := by
  unfold f_X3_countRests_95 at h
  obtain ⟨x1, ex1⟩ : ∃ y : Int32, y = (v4 + (1 : Int32)) := ⟨_, rfl⟩
  replace h := h.bnd ex1
  refine w_iinc 4 x1 [(4, .int x1), (0, .ref (xd Γ 36)), (1, .int v1), (2, .int v2), (3, .int v3)] dX3_countRests_95 rfl (by rw [ex1, ic_iconst_1]) (by decide) rfl rfl ?_
  clear ex1
  refine w_goto (tgt := 27) dX3_countRests_98 (by decide) ?_
  exact w_sub [1, 2, 3, 4, 0] rfl (hK27 v1 v2 v3 x1 σ h)
def g_X3_countRests_27 (K27 : Int32 × Int32 × Int32 × Int32 × St → Option (Int32 × St)) (x : Int32 × Int32 × Int32 × Int32 × St) : Option (Int32 × St) := match x with
  | (v1, v2, v3, v4, σ) =>
  bd (f_X10_sets 1 σ) fun r1 s2 =>
  if r1 ≤ v4 then
    some (v3, s2)
  else
    bd (f_X2_goodAtEnd (0 : Int32) v4 s2) fun r4 s5 =>
    bd (f_X3_isBought v4 v2 v1 s5) fun r7 s8 =>
    if r7 = 0 then
      f_X3_countRests_95 K27 v1 v2 v3 v4 s8
    else
      gd (inb (v4 &&& v2) (ln 41)) <|
      if r4 = (gr s8 41 (v4 &&& v2).toNatClampNeg) then
        gd (inb (v4 &&& (v2 ^^^ (-1 : Int32))) (ln 42)) <|
        if r4 = (gr s8 42 (v4 &&& (v2 ^^^ (-1 : Int32))).toNatClampNeg) then
          bnd (v3 + (1 : Int32)) fun x12 =>
          f_X3_countRests_95 K27 v1 v2 x12 v4 s8
        else
          f_X3_countRests_95 K27 v1 v2 v3 v4 s8
      else
        f_X3_countRests_95 K27 v1 v2 v3 v4 s8
theorem l_X3_countRests_27 {Γ : CX} : ∀ (n : Nat) (v1 : Int32) (v2 : Int32) (v3 : Int32) (v4 : Int32) (σ : St), RR vI Γ (itr (g_X3_countRests_27) n (v1, v2, v3, v4, σ)) → WW Γ cX3_countRests 6 RX3 (some .int) rX3_countRests σ 27 [(0, .ref (xd Γ 36)), (1, .int v1), (2, .int v2), (3, .int v3), (4, .int v4)] [] := by
  intro n
  induction n with
  | zero => intro v1 v2 v3 v4 σ h; exact RR.no h
  | succ n hK27 =>
  intro v1 v2 v3 v4 σ h
  have h : RR vI Γ (g_X3_countRests_27 (itr (g_X3_countRests_27) n) (v1, v2, v3, v4, σ)) := h
  generalize itr (g_X3_countRests_27) n = K27 at h hK27
  unfold g_X3_countRests_27 at h
  dsimp only at h
  refine w_iload 4 dX3_countRests_27 rfl rfl ?_
  refine w_aload_n 0 dX3_countRests_29 rfl rfl rfl ?_
  refine gf_RX3_32 dX3_countRests_30 rfl ?_
  obtain ⟨r1, s2, h3, h⟩ := h.bd
  refine k_X10_sets ml_RX3_58 (Nat.le_of_ble_eq_true rfl) ⟨Nat.le_of_ble_eq_true rfl, Nat.le_of_ble_eq_true rfl⟩ dX3_countRests_33 rfl h3 ?_
  refine w_icmp_ge (tgt := 101) dX3_countRests_36 (by decide) rfl (fun q => ?_) (fun q => ?_)
  · have h := h.tt q
    refine w_iload_n 3 dX3_countRests_101 rfl rfl rfl ?_
    exact w_ireturn dX3_countRests_102 h
  · have h := h.ff q
    refine w_aload_n 0 dX3_countRests_39 rfl rfl rfl ?_
    refine gf_RX3_36 dX3_countRests_40 rfl ?_
    refine w_iconst (0 : Int32) dX3_countRests_43 ic_iconst_0 rfl ?_
    refine w_iload 4 dX3_countRests_44 rfl rfl ?_
    obtain ⟨r4, s5, h6, h⟩ := h.bd
    refine k_X2_goodAtEnd ml_RX3_98 (Nat.le_of_ble_eq_true rfl) ⟨Nat.le_of_ble_eq_true rfl, Nat.le_of_ble_eq_true rfl⟩ dX3_countRests_46 rfl h6 ?_
    refine w_istore [(5, .int r4), (0, .ref (xd Γ 36)), (1, .int v1), (2, .int v2), (3, .int v3), (4, .int v4)] dX3_countRests_49 (by decide) rfl rfl ?_
    refine w_aload_n 1 dX3_countRests_51 rfl rfl rfl ?_
    refine w_iload 5 dX3_countRests_52 rfl rfl ?_
    refine w_iload_n 3 dX3_countRests_54 rfl rfl rfl ?_
    refine w_iload_n 2 dX3_countRests_55 rfl rfl rfl ?_
    obtain ⟨r7, s8, h9, h⟩ := h.bd
    refine k_X3_isBought ml_RX3_110 (Nat.le_of_ble_eq_true rfl) ⟨Nat.le_of_ble_eq_true rfl, Nat.le_of_ble_eq_true rfl⟩ dX3_countRests_56 rfl h9 ?_
    refine w_if_eq (tgt := 95) dX3_countRests_59 (by decide) rfl (fun q => ?_) (fun q => ?_)
    · have h := h.tt q
      exact w_sub [1, 2, 3, 4, 5] rfl (b_X3_countRests_95 K27 hK27 v1 v2 v3 v4 s8 h)
    · have h := h.ff q
      refine w_iload 0 dX3_countRests_62 rfl rfl ?_
      refine w_aload_n 1 dX3_countRests_64 rfl rfl rfl ?_
      refine gf_RX3_26 dX3_countRests_65 rfl ?_
      refine w_iload 5 dX3_countRests_68 rfl rfl ?_
      refine w_iload_n 3 dX3_countRests_70 rfl rfl rfl ?_
      refine w_iand dX3_countRests_71 rfl ?_
      obtain ⟨hi10, h⟩ := h.gd
      refine w_iald (i := 41) (lt_lit (by decide)) rfl hi10 dX3_countRests_72 rfl ?_
      refine w_icmp_ne (tgt := 95) dX3_countRests_73 (by decide) rfl (fun q => ?_) (fun q => ?_)
      · have h := h.ff q
        exact w_sub [1, 2, 3, 4, 5] rfl (b_X3_countRests_95 K27 hK27 v1 v2 v3 v4 s8 h)
      · have h := h.tt q
        refine w_iload 0 dX3_countRests_76 rfl rfl ?_
        refine w_aload_n 1 dX3_countRests_78 rfl rfl rfl ?_
        refine gf_RX3_29 dX3_countRests_79 rfl ?_
        refine w_iload 5 dX3_countRests_82 rfl rfl ?_
        refine w_iload_n 3 dX3_countRests_84 rfl rfl rfl ?_
        refine w_iconst (-1 : Int32) dX3_countRests_85 ic_iconst_m1 rfl ?_
        refine w_ixor dX3_countRests_86 rfl ?_
        refine w_iand dX3_countRests_87 rfl ?_
        obtain ⟨hi11, h⟩ := h.gd
        refine w_iald (i := 42) (lt_lit (by decide)) rfl hi11 dX3_countRests_88 rfl ?_
        refine w_icmp_ne (tgt := 95) dX3_countRests_89 (by decide) rfl (fun q => ?_) (fun q => ?_)
        · have h := h.ff q
          exact w_sub [1, 2, 3, 4, 5] rfl (b_X3_countRests_95 K27 hK27 v1 v2 v3 v4 s8 h)
        · have h := h.tt q
          obtain ⟨x12, ex12⟩ : ∃ y : Int32, y = (v3 + (1 : Int32)) := ⟨_, rfl⟩
          replace h := h.bnd ex12
          refine w_iinc 4 x12 [(3, .int x12), (5, .int r4), (0, .ref (xd Γ 36)), (1, .int v1), (2, .int v2), (4, .int v4)] dX3_countRests_92 rfl (by rw [ex12, ic_iconst_1]) (by decide) rfl rfl ?_
          clear ex12
          exact w_sub [2, 3, 4, 0, 5] rfl (b_X3_countRests_95 K27 hK27 v1 v2 x12 v4 s8 h)
def f_X3_countRests (p0 : Int32) (σ : St) : Option (Int32 × St) :=
  bd (f_X2_reckon σ) fun _ s2 =>
  bd (f_X3_meetAnswers (0 : Int32) p0 s2) fun _ s5 =>
  bd (f_X10_trainsOf 1 (0 : Int32) s5) fun r7 s8 =>
  itr (g_X3_countRests_27) FU (p0, r7, (0 : Int32), (0 : Int32), s8)
theorem e_X3_countRests {Γ : CX} (p0 : Int32) (σ : St) (h : RR vI Γ (f_X3_countRests p0 σ)) : WW Γ cX3_countRests 6 RX3 (some .int) rX3_countRests σ 0 [(0, .ref (xd Γ 36)), (1, .int p0)] [] := by
  unfold f_X3_countRests at h
  refine w_aload_n 0 dX3_countRests_0 rfl rfl rfl ?_
  refine gf_RX3_36 dX3_countRests_1 rfl ?_
  obtain ⟨r1, s2, h3, h⟩ := h.bd
  refine k_X2_reckon ml_RX3_93 (Nat.le_of_ble_eq_true rfl) ⟨Nat.le_of_ble_eq_true rfl, Nat.le_of_ble_eq_true rfl⟩ dX3_countRests_4 rfl h3 ?_
  refine w_aload_n 0 dX3_countRests_7 rfl rfl rfl ?_
  refine w_iconst (0 : Int32) dX3_countRests_8 ic_iconst_0 rfl ?_
  refine w_iload_n 1 dX3_countRests_9 rfl rfl rfl ?_
  obtain ⟨r4, s5, h6, h⟩ := h.bd
  refine k_X3_meetAnswers ml_RX3_101 (Nat.le_of_ble_eq_true rfl) ⟨Nat.le_of_ble_eq_true rfl, Nat.le_of_ble_eq_true rfl⟩ dX3_countRests_10 rfl h6 ?_
  refine w_aload_n 0 dX3_countRests_13 rfl rfl rfl ?_
  refine gf_RX3_32 dX3_countRests_14 rfl ?_
  refine w_iconst (0 : Int32) dX3_countRests_17 ic_iconst_0 rfl ?_
  obtain ⟨r7, s8, h9, h⟩ := h.bd
  refine k_X10_trainsOf ml_RX3_44 (Nat.le_of_ble_eq_true rfl) ⟨Nat.le_of_ble_eq_true rfl, Nat.le_of_ble_eq_true rfl⟩ dX3_countRests_18 rfl h9 ?_
  refine w_istore_n [(2, .int r7), (0, .ref (xd Γ 36)), (1, .int p0)] dX3_countRests_21 rfl (by decide) rfl rfl ?_
  refine w_iconst (0 : Int32) dX3_countRests_22 ic_iconst_0 rfl ?_
  refine w_istore_n [(3, .int (0 : Int32)), (2, .int r7), (0, .ref (xd Γ 36)), (1, .int p0)] dX3_countRests_23 rfl (by decide) rfl rfl ?_
  refine w_iconst (0 : Int32) dX3_countRests_24 ic_iconst_0 rfl ?_
  refine w_istore [(4, .int (0 : Int32)), (3, .int (0 : Int32)), (2, .int r7), (0, .ref (xd Γ 36)), (1, .int p0)] dX3_countRests_25 (by decide) rfl rfl ?_
  exact w_sub [3, 4, 2, 1, 0] rfl (l_X3_countRests_27 FU p0 r7 (0 : Int32) (0 : Int32) s8 h)
theorem c_X3_countRests {l : Launch} {D : va_G} {cy : Nat → ClassId} {ad : Nat → Nat} {p0 : Int32} {σ σ' : St} {r : Int32} (hf : f_X3_countRests p0 σ = some (r, σ')) : CT l D cy ad yX3_countRests cX3_countRests 6 (some .int) rX3_countRests [.ref (ad 36), .int p0] σ (some (.int r)) σ' :=
  ct_of (by decide) (Nat.le_of_ble_eq_true rfl) (fun p e s m args below meth c A => e_X3_countRests (Γ := (p, l, e, rX3_countRests, s, m, args, below, meth, c, D, cy, ad, A, 0, 0, ((some (.int r)), σ'))) p0 σ ⟨_, hf, rfl⟩)
theorem k_X3_countRests {Γ : CX} {cc : ByteArray} {nL : Nat} {own : String} {ret : Option FieldType} {rm : Room} {σ σ' : St} {pc pc' idx : Nat} {lv : List (Nat × Value)} {rest : List Value} {p0 : Int32} {r : Int32} (hl : Cond.methodLink own idx yX3_countRests ∈ TB) (hw : (rest.map fun v => v.category).sum ≤ 8) (hR : rX3_countRests.frames + 1 ≤ rm.frames ∧ 8 + (6 + 11) + rX3_countRests.locals ≤ rm.locals) (hd : decode cc pc = .ok (.invokevirtual idx, 3)) (hp : pc + 3 = pc') (hf : f_X3_countRests p0 σ = some (r, σ')) (h : WW Γ cc nL own ret rm σ' pc' lv (.int r :: rest)) : WW Γ cc nL own ret rm σ pc lv (.int p0 :: .ref (xd Γ 36) :: rest) :=
  w_callV (nn := 1) (i := 36) (As := [.int p0]) (v := (some (.int r))) (T := TX3) (N := 8) (c_X3_countRests hf) hl mw_X3_countRests (by decide +kernel) ⟨rfl, rfl⟩ hR (lt_lit (by decide)) cel_36 rfl rfl hw hd rfl hp h
