/-! java/lang/String.checkIndex (II)V -/
def rJ0_checkIndex_df160 : Room := { frames := 1, cells := 0, slots := 0, locals := 22 }
def rJ3_checkIndex_8e157 : Room := { frames := 0, cells := 0, slots := 0, locals := 0 }
set_option maxRecDepth 8000 in
theorem mw_J3_checkIndex_8e157 : Cond.static yJ3_checkIndex_8e157 ∈ TB ∧ Cond.initialized yJ3_checkIndex_8e157.cls ∈ TB ∧ Cond.code yJ3_checkIndex_8e157 cJ3_checkIndex_8e157 3 (some .int) ∈ TB := ⟨tb_m (bk_2 (List.mem_of_getElem? (i := 198) rfl)) rfl, tb_m (bk_1 (List.mem_of_getElem? (i := 16) rfl)) rfl, tb_m (bk_2 (List.mem_of_getElem? (i := 199) rfl)) rfl⟩
def f_J3_checkIndex_8e157 (p0 p1 : Int32) (σ : St) : Option (Int32 × St) := if p0 < 0 then none else if p0 < p1 then some (p0, σ) else none
theorem e_J3_checkIndex_8e157 {Γ : CX} (v2 : Value) (p0 p1 : Int32) (σ : St) (h : RR vI Γ (f_J3_checkIndex_8e157 p0 p1 σ)) : WW Γ cJ3_checkIndex_8e157 3 RJ3 (some .int) rJ3_checkIndex_8e157 σ 0 [(0, .int p0), (1, .int p1), (2, v2)] [] := by
  unfold f_J3_checkIndex_8e157 at h
  refine w_iload_n 0 dJ3_checkIndex_8e157_0 rfl rfl rfl ?_
  refine w_if_lt (tgt := 9) dJ3_checkIndex_8e157_1 (by decide) rfl (fun q => ?_) (fun q => ?_)
  · exact RR.no (h.tt q)
  · have h := h.ff q
    refine w_iload_n 0 dJ3_checkIndex_8e157_4 rfl rfl rfl ?_
    refine w_iload_n 1 dJ3_checkIndex_8e157_5 rfl rfl rfl ?_
    refine w_icmp_lt (tgt := 16) dJ3_checkIndex_8e157_6 (by decide) rfl (fun q => ?_) (fun q => ?_)
    · have h := h.tt q
      refine w_iload_n 0 dJ3_checkIndex_8e157_16 rfl rfl rfl ?_
      exact w_ireturn dJ3_checkIndex_8e157_17 h
    · exact RR.no (h.ff q)
theorem c_J3_checkIndex_8e157 {l : Launch} {D : va_G} {cy : Nat → ClassId} {ad : Nat → Nat} {p0 p1 : Int32} {σ σ' : St} {r : Int32} (v2 : Value) (hv : v2 = .null ∨ ∃ t, v2 = .ref t) (hf : f_J3_checkIndex_8e157 p0 p1 σ = some (r, σ')) : CT l D cy ad yJ3_checkIndex_8e157 cJ3_checkIndex_8e157 3 (some .int) rJ3_checkIndex_8e157 [.int p0, .int p1, v2] σ (some (.int r)) σ' := by
  rcases hv with rfl | ⟨t, rfl⟩
  · exact ct_of (by decide) (Nat.le_of_ble_eq_true rfl) (fun p e s m args below meth c A => e_J3_checkIndex_8e157 (Γ := (p, l, e, rJ3_checkIndex_8e157, s, m, args, below, meth, c, D, cy, ad, A, 0, 0, MQ below (QC D cy ad (some (.int r)) σ' A) args s 0 0 A)) .null p0 p1 σ ⟨_, hf, rfl⟩)
  · exact ct_of (by decide) (Nat.le_of_ble_eq_true rfl) (fun p e s m args below meth c A => e_J3_checkIndex_8e157 (Γ := (p, l, e, rJ3_checkIndex_8e157, s, m, args, below, meth, c, D, cy, ad, A, 0, 0, MQ below (QC D cy ad (some (.int r)) σ' A) args s 0 0 A)) (.ref t) p0 p1 σ ⟨_, hf, rfl⟩)
def f_J0_checkIndex_df160 (p0 p1 : Int32) (σ : St) : Option (Unit × St) := bd (f_J3_checkIndex_8e157 p0 p1 σ) fun _ s => some ((), s)
theorem e_J0_checkIndex_df160 {Γ : CX} (p0 p1 : Int32) (σ : St) (h : RR vU Γ (f_J0_checkIndex_df160 p0 p1 σ)) : WW Γ cJ0_checkIndex_df160 2 RJ0 none rJ0_checkIndex_df160 σ 0 [(0, .int p0), (1, .int p1)] [] := by
  unfold f_J0_checkIndex_df160 at h
  obtain ⟨r1, s1, h1, h⟩ := h.bd
  refine w_iload_n 0 dJ0_checkIndex_df160_0 rfl rfl rfl ?_
  refine w_iload_n 1 dJ0_checkIndex_df160_1 rfl rfl rfl ?_
  have go : ∀ v2 : Value, (v2 = .null ∨ ∃ t, v2 = .ref t) → WW Γ cJ0_checkIndex_df160 2 RJ0 none rJ0_checkIndex_df160 σ 5 [(0, .int p0), (1, .int p1)] [v2, .int p1, .int p0] := by
    intro v2 hv
    refine w_callS (nn := 3) (As := [.int p0, .int p1, v2]) (rest := []) (v := some (.int r1)) (c_J3_checkIndex_8e157 v2 hv h1) ml_RJ0_1059 mw_J3_checkIndex_8e157 (by decide +kernel) ⟨rfl, rfl⟩ ⟨Nat.le_of_ble_eq_true rfl, Nat.le_of_ble_eq_true rfl⟩ rfl (Nat.le_of_ble_eq_true rfl) dJ0_checkIndex_df160_5 rfl rfl ?_
    refine w_pop (pc' := 9) dJ0_checkIndex_df160_8 rfl rfl ?_
    exact w_return dJ0_checkIndex_df160_9 h
  exact w_gfm fl_RJ0_1053 dJ0_checkIndex_df160_2 rfl (go _ (Or.inl rfl)) (fun t => go _ (Or.inr ⟨t, rfl⟩))
theorem c_J0_checkIndex_df160 {l : Launch} {D : va_G} {cy : Nat → ClassId} {ad : Nat → Nat} {p0 : Int32} {p1 : Int32} {σ σ' : St} {r : Unit} (hf : f_J0_checkIndex_df160 p0 p1 σ = some (r, σ')) : CT l D cy ad yJ0_checkIndex_df160 cJ0_checkIndex_df160 2 none rJ0_checkIndex_df160 [.int p0, .int p1] σ none σ' :=
  ct_of (by decide) (Nat.le_of_ble_eq_true rfl) (fun p e s m args below meth c A => e_J0_checkIndex_df160 (Γ := (p, l, e, rJ0_checkIndex_df160, s, m, args, below, meth, c, D, cy, ad, A, 0, 0, MQ below (QC D cy ad none σ' A) args s 0 0 A)) p0 p1 σ ⟨_, hf, rfl⟩)
theorem k_J0_checkIndex_df160 {Γ : CX} {cc : ByteArray} {nL : Nat} {own : String} {ret : Option FieldType} {rm : Room} {σ σ' : St} {pc pc' idx : Nat} {lv : List (Nat × Value)} {rest : List Value} {p0 : Int32} {p1 : Int32} {r : Unit} (hl : Cond.methodLink own idx yJ0_checkIndex_df160 ∈ TB) (hw : (rest.map fun v => v.category).sum ≤ 8) (hR : rJ0_checkIndex_df160.frames + 1 ≤ rm.frames ∧ 8 + (2 + 11) + rJ0_checkIndex_df160.locals ≤ rm.locals) (hd : decode cc pc = .ok (.invokestatic idx, 3)) (hp : pc + 3 = pc') (hf : f_J0_checkIndex_df160 p0 p1 σ = some (r, σ')) (h : WW Γ cc nL own ret rm σ' pc' lv (rest)) : WW Γ cc nL own ret rm σ pc lv (.int p1 :: .int p0 :: rest) :=
  w_callS (nn := 2) (As := [.int p0, .int p1]) (v := none) (c_J0_checkIndex_df160 hf) hl mw_J0_checkIndex_df160 (by decide +kernel) ⟨rfl, rfl⟩ hR rfl hw hd rfl hp h
/-! WarByHours.Chances.wednesdaysToInsist (II)I -/
def rX1_wednesdaysToInsist : Room := { frames := 0, cells := 0, slots := 0, locals := 0 }
def g_X1_wednesdaysToInsist_5 (K5 : Int32 × Int32 × Int32 × Int32 × St → Option (Int32 × St)) (x : Int32 × Int32 × Int32 × Int32 × St) : Option (Int32 × St) := match x with
  | (v0, v1, v2, v3, σ) =>
  if (60 : Int32) < v3 then
    some ((-1 : Int32), σ)
  else
    bnd (((v2 * v0) / (100 : Int32))) fun x1 =>
    if ((10000 : Int32) * ((100 : Int32) - v1)) < x1 then
      bnd (v3 + (1 : Int32)) fun x2 =>
      K5 (v0, v1, x1, x2, σ)
    else
      some (v3, σ)
theorem l_X1_wednesdaysToInsist_5 {Γ : CX} : ∀ (n : Nat) (v0 : Int32) (v1 : Int32) (v2 : Int32) (v3 : Int32) (σ : St), RR vI Γ (itr (g_X1_wednesdaysToInsist_5) n (v0, v1, v2, v3, σ)) → WW Γ cX1_wednesdaysToInsist 4 RX1 (some .int) rX1_wednesdaysToInsist σ 5 [(0, .int v0), (1, .int v1), (2, .int v2), (3, .int v3)] [] := by
  intro n
  induction n with
  | zero => intro v0 v1 v2 v3 σ h; exact RR.no h
  | succ n hK5 =>
  intro v0 v1 v2 v3 σ h
  have h : RR vI Γ (g_X1_wednesdaysToInsist_5 (itr (g_X1_wednesdaysToInsist_5) n) (v0, v1, v2, v3, σ)) := h
  generalize itr (g_X1_wednesdaysToInsist_5) n = K5 at h hK5
  unfold g_X1_wednesdaysToInsist_5 at h
  dsimp only at h
  refine w_iload_n 3 dX1_wednesdaysToInsist_5 rfl rfl rfl ?_
  refine w_bipush (60 : Int32) dX1_wednesdaysToInsist_6 ic_bipush_60 rfl ?_
  refine w_icmp_gt (tgt := 38) dX1_wednesdaysToInsist_8 (by decide) rfl (fun q => ?_) (fun q => ?_)
  · have h := h.tt q
    refine w_iconst (-1 : Int32) dX1_wednesdaysToInsist_38 ic_iconst_m1 rfl ?_
    exact w_ireturn dX1_wednesdaysToInsist_39 h
  · have h := h.ff q
    refine w_iload_n 2 dX1_wednesdaysToInsist_11 rfl rfl rfl ?_
    refine w_iload_n 0 dX1_wednesdaysToInsist_12 rfl rfl rfl ?_
    refine w_imul dX1_wednesdaysToInsist_13 rfl ?_
    refine w_bipush (100 : Int32) dX1_wednesdaysToInsist_14 ic_bipush_100 rfl ?_
    refine w_idiv dX1_wednesdaysToInsist_16 (by decide) rfl ?_
    refine w_nmI (fun x1 ex1 => ?_)
    replace h := h.bnd ex1
    clear ex1
    refine w_istore_n [(2, .int x1), (0, .int v0), (1, .int v1), (3, .int v3)] dX1_wednesdaysToInsist_17 rfl (by decide) rfl rfl ?_
    refine w_iload_n 0 dX1_wednesdaysToInsist_18 rfl rfl rfl ?_
    refine w_sipush (10000 : Int32) dX1_wednesdaysToInsist_19 ic_sipush_10000 rfl ?_
    refine w_bipush (100 : Int32) dX1_wednesdaysToInsist_22 ic_bipush_100 rfl ?_
    refine w_iload_n 2 dX1_wednesdaysToInsist_24 rfl rfl rfl ?_
    refine w_isub dX1_wednesdaysToInsist_25 rfl ?_
    refine w_imul dX1_wednesdaysToInsist_26 rfl ?_
    refine w_icmp_gt (tgt := 32) dX1_wednesdaysToInsist_27 (by decide) rfl (fun q => ?_) (fun q => ?_)
    · have h := h.tt q
      obtain ⟨x2, ex2⟩ : ∃ y : Int32, y = (v3 + (1 : Int32)) := ⟨_, rfl⟩
      replace h := h.bnd ex2
      refine w_iinc 3 x2 [(3, .int x2), (2, .int x1), (0, .int v0), (1, .int v1)] dX1_wednesdaysToInsist_32 rfl (by rw [ex2, ic_iconst_1]) (by decide) rfl rfl ?_
      clear ex2
      refine w_goto (tgt := 5) dX1_wednesdaysToInsist_35 (by decide) ?_
      exact w_sub [2, 3, 1, 0] rfl (hK5 v0 v1 x1 x2 σ h)
    · have h := h.ff q
      refine w_iload_n 3 dX1_wednesdaysToInsist_30 rfl rfl rfl ?_
      exact w_ireturn dX1_wednesdaysToInsist_31 h
def f_X1_wednesdaysToInsist (p0 : Int32) (p1 : Int32) (σ : St) : Option (Int32 × St) :=
  itr (g_X1_wednesdaysToInsist_5) FU (p0, p1, (1000000 : Int32), (1 : Int32), σ)
theorem e_X1_wednesdaysToInsist {Γ : CX} (p0 : Int32) (p1 : Int32) (σ : St) (h : RR vI Γ (f_X1_wednesdaysToInsist p0 p1 σ)) : WW Γ cX1_wednesdaysToInsist 4 RX1 (some .int) rX1_wednesdaysToInsist σ 0 [(0, .int p0), (1, .int p1)] [] := by
  unfold f_X1_wednesdaysToInsist at h
  refine w_ldc (1000000 : Int32) dX1_wednesdaysToInsist_0 cn_RX1_47 rfl ?_
  refine w_istore_n [(2, .int (1000000 : Int32)), (0, .int p0), (1, .int p1)] dX1_wednesdaysToInsist_2 rfl (by decide) rfl rfl ?_
  refine w_iconst (1 : Int32) dX1_wednesdaysToInsist_3 ic_iconst_1 rfl ?_
  refine w_istore_n [(3, .int (1 : Int32)), (2, .int (1000000 : Int32)), (0, .int p0), (1, .int p1)] dX1_wednesdaysToInsist_4 rfl (by decide) rfl rfl ?_
  exact w_sub [2, 3, 1, 0] rfl (l_X1_wednesdaysToInsist_5 FU p0 p1 (1000000 : Int32) (1 : Int32) σ h)
theorem c_X1_wednesdaysToInsist {l : Launch} {D : va_G} {cy : Nat → ClassId} {ad : Nat → Nat} {p0 : Int32} {p1 : Int32} {σ σ' : St} {r : Int32} (hf : f_X1_wednesdaysToInsist p0 p1 σ = some (r, σ')) : CT l D cy ad yX1_wednesdaysToInsist cX1_wednesdaysToInsist 4 (some .int) rX1_wednesdaysToInsist [.int p0, .int p1] σ (some (.int r)) σ' :=
  ct_of (by decide) (Nat.le_of_ble_eq_true rfl) (fun p e s m args below meth c A => e_X1_wednesdaysToInsist (Γ := (p, l, e, rX1_wednesdaysToInsist, s, m, args, below, meth, c, D, cy, ad, A, 0, 0, MQ below (QC D cy ad (some (.int r)) σ' A) args s 0 0 A)) p0 p1 σ ⟨_, hf, rfl⟩)
theorem k_X1_wednesdaysToInsist {Γ : CX} {cc : ByteArray} {nL : Nat} {own : String} {ret : Option FieldType} {rm : Room} {σ σ' : St} {pc pc' idx : Nat} {lv : List (Nat × Value)} {rest : List Value} {p0 : Int32} {p1 : Int32} {r : Int32} (hl : Cond.methodLink own idx yX1_wednesdaysToInsist ∈ TB) (hw : (rest.map fun v => v.category).sum ≤ 8) (hR : rX1_wednesdaysToInsist.frames + 1 ≤ rm.frames ∧ 8 + (4 + 11) + rX1_wednesdaysToInsist.locals ≤ rm.locals) (hd : decode cc pc = .ok (.invokestatic idx, 3)) (hp : pc + 3 = pc') (hf : f_X1_wednesdaysToInsist p0 p1 σ = some (r, σ')) (h : WW Γ cc nL own ret rm σ' pc' lv (.int r :: rest)) : WW Γ cc nL own ret rm σ pc lv (.int p1 :: .int p0 :: rest) :=
  w_callS (nn := 2) (As := [.int p0, .int p1]) (v := (some (.int r))) (c_X1_wednesdaysToInsist hf) hl mw_X1_wednesdaysToInsist (by decide +kernel) ⟨rfl, rfl⟩ hR rfl hw hd rfl hp h
/-! WarByHours.Chances.next (J)J -/
def rX1_next : Room := { frames := 0, cells := 0, slots := 0, locals := 0 }
def f_X1_next (p0 : Int64) (σ : St) : Option (Int64 × St) :=
  some (((((1103515245 : Int64) * p0) + (12345 : Int64)) - (((1103515245 : Int64) * p0) + (12345 : Int64)) / (2147483648 : Int64) * (2147483648 : Int64)), σ)
theorem e_X1_next {Γ : CX} (p0 : Int64) (σ : St) (h : RR vL Γ (f_X1_next p0 σ)) : WW Γ cX1_next 2 RX1 (some .long) rX1_next σ 0 [(0, .long p0)] [] := by
  unfold f_X1_next at h
  refine w_ldc2_w (1103515245 : Int64) dX1_next_0 cl_RX1_59 rfl ?_
  refine w_lload_n 0 dX1_next_3 rfl rfl rfl ?_
  refine w_lmul dX1_next_4 rfl ?_
  refine w_ldc2_w (12345 : Int64) dX1_next_5 cl_RX1_61 rfl ?_
  refine w_ladd dX1_next_8 rfl ?_
  refine w_ldc2_w (2147483648 : Int64) dX1_next_9 cl_RX1_63 rfl ?_
  refine w_lrem dX1_next_12 (by decide) rfl ?_
  exact w_lreturn dX1_next_13 h
theorem c_X1_next {l : Launch} {D : va_G} {cy : Nat → ClassId} {ad : Nat → Nat} {p0 : Int64} {σ σ' : St} {r : Int64} (hf : f_X1_next p0 σ = some (r, σ')) : CT l D cy ad yX1_next cX1_next 2 (some .long) rX1_next [.long p0] σ (some (.long r)) σ' :=
  ct_of (by decide) (Nat.le_of_ble_eq_true rfl) (fun p e s m args below meth c A => e_X1_next (Γ := (p, l, e, rX1_next, s, m, args, below, meth, c, D, cy, ad, A, 0, 0, MQ below (QC D cy ad (some (.long r)) σ' A) args s 0 0 A)) p0 σ ⟨_, hf, rfl⟩)
theorem k_X1_next {Γ : CX} {cc : ByteArray} {nL : Nat} {own : String} {ret : Option FieldType} {rm : Room} {σ σ' : St} {pc pc' idx : Nat} {lv : List (Nat × Value)} {rest : List Value} {p0 : Int64} {r : Int64} (hl : Cond.methodLink own idx yX1_next ∈ TB) (hw : (rest.map fun v => v.category).sum ≤ 8) (hR : rX1_next.frames + 1 ≤ rm.frames ∧ 8 + (2 + 11) + rX1_next.locals ≤ rm.locals) (hd : decode cc pc = .ok (.invokestatic idx, 3)) (hp : pc + 3 = pc') (hf : f_X1_next p0 σ = some (r, σ')) (h : WW Γ cc nL own ret rm σ' pc' lv (.long r :: rest)) : WW Γ cc nL own ret rm σ pc lv (.long p0 :: rest) :=
  w_callS (nn := 1) (As := [.long p0]) (v := (some (.long r))) (c_X1_next hf) hl mw_X1_next (by decide +kernel) ⟨rfl, rfl⟩ hR rfl hw hd rfl hp h
/-! WarByHours.Chances.draw (J)I -/
def rX1_draw : Room := { frames := 0, cells := 0, slots := 0, locals := 0 }
def f_X1_draw (p0 : Int64) (σ : St) : Option (Int32 × St) :=
  some (((p0 / (65536 : Int64)) - (p0 / (65536 : Int64)) / (100 : Int64) * (100 : Int64)).toInt32, σ)
theorem e_X1_draw {Γ : CX} (p0 : Int64) (σ : St) (h : RR vI Γ (f_X1_draw p0 σ)) : WW Γ cX1_draw 2 RX1 (some .int) rX1_draw σ 0 [(0, .long p0)] [] := by
  unfold f_X1_draw at h
  refine w_lload_n 0 dX1_draw_0 rfl rfl rfl ?_
  refine w_ldc2_w (65536 : Int64) dX1_draw_1 cl_RX1_65 rfl ?_
  refine w_ldiv dX1_draw_4 (by decide) rfl ?_
  refine w_ldc2_w (100 : Int64) dX1_draw_5 cl_RX1_67 rfl ?_
  refine w_lrem dX1_draw_8 (by decide) rfl ?_
  refine w_l2i dX1_draw_9 rfl ?_
  exact w_ireturn dX1_draw_10 h
theorem c_X1_draw {l : Launch} {D : va_G} {cy : Nat → ClassId} {ad : Nat → Nat} {p0 : Int64} {σ σ' : St} {r : Int32} (hf : f_X1_draw p0 σ = some (r, σ')) : CT l D cy ad yX1_draw cX1_draw 2 (some .int) rX1_draw [.long p0] σ (some (.int r)) σ' :=
  ct_of (by decide) (Nat.le_of_ble_eq_true rfl) (fun p e s m args below meth c A => e_X1_draw (Γ := (p, l, e, rX1_draw, s, m, args, below, meth, c, D, cy, ad, A, 0, 0, MQ below (QC D cy ad (some (.int r)) σ' A) args s 0 0 A)) p0 σ ⟨_, hf, rfl⟩)
theorem k_X1_draw {Γ : CX} {cc : ByteArray} {nL : Nat} {own : String} {ret : Option FieldType} {rm : Room} {σ σ' : St} {pc pc' idx : Nat} {lv : List (Nat × Value)} {rest : List Value} {p0 : Int64} {r : Int32} (hl : Cond.methodLink own idx yX1_draw ∈ TB) (hw : (rest.map fun v => v.category).sum ≤ 8) (hR : rX1_draw.frames + 1 ≤ rm.frames ∧ 8 + (2 + 11) + rX1_draw.locals ≤ rm.locals) (hd : decode cc pc = .ok (.invokestatic idx, 3)) (hp : pc + 3 = pc') (hf : f_X1_draw p0 σ = some (r, σ')) (h : WW Γ cc nL own ret rm σ' pc' lv (.int r :: rest)) : WW Γ cc nL own ret rm σ pc lv (.long p0 :: rest) :=
  w_callS (nn := 1) (As := [.long p0]) (v := (some (.int r))) (c_X1_draw hf) hl mw_X1_draw (by decide +kernel) ⟨rfl, rfl⟩ hR rfl hw hd rfl hp h
/-! WarByHours.Chances.power (II)J -/
def rX1_power : Room := { frames := 0, cells := 0, slots := 0, locals := 0 }
def g_X1_power_5 (K5 : Int32 × Int32 × Int64 × Int32 × St → Option (Int64 × St)) (x : Int32 × Int32 × Int64 × Int32 × St) : Option (Int64 × St) := match x with
  | (v0, v1, v2, v4, σ) =>
  if v1 ≤ v4 then
    some (v2, σ)
  else
    bnd ((v2 * v0.toInt64)) fun x1 =>
    bnd (v4 + (1 : Int32)) fun x2 =>
    K5 (v0, v1, x1, x2, σ)
theorem l_X1_power_5 {Γ : CX} : ∀ (n : Nat) (v0 : Int32) (v1 : Int32) (v2 : Int64) (v4 : Int32) (σ : St), RR vL Γ (itr (g_X1_power_5) n (v0, v1, v2, v4, σ)) → WW Γ cX1_power 5 RX1 (some .long) rX1_power σ 5 [(0, .int v0), (1, .int v1), (2, .long v2), (4, .int v4)] [] := by
  intro n
  induction n with
  | zero => intro v0 v1 v2 v4 σ h; exact RR.no h
  | succ n hK5 =>
  intro v0 v1 v2 v4 σ h
  have h : RR vL Γ (g_X1_power_5 (itr (g_X1_power_5) n) (v0, v1, v2, v4, σ)) := h
  generalize itr (g_X1_power_5) n = K5 at h hK5
  unfold g_X1_power_5 at h
  dsimp only at h
  refine w_iload 3 dX1_power_5 rfl rfl ?_
  refine w_iload_n 1 dX1_power_7 rfl rfl rfl ?_
  refine w_icmp_ge (tgt := 22) dX1_power_8 (by decide) rfl (fun q => ?_) (fun q => ?_)
  · have h := h.tt q
    refine w_lload_n 2 dX1_power_22 rfl rfl rfl ?_
    exact w_lreturn dX1_power_23 h
  · have h := h.ff q
    refine w_lload_n 2 dX1_power_11 rfl rfl rfl ?_
    refine w_iload_n 0 dX1_power_12 rfl rfl rfl ?_
    refine w_i2l dX1_power_13 rfl ?_
    refine w_lmul dX1_power_14 rfl ?_
    refine w_nmL (fun x1 ex1 => ?_)
    replace h := h.bnd ex1
    clear ex1
    refine w_lstore_n [(2, .long x1), (0, .int v0), (1, .int v1), (4, .int v4)] dX1_power_15 rfl (by decide) rfl rfl ?_
    obtain ⟨x2, ex2⟩ : ∃ y : Int32, y = (v4 + (1 : Int32)) := ⟨_, rfl⟩
    replace h := h.bnd ex2
    refine w_iinc 3 x2 [(4, .int x2), (2, .long x1), (0, .int v0), (1, .int v1)] dX1_power_16 rfl (by rw [ex2, ic_iconst_1]) (by decide) rfl rfl ?_
    clear ex2
    refine w_goto (tgt := 5) dX1_power_19 (by decide) ?_
    exact w_sub [2, 3, 1, 0] rfl (hK5 v0 v1 x1 x2 σ h)
def f_X1_power (p0 : Int32) (p1 : Int32) (σ : St) : Option (Int64 × St) :=
  itr (g_X1_power_5) FU (p0, p1, (1 : Int64), (0 : Int32), σ)
theorem e_X1_power {Γ : CX} (p0 : Int32) (p1 : Int32) (σ : St) (h : RR vL Γ (f_X1_power p0 p1 σ)) : WW Γ cX1_power 5 RX1 (some .long) rX1_power σ 0 [(0, .int p0), (1, .int p1)] [] := by
  unfold f_X1_power at h
  refine w_lconst (1 : Int64) dX1_power_0 rfl rfl ?_
  refine w_lstore_n [(2, .long (1 : Int64)), (0, .int p0), (1, .int p1)] dX1_power_1 rfl (by decide) rfl rfl ?_
  refine w_iconst (0 : Int32) dX1_power_2 ic_iconst_0 rfl ?_
  refine w_istore [(4, .int (0 : Int32)), (2, .long (1 : Int64)), (0, .int p0), (1, .int p1)] dX1_power_3 (by decide) rfl rfl ?_
  exact w_sub [2, 3, 1, 0] rfl (l_X1_power_5 FU p0 p1 (1 : Int64) (0 : Int32) σ h)
theorem c_X1_power {l : Launch} {D : va_G} {cy : Nat → ClassId} {ad : Nat → Nat} {p0 : Int32} {p1 : Int32} {σ σ' : St} {r : Int64} (hf : f_X1_power p0 p1 σ = some (r, σ')) : CT l D cy ad yX1_power cX1_power 5 (some .long) rX1_power [.int p0, .int p1] σ (some (.long r)) σ' :=
  ct_of (by decide) (Nat.le_of_ble_eq_true rfl) (fun p e s m args below meth c A => e_X1_power (Γ := (p, l, e, rX1_power, s, m, args, below, meth, c, D, cy, ad, A, 0, 0, MQ below (QC D cy ad (some (.long r)) σ' A) args s 0 0 A)) p0 p1 σ ⟨_, hf, rfl⟩)
theorem k_X1_power {Γ : CX} {cc : ByteArray} {nL : Nat} {own : String} {ret : Option FieldType} {rm : Room} {σ σ' : St} {pc pc' idx : Nat} {lv : List (Nat × Value)} {rest : List Value} {p0 : Int32} {p1 : Int32} {r : Int64} (hl : Cond.methodLink own idx yX1_power ∈ TB) (hw : (rest.map fun v => v.category).sum ≤ 8) (hR : rX1_power.frames + 1 ≤ rm.frames ∧ 8 + (5 + 11) + rX1_power.locals ≤ rm.locals) (hd : decode cc pc = .ok (.invokestatic idx, 3)) (hp : pc + 3 = pc') (hf : f_X1_power p0 p1 σ = some (r, σ')) (h : WW Γ cc nL own ret rm σ' pc' lv (.long r :: rest)) : WW Γ cc nL own ret rm σ pc lv (.int p1 :: .int p0 :: rest) :=
  w_callS (nn := 2) (As := [.int p0, .int p1]) (v := (some (.long r))) (c_X1_power hf) hl mw_X1_power (by decide +kernel) ⟨rfl, rfl⟩ hR rfl hw hd rfl hp h
/-! WarByHours.Chances.choices (II)J -/
def rX1_choices : Room := { frames := 0, cells := 0, slots := 0, locals := 0 }
def g_X1_choices_5 (K5 : Int32 × Int32 × Int64 × Int32 × St → Option (Int64 × St)) (x : Int32 × Int32 × Int64 × Int32 × St) : Option (Int64 × St) := match x with
  | (v0, v1, v2, v4, σ) =>
  if v1 < v4 then
    some (v2, σ)
  else
    gd (!decide (v4.toInt64 = 0)) <|
    bnd (((v2 * ((v0 - v1) + v4).toInt64) / v4.toInt64)) fun x2 =>
    bnd (v4 + (1 : Int32)) fun x3 =>
    K5 (v0, v1, x2, x3, σ)
theorem l_X1_choices_5 {Γ : CX} : ∀ (n : Nat) (v0 : Int32) (v1 : Int32) (v2 : Int64) (v4 : Int32) (σ : St), RR vL Γ (itr (g_X1_choices_5) n (v0, v1, v2, v4, σ)) → WW Γ cX1_choices 5 RX1 (some .long) rX1_choices σ 5 [(0, .int v0), (1, .int v1), (2, .long v2), (4, .int v4)] [] := by
  intro n
  induction n with
  | zero => intro v0 v1 v2 v4 σ h; exact RR.no h
  | succ n hK5 =>
  intro v0 v1 v2 v4 σ h
  have h : RR vL Γ (g_X1_choices_5 (itr (g_X1_choices_5) n) (v0, v1, v2, v4, σ)) := h
  generalize itr (g_X1_choices_5) n = K5 at h hK5
  unfold g_X1_choices_5 at h
  dsimp only at h
  refine w_iload 3 dX1_choices_5 rfl rfl ?_
  refine w_iload_n 1 dX1_choices_7 rfl rfl rfl ?_
  refine w_icmp_gt (tgt := 31) dX1_choices_8 (by decide) rfl (fun q => ?_) (fun q => ?_)
  · have h := h.tt q
    refine w_lload_n 2 dX1_choices_31 rfl rfl rfl ?_
    exact w_lreturn dX1_choices_32 h
  · have h := h.ff q
    refine w_lload_n 2 dX1_choices_11 rfl rfl rfl ?_
    refine w_iload_n 0 dX1_choices_12 rfl rfl rfl ?_
    refine w_iload_n 1 dX1_choices_13 rfl rfl rfl ?_
    refine w_isub dX1_choices_14 rfl ?_
    refine w_iload 3 dX1_choices_15 rfl rfl ?_
    refine w_iadd dX1_choices_17 rfl ?_
    refine w_i2l dX1_choices_18 rfl ?_
    refine w_lmul dX1_choices_19 rfl ?_
    refine w_iload 3 dX1_choices_20 rfl rfl ?_
    refine w_i2l dX1_choices_22 rfl ?_
    obtain ⟨hz1, h⟩ := h.gd
    refine w_ldiv dX1_choices_23 (ne_of_gd hz1) rfl ?_
    refine w_nmL (fun x2 ex2 => ?_)
    replace h := h.bnd ex2
    clear ex2
    refine w_lstore_n [(2, .long x2), (0, .int v0), (1, .int v1), (4, .int v4)] dX1_choices_24 rfl (by decide) rfl rfl ?_
    obtain ⟨x3, ex3⟩ : ∃ y : Int32, y = (v4 + (1 : Int32)) := ⟨_, rfl⟩
    replace h := h.bnd ex3
    refine w_iinc 3 x3 [(4, .int x3), (2, .long x2), (0, .int v0), (1, .int v1)] dX1_choices_25 rfl (by rw [ex3, ic_iconst_1]) (by decide) rfl rfl ?_
    clear ex3
    refine w_goto (tgt := 5) dX1_choices_28 (by decide) ?_
    exact w_sub [2, 3, 1, 0] rfl (hK5 v0 v1 x2 x3 σ h)
def f_X1_choices (p0 : Int32) (p1 : Int32) (σ : St) : Option (Int64 × St) :=
  itr (g_X1_choices_5) FU (p0, p1, (1 : Int64), (1 : Int32), σ)
theorem e_X1_choices {Γ : CX} (p0 : Int32) (p1 : Int32) (σ : St) (h : RR vL Γ (f_X1_choices p0 p1 σ)) : WW Γ cX1_choices 5 RX1 (some .long) rX1_choices σ 0 [(0, .int p0), (1, .int p1)] [] := by
  unfold f_X1_choices at h
  refine w_lconst (1 : Int64) dX1_choices_0 rfl rfl ?_
  refine w_lstore_n [(2, .long (1 : Int64)), (0, .int p0), (1, .int p1)] dX1_choices_1 rfl (by decide) rfl rfl ?_
  refine w_iconst (1 : Int32) dX1_choices_2 ic_iconst_1 rfl ?_
  refine w_istore [(4, .int (1 : Int32)), (2, .long (1 : Int64)), (0, .int p0), (1, .int p1)] dX1_choices_3 (by decide) rfl rfl ?_
  exact w_sub [2, 3, 1, 0] rfl (l_X1_choices_5 FU p0 p1 (1 : Int64) (1 : Int32) σ h)
theorem c_X1_choices {l : Launch} {D : va_G} {cy : Nat → ClassId} {ad : Nat → Nat} {p0 : Int32} {p1 : Int32} {σ σ' : St} {r : Int64} (hf : f_X1_choices p0 p1 σ = some (r, σ')) : CT l D cy ad yX1_choices cX1_choices 5 (some .long) rX1_choices [.int p0, .int p1] σ (some (.long r)) σ' :=
  ct_of (by decide) (Nat.le_of_ble_eq_true rfl) (fun p e s m args below meth c A => e_X1_choices (Γ := (p, l, e, rX1_choices, s, m, args, below, meth, c, D, cy, ad, A, 0, 0, MQ below (QC D cy ad (some (.long r)) σ' A) args s 0 0 A)) p0 p1 σ ⟨_, hf, rfl⟩)
theorem k_X1_choices {Γ : CX} {cc : ByteArray} {nL : Nat} {own : String} {ret : Option FieldType} {rm : Room} {σ σ' : St} {pc pc' idx : Nat} {lv : List (Nat × Value)} {rest : List Value} {p0 : Int32} {p1 : Int32} {r : Int64} (hl : Cond.methodLink own idx yX1_choices ∈ TB) (hw : (rest.map fun v => v.category).sum ≤ 8) (hR : rX1_choices.frames + 1 ≤ rm.frames ∧ 8 + (5 + 11) + rX1_choices.locals ≤ rm.locals) (hd : decode cc pc = .ok (.invokestatic idx, 3)) (hp : pc + 3 = pc') (hf : f_X1_choices p0 p1 σ = some (r, σ')) (h : WW Γ cc nL own ret rm σ' pc' lv (.long r :: rest)) : WW Γ cc nL own ret rm σ pc lv (.int p1 :: .int p0 :: rest) :=
  w_callS (nn := 2) (As := [.int p0, .int p1]) (v := (some (.long r))) (c_X1_choices hf) hl mw_X1_choices (by decide +kernel) ⟨rfl, rfl⟩ hR rfl hw hd rfl hp h
/-! WarByHours.Chances.commonDivisor (JJ)J -/
def rX1_commonDivisor : Room := { frames := 0, cells := 0, slots := 0, locals := 0 }
def f_X1_commonDivisor_33 (v0 : Int64) (σ : St) : Option (Int64 × St) :=
  some (v0, σ)
theorem b_X1_commonDivisor_33 {Γ : CX} (v0 : Int64) (σ : St) (h : RR vL Γ (f_X1_commonDivisor_33 v0 σ)) : WW Γ cX1_commonDivisor 7 RX1 (some .long) rX1_commonDivisor σ 33 [(0, .long v0)] [] := by
  unfold f_X1_commonDivisor_33 at h
  refine w_lload_n 0 dX1_commonDivisor_33 rfl rfl rfl ?_
  exact w_lreturn dX1_commonDivisor_34 h
def g_X1_commonDivisor_3 (K3 : Int64 × Int64 × Int32 × St → Option (Int64 × St)) (x : Int64 × Int64 × Int32 × St) : Option (Int64 × St) := match x with
  | (v0, v2, v4, σ) =>
  if (200 : Int32) ≤ v4 then
    f_X1_commonDivisor_33 v0 σ
  else
    if (lg_cmp v2 (0 : Int64)) = 0 then
      f_X1_commonDivisor_33 v0 σ
    else
      gd (!decide (v2 = 0)) <|
      bnd ((v0 - v0 / v2 * v2)) fun x2 =>
      bnd (v4 + (1 : Int32)) fun x3 =>
      K3 (v2, x2, x3, σ)
theorem l_X1_commonDivisor_3 {Γ : CX} : ∀ (n : Nat) (v0 : Int64) (v2 : Int64) (v4 : Int32) (σ : St), RR vL Γ (itr (g_X1_commonDivisor_3) n (v0, v2, v4, σ)) → WW Γ cX1_commonDivisor 7 RX1 (some .long) rX1_commonDivisor σ 3 [(0, .long v0), (2, .long v2), (4, .int v4)] [] := by
  intro n
  induction n with
  | zero => intro v0 v2 v4 σ h; exact RR.no h
  | succ n hK3 =>
  intro v0 v2 v4 σ h
  have h : RR vL Γ (g_X1_commonDivisor_3 (itr (g_X1_commonDivisor_3) n) (v0, v2, v4, σ)) := h
  generalize itr (g_X1_commonDivisor_3) n = K3 at h hK3
  unfold g_X1_commonDivisor_3 at h
  dsimp only at h
  refine w_iload 2 dX1_commonDivisor_3 rfl rfl ?_
  refine w_sipush (200 : Int32) dX1_commonDivisor_5 ic_sipush_200 rfl ?_
  refine w_icmp_ge (tgt := 33) dX1_commonDivisor_8 (by decide) rfl (fun q => ?_) (fun q => ?_)
  · have h := h.tt q
    exact w_sub [0] rfl (b_X1_commonDivisor_33 v0 σ h)
  · have h := h.ff q
    refine w_lload_n 1 dX1_commonDivisor_11 rfl rfl rfl ?_
    refine w_lconst (0 : Int64) dX1_commonDivisor_12 rfl rfl ?_
    refine w_lcmp dX1_commonDivisor_13 rfl ?_
    refine w_if_eq (tgt := 33) dX1_commonDivisor_14 (by decide) rfl (fun q => ?_) (fun q => ?_)
    · have h := h.tt q
      exact w_sub [0] rfl (b_X1_commonDivisor_33 v0 σ h)
    · have h := h.ff q
      refine w_lload_n 0 dX1_commonDivisor_17 rfl rfl rfl ?_
      refine w_lload_n 1 dX1_commonDivisor_18 rfl rfl rfl ?_
      obtain ⟨hz1, h⟩ := h.gd
      refine w_lrem dX1_commonDivisor_19 (ne_of_gd hz1) rfl ?_
      refine w_nmL (fun x2 ex2 => ?_)
      replace h := h.bnd ex2
      clear ex2
      refine w_lstore [(5, .long x2), (0, .long v0), (2, .long v2), (4, .int v4)] dX1_commonDivisor_20 (by decide) rfl rfl ?_
      refine w_lload_n 2 dX1_commonDivisor_22 rfl rfl rfl ?_
      refine w_lstore_n [(0, .long v2), (5, .long x2), (2, .long v2), (4, .int v4)] dX1_commonDivisor_23 rfl (by decide) rfl rfl ?_
      refine w_lload 1 dX1_commonDivisor_24 rfl rfl ?_
      refine w_lstore_n [(2, .long x2), (0, .long v2), (5, .long x2), (4, .int v4)] dX1_commonDivisor_26 rfl (by decide) rfl rfl ?_
      obtain ⟨x3, ex3⟩ : ∃ y : Int32, y = (v4 + (1 : Int32)) := ⟨_, rfl⟩
      replace h := h.bnd ex3
      refine w_iinc 3 x3 [(4, .int x3), (2, .long x2), (0, .long v2), (5, .long x2)] dX1_commonDivisor_27 rfl (by rw [ex3, ic_iconst_1]) (by decide) rfl rfl ?_
      clear ex3
      refine w_goto (tgt := 3) dX1_commonDivisor_30 (by decide) ?_
      exact w_sub [2, 1, 0] rfl (hK3 v2 x2 x3 σ h)
def f_X1_commonDivisor (p0 : Int64) (p1 : Int64) (σ : St) : Option (Int64 × St) :=
  itr (g_X1_commonDivisor_3) FU (p0, p1, (0 : Int32), σ)
theorem e_X1_commonDivisor {Γ : CX} (p0 : Int64) (p1 : Int64) (σ : St) (h : RR vL Γ (f_X1_commonDivisor p0 p1 σ)) : WW Γ cX1_commonDivisor 7 RX1 (some .long) rX1_commonDivisor σ 0 [(0, .long p0), (2, .long p1)] [] := by
  unfold f_X1_commonDivisor at h
  refine w_iconst (0 : Int32) dX1_commonDivisor_0 ic_iconst_0 rfl ?_
  refine w_istore [(4, .int (0 : Int32)), (0, .long p0), (2, .long p1)] dX1_commonDivisor_1 (by decide) rfl rfl ?_
  exact w_sub [1, 2, 0] rfl (l_X1_commonDivisor_3 FU p0 p1 (0 : Int32) σ h)
theorem c_X1_commonDivisor {l : Launch} {D : va_G} {cy : Nat → ClassId} {ad : Nat → Nat} {p0 : Int64} {p1 : Int64} {σ σ' : St} {r : Int64} (hf : f_X1_commonDivisor p0 p1 σ = some (r, σ')) : CT l D cy ad yX1_commonDivisor cX1_commonDivisor 7 (some .long) rX1_commonDivisor [.long p0, .long p1] σ (some (.long r)) σ' :=
  ct_of (by decide) (Nat.le_of_ble_eq_true rfl) (fun p e s m args below meth c A => e_X1_commonDivisor (Γ := (p, l, e, rX1_commonDivisor, s, m, args, below, meth, c, D, cy, ad, A, 0, 0, MQ below (QC D cy ad (some (.long r)) σ' A) args s 0 0 A)) p0 p1 σ ⟨_, hf, rfl⟩)
theorem k_X1_commonDivisor {Γ : CX} {cc : ByteArray} {nL : Nat} {own : String} {ret : Option FieldType} {rm : Room} {σ σ' : St} {pc pc' idx : Nat} {lv : List (Nat × Value)} {rest : List Value} {p0 : Int64} {p1 : Int64} {r : Int64} (hl : Cond.methodLink own idx yX1_commonDivisor ∈ TB) (hw : (rest.map fun v => v.category).sum ≤ 8) (hR : rX1_commonDivisor.frames + 1 ≤ rm.frames ∧ 8 + (7 + 11) + rX1_commonDivisor.locals ≤ rm.locals) (hd : decode cc pc = .ok (.invokestatic idx, 3)) (hp : pc + 3 = pc') (hf : f_X1_commonDivisor p0 p1 σ = some (r, σ')) (h : WW Γ cc nL own ret rm σ' pc' lv (.long r :: rest)) : WW Γ cc nL own ret rm σ pc lv (.long p1 :: .long p0 :: rest) :=
  w_callS (nn := 2) (As := [.long p0, .long p1]) (v := (some (.long r))) (c_X1_commonDivisor hf) hl mw_X1_commonDivisor (by decide +kernel) ⟨rfl, rfl⟩ hR rfl hw hd rfl hp h
/-! WarByHours.Course.forget ()V -/
def rX2_forget : Room := { frames := 0, cells := 0, slots := 0, locals := 0 }
def f_X2_forget (σ : St) : Option (Unit × St) :=
  gd (bz (0 : Int32)) <|
  bnd (sf σ 31 5 (0 : Int32)) fun s1 =>
  some ((), s1)
theorem e_X2_forget {Γ : CX} (σ : St) (h : RR vU Γ (f_X2_forget σ)) : WW Γ cX2_forget 1 RX2 none rX2_forget σ 0 [(0, .ref (xd Γ 31))] [] := by
  unfold f_X2_forget at h
  refine w_aload_n 0 dX2_forget_0 rfl rfl rfl ?_
  refine w_iconst (0 : Int32) dX2_forget_1 ic_iconst_0 rfl ?_
  obtain ⟨hz2, h⟩ := h.gd
  refine pf_RX2_28 dX2_forget_2 hz2 rfl ?_
  obtain ⟨s1, es1⟩ : ∃ y : St, y = (sf σ 31 5 (0 : Int32)) := ⟨_, rfl⟩
  rw [← es1]
  replace h := h.bnd es1
  clear es1
  exact w_return dX2_forget_5 h
theorem c_X2_forget {l : Launch} {D : va_G} {cy : Nat → ClassId} {ad : Nat → Nat}  {σ σ' : St} {r : Unit} (hf : f_X2_forget σ = some (r, σ')) : CT l D cy ad yX2_forget cX2_forget 1 none rX2_forget [.ref (ad 31)] σ none σ' :=
  ct_of (by decide) (Nat.le_of_ble_eq_true rfl) (fun p e s m args below meth c A => e_X2_forget (Γ := (p, l, e, rX2_forget, s, m, args, below, meth, c, D, cy, ad, A, 0, 0, MQ below (QC D cy ad none σ' A) args s 0 0 A)) σ ⟨_, hf, rfl⟩)
theorem k_X2_forget {Γ : CX} {cc : ByteArray} {nL : Nat} {own : String} {ret : Option FieldType} {rm : Room} {σ σ' : St} {pc pc' idx : Nat} {lv : List (Nat × Value)} {rest : List Value}  {r : Unit} (hl : Cond.methodLink own idx yX2_forget ∈ TB) (hw : (rest.map fun v => v.category).sum ≤ 8) (hR : rX2_forget.frames + 1 ≤ rm.frames ∧ 8 + (1 + 11) + rX2_forget.locals ≤ rm.locals) (hd : decode cc pc = .ok (.invokevirtual idx, 3)) (hp : pc + 3 = pc') (hf : f_X2_forget σ = some (r, σ')) (h : WW Γ cc nL own ret rm σ' pc' lv (rest)) : WW Γ cc nL own ret rm σ pc lv (.ref (xd Γ 31) :: rest) :=
  w_callV (nn := 0) (i := 31) (As := []) (v := none) (T := TX2) (N := 6) (c_X2_forget hf) hl mw_X2_forget (by decide +kernel) ⟨rfl, rfl⟩ hR (lt_lit (by decide)) cel_31 rfl rfl hw hd rfl hp h
/-! WarByHours.Course.frontBehind (I)I -/
def rX2_frontBehind : Room := { frames := 0, cells := 0, slots := 0, locals := 0 }
def f_X2_frontBehind_23 (k0 : Int32) (σ : St) : Option (Int32 × St) :=
  some (k0, σ)
theorem b_X2_frontBehind_23 {Γ : CX} (k0 : Int32) (σ : St) (h : RR vI Γ (f_X2_frontBehind_23 k0 σ)) : WW Γ cX2_frontBehind 2 RX2 (some .int) rX2_frontBehind σ 23 [] [.int k0] := by
  unfold f_X2_frontBehind_23 at h
  exact w_ireturn dX2_frontBehind_23 h
def f_X2_frontBehind_22 (σ : St) : Option (Int32 × St) :=
  f_X2_frontBehind_23 (0 : Int32) σ
theorem b_X2_frontBehind_22 {Γ : CX} (σ : St) (h : RR vI Γ (f_X2_frontBehind_22 σ)) : WW Γ cX2_frontBehind 2 RX2 (some .int) rX2_frontBehind σ 22 [] [] := by
  unfold f_X2_frontBehind_22 at h
  refine w_iconst (0 : Int32) dX2_frontBehind_22 ic_iconst_0 rfl ?_
  exact w_sub [] rfl (b_X2_frontBehind_23 (0 : Int32) σ h)
def f_X2_frontBehind (p0 : Int32) (σ : St) : Option (Int32 × St) :=
  if p0 < 0 then
    f_X2_frontBehind_22 σ
  else
    if (nI (ln 32)) ≤ p0 then
      f_X2_frontBehind_22 σ
    else
      gd (inb p0 (ln 32)) <|
      f_X2_frontBehind_23 (gr σ 32 p0.toNatClampNeg) σ
theorem e_X2_frontBehind {Γ : CX} (p0 : Int32) (σ : St) (h : RR vI Γ (f_X2_frontBehind p0 σ)) : WW Γ cX2_frontBehind 2 RX2 (some .int) rX2_frontBehind σ 0 [(0, .ref (xd Γ 31)), (1, .int p0)] [] := by
  unfold f_X2_frontBehind at h
  refine w_iload_n 1 dX2_frontBehind_0 rfl rfl rfl ?_
  refine w_if_lt (tgt := 22) dX2_frontBehind_1 (by decide) rfl (fun q => ?_) (fun q => ?_)
  · have h := h.tt q
    exact w_sub [] rfl (b_X2_frontBehind_22 σ h)
  · have h := h.ff q
    refine w_iload_n 1 dX2_frontBehind_4 rfl rfl rfl ?_
    refine w_aload_n 0 dX2_frontBehind_5 rfl rfl rfl ?_
    refine gf_RX2_9 dX2_frontBehind_6 rfl ?_
    refine w_alen (i := 32) (lt_lit (by decide)) (Or.inl rfl) dX2_frontBehind_9 rfl ?_
    refine w_icmp_ge (tgt := 22) dX2_frontBehind_10 (by decide) rfl (fun q => ?_) (fun q => ?_)
    · have h := h.tt q
      exact w_sub [] rfl (b_X2_frontBehind_22 σ h)
    · have h := h.ff q
      refine w_aload_n 0 dX2_frontBehind_13 rfl rfl rfl ?_
      refine gf_RX2_9 dX2_frontBehind_14 rfl ?_
      refine w_iload_n 1 dX2_frontBehind_17 rfl rfl rfl ?_
      obtain ⟨hi1, h⟩ := h.gd
      refine w_iald (i := 32) (lt_lit (by decide)) rfl hi1 dX2_frontBehind_18 rfl ?_
      refine w_goto (tgt := 23) dX2_frontBehind_19 (by decide) ?_
      exact w_sub [] rfl (b_X2_frontBehind_23 (gr σ 32 p0.toNatClampNeg) σ h)
theorem c_X2_frontBehind {l : Launch} {D : va_G} {cy : Nat → ClassId} {ad : Nat → Nat} {p0 : Int32} {σ σ' : St} {r : Int32} (hf : f_X2_frontBehind p0 σ = some (r, σ')) : CT l D cy ad yX2_frontBehind cX2_frontBehind 2 (some .int) rX2_frontBehind [.ref (ad 31), .int p0] σ (some (.int r)) σ' :=
  ct_of (by decide) (Nat.le_of_ble_eq_true rfl) (fun p e s m args below meth c A => e_X2_frontBehind (Γ := (p, l, e, rX2_frontBehind, s, m, args, below, meth, c, D, cy, ad, A, 0, 0, MQ below (QC D cy ad (some (.int r)) σ' A) args s 0 0 A)) p0 σ ⟨_, hf, rfl⟩)
theorem k_X2_frontBehind {Γ : CX} {cc : ByteArray} {nL : Nat} {own : String} {ret : Option FieldType} {rm : Room} {σ σ' : St} {pc pc' idx : Nat} {lv : List (Nat × Value)} {rest : List Value} {p0 : Int32} {r : Int32} (hl : Cond.methodLink own idx yX2_frontBehind ∈ TB) (hw : (rest.map fun v => v.category).sum ≤ 8) (hR : rX2_frontBehind.frames + 1 ≤ rm.frames ∧ 8 + (2 + 11) + rX2_frontBehind.locals ≤ rm.locals) (hd : decode cc pc = .ok (.invokevirtual idx, 3)) (hp : pc + 3 = pc') (hf : f_X2_frontBehind p0 σ = some (r, σ')) (h : WW Γ cc nL own ret rm σ' pc' lv (.int r :: rest)) : WW Γ cc nL own ret rm σ pc lv (.int p0 :: .ref (xd Γ 31) :: rest) :=
  w_callV (nn := 1) (i := 31) (As := [.int p0]) (v := (some (.int r))) (T := TX2) (N := 6) (c_X2_frontBehind hf) hl mw_X2_frontBehind (by decide +kernel) ⟨rfl, rfl⟩ hR (lt_lit (by decide)) cel_31 rfl rfl hw hd rfl hp h
/-! WarByHours.Course.farthestFrom (I)I -/
def rX2_farthestFrom : Room := { frames := 1, cells := 0, slots := 0, locals := 23 }
def g_X2_farthestFrom_6 (K6 : Int32 × Int32 × Int32 × St → Option (Int32 × St)) (x : Int32 × Int32 × Int32 × St) : Option (Int32 × St) := match x with
  | (v1, v2, v3, σ) =>
  if (gf σ 1 1) < v3 then
    some (v2, σ)
  else
    bd (f_X2_frontBehind v3 σ) fun r1 s2 =>
    bd (f_X2_frontBehind v1 s2) fun r4 s5 =>
    bnd ((if v2 < (if 0 ≤ (r1 - r4) then (r1 - r4) else 0 - (r1 - r4)) then (if 0 ≤ (r1 - r4) then (r1 - r4) else 0 - (r1 - r4)) else v2)) fun x7 =>
    bnd (v3 + (1 : Int32)) fun x8 =>
    K6 (v1, x7, x8, s5)
theorem l_X2_farthestFrom_6 {Γ : CX} : ∀ (n : Nat) (v1 : Int32) (v2 : Int32) (v3 : Int32) (σ : St), RR vI Γ (itr (g_X2_farthestFrom_6) n (v1, v2, v3, σ)) → WW Γ cX2_farthestFrom 4 RX2 (some .int) rX2_farthestFrom σ 6 [(0, .ref (xd Γ 31)), (1, .int v1), (2, .int v2), (3, .int v3)] [] := by
  intro n
  induction n with
  | zero => intro v1 v2 v3 σ h; exact RR.no h
  | succ n hK6 =>
  intro v1 v2 v3 σ h
  have h : RR vI Γ (g_X2_farthestFrom_6 (itr (g_X2_farthestFrom_6) n) (v1, v2, v3, σ)) := h
  generalize itr (g_X2_farthestFrom_6) n = K6 at h hK6
  unfold g_X2_farthestFrom_6 at h
  dsimp only at h
  refine w_iload_n 3 dX2_farthestFrom_6 rfl rfl rfl ?_
  refine w_aload_n 0 dX2_farthestFrom_7 rfl rfl rfl ?_
  refine gf_RX2_24 dX2_farthestFrom_8 rfl ?_
  refine gf_RX2_32 (i := 1) (isW_lit (by decide)) dX2_farthestFrom_11 rfl ?_
  refine w_icmp_gt (tgt := 42) dX2_farthestFrom_14 (by decide) rfl (fun q => ?_) (fun q => ?_)
  · have h := h.tt q
    refine w_iload_n 2 dX2_farthestFrom_42 rfl rfl rfl ?_
    exact w_ireturn dX2_farthestFrom_43 h
  · have h := h.ff q
    refine w_iload_n 2 dX2_farthestFrom_17 rfl rfl rfl ?_
    refine w_aload_n 0 dX2_farthestFrom_18 rfl rfl rfl ?_
    refine w_iload_n 3 dX2_farthestFrom_19 rfl rfl rfl ?_
    obtain ⟨r1, s2, h3, h⟩ := h.bd
    refine k_X2_frontBehind ml_RX2_57 (Nat.le_of_ble_eq_true rfl) ⟨Nat.le_of_ble_eq_true rfl, Nat.le_of_ble_eq_true rfl⟩ dX2_farthestFrom_20 rfl h3 ?_
    refine w_aload_n 0 dX2_farthestFrom_23 rfl rfl rfl ?_
    refine w_iload_n 1 dX2_farthestFrom_24 rfl rfl rfl ?_
    obtain ⟨r4, s5, h6, h⟩ := h.bd
    refine k_X2_frontBehind ml_RX2_57 (Nat.le_of_ble_eq_true rfl) ⟨Nat.le_of_ble_eq_true rfl, Nat.le_of_ble_eq_true rfl⟩ dX2_farthestFrom_25 rfl h6 ?_
    refine w_isub dX2_farthestFrom_28 rfl ?_
    refine w_mabs ml_RX2_66 (Nat.le_of_ble_eq_true rfl) ⟨Nat.le_of_ble_eq_true rfl, Nat.le_of_ble_eq_true rfl⟩ dX2_farthestFrom_29 rfl ?_
    refine w_mmax ml_RX2_71 (Nat.le_of_ble_eq_true rfl) ⟨Nat.le_of_ble_eq_true rfl, Nat.le_of_ble_eq_true rfl⟩ dX2_farthestFrom_32 rfl ?_
    refine w_nmI (fun x7 ex7 => ?_)
    replace h := h.bnd ex7
    clear ex7
    refine w_istore_n [(2, .int x7), (0, .ref (xd Γ 31)), (1, .int v1), (3, .int v3)] dX2_farthestFrom_35 rfl (by decide) rfl rfl ?_
    obtain ⟨x8, ex8⟩ : ∃ y : Int32, y = (v3 + (1 : Int32)) := ⟨_, rfl⟩
    replace h := h.bnd ex8
    refine w_iinc 3 x8 [(3, .int x8), (2, .int x7), (0, .ref (xd Γ 31)), (1, .int v1)] dX2_farthestFrom_36 rfl (by rw [ex8, ic_iconst_1]) (by decide) rfl rfl ?_
    clear ex8
    refine w_goto (tgt := 6) dX2_farthestFrom_39 (by decide) ?_
    exact w_sub [2, 3, 1, 0] rfl (hK6 v1 x7 x8 s5 h)
def f_X2_farthestFrom (p0 : Int32) (σ : St) : Option (Int32 × St) :=
  bnd ((p0 + (1 : Int32))) fun x1 =>
  itr (g_X2_farthestFrom_6) FU (p0, (0 : Int32), x1, σ)
theorem e_X2_farthestFrom {Γ : CX} (p0 : Int32) (σ : St) (h : RR vI Γ (f_X2_farthestFrom p0 σ)) : WW Γ cX2_farthestFrom 4 RX2 (some .int) rX2_farthestFrom σ 0 [(0, .ref (xd Γ 31)), (1, .int p0)] [] := by
  unfold f_X2_farthestFrom at h
  refine w_iconst (0 : Int32) dX2_farthestFrom_0 ic_iconst_0 rfl ?_
  refine w_istore_n [(2, .int (0 : Int32)), (0, .ref (xd Γ 31)), (1, .int p0)] dX2_farthestFrom_1 rfl (by decide) rfl rfl ?_
  refine w_iload_n 2 dX2_farthestFrom_2 rfl rfl rfl ?_
  refine w_iconst (1 : Int32) dX2_farthestFrom_3 ic_iconst_1 rfl ?_
  refine w_iadd dX2_farthestFrom_4 rfl ?_
  refine w_nmI (fun x1 ex1 => ?_)
  replace h := h.bnd ex1
  clear ex1
  refine w_istore_n [(3, .int x1), (2, .int (0 : Int32)), (0, .ref (xd Γ 31)), (1, .int p0)] dX2_farthestFrom_5 rfl (by decide) rfl rfl ?_
  exact w_sub [2, 3, 1, 0] rfl (l_X2_farthestFrom_6 FU p0 (0 : Int32) x1 σ h)
theorem c_X2_farthestFrom {l : Launch} {D : va_G} {cy : Nat → ClassId} {ad : Nat → Nat} {p0 : Int32} {σ σ' : St} {r : Int32} (hf : f_X2_farthestFrom p0 σ = some (r, σ')) : CT l D cy ad yX2_farthestFrom cX2_farthestFrom 4 (some .int) rX2_farthestFrom [.ref (ad 31), .int p0] σ (some (.int r)) σ' :=
  ct_of (by decide) (Nat.le_of_ble_eq_true rfl) (fun p e s m args below meth c A => e_X2_farthestFrom (Γ := (p, l, e, rX2_farthestFrom, s, m, args, below, meth, c, D, cy, ad, A, 0, 0, MQ below (QC D cy ad (some (.int r)) σ' A) args s 0 0 A)) p0 σ ⟨_, hf, rfl⟩)
theorem k_X2_farthestFrom {Γ : CX} {cc : ByteArray} {nL : Nat} {own : String} {ret : Option FieldType} {rm : Room} {σ σ' : St} {pc pc' idx : Nat} {lv : List (Nat × Value)} {rest : List Value} {p0 : Int32} {r : Int32} (hl : Cond.methodLink own idx yX2_farthestFrom ∈ TB) (hw : (rest.map fun v => v.category).sum ≤ 8) (hR : rX2_farthestFrom.frames + 1 ≤ rm.frames ∧ 8 + (4 + 11) + rX2_farthestFrom.locals ≤ rm.locals) (hd : decode cc pc = .ok (.invokevirtual idx, 3)) (hp : pc + 3 = pc') (hf : f_X2_farthestFrom p0 σ = some (r, σ')) (h : WW Γ cc nL own ret rm σ' pc' lv (.int r :: rest)) : WW Γ cc nL own ret rm σ pc lv (.int p0 :: .ref (xd Γ 31) :: rest) :=
  w_callV (nn := 1) (i := 31) (As := [.int p0]) (v := (some (.int r))) (T := TX2) (N := 6) (c_X2_farthestFrom hf) hl mw_X2_farthestFrom (by decide +kernel) ⟨rfl, rfl⟩ hR (lt_lit (by decide)) cel_31 rfl rfl hw hd rfl hp h
/-! WarByHours.Course.treatyEnds ()J -/
def rX2_treatyEnds : Room := { frames := 2, cells := 0, slots := 0, locals := 46 }
def f_X2_treatyEnds_38 (K4 : Int64 × Int32 × St → Option (Int64 × St)) (v1 : Int64) (v3 : Int32) (σ : St) : Option (Int64 × St) :=
  bnd (v3 + (1 : Int32)) fun x1 =>
  K4 (v1, x1, σ)
theorem b_X2_treatyEnds_38 {Γ : CX} (K4 : Int64 × Int32 × St → Option (Int64 × St)) (hK4 : ∀ (v1 : Int64) (v3 : Int32) (σ : St), RR vL Γ (K4 (v1, v3, σ)) → WW Γ cX2_treatyEnds 4 RX2 (some .long) rX2_treatyEnds σ 4 [(0, .ref (xd Γ 31)), (1, .long v1), (3, .int v3)] []) (v1 : Int64) (v3 : Int32) (σ : St) (h : RR vL Γ (f_X2_treatyEnds_38 K4 v1 v3 σ)) : WW Γ cX2_treatyEnds 4 RX2 (some .long) rX2_treatyEnds σ 38 [(0, .ref (xd Γ 31)), (1, .long v1), (3, .int v3)] [] := by
  unfold f_X2_treatyEnds_38 at h
  obtain ⟨x1, ex1⟩ : ∃ y : Int32, y = (v3 + (1 : Int32)) := ⟨_, rfl⟩
  replace h := h.bnd ex1
  refine w_iinc 2 x1 [(3, .int x1), (0, .ref (xd Γ 31)), (1, .long v1)] dX2_treatyEnds_38 rfl (by rw [ex1, ic_iconst_1]) (by decide) rfl rfl ?_
  clear ex1
  refine w_goto (tgt := 4) dX2_treatyEnds_41 (by decide) ?_
  exact w_sub [1, 2, 0] rfl (hK4 v1 x1 σ h)
def g_X2_treatyEnds_4 (K4 : Int64 × Int32 × St → Option (Int64 × St)) (x : Int64 × Int32 × St) : Option (Int64 × St) := match x with
  | (v1, v3, σ) =>
  if (gf σ 1 1) < v3 then
    some (v1, σ)
  else
    bd (f_X2_farthestFrom v3 σ) fun r1 s2 =>
    if (gf s2 1 3) < r1 then
      f_X2_treatyEnds_38 K4 v1 v3 s2
    else
      bnd ((v1 ||| ((1 : Int64) <<< ((v3 - (1 : Int32)).toInt64 &&& 63)))) fun x4 =>
      f_X2_treatyEnds_38 K4 x4 v3 s2
theorem l_X2_treatyEnds_4 {Γ : CX} : ∀ (n : Nat) (v1 : Int64) (v3 : Int32) (σ : St), RR vL Γ (itr (g_X2_treatyEnds_4) n (v1, v3, σ)) → WW Γ cX2_treatyEnds 4 RX2 (some .long) rX2_treatyEnds σ 4 [(0, .ref (xd Γ 31)), (1, .long v1), (3, .int v3)] [] := by
  intro n
  induction n with
  | zero => intro v1 v3 σ h; exact RR.no h
  | succ n hK4 =>
  intro v1 v3 σ h
  have h : RR vL Γ (g_X2_treatyEnds_4 (itr (g_X2_treatyEnds_4) n) (v1, v3, σ)) := h
  generalize itr (g_X2_treatyEnds_4) n = K4 at h hK4
  unfold g_X2_treatyEnds_4 at h
  dsimp only at h
  refine w_iload_n 2 dX2_treatyEnds_4 rfl rfl rfl ?_
  refine w_aload_n 0 dX2_treatyEnds_5 rfl rfl rfl ?_
  refine gf_RX2_24 dX2_treatyEnds_6 rfl ?_
  refine gf_RX2_32 (i := 1) (isW_lit (by decide)) dX2_treatyEnds_9 rfl ?_
  refine w_icmp_gt (tgt := 44) dX2_treatyEnds_12 (by decide) rfl (fun q => ?_) (fun q => ?_)
  · have h := h.tt q
    refine w_lload_n 1 dX2_treatyEnds_44 rfl rfl rfl ?_
    exact w_lreturn dX2_treatyEnds_45 h
  · have h := h.ff q
    refine w_aload_n 0 dX2_treatyEnds_15 rfl rfl rfl ?_
    refine w_iload_n 2 dX2_treatyEnds_16 rfl rfl rfl ?_
    obtain ⟨r1, s2, h3, h⟩ := h.bd
    refine k_X2_farthestFrom ml_RX2_74 (Nat.le_of_ble_eq_true rfl) ⟨Nat.le_of_ble_eq_true rfl, Nat.le_of_ble_eq_true rfl⟩ dX2_treatyEnds_17 rfl h3 ?_
    refine w_aload_n 0 dX2_treatyEnds_20 rfl rfl rfl ?_
    refine gf_RX2_24 dX2_treatyEnds_21 rfl ?_
    refine gf_RX2_77 (i := 1) (isW_lit (by decide)) dX2_treatyEnds_24 rfl ?_
    refine w_icmp_gt (tgt := 38) dX2_treatyEnds_27 (by decide) rfl (fun q => ?_) (fun q => ?_)
    · have h := h.tt q
      exact w_sub [0, 1, 2] rfl (b_X2_treatyEnds_38 K4 hK4 v1 v3 s2 h)
    · have h := h.ff q
      refine w_lload_n 1 dX2_treatyEnds_30 rfl rfl rfl ?_
      refine w_lconst (1 : Int64) dX2_treatyEnds_31 rfl rfl ?_
      refine w_iload_n 2 dX2_treatyEnds_32 rfl rfl rfl ?_
      refine w_iconst (1 : Int32) dX2_treatyEnds_33 ic_iconst_1 rfl ?_
      refine w_isub dX2_treatyEnds_34 rfl ?_
      refine w_lshl dX2_treatyEnds_35 rfl ?_
      refine w_lor dX2_treatyEnds_36 rfl ?_
      refine w_nmL (fun x4 ex4 => ?_)
      replace h := h.bnd ex4
      clear ex4
      refine w_lstore_n [(1, .long x4), (0, .ref (xd Γ 31)), (3, .int v3)] dX2_treatyEnds_37 rfl (by decide) rfl rfl ?_
      exact w_sub [1, 0, 2] rfl (b_X2_treatyEnds_38 K4 hK4 x4 v3 s2 h)
def f_X2_treatyEnds (σ : St) : Option (Int64 × St) :=
  itr (g_X2_treatyEnds_4) FU ((0 : Int64), (1 : Int32), σ)
theorem e_X2_treatyEnds {Γ : CX} (σ : St) (h : RR vL Γ (f_X2_treatyEnds σ)) : WW Γ cX2_treatyEnds 4 RX2 (some .long) rX2_treatyEnds σ 0 [(0, .ref (xd Γ 31))] [] := by
  unfold f_X2_treatyEnds at h
  refine w_lconst (0 : Int64) dX2_treatyEnds_0 rfl rfl ?_
  refine w_lstore_n [(1, .long (0 : Int64)), (0, .ref (xd Γ 31))] dX2_treatyEnds_1 rfl (by decide) rfl rfl ?_
  refine w_iconst (1 : Int32) dX2_treatyEnds_2 ic_iconst_1 rfl ?_
  refine w_istore_n [(3, .int (1 : Int32)), (1, .long (0 : Int64)), (0, .ref (xd Γ 31))] dX2_treatyEnds_3 rfl (by decide) rfl rfl ?_
  exact w_sub [2, 1, 0] rfl (l_X2_treatyEnds_4 FU (0 : Int64) (1 : Int32) σ h)
theorem c_X2_treatyEnds {l : Launch} {D : va_G} {cy : Nat → ClassId} {ad : Nat → Nat}  {σ σ' : St} {r : Int64} (hf : f_X2_treatyEnds σ = some (r, σ')) : CT l D cy ad yX2_treatyEnds cX2_treatyEnds 4 (some .long) rX2_treatyEnds [.ref (ad 31)] σ (some (.long r)) σ' :=
  ct_of (by decide) (Nat.le_of_ble_eq_true rfl) (fun p e s m args below meth c A => e_X2_treatyEnds (Γ := (p, l, e, rX2_treatyEnds, s, m, args, below, meth, c, D, cy, ad, A, 0, 0, MQ below (QC D cy ad (some (.long r)) σ' A) args s 0 0 A)) σ ⟨_, hf, rfl⟩)
theorem k_X2_treatyEnds {Γ : CX} {cc : ByteArray} {nL : Nat} {own : String} {ret : Option FieldType} {rm : Room} {σ σ' : St} {pc pc' idx : Nat} {lv : List (Nat × Value)} {rest : List Value}  {r : Int64} (hl : Cond.methodLink own idx yX2_treatyEnds ∈ TB) (hw : (rest.map fun v => v.category).sum ≤ 8) (hR : rX2_treatyEnds.frames + 1 ≤ rm.frames ∧ 8 + (4 + 11) + rX2_treatyEnds.locals ≤ rm.locals) (hd : decode cc pc = .ok (.invokevirtual idx, 3)) (hp : pc + 3 = pc') (hf : f_X2_treatyEnds σ = some (r, σ')) (h : WW Γ cc nL own ret rm σ' pc' lv (.long r :: rest)) : WW Γ cc nL own ret rm σ pc lv (.ref (xd Γ 31) :: rest) :=
  w_callV (nn := 0) (i := 31) (As := []) (v := (some (.long r))) (T := TX2) (N := 6) (c_X2_treatyEnds hf) hl mw_X2_treatyEnds (by decide +kernel) ⟨rfl, rfl⟩ hR (lt_lit (by decide)) cel_31 rfl rfl hw hd rfl hp h
/-! WarByHours.Course.reckonedWinner (I)I -/
def rX2_reckonedWinner : Room := { frames := 0, cells := 0, slots := 0, locals := 0 }
def f_X2_reckonedWinner_21 (k0 : Int32) (σ : St) : Option (Int32 × St) :=
  some (k0, σ)
theorem b_X2_reckonedWinner_21 {Γ : CX} (k0 : Int32) (σ : St) (h : RR vI Γ (f_X2_reckonedWinner_21 k0 σ)) : WW Γ cX2_reckonedWinner 2 RX2 (some .int) rX2_reckonedWinner σ 21 [] [.int k0] := by
  unfold f_X2_reckonedWinner_21 at h
  exact w_ireturn dX2_reckonedWinner_21 h
def f_X2_reckonedWinner_20 (σ : St) : Option (Int32 × St) :=
  f_X2_reckonedWinner_21 (-1 : Int32) σ
theorem b_X2_reckonedWinner_20 {Γ : CX} (σ : St) (h : RR vI Γ (f_X2_reckonedWinner_20 σ)) : WW Γ cX2_reckonedWinner 2 RX2 (some .int) rX2_reckonedWinner σ 20 [] [] := by
  unfold f_X2_reckonedWinner_20 at h
  refine w_iconst (-1 : Int32) dX2_reckonedWinner_20 ic_iconst_m1 rfl ?_
  exact w_sub [] rfl (b_X2_reckonedWinner_21 (-1 : Int32) σ h)
def f_X2_reckonedWinner (p0 : Int32) (σ : St) : Option (Int32 × St) :=
  if p0 < 0 then
    f_X2_reckonedWinner_20 σ
  else
    if (512 : Int32) ≤ p0 then
      f_X2_reckonedWinner_20 σ
    else
      gd (inb p0 (ln 35)) <|
      f_X2_reckonedWinner_21 (gr σ 35 p0.toNatClampNeg) σ
theorem e_X2_reckonedWinner {Γ : CX} (p0 : Int32) (σ : St) (h : RR vI Γ (f_X2_reckonedWinner p0 σ)) : WW Γ cX2_reckonedWinner 2 RX2 (some .int) rX2_reckonedWinner σ 0 [(0, .ref (xd Γ 31)), (1, .int p0)] [] := by
  unfold f_X2_reckonedWinner at h
  refine w_iload_n 1 dX2_reckonedWinner_0 rfl rfl rfl ?_
  refine w_if_lt (tgt := 20) dX2_reckonedWinner_1 (by decide) rfl (fun q => ?_) (fun q => ?_)
  · have h := h.tt q
    exact w_sub [] rfl (b_X2_reckonedWinner_20 σ h)
  · have h := h.ff q
    refine w_iload_n 1 dX2_reckonedWinner_4 rfl rfl rfl ?_
    refine w_sipush (512 : Int32) dX2_reckonedWinner_5 ic_sipush_512 rfl ?_
    refine w_icmp_ge (tgt := 20) dX2_reckonedWinner_8 (by decide) rfl (fun q => ?_) (fun q => ?_)
    · have h := h.tt q
      exact w_sub [] rfl (b_X2_reckonedWinner_20 σ h)
    · have h := h.ff q
      refine w_aload_n 0 dX2_reckonedWinner_11 rfl rfl rfl ?_
      refine gf_RX2_21 dX2_reckonedWinner_12 rfl ?_
      refine w_iload_n 1 dX2_reckonedWinner_15 rfl rfl rfl ?_
      obtain ⟨hi1, h⟩ := h.gd
      refine w_iald (i := 35) (lt_lit (by decide)) rfl hi1 dX2_reckonedWinner_16 rfl ?_
      refine w_goto (tgt := 21) dX2_reckonedWinner_17 (by decide) ?_
      exact w_sub [] rfl (b_X2_reckonedWinner_21 (gr σ 35 p0.toNatClampNeg) σ h)
theorem c_X2_reckonedWinner {l : Launch} {D : va_G} {cy : Nat → ClassId} {ad : Nat → Nat} {p0 : Int32} {σ σ' : St} {r : Int32} (hf : f_X2_reckonedWinner p0 σ = some (r, σ')) : CT l D cy ad yX2_reckonedWinner cX2_reckonedWinner 2 (some .int) rX2_reckonedWinner [.ref (ad 31), .int p0] σ (some (.int r)) σ' :=
  ct_of (by decide) (Nat.le_of_ble_eq_true rfl) (fun p e s m args below meth c A => e_X2_reckonedWinner (Γ := (p, l, e, rX2_reckonedWinner, s, m, args, below, meth, c, D, cy, ad, A, 0, 0, MQ below (QC D cy ad (some (.int r)) σ' A) args s 0 0 A)) p0 σ ⟨_, hf, rfl⟩)
theorem k_X2_reckonedWinner {Γ : CX} {cc : ByteArray} {nL : Nat} {own : String} {ret : Option FieldType} {rm : Room} {σ σ' : St} {pc pc' idx : Nat} {lv : List (Nat × Value)} {rest : List Value} {p0 : Int32} {r : Int32} (hl : Cond.methodLink own idx yX2_reckonedWinner ∈ TB) (hw : (rest.map fun v => v.category).sum ≤ 8) (hR : rX2_reckonedWinner.frames + 1 ≤ rm.frames ∧ 8 + (2 + 11) + rX2_reckonedWinner.locals ≤ rm.locals) (hd : decode cc pc = .ok (.invokevirtual idx, 3)) (hp : pc + 3 = pc') (hf : f_X2_reckonedWinner p0 σ = some (r, σ')) (h : WW Γ cc nL own ret rm σ' pc' lv (.int r :: rest)) : WW Γ cc nL own ret rm σ pc lv (.int p0 :: .ref (xd Γ 31) :: rest) :=
  w_callV (nn := 1) (i := 31) (As := [.int p0]) (v := (some (.int r))) (T := TX2) (N := 6) (c_X2_reckonedWinner hf) hl mw_X2_reckonedWinner (by decide +kernel) ⟨rfl, rfl⟩ hR (lt_lit (by decide)) cel_31 rfl rfl hw hd rfl hp h
/-! WarByHours.Course.winner (II)I -/
def rX2_winner : Room := { frames := 0, cells := 0, slots := 0, locals := 0 }
def f_X2_winner_49 (k0 : Int32) (σ : St) : Option (Int32 × St) :=
  some (k0, σ)
theorem b_X2_winner_49 {Γ : CX} (k0 : Int32) (σ : St) (h : RR vI Γ (f_X2_winner_49 k0 σ)) : WW Γ cX2_winner 2 RX2 (some .int) rX2_winner σ 49 [] [.int k0] := by
  unfold f_X2_winner_49 at h
  exact w_ireturn dX2_winner_49 h
def f_X2_winner (p0 : Int32) (p1 : Int32) (σ : St) : Option (Int32 × St) :=
  if p0 = (1 : Int32) then
    some ((1 : Int32), σ)
  else
  if p0 = (2 : Int32) then
    some ((0 : Int32), σ)
  else
    if p1 ≤ 0 then
    if 0 ≤ p1 then
      f_X2_winner_49 (-1 : Int32) σ
    else
      f_X2_winner_49 (1 : Int32) σ
  else
    f_X2_winner_49 (0 : Int32) σ
theorem e_X2_winner {Γ : CX} (p0 : Int32) (p1 : Int32) (σ : St) (h : RR vI Γ (f_X2_winner p0 p1 σ)) : WW Γ cX2_winner 2 RX2 (some .int) rX2_winner σ 0 [(0, .int p0), (1, .int p1)] [] := by
  unfold f_X2_winner at h
  refine w_iload_n 0 dX2_winner_0 rfl rfl rfl ?_
  by_cases q1 : p0 = (1 : Int32)
  · have h := h.tt q1
    refine w_lsw (1 : Int32) q1 (tgt := 28) dX2_winner_1 (by decide) rfl (by decide) ?_
    refine w_iconst (1 : Int32) dX2_winner_28 ic_iconst_1 rfl ?_
    exact w_ireturn dX2_winner_29 h
  have h := h.ff q1
  by_cases q2 : p0 = (2 : Int32)
  · have h := h.tt q2
    refine w_lsw (2 : Int32) q2 (tgt := 30) dX2_winner_1 (by decide) rfl (by decide) ?_
    refine w_iconst (0 : Int32) dX2_winner_30 ic_iconst_0 rfl ?_
    exact w_ireturn dX2_winner_31 h
  have h := h.ff q2
  refine w_lookup (tgt := 32) (off := 31) dX2_winner_1 (by decide) (by simp [Op.lookupswitch.offset, i32_en q1 (z := 1) rfl, i32_en q2 (z := 2) rfl]) (by decide) ?_
  refine w_iload_n 1 dX2_winner_32 rfl rfl rfl ?_
  refine w_if_le (tgt := 40) dX2_winner_33 (by decide) rfl (fun q => ?_) (fun q => ?_)
  · have h := h.tt q
    refine w_iload_n 1 dX2_winner_40 rfl rfl rfl ?_
    refine w_if_ge (tgt := 48) dX2_winner_41 (by decide) rfl (fun q => ?_) (fun q => ?_)
    · have h := h.tt q
      refine w_iconst (-1 : Int32) dX2_winner_48 ic_iconst_m1 rfl ?_
      exact w_sub [] rfl (b_X2_winner_49 (-1 : Int32) σ h)
    · have h := h.ff q
      refine w_iconst (1 : Int32) dX2_winner_44 ic_iconst_1 rfl ?_
      refine w_goto (tgt := 49) dX2_winner_45 (by decide) ?_
      exact w_sub [] rfl (b_X2_winner_49 (1 : Int32) σ h)
  · have h := h.ff q
    refine w_iconst (0 : Int32) dX2_winner_36 ic_iconst_0 rfl ?_
    refine w_goto (tgt := 49) dX2_winner_37 (by decide) ?_
    exact w_sub [] rfl (b_X2_winner_49 (0 : Int32) σ h)
theorem c_X2_winner {l : Launch} {D : va_G} {cy : Nat → ClassId} {ad : Nat → Nat} {p0 : Int32} {p1 : Int32} {σ σ' : St} {r : Int32} (hf : f_X2_winner p0 p1 σ = some (r, σ')) : CT l D cy ad yX2_winner cX2_winner 2 (some .int) rX2_winner [.int p0, .int p1] σ (some (.int r)) σ' :=
  ct_of (by decide) (Nat.le_of_ble_eq_true rfl) (fun p e s m args below meth c A => e_X2_winner (Γ := (p, l, e, rX2_winner, s, m, args, below, meth, c, D, cy, ad, A, 0, 0, MQ below (QC D cy ad (some (.int r)) σ' A) args s 0 0 A)) p0 p1 σ ⟨_, hf, rfl⟩)
theorem k_X2_winner {Γ : CX} {cc : ByteArray} {nL : Nat} {own : String} {ret : Option FieldType} {rm : Room} {σ σ' : St} {pc pc' idx : Nat} {lv : List (Nat × Value)} {rest : List Value} {p0 : Int32} {p1 : Int32} {r : Int32} (hl : Cond.methodLink own idx yX2_winner ∈ TB) (hw : (rest.map fun v => v.category).sum ≤ 8) (hR : rX2_winner.frames + 1 ≤ rm.frames ∧ 8 + (2 + 11) + rX2_winner.locals ≤ rm.locals) (hd : decode cc pc = .ok (.invokestatic idx, 3)) (hp : pc + 3 = pc') (hf : f_X2_winner p0 p1 σ = some (r, σ')) (h : WW Γ cc nL own ret rm σ' pc' lv (.int r :: rest)) : WW Γ cc nL own ret rm σ pc lv (.int p1 :: .int p0 :: rest) :=
  w_callS (nn := 2) (As := [.int p0, .int p1]) (v := (some (.int r))) (c_X2_winner hf) hl mw_X2_winner (by decide +kernel) ⟨rfl, rfl⟩ hR rfl hw hd rfl hp h
/-! WarByHours.Course.good (II)I -/
def rX2_good : Room := { frames := 0, cells := 0, slots := 0, locals := 0 }
def f_X2_good_10 (k0 : Int32) (σ : St) : Option (Int32 × St) :=
  some (k0, σ)
theorem b_X2_good_10 {Γ : CX} (k0 : Int32) (σ : St) (h : RR vI Γ (f_X2_good_10 k0 σ)) : WW Γ cX2_good 2 RX2 (some .int) rX2_good σ 10 [] [.int k0] := by
  unfold f_X2_good_10 at h
  exact w_ireturn dX2_good_10 h
def f_X2_good (p0 : Int32) (p1 : Int32) (σ : St) : Option (Int32 × St) :=
  if p0 = 0 then
    f_X2_good_10 p1 σ
  else
    f_X2_good_10 (-p1) σ
theorem e_X2_good {Γ : CX} (p0 : Int32) (p1 : Int32) (σ : St) (h : RR vI Γ (f_X2_good p0 p1 σ)) : WW Γ cX2_good 2 RX2 (some .int) rX2_good σ 0 [(0, .int p0), (1, .int p1)] [] := by
  unfold f_X2_good at h
  refine w_iload_n 0 dX2_good_0 rfl rfl rfl ?_
  refine w_if_ne (tgt := 8) dX2_good_1 (by decide) rfl (fun q => ?_) (fun q => ?_)
  · have h := h.ff q
    refine w_iload_n 1 dX2_good_8 rfl rfl rfl ?_
    refine w_ineg dX2_good_9 rfl ?_
    exact w_sub [] rfl (b_X2_good_10 (-p1) σ h)
  · have h := h.tt q
    refine w_iload_n 1 dX2_good_4 rfl rfl rfl ?_
    refine w_goto (tgt := 10) dX2_good_5 (by decide) ?_
    exact w_sub [] rfl (b_X2_good_10 p1 σ h)
theorem c_X2_good {l : Launch} {D : va_G} {cy : Nat → ClassId} {ad : Nat → Nat} {p0 : Int32} {p1 : Int32} {σ σ' : St} {r : Int32} (hf : f_X2_good p0 p1 σ = some (r, σ')) : CT l D cy ad yX2_good cX2_good 2 (some .int) rX2_good [.int p0, .int p1] σ (some (.int r)) σ' :=
  ct_of (by decide) (Nat.le_of_ble_eq_true rfl) (fun p e s m args below meth c A => e_X2_good (Γ := (p, l, e, rX2_good, s, m, args, below, meth, c, D, cy, ad, A, 0, 0, MQ below (QC D cy ad (some (.int r)) σ' A) args s 0 0 A)) p0 p1 σ ⟨_, hf, rfl⟩)
theorem k_X2_good {Γ : CX} {cc : ByteArray} {nL : Nat} {own : String} {ret : Option FieldType} {rm : Room} {σ σ' : St} {pc pc' idx : Nat} {lv : List (Nat × Value)} {rest : List Value} {p0 : Int32} {p1 : Int32} {r : Int32} (hl : Cond.methodLink own idx yX2_good ∈ TB) (hw : (rest.map fun v => v.category).sum ≤ 8) (hR : rX2_good.frames + 1 ≤ rm.frames ∧ 8 + (2 + 11) + rX2_good.locals ≤ rm.locals) (hd : decode cc pc = .ok (.invokestatic idx, 3)) (hp : pc + 3 = pc') (hf : f_X2_good p0 p1 σ = some (r, σ')) (h : WW Γ cc nL own ret rm σ' pc' lv (.int r :: rest)) : WW Γ cc nL own ret rm σ pc lv (.int p1 :: .int p0 :: rest) :=
  w_callS (nn := 2) (As := [.int p0, .int p1]) (v := (some (.int r))) (c_X2_good hf) hl mw_X2_good (by decide +kernel) ⟨rfl, rfl⟩ hR rfl hw hd rfl hp h
/-! WarByHours.Course.signOf (I)I -/
def rX2_signOf : Room := { frames := 0, cells := 0, slots := 0, locals := 0 }
def f_X2_signOf_17 (k0 : Int32) (σ : St) : Option (Int32 × St) :=
  some (k0, σ)
theorem b_X2_signOf_17 {Γ : CX} (k0 : Int32) (σ : St) (h : RR vI Γ (f_X2_signOf_17 k0 σ)) : WW Γ cX2_signOf 1 RX2 (some .int) rX2_signOf σ 17 [] [.int k0] := by
  unfold f_X2_signOf_17 at h
  exact w_ireturn dX2_signOf_17 h
def f_X2_signOf (p0 : Int32) (σ : St) : Option (Int32 × St) :=
  if p0 ≤ 0 then
    if 0 ≤ p0 then
      f_X2_signOf_17 (0 : Int32) σ
    else
      f_X2_signOf_17 (-1 : Int32) σ
  else
    f_X2_signOf_17 (1 : Int32) σ
theorem e_X2_signOf {Γ : CX} (p0 : Int32) (σ : St) (h : RR vI Γ (f_X2_signOf p0 σ)) : WW Γ cX2_signOf 1 RX2 (some .int) rX2_signOf σ 0 [(0, .int p0)] [] := by
  unfold f_X2_signOf at h
  refine w_iload_n 0 dX2_signOf_0 rfl rfl rfl ?_
  refine w_if_le (tgt := 8) dX2_signOf_1 (by decide) rfl (fun q => ?_) (fun q => ?_)
  · have h := h.tt q
    refine w_iload_n 0 dX2_signOf_8 rfl rfl rfl ?_
    refine w_if_ge (tgt := 16) dX2_signOf_9 (by decide) rfl (fun q => ?_) (fun q => ?_)
    · have h := h.tt q
      refine w_iconst (0 : Int32) dX2_signOf_16 ic_iconst_0 rfl ?_
      exact w_sub [] rfl (b_X2_signOf_17 (0 : Int32) σ h)
    · have h := h.ff q
      refine w_iconst (-1 : Int32) dX2_signOf_12 ic_iconst_m1 rfl ?_
      refine w_goto (tgt := 17) dX2_signOf_13 (by decide) ?_
      exact w_sub [] rfl (b_X2_signOf_17 (-1 : Int32) σ h)
  · have h := h.ff q
    refine w_iconst (1 : Int32) dX2_signOf_4 ic_iconst_1 rfl ?_
    refine w_goto (tgt := 17) dX2_signOf_5 (by decide) ?_
    exact w_sub [] rfl (b_X2_signOf_17 (1 : Int32) σ h)
theorem c_X2_signOf {l : Launch} {D : va_G} {cy : Nat → ClassId} {ad : Nat → Nat} {p0 : Int32} {σ σ' : St} {r : Int32} (hf : f_X2_signOf p0 σ = some (r, σ')) : CT l D cy ad yX2_signOf cX2_signOf 1 (some .int) rX2_signOf [.int p0] σ (some (.int r)) σ' :=
  ct_of (by decide) (Nat.le_of_ble_eq_true rfl) (fun p e s m args below meth c A => e_X2_signOf (Γ := (p, l, e, rX2_signOf, s, m, args, below, meth, c, D, cy, ad, A, 0, 0, MQ below (QC D cy ad (some (.int r)) σ' A) args s 0 0 A)) p0 σ ⟨_, hf, rfl⟩)
theorem k_X2_signOf {Γ : CX} {cc : ByteArray} {nL : Nat} {own : String} {ret : Option FieldType} {rm : Room} {σ σ' : St} {pc pc' idx : Nat} {lv : List (Nat × Value)} {rest : List Value} {p0 : Int32} {r : Int32} (hl : Cond.methodLink own idx yX2_signOf ∈ TB) (hw : (rest.map fun v => v.category).sum ≤ 8) (hR : rX2_signOf.frames + 1 ≤ rm.frames ∧ 8 + (1 + 11) + rX2_signOf.locals ≤ rm.locals) (hd : decode cc pc = .ok (.invokestatic idx, 3)) (hp : pc + 3 = pc') (hf : f_X2_signOf p0 σ = some (r, σ')) (h : WW Γ cc nL own ret rm σ' pc' lv (.int r :: rest)) : WW Γ cc nL own ret rm σ pc lv (.int p0 :: rest) :=
  w_callS (nn := 1) (As := [.int p0]) (v := (some (.int r))) (c_X2_signOf hf) hl mw_X2_signOf (by decide +kernel) ⟨rfl, rfl⟩ hR rfl hw hd rfl hp h
/-! WarByHours.Fares.isBought (III)Z -/
def rX3_isBought : Room := { frames := 0, cells := 0, slots := 0, locals := 0 }
def f_X3_isBought_42 (k0 : Int32) (σ : St) : Option (Int32 × St) :=
  gd (bz k0) <| some (k0, σ)
theorem b_X3_isBought_42 {Γ : CX} (k0 : Int32) (σ : St) (h : RR vI Γ (f_X3_isBought_42 k0 σ)) : WW Γ cX3_isBought 4 RX3 (some .boolean) rX3_isBought σ 42 [] [.int k0] := by
  unfold f_X3_isBought_42 at h
  obtain ⟨hb, h⟩ := h.gd
  exact w_zreturn dX3_isBought_42 hb h
def f_X3_isBought_41 (σ : St) : Option (Int32 × St) :=
  f_X3_isBought_42 (0 : Int32) σ
theorem b_X3_isBought_41 {Γ : CX} (σ : St) (h : RR vI Γ (f_X3_isBought_41 σ)) : WW Γ cX3_isBought 4 RX3 (some .boolean) rX3_isBought σ 41 [] [] := by
  unfold f_X3_isBought_41 at h
  refine w_iconst (0 : Int32) dX3_isBought_41 ic_iconst_0 rfl ?_
  exact w_sub [] rfl (b_X3_isBought_42 (0 : Int32) σ h)
def f_X3_isBought (p0 : Int32) (p1 : Int32) (p2 : Int32) (σ : St) : Option (Int32 × St) :=
  if p0 < 0 then
    f_X3_isBought_41 σ
  else
    if (512 : Int32) ≤ p0 then
      f_X3_isBought_41 σ
    else
      gd (inb (p0 &&& p1) (ln 37)) <|
      if p2 < (gr σ 37 (p0 &&& p1).toNatClampNeg) then
        f_X3_isBought_41 σ
      else
        gd (inb (p0 &&& (p1 ^^^ (-1 : Int32))) (ln 37)) <|
        if p2 < (gr σ 37 (p0 &&& (p1 ^^^ (-1 : Int32))).toNatClampNeg) then
          f_X3_isBought_41 σ
        else
          f_X3_isBought_42 (1 : Int32) σ
theorem e_X3_isBought {Γ : CX} (p0 : Int32) (p1 : Int32) (p2 : Int32) (σ : St) (h : RR vI Γ (f_X3_isBought p0 p1 p2 σ)) : WW Γ cX3_isBought 4 RX3 (some .boolean) rX3_isBought σ 0 [(0, .ref (xd Γ 36)), (1, .int p0), (2, .int p1), (3, .int p2)] [] := by
  unfold f_X3_isBought at h
  refine w_iload_n 1 dX3_isBought_0 rfl rfl rfl ?_
  refine w_if_lt (tgt := 41) dX3_isBought_1 (by decide) rfl (fun q => ?_) (fun q => ?_)
  · have h := h.tt q
    exact w_sub [] rfl (b_X3_isBought_41 σ h)
  · have h := h.ff q
    refine w_iload_n 1 dX3_isBought_4 rfl rfl rfl ?_
    refine w_sipush (512 : Int32) dX3_isBought_5 ic_sipush_512 rfl ?_
    refine w_icmp_ge (tgt := 41) dX3_isBought_8 (by decide) rfl (fun q => ?_) (fun q => ?_)
    · have h := h.tt q
      exact w_sub [] rfl (b_X3_isBought_41 σ h)
    · have h := h.ff q
      refine w_aload_n 0 dX3_isBought_11 rfl rfl rfl ?_
      refine gf_RX3_9 dX3_isBought_12 rfl ?_
      refine w_iload_n 1 dX3_isBought_15 rfl rfl rfl ?_
      refine w_iload_n 2 dX3_isBought_16 rfl rfl rfl ?_
      refine w_iand dX3_isBought_17 rfl ?_
      obtain ⟨hi1, h⟩ := h.gd
      refine w_iald (i := 37) (lt_lit (by decide)) rfl hi1 dX3_isBought_18 rfl ?_
      refine w_iload_n 3 dX3_isBought_19 rfl rfl rfl ?_
      refine w_icmp_gt (tgt := 41) dX3_isBought_20 (by decide) rfl (fun q => ?_) (fun q => ?_)
      · have h := h.tt q
        exact w_sub [] rfl (b_X3_isBought_41 σ h)
      · have h := h.ff q
        refine w_aload_n 0 dX3_isBought_23 rfl rfl rfl ?_
        refine gf_RX3_9 dX3_isBought_24 rfl ?_
        refine w_iload_n 1 dX3_isBought_27 rfl rfl rfl ?_
        refine w_iload_n 2 dX3_isBought_28 rfl rfl rfl ?_
        refine w_iconst (-1 : Int32) dX3_isBought_29 ic_iconst_m1 rfl ?_
        refine w_ixor dX3_isBought_30 rfl ?_
        refine w_iand dX3_isBought_31 rfl ?_
        obtain ⟨hi2, h⟩ := h.gd
        refine w_iald (i := 37) (lt_lit (by decide)) rfl hi2 dX3_isBought_32 rfl ?_
        refine w_iload_n 3 dX3_isBought_33 rfl rfl rfl ?_
        refine w_icmp_gt (tgt := 41) dX3_isBought_34 (by decide) rfl (fun q => ?_) (fun q => ?_)
        · have h := h.tt q
          exact w_sub [] rfl (b_X3_isBought_41 σ h)
        · have h := h.ff q
          refine w_iconst (1 : Int32) dX3_isBought_37 ic_iconst_1 rfl ?_
          refine w_goto (tgt := 42) dX3_isBought_38 (by decide) ?_
          exact w_sub [] rfl (b_X3_isBought_42 (1 : Int32) σ h)
theorem c_X3_isBought {l : Launch} {D : va_G} {cy : Nat → ClassId} {ad : Nat → Nat} {p0 : Int32} {p1 : Int32} {p2 : Int32} {σ σ' : St} {r : Int32} (hf : f_X3_isBought p0 p1 p2 σ = some (r, σ')) : CT l D cy ad yX3_isBought cX3_isBought 4 (some .boolean) rX3_isBought [.ref (ad 36), .int p0, .int p1, .int p2] σ (some (.int r)) σ' :=
  ct_of (by decide) (Nat.le_of_ble_eq_true rfl) (fun p e s m args below meth c A => e_X3_isBought (Γ := (p, l, e, rX3_isBought, s, m, args, below, meth, c, D, cy, ad, A, 0, 0, MQ below (QC D cy ad (some (.int r)) σ' A) args s 0 0 A)) p0 p1 p2 σ ⟨_, hf, rfl⟩)
theorem k_X3_isBought {Γ : CX} {cc : ByteArray} {nL : Nat} {own : String} {ret : Option FieldType} {rm : Room} {σ σ' : St} {pc pc' idx : Nat} {lv : List (Nat × Value)} {rest : List Value} {p0 : Int32} {p1 : Int32} {p2 : Int32} {r : Int32} (hl : Cond.methodLink own idx yX3_isBought ∈ TB) (hw : (rest.map fun v => v.category).sum ≤ 8) (hR : rX3_isBought.frames + 1 ≤ rm.frames ∧ 8 + (4 + 11) + rX3_isBought.locals ≤ rm.locals) (hd : decode cc pc = .ok (.invokevirtual idx, 3)) (hp : pc + 3 = pc') (hf : f_X3_isBought p0 p1 p2 σ = some (r, σ')) (h : WW Γ cc nL own ret rm σ' pc' lv (.int r :: rest)) : WW Γ cc nL own ret rm σ pc lv (.int p2 :: .int p1 :: .int p0 :: .ref (xd Γ 36) :: rest) :=
  w_callV (nn := 3) (i := 36) (As := [.int p0, .int p1, .int p2]) (v := (some (.int r))) (T := TX3) (N := 8) (c_X3_isBought hf) hl mw_X3_isBought (by decide +kernel) ⟨rfl, rfl⟩ hR (lt_lit (by decide)) cel_36 rfl rfl hw hd rfl hp h
/-! WarByHours.Fares.orPriceless (I)I -/
def rX3_orPriceless : Room := { frames := 0, cells := 0, slots := 0, locals := 0 }
def f_X3_orPriceless_22 (k0 : Int32) (σ : St) : Option (Int32 × St) :=
  some (k0, σ)
theorem b_X3_orPriceless_22 {Γ : CX} (k0 : Int32) (σ : St) (h : RR vI Γ (f_X3_orPriceless_22 k0 σ)) : WW Γ cX3_orPriceless 2 RX3 (some .int) rX3_orPriceless σ 22 [] [.int k0] := by
  unfold f_X3_orPriceless_22 at h
  exact w_ireturn dX3_orPriceless_22 h
def f_X3_orPriceless_20 (σ : St) : Option (Int32 × St) :=
  f_X3_orPriceless_22 (1000000 : Int32) σ
theorem b_X3_orPriceless_20 {Γ : CX} (σ : St) (h : RR vI Γ (f_X3_orPriceless_20 σ)) : WW Γ cX3_orPriceless 2 RX3 (some .int) rX3_orPriceless σ 20 [] [] := by
  unfold f_X3_orPriceless_20 at h
  refine w_ldc (1000000 : Int32) dX3_orPriceless_20 cn_RX3_104 rfl ?_
  exact w_sub [] rfl (b_X3_orPriceless_22 (1000000 : Int32) σ h)
def f_X3_orPriceless (p0 : Int32) (σ : St) : Option (Int32 × St) :=
  if p0 < 0 then
    f_X3_orPriceless_20 σ
  else
    if (512 : Int32) ≤ p0 then
      f_X3_orPriceless_20 σ
    else
      gd (inb p0 (ln 37)) <|
      f_X3_orPriceless_22 (gr σ 37 p0.toNatClampNeg) σ
theorem e_X3_orPriceless {Γ : CX} (p0 : Int32) (σ : St) (h : RR vI Γ (f_X3_orPriceless p0 σ)) : WW Γ cX3_orPriceless 2 RX3 (some .int) rX3_orPriceless σ 0 [(0, .ref (xd Γ 36)), (1, .int p0)] [] := by
  unfold f_X3_orPriceless at h
  refine w_iload_n 1 dX3_orPriceless_0 rfl rfl rfl ?_
  refine w_if_lt (tgt := 20) dX3_orPriceless_1 (by decide) rfl (fun q => ?_) (fun q => ?_)
  · have h := h.tt q
    exact w_sub [] rfl (b_X3_orPriceless_20 σ h)
  · have h := h.ff q
    refine w_iload_n 1 dX3_orPriceless_4 rfl rfl rfl ?_
    refine w_sipush (512 : Int32) dX3_orPriceless_5 ic_sipush_512 rfl ?_
    refine w_icmp_ge (tgt := 20) dX3_orPriceless_8 (by decide) rfl (fun q => ?_) (fun q => ?_)
    · have h := h.tt q
      exact w_sub [] rfl (b_X3_orPriceless_20 σ h)
    · have h := h.ff q
      refine w_aload_n 0 dX3_orPriceless_11 rfl rfl rfl ?_
      refine gf_RX3_9 dX3_orPriceless_12 rfl ?_
      refine w_iload_n 1 dX3_orPriceless_15 rfl rfl rfl ?_
      obtain ⟨hi1, h⟩ := h.gd
      refine w_iald (i := 37) (lt_lit (by decide)) rfl hi1 dX3_orPriceless_16 rfl ?_
      refine w_goto (tgt := 22) dX3_orPriceless_17 (by decide) ?_
      exact w_sub [] rfl (b_X3_orPriceless_22 (gr σ 37 p0.toNatClampNeg) σ h)
theorem c_X3_orPriceless {l : Launch} {D : va_G} {cy : Nat → ClassId} {ad : Nat → Nat} {p0 : Int32} {σ σ' : St} {r : Int32} (hf : f_X3_orPriceless p0 σ = some (r, σ')) : CT l D cy ad yX3_orPriceless cX3_orPriceless 2 (some .int) rX3_orPriceless [.ref (ad 36), .int p0] σ (some (.int r)) σ' :=
  ct_of (by decide) (Nat.le_of_ble_eq_true rfl) (fun p e s m args below meth c A => e_X3_orPriceless (Γ := (p, l, e, rX3_orPriceless, s, m, args, below, meth, c, D, cy, ad, A, 0, 0, MQ below (QC D cy ad (some (.int r)) σ' A) args s 0 0 A)) p0 σ ⟨_, hf, rfl⟩)
theorem k_X3_orPriceless {Γ : CX} {cc : ByteArray} {nL : Nat} {own : String} {ret : Option FieldType} {rm : Room} {σ σ' : St} {pc pc' idx : Nat} {lv : List (Nat × Value)} {rest : List Value} {p0 : Int32} {r : Int32} (hl : Cond.methodLink own idx yX3_orPriceless ∈ TB) (hw : (rest.map fun v => v.category).sum ≤ 8) (hR : rX3_orPriceless.frames + 1 ≤ rm.frames ∧ 8 + (2 + 11) + rX3_orPriceless.locals ≤ rm.locals) (hd : decode cc pc = .ok (.invokevirtual idx, 3)) (hp : pc + 3 = pc') (hf : f_X3_orPriceless p0 σ = some (r, σ')) (h : WW Γ cc nL own ret rm σ' pc' lv (.int r :: rest)) : WW Γ cc nL own ret rm σ pc lv (.int p0 :: .ref (xd Γ 36) :: rest) :=
  w_callV (nn := 1) (i := 36) (As := [.int p0]) (v := (some (.int r))) (T := TX3) (N := 8) (c_X3_orPriceless hf) hl mw_X3_orPriceless (by decide +kernel) ⟨rfl, rfl⟩ hR (lt_lit (by decide)) cel_36 rfl rfl hw hd rfl hp h
/-! WarByHours.Peace.allReadings ()I -/
def rX4_allReadings : Room := { frames := 0, cells := 0, slots := 0, locals := 0 }
def f_X4_allReadings (σ : St) : Option (Int32 × St) :=
  some (((1 : Int32) <<< (((2 : Int32) * (gf σ 9 3)) &&& 31)), σ)
theorem e_X4_allReadings {Γ : CX} (σ : St) (h : RR vI Γ (f_X4_allReadings σ)) : WW Γ cX4_allReadings 1 RX4 (some .int) rX4_allReadings σ 0 [(0, .ref (xd Γ 48))] [] := by
  unfold f_X4_allReadings at h
  refine w_iconst (1 : Int32) dX4_allReadings_0 ic_iconst_1 rfl ?_
  refine w_iconst (2 : Int32) dX4_allReadings_1 ic_iconst_2 rfl ?_
  refine w_aload_n 0 dX4_allReadings_2 rfl rfl rfl ?_
  refine gf_RX4_9 dX4_allReadings_3 rfl ?_
  refine gf_RX4_23 (i := 1) (isW_lit (by decide)) dX4_allReadings_6 rfl ?_
  refine gf_RX4_29 (i := 9) (isT_lit (by decide)) dX4_allReadings_9 rfl ?_
  refine w_imul dX4_allReadings_12 rfl ?_
  refine w_ishl dX4_allReadings_13 rfl ?_
  exact w_ireturn dX4_allReadings_14 h
theorem c_X4_allReadings {l : Launch} {D : va_G} {cy : Nat → ClassId} {ad : Nat → Nat}  {σ σ' : St} {r : Int32} (hf : f_X4_allReadings σ = some (r, σ')) : CT l D cy ad yX4_allReadings cX4_allReadings 1 (some .int) rX4_allReadings [.ref (ad 48)] σ (some (.int r)) σ' :=
  ct_of (by decide) (Nat.le_of_ble_eq_true rfl) (fun p e s m args below meth c A => e_X4_allReadings (Γ := (p, l, e, rX4_allReadings, s, m, args, below, meth, c, D, cy, ad, A, 0, 0, MQ below (QC D cy ad (some (.int r)) σ' A) args s 0 0 A)) σ ⟨_, hf, rfl⟩)
theorem k_X4_allReadings {Γ : CX} {cc : ByteArray} {nL : Nat} {own : String} {ret : Option FieldType} {rm : Room} {σ σ' : St} {pc pc' idx : Nat} {lv : List (Nat × Value)} {rest : List Value}  {r : Int32} (hl : Cond.methodLink own idx yX4_allReadings ∈ TB) (hw : (rest.map fun v => v.category).sum ≤ 8) (hR : rX4_allReadings.frames + 1 ≤ rm.frames ∧ 8 + (1 + 11) + rX4_allReadings.locals ≤ rm.locals) (hd : decode cc pc = .ok (.invokevirtual idx, 3)) (hp : pc + 3 = pc') (hf : f_X4_allReadings σ = some (r, σ')) (h : WW Γ cc nL own ret rm σ' pc' lv (.int r :: rest)) : WW Γ cc nL own ret rm σ pc lv (.ref (xd Γ 48) :: rest) :=
  w_callV (nn := 0) (i := 48) (As := []) (v := (some (.int r))) (T := TX4) (N := 1) (c_X4_allReadings hf) hl mw_X4_allReadings (by decide +kernel) ⟨rfl, rfl⟩ hR (lt_lit (by decide)) cel_48 rfl rfl hw hd rfl hp h
/-! WarByHours.Places.put ([IIII)V -/
def rX5_put : Room := { frames := 0, cells := 0, slots := 0, locals := 0 }
def f_X5_put_22 (u0 : Nat) (σ : St) : Option (Unit × St) :=
  some ((), σ)
theorem b_X5_put_22 {Γ : CX} (u0 : Nat) (σ : St) (h : RR vU Γ (f_X5_put_22 u0 σ)) : WW Γ cX5_put 4 RX5 none rX5_put σ 22 [] [] := by
  unfold f_X5_put_22 at h
  exact w_return dX5_put_22 h
def f_X5_put (u0 : Nat) (p1 : Int32) (p2 : Int32) (p3 : Int32) (σ : St) : Option (Unit × St) :=
  gd (isA σ u0) <|
  if (nI (ln u0)) = (3 : Int32) then
    gd (inb (0 : Int32) (ln u0)) <|
    bnd (sr σ u0 (0 : Int32).toNatClampNeg p1) fun s2 =>
    gd (inb (1 : Int32) (ln u0)) <|
    bnd (sr s2 u0 (1 : Int32).toNatClampNeg p2) fun s4 =>
    gd (inb (2 : Int32) (ln u0)) <|
    bnd (sr s4 u0 (2 : Int32).toNatClampNeg ((p3 - p1) - p2)) fun s6 =>
    f_X5_put_22 u0 s6
  else
    f_X5_put_22 u0 σ
theorem e_X5_put {Γ : CX} (u0 : Nat) (p1 : Int32) (p2 : Int32) (p3 : Int32) (σ : St) (h : RR vU Γ (f_X5_put u0 p1 p2 p3 σ)) : WW Γ cX5_put 4 RX5 none rX5_put σ 0 [(0, .ref (xd Γ u0)), (1, .int p1), (2, .int p2), (3, .int p3)] [] := by
  unfold f_X5_put at h
  obtain ⟨hg_u0_σ, h⟩ := h.gd
  refine w_aload_n 0 dX5_put_0 rfl rfl rfl ?_
  refine w_alen (i := u0) (isA_lt hg_u0_σ) (Or.inl (isA_kd hg_u0_σ)) dX5_put_1 rfl ?_
  refine w_iconst (3 : Int32) dX5_put_2 ic_iconst_3 rfl ?_
  refine w_icmp_ne (tgt := 22) dX5_put_3 (by decide) rfl (fun q => ?_) (fun q => ?_)
  · have h := h.ff q
    exact w_sub [] rfl (b_X5_put_22 u0 σ h)
  · have h := h.tt q
    refine w_aload_n 0 dX5_put_6 rfl rfl rfl ?_
    refine w_iconst (0 : Int32) dX5_put_7 ic_iconst_0 rfl ?_
    refine w_iload_n 1 dX5_put_8 rfl rfl rfl ?_
    obtain ⟨hi1, h⟩ := h.gd
    refine w_iast (i := u0) (isA_lt hg_u0_σ) (isA_kd hg_u0_σ) hi1 dX5_put_9 rfl ?_
    obtain ⟨s2, es2⟩ : ∃ y : St, y = (sr σ u0 (0 : Int32).toNatClampNeg p1) := ⟨_, rfl⟩
    rw [← es2]
    replace h := h.bnd es2
    have hg_u0_s2 : isA s2 u0 = true := by rw [es2]; exact hg_u0_σ
    clear es2
    refine w_aload_n 0 dX5_put_10 rfl rfl rfl ?_
    refine w_iconst (1 : Int32) dX5_put_11 ic_iconst_1 rfl ?_
    refine w_iload_n 2 dX5_put_12 rfl rfl rfl ?_
    obtain ⟨hi3, h⟩ := h.gd
    refine w_iast (i := u0) (isA_lt hg_u0_s2) (isA_kd hg_u0_s2) hi3 dX5_put_13 rfl ?_
    obtain ⟨s4, es4⟩ : ∃ y : St, y = (sr s2 u0 (1 : Int32).toNatClampNeg p2) := ⟨_, rfl⟩
    rw [← es4]
    replace h := h.bnd es4
    have hg_u0_s4 : isA s4 u0 = true := by rw [es4]; exact hg_u0_s2
    clear es4
    refine w_aload_n 0 dX5_put_14 rfl rfl rfl ?_
    refine w_iconst (2 : Int32) dX5_put_15 ic_iconst_2 rfl ?_
    refine w_iload_n 3 dX5_put_16 rfl rfl rfl ?_
    refine w_iload_n 1 dX5_put_17 rfl rfl rfl ?_
    refine w_isub dX5_put_18 rfl ?_
    refine w_iload_n 2 dX5_put_19 rfl rfl rfl ?_
    refine w_isub dX5_put_20 rfl ?_
    obtain ⟨hi5, h⟩ := h.gd
    refine w_iast (i := u0) (isA_lt hg_u0_s4) (isA_kd hg_u0_s4) hi5 dX5_put_21 rfl ?_
    obtain ⟨s6, es6⟩ : ∃ y : St, y = (sr s4 u0 (2 : Int32).toNatClampNeg ((p3 - p1) - p2)) := ⟨_, rfl⟩
    rw [← es6]
    replace h := h.bnd es6
    have hg_u0_s6 : isA s6 u0 = true := by rw [es6]; exact hg_u0_s4
    clear es6
    exact w_sub [] rfl (b_X5_put_22 u0 s6 h)
theorem c_X5_put {l : Launch} {D : va_G} {cy : Nat → ClassId} {ad : Nat → Nat} {u0 : Nat} {p1 : Int32} {p2 : Int32} {p3 : Int32} {σ σ' : St} {r : Unit} (hf : f_X5_put u0 p1 p2 p3 σ = some (r, σ')) : CT l D cy ad yX5_put cX5_put 4 none rX5_put [.ref (ad u0), .int p1, .int p2, .int p3] σ none σ' :=
  ct_of (by decide) (Nat.le_of_ble_eq_true rfl) (fun p e s m args below meth c A => e_X5_put (Γ := (p, l, e, rX5_put, s, m, args, below, meth, c, D, cy, ad, A, 0, 0, MQ below (QC D cy ad none σ' A) args s 0 0 A)) u0 p1 p2 p3 σ ⟨_, hf, rfl⟩)
theorem k_X5_put {Γ : CX} {cc : ByteArray} {nL : Nat} {own : String} {ret : Option FieldType} {rm : Room} {σ σ' : St} {pc pc' idx : Nat} {lv : List (Nat × Value)} {rest : List Value} {u0 : Nat} {p1 : Int32} {p2 : Int32} {p3 : Int32} {r : Unit} (hl : Cond.methodLink own idx yX5_put ∈ TB) (hw : (rest.map fun v => v.category).sum ≤ 8) (hR : rX5_put.frames + 1 ≤ rm.frames ∧ 8 + (4 + 11) + rX5_put.locals ≤ rm.locals) (hd : decode cc pc = .ok (.invokestatic idx, 3)) (hp : pc + 3 = pc') (hf : f_X5_put u0 p1 p2 p3 σ = some (r, σ')) (h : WW Γ cc nL own ret rm σ' pc' lv (rest)) : WW Γ cc nL own ret rm σ pc lv (.int p3 :: .int p2 :: .int p1 :: .ref (xd Γ u0) :: rest) :=
  w_callS (nn := 4) (As := [.ref (xd Γ u0), .int p1, .int p2, .int p3]) (v := none) (c_X5_put hf) hl mw_X5_put (by decide +kernel) ⟨rfl, rfl⟩ hR rfl hw hd rfl hp h
/-! WarByHours.Reader.hasRoom (I)Z -/
def rX6_hasRoom : Room := { frames := 0, cells := 0, slots := 0, locals := 0 }
def f_X6_hasRoom_17 (k0 : Int32) (σ : St) : Option (Int32 × St) :=
  gd (bz k0) <| some (k0, σ)
theorem b_X6_hasRoom_17 {Γ : CX} (k0 : Int32) (σ : St) (h : RR vI Γ (f_X6_hasRoom_17 k0 σ)) : WW Γ cX6_hasRoom 2 RX6 (some .boolean) rX6_hasRoom σ 17 [] [.int k0] := by
  unfold f_X6_hasRoom_17 at h
  obtain ⟨hb, h⟩ := h.gd
  exact w_zreturn dX6_hasRoom_17 hb h
def f_X6_hasRoom (p0 : Int32) (σ : St) : Option (Int32 × St) :=
  if (1200 : Int32) < ((gf σ 29 1) + p0) then
    f_X6_hasRoom_17 (0 : Int32) σ
  else
    f_X6_hasRoom_17 (1 : Int32) σ
theorem e_X6_hasRoom {Γ : CX} (p0 : Int32) (σ : St) (h : RR vI Γ (f_X6_hasRoom p0 σ)) : WW Γ cX6_hasRoom 2 RX6 (some .boolean) rX6_hasRoom σ 0 [(0, .ref (xd Γ 29)), (1, .int p0)] [] := by
  unfold f_X6_hasRoom at h
  refine w_aload_n 0 dX6_hasRoom_0 rfl rfl rfl ?_
  refine gf_RX6_23 dX6_hasRoom_1 rfl ?_
  refine w_iload_n 1 dX6_hasRoom_4 rfl rfl rfl ?_
  refine w_iadd dX6_hasRoom_5 rfl ?_
  refine w_sipush (1200 : Int32) dX6_hasRoom_6 ic_sipush_1200 rfl ?_
  refine w_icmp_gt (tgt := 16) dX6_hasRoom_9 (by decide) rfl (fun q => ?_) (fun q => ?_)
  · have h := h.tt q
    refine w_iconst (0 : Int32) dX6_hasRoom_16 ic_iconst_0 rfl ?_
    exact w_sub [] rfl (b_X6_hasRoom_17 (0 : Int32) σ h)
  · have h := h.ff q
    refine w_iconst (1 : Int32) dX6_hasRoom_12 ic_iconst_1 rfl ?_
    refine w_goto (tgt := 17) dX6_hasRoom_13 (by decide) ?_
    exact w_sub [] rfl (b_X6_hasRoom_17 (1 : Int32) σ h)
theorem c_X6_hasRoom {l : Launch} {D : va_G} {cy : Nat → ClassId} {ad : Nat → Nat} {p0 : Int32} {σ σ' : St} {r : Int32} (hf : f_X6_hasRoom p0 σ = some (r, σ')) : CT l D cy ad yX6_hasRoom cX6_hasRoom 2 (some .boolean) rX6_hasRoom [.ref (ad 29), .int p0] σ (some (.int r)) σ' :=
  ct_of (by decide) (Nat.le_of_ble_eq_true rfl) (fun p e s m args below meth c A => e_X6_hasRoom (Γ := (p, l, e, rX6_hasRoom, s, m, args, below, meth, c, D, cy, ad, A, 0, 0, MQ below (QC D cy ad (some (.int r)) σ' A) args s 0 0 A)) p0 σ ⟨_, hf, rfl⟩)
theorem k_X6_hasRoom {Γ : CX} {cc : ByteArray} {nL : Nat} {own : String} {ret : Option FieldType} {rm : Room} {σ σ' : St} {pc pc' idx : Nat} {lv : List (Nat × Value)} {rest : List Value} {p0 : Int32} {r : Int32} (hl : Cond.methodLink own idx yX6_hasRoom ∈ TB) (hw : (rest.map fun v => v.category).sum ≤ 8) (hR : rX6_hasRoom.frames + 1 ≤ rm.frames ∧ 8 + (2 + 11) + rX6_hasRoom.locals ≤ rm.locals) (hd : decode cc pc = .ok (.invokevirtual idx, 3)) (hp : pc + 3 = pc') (hf : f_X6_hasRoom p0 σ = some (r, σ')) (h : WW Γ cc nL own ret rm σ' pc' lv (.int r :: rest)) : WW Γ cc nL own ret rm σ pc lv (.int p0 :: .ref (xd Γ 29) :: rest) :=
  w_callV (nn := 1) (i := 29) (As := [.int p0]) (v := (some (.int r))) (T := TX6) (N := 9) (c_X6_hasRoom hf) hl mw_X6_hasRoom (by decide +kernel) ⟨rfl, rfl⟩ hR (lt_lit (by decide)) cel_29 rfl rfl hw hd rfl hp h
/-! WarByHours.Reader.take (I)V -/
def rX6_take : Room := { frames := 0, cells := 0, slots := 0, locals := 0 }
def f_X6_take_42 (K3 : Int32 × Int32 × St → Option (Unit × St)) (v1 : Int32) (v2 : Int32) (σ : St) : Option (Unit × St) :=
  bnd (v2 + (-8 : Int32)) fun x1 =>
  K3 (v1, x1, σ)
theorem b_X6_take_42 {Γ : CX} (K3 : Int32 × Int32 × St → Option (Unit × St)) (hK3 : ∀ (v1 : Int32) (v2 : Int32) (σ : St), RR vU Γ (K3 (v1, v2, σ)) → WW Γ cX6_take 3 RX6 none rX6_take σ 3 [(0, .ref (xd Γ 29)), (1, .int v1), (2, .int v2)] []) (v1 : Int32) (v2 : Int32) (σ : St) (h : RR vU Γ (f_X6_take_42 K3 v1 v2 σ)) : WW Γ cX6_take 3 RX6 none rX6_take σ 42 [(0, .ref (xd Γ 29)), (1, .int v1), (2, .int v2)] [] := by
  unfold f_X6_take_42 at h
  obtain ⟨x1, ex1⟩ : ∃ y : Int32, y = (v2 + (-8 : Int32)) := ⟨_, rfl⟩
  replace h := h.bnd ex1
  refine w_iinc 2 x1 [(2, .int x1), (0, .ref (xd Γ 29)), (1, .int v1)] dX6_take_42 rfl (by rw [ex1, ic_iconst_m8]) (by decide) rfl rfl ?_
  clear ex1
  refine w_goto (tgt := 3) dX6_take_45 (by decide) ?_
  exact w_sub [1, 2, 0] rfl (hK3 v1 x1 σ h)
def g_X6_take_3 (K3 : Int32 × Int32 × St → Option (Unit × St)) (x : Int32 × Int32 × St) : Option (Unit × St) := match x with
  | (v1, v2, σ) =>
  if v2 < 0 then
    some ((), σ)
  else
    if (nI (ln 30)) ≤ (gf σ 29 1) then
      f_X6_take_42 K3 v1 v2 σ
    else
      gd (inb (gf σ 29 1) (ln 30)) <|
      bnd (sr σ 30 (gf σ 29 1).toNatClampNeg (vp_nar .byte (v1 >>> (v2 &&& 31)).toInt8.toInt32)) fun s2 =>
      bnd (sf s2 29 1 ((gf s2 29 1) + (1 : Int32))) fun s3 =>
      f_X6_take_42 K3 v1 v2 s3
theorem l_X6_take_3 {Γ : CX} : ∀ (n : Nat) (v1 : Int32) (v2 : Int32) (σ : St), RR vU Γ (itr (g_X6_take_3) n (v1, v2, σ)) → WW Γ cX6_take 3 RX6 none rX6_take σ 3 [(0, .ref (xd Γ 29)), (1, .int v1), (2, .int v2)] [] := by
  intro n
  induction n with
  | zero => intro v1 v2 σ h; exact RR.no h
  | succ n hK3 =>
  intro v1 v2 σ h
  have h : RR vU Γ (g_X6_take_3 (itr (g_X6_take_3) n) (v1, v2, σ)) := h
  generalize itr (g_X6_take_3) n = K3 at h hK3
  unfold g_X6_take_3 at h
  dsimp only at h
  refine w_iload_n 2 dX6_take_3 rfl rfl rfl ?_
  refine w_if_lt (tgt := 48) dX6_take_4 (by decide) rfl (fun q => ?_) (fun q => ?_)
  · have h := h.tt q
    exact w_return dX6_take_48 h
  · have h := h.ff q
    refine w_aload_n 0 dX6_take_7 rfl rfl rfl ?_
    refine gf_RX6_23 dX6_take_8 rfl ?_
    refine w_aload_n 0 dX6_take_11 rfl rfl rfl ?_
    refine gf_RX6_9 dX6_take_12 rfl ?_
    refine w_alen (i := 30) (lt_lit (by decide)) (Or.inr (Or.inl rfl)) dX6_take_15 rfl ?_
    refine w_icmp_ge (tgt := 42) dX6_take_16 (by decide) rfl (fun q => ?_) (fun q => ?_)
    · have h := h.tt q
      exact w_sub [0, 1, 2] rfl (b_X6_take_42 K3 hK3 v1 v2 σ h)
    · have h := h.ff q
      refine w_aload_n 0 dX6_take_19 rfl rfl rfl ?_
      refine gf_RX6_9 dX6_take_20 rfl ?_
      refine w_aload_n 0 dX6_take_23 rfl rfl rfl ?_
      refine gf_RX6_23 dX6_take_24 rfl ?_
      refine w_iload_n 1 dX6_take_27 rfl rfl rfl ?_
      refine w_iload_n 2 dX6_take_28 rfl rfl rfl ?_
      refine w_ishr dX6_take_29 rfl ?_
      refine w_i2b dX6_take_30 rfl ?_
      obtain ⟨hi1, h⟩ := h.gd
      refine w_bast (i := 30) (lt_lit (by decide)) rfl hi1 dX6_take_31 rfl ?_
      obtain ⟨s2, es2⟩ : ∃ y : St, y = (sr σ 30 (gf σ 29 1).toNatClampNeg (vp_nar .byte (v1 >>> (v2 &&& 31)).toInt8.toInt32)) := ⟨_, rfl⟩
      rw [← es2]
      replace h := h.bnd es2
      clear es2
      refine w_aload_n 0 dX6_take_32 rfl rfl rfl ?_
      refine w_dup dX6_take_33 rfl rfl ?_
      refine gf_RX6_23 dX6_take_34 rfl ?_
      refine w_iconst (1 : Int32) dX6_take_37 ic_iconst_1 rfl ?_
      refine w_iadd dX6_take_38 rfl ?_
      refine pf_RX6_23 dX6_take_39 rfl ?_
      obtain ⟨s3, es3⟩ : ∃ y : St, y = (sf s2 29 1 ((gf s2 29 1) + (1 : Int32))) := ⟨_, rfl⟩
      rw [← es3]
      replace h := h.bnd es3
      clear es3
      exact w_sub [0, 1, 2] rfl (b_X6_take_42 K3 hK3 v1 v2 s3 h)
def f_X6_take (p0 : Int32) (σ : St) : Option (Unit × St) :=
  itr (g_X6_take_3) FU (p0, (24 : Int32), σ)
theorem e_X6_take {Γ : CX} (p0 : Int32) (σ : St) (h : RR vU Γ (f_X6_take p0 σ)) : WW Γ cX6_take 3 RX6 none rX6_take σ 0 [(0, .ref (xd Γ 29)), (1, .int p0)] [] := by
  unfold f_X6_take at h
  refine w_bipush (24 : Int32) dX6_take_0 ic_bipush_24 rfl ?_
  refine w_istore_n [(2, .int (24 : Int32)), (0, .ref (xd Γ 29)), (1, .int p0)] dX6_take_2 rfl (by decide) rfl rfl ?_
  exact w_sub [1, 2, 0] rfl (l_X6_take_3 FU p0 (24 : Int32) σ h)
theorem c_X6_take {l : Launch} {D : va_G} {cy : Nat → ClassId} {ad : Nat → Nat} {p0 : Int32} {σ σ' : St} {r : Unit} (hf : f_X6_take p0 σ = some (r, σ')) : CT l D cy ad yX6_take cX6_take 3 none rX6_take [.ref (ad 29), .int p0] σ none σ' :=
  ct_of (by decide) (Nat.le_of_ble_eq_true rfl) (fun p e s m args below meth c A => e_X6_take (Γ := (p, l, e, rX6_take, s, m, args, below, meth, c, D, cy, ad, A, 0, 0, MQ below (QC D cy ad none σ' A) args s 0 0 A)) p0 σ ⟨_, hf, rfl⟩)
theorem k_X6_take {Γ : CX} {cc : ByteArray} {nL : Nat} {own : String} {ret : Option FieldType} {rm : Room} {σ σ' : St} {pc pc' idx : Nat} {lv : List (Nat × Value)} {rest : List Value} {p0 : Int32} {r : Unit} (hl : Cond.methodLink own idx yX6_take ∈ TB) (hw : (rest.map fun v => v.category).sum ≤ 8) (hR : rX6_take.frames + 1 ≤ rm.frames ∧ 8 + (3 + 11) + rX6_take.locals ≤ rm.locals) (hd : decode cc pc = .ok (.invokevirtual idx, 3)) (hp : pc + 3 = pc') (hf : f_X6_take p0 σ = some (r, σ')) (h : WW Γ cc nL own ret rm σ' pc' lv (rest)) : WW Γ cc nL own ret rm σ pc lv (.int p0 :: .ref (xd Γ 29) :: rest) :=
  w_callV (nn := 1) (i := 29) (As := [.int p0]) (v := none) (T := TX6) (N := 9) (c_X6_take hf) hl mw_X6_take (by decide +kernel) ⟨rfl, rfl⟩ hR (lt_lit (by decide)) cel_29 rfl rfl hw hd rfl hp h
/-! WarByHours.Reader.cut (I)Z -/
def rX6_cut : Room := { frames := 0, cells := 0, slots := 0, locals := 0 }
def f_X6_cut_12 (σ : St) : Option (Int32 × St) :=
  gd (bz (0 : Int32)) <| some ((0 : Int32), σ)
theorem b_X6_cut_12 {Γ : CX} (σ : St) (h : RR vI Γ (f_X6_cut_12 σ)) : WW Γ cX6_cut 2 RX6 (some .boolean) rX6_cut σ 12 [] [] := by
  unfold f_X6_cut_12 at h
  refine w_iconst (0 : Int32) dX6_cut_12 ic_iconst_0 rfl ?_
  obtain ⟨hb, h⟩ := h.gd
  exact w_zreturn dX6_cut_13 hb h
def f_X6_cut (p0 : Int32) (σ : St) : Option (Int32 × St) :=
  if p0 < 0 then
    f_X6_cut_12 σ
  else
    if p0 ≤ (gf σ 29 1) then
      bnd (sf σ 29 1 p0) fun s1 =>
      gd (bz (1 : Int32)) <| some ((1 : Int32), s1)
    else
      f_X6_cut_12 σ
theorem e_X6_cut {Γ : CX} (p0 : Int32) (σ : St) (h : RR vI Γ (f_X6_cut p0 σ)) : WW Γ cX6_cut 2 RX6 (some .boolean) rX6_cut σ 0 [(0, .ref (xd Γ 29)), (1, .int p0)] [] := by
  unfold f_X6_cut at h
  refine w_iload_n 1 dX6_cut_0 rfl rfl rfl ?_
  refine w_if_lt (tgt := 12) dX6_cut_1 (by decide) rfl (fun q => ?_) (fun q => ?_)
  · have h := h.tt q
    exact w_sub [] rfl (b_X6_cut_12 σ h)
  · have h := h.ff q
    refine w_iload_n 1 dX6_cut_4 rfl rfl rfl ?_
    refine w_aload_n 0 dX6_cut_5 rfl rfl rfl ?_
    refine gf_RX6_23 dX6_cut_6 rfl ?_
    refine w_icmp_le (tgt := 14) dX6_cut_9 (by decide) rfl (fun q => ?_) (fun q => ?_)
    · have h := h.tt q
      refine w_aload_n 0 dX6_cut_14 rfl rfl rfl ?_
      refine w_iload_n 1 dX6_cut_15 rfl rfl rfl ?_
      refine pf_RX6_23 dX6_cut_16 rfl ?_
      obtain ⟨s1, es1⟩ : ∃ y : St, y = (sf σ 29 1 p0) := ⟨_, rfl⟩
      rw [← es1]
      replace h := h.bnd es1
      clear es1
      refine w_iconst (1 : Int32) dX6_cut_19 ic_iconst_1 rfl ?_
      obtain ⟨hb, h⟩ := h.gd
      exact w_zreturn dX6_cut_20 hb h
    · have h := h.ff q
      exact w_sub [] rfl (b_X6_cut_12 σ h)
theorem c_X6_cut {l : Launch} {D : va_G} {cy : Nat → ClassId} {ad : Nat → Nat} {p0 : Int32} {σ σ' : St} {r : Int32} (hf : f_X6_cut p0 σ = some (r, σ')) : CT l D cy ad yX6_cut cX6_cut 2 (some .boolean) rX6_cut [.ref (ad 29), .int p0] σ (some (.int r)) σ' :=
  ct_of (by decide) (Nat.le_of_ble_eq_true rfl) (fun p e s m args below meth c A => e_X6_cut (Γ := (p, l, e, rX6_cut, s, m, args, below, meth, c, D, cy, ad, A, 0, 0, MQ below (QC D cy ad (some (.int r)) σ' A) args s 0 0 A)) p0 σ ⟨_, hf, rfl⟩)
theorem k_X6_cut {Γ : CX} {cc : ByteArray} {nL : Nat} {own : String} {ret : Option FieldType} {rm : Room} {σ σ' : St} {pc pc' idx : Nat} {lv : List (Nat × Value)} {rest : List Value} {p0 : Int32} {r : Int32} (hl : Cond.methodLink own idx yX6_cut ∈ TB) (hw : (rest.map fun v => v.category).sum ≤ 8) (hR : rX6_cut.frames + 1 ≤ rm.frames ∧ 8 + (2 + 11) + rX6_cut.locals ≤ rm.locals) (hd : decode cc pc = .ok (.invokevirtual idx, 3)) (hp : pc + 3 = pc') (hf : f_X6_cut p0 σ = some (r, σ')) (h : WW Γ cc nL own ret rm σ' pc' lv (.int r :: rest)) : WW Γ cc nL own ret rm σ pc lv (.int p0 :: .ref (xd Γ 29) :: rest) :=
  w_callV (nn := 1) (i := 29) (As := [.int p0]) (v := (some (.int r))) (T := TX6) (N := 9) (c_X6_cut hf) hl mw_X6_cut (by decide +kernel) ⟨rfl, rfl⟩ hR (lt_lit (by decide)) cel_29 rfl rfl hw hd rfl hp h
/-! WarByHours.Reader.blame (I)V -/
def rX6_blame : Room := { frames := 0, cells := 0, slots := 0, locals := 0 }
def f_X6_blame_20 (σ : St) : Option (Unit × St) :=
  some ((), σ)
theorem b_X6_blame_20 {Γ : CX} (σ : St) (h : RR vU Γ (f_X6_blame_20 σ)) : WW Γ cX6_blame 2 RX6 none rX6_blame σ 20 [] [] := by
  unfold f_X6_blame_20 at h
  exact w_return dX6_blame_20 h
def f_X6_blame (p0 : Int32) (σ : St) : Option (Unit × St) :=
  if (gf σ 29 2) = 0 then
    bnd (sf σ 29 2 p0) fun s1 =>
    bnd (sf s1 29 3 (gf s1 29 5)) fun s2 =>
    f_X6_blame_20 s2
  else
    f_X6_blame_20 σ
theorem e_X6_blame {Γ : CX} (p0 : Int32) (σ : St) (h : RR vU Γ (f_X6_blame p0 σ)) : WW Γ cX6_blame 2 RX6 none rX6_blame σ 0 [(0, .ref (xd Γ 29)), (1, .int p0)] [] := by
  unfold f_X6_blame at h
  refine w_aload_n 0 dX6_blame_0 rfl rfl rfl ?_
  refine gf_RX6_31 dX6_blame_1 rfl ?_
  refine w_if_ne (tgt := 20) dX6_blame_4 (by decide) rfl (fun q => ?_) (fun q => ?_)
  · have h := h.ff q
    exact w_sub [] rfl (b_X6_blame_20 σ h)
  · have h := h.tt q
    refine w_aload_n 0 dX6_blame_7 rfl rfl rfl ?_
    refine w_iload_n 1 dX6_blame_8 rfl rfl rfl ?_
    refine pf_RX6_31 dX6_blame_9 rfl ?_
    obtain ⟨s1, es1⟩ : ∃ y : St, y = (sf σ 29 2 p0) := ⟨_, rfl⟩
    rw [← es1]
    replace h := h.bnd es1
    clear es1
    refine w_aload_n 0 dX6_blame_12 rfl rfl rfl ?_
    refine w_aload_n 0 dX6_blame_13 rfl rfl rfl ?_
    refine gf_RX6_186 dX6_blame_14 rfl ?_
    refine pf_RX6_15 dX6_blame_17 rfl ?_
    obtain ⟨s2, es2⟩ : ∃ y : St, y = (sf s1 29 3 (gf s1 29 5)) := ⟨_, rfl⟩
    rw [← es2]
    replace h := h.bnd es2
    clear es2
    exact w_sub [] rfl (b_X6_blame_20 s2 h)
theorem c_X6_blame {l : Launch} {D : va_G} {cy : Nat → ClassId} {ad : Nat → Nat} {p0 : Int32} {σ σ' : St} {r : Unit} (hf : f_X6_blame p0 σ = some (r, σ')) : CT l D cy ad yX6_blame cX6_blame 2 none rX6_blame [.ref (ad 29), .int p0] σ none σ' :=
  ct_of (by decide) (Nat.le_of_ble_eq_true rfl) (fun p e s m args below meth c A => e_X6_blame (Γ := (p, l, e, rX6_blame, s, m, args, below, meth, c, D, cy, ad, A, 0, 0, MQ below (QC D cy ad none σ' A) args s 0 0 A)) p0 σ ⟨_, hf, rfl⟩)
theorem k_X6_blame {Γ : CX} {cc : ByteArray} {nL : Nat} {own : String} {ret : Option FieldType} {rm : Room} {σ σ' : St} {pc pc' idx : Nat} {lv : List (Nat × Value)} {rest : List Value} {p0 : Int32} {r : Unit} (hl : Cond.methodLink own idx yX6_blame ∈ TB) (hw : (rest.map fun v => v.category).sum ≤ 8) (hR : rX6_blame.frames + 1 ≤ rm.frames ∧ 8 + (2 + 11) + rX6_blame.locals ≤ rm.locals) (hd : decode cc pc = .ok (.invokevirtual idx, 3)) (hp : pc + 3 = pc') (hf : f_X6_blame p0 σ = some (r, σ')) (h : WW Γ cc nL own ret rm σ' pc' lv (rest)) : WW Γ cc nL own ret rm σ pc lv (.int p0 :: .ref (xd Γ 29) :: rest) :=
  w_callV (nn := 1) (i := 29) (As := [.int p0]) (v := none) (T := TX6) (N := 9) (c_X6_blame hf) hl mw_X6_blame (by decide +kernel) ⟨rfl, rfl⟩ hR (lt_lit (by decide)) cel_29 rfl rfl hw hd rfl hp h
/-! WarByHours.Reader.kindAt (I)I -/
def rX6_kindAt : Room := { frames := 0, cells := 0, slots := 0, locals := 0 }
def f_X6_kindAt_21 (σ : St) : Option (Int32 × St) :=
  some ((0 : Int32), σ)
theorem b_X6_kindAt_21 {Γ : CX} (σ : St) (h : RR vI Γ (f_X6_kindAt_21 σ)) : WW Γ cX6_kindAt 3 RX6 (some .int) rX6_kindAt σ 21 [] [] := by
  unfold f_X6_kindAt_21 at h
  refine w_iconst (0 : Int32) dX6_kindAt_21 ic_iconst_0 rfl ?_
  exact w_ireturn dX6_kindAt_22 h
def f_X6_kindAt_42 (σ : St) : Option (Int32 × St) :=
  some ((1 : Int32), σ)
theorem b_X6_kindAt_42 {Γ : CX} (σ : St) (h : RR vI Γ (f_X6_kindAt_42 σ)) : WW Γ cX6_kindAt 3 RX6 (some .int) rX6_kindAt σ 42 [] [] := by
  unfold f_X6_kindAt_42 at h
  refine w_iconst (1 : Int32) dX6_kindAt_42 ic_iconst_1 rfl ?_
  exact w_ireturn dX6_kindAt_43 h
def f_X6_kindAt_83 (k0 : Int32) (σ : St) : Option (Int32 × St) :=
  some (k0, σ)
theorem b_X6_kindAt_83 {Γ : CX} (k0 : Int32) (σ : St) (h : RR vI Γ (f_X6_kindAt_83 k0 σ)) : WW Γ cX6_kindAt 3 RX6 (some .int) rX6_kindAt σ 83 [] [.int k0] := by
  unfold f_X6_kindAt_83 at h
  exact w_ireturn dX6_kindAt_83 h
def f_X6_kindAt_72 (v2 : Int32) (σ : St) : Option (Int32 × St) :=
  if v2 = (59 : Int32) then
    f_X6_kindAt_83 (4 : Int32) σ
  else
    f_X6_kindAt_83 (5 : Int32) σ
theorem b_X6_kindAt_72 {Γ : CX} (v2 : Int32) (σ : St) (h : RR vI Γ (f_X6_kindAt_72 v2 σ)) : WW Γ cX6_kindAt 3 RX6 (some .int) rX6_kindAt σ 72 [(2, .int v2)] [] := by
  unfold f_X6_kindAt_72 at h
  refine w_iload_n 0 dX6_kindAt_72 rfl rfl rfl ?_
  refine w_bipush (59 : Int32) dX6_kindAt_73 ic_bipush_59 rfl ?_
  refine w_icmp_ne (tgt := 82) dX6_kindAt_75 (by decide) rfl (fun q => ?_) (fun q => ?_)
  · have h := h.ff q
    refine w_iconst (5 : Int32) dX6_kindAt_82 ic_iconst_5 rfl ?_
    exact w_sub [] rfl (b_X6_kindAt_83 (5 : Int32) σ h)
  · have h := h.tt q
    refine w_iconst (4 : Int32) dX6_kindAt_78 ic_iconst_4 rfl ?_
    refine w_goto (tgt := 83) dX6_kindAt_79 (by decide) ?_
    exact w_sub [] rfl (b_X6_kindAt_83 (4 : Int32) σ h)
def f_X6_kindAt_58 (v2 : Int32) (σ : St) : Option (Int32 × St) :=
  if v2 < (48 : Int32) then
    f_X6_kindAt_72 v2 σ
  else
    if (57 : Int32) < v2 then
      f_X6_kindAt_72 v2 σ
    else
      some ((3 : Int32), σ)
theorem b_X6_kindAt_58 {Γ : CX} (v2 : Int32) (σ : St) (h : RR vI Γ (f_X6_kindAt_58 v2 σ)) : WW Γ cX6_kindAt 3 RX6 (some .int) rX6_kindAt σ 58 [(2, .int v2)] [] := by
  unfold f_X6_kindAt_58 at h
  refine w_iload_n 0 dX6_kindAt_58 rfl rfl rfl ?_
  refine w_bipush (48 : Int32) dX6_kindAt_59 ic_bipush_48 rfl ?_
  refine w_icmp_lt (tgt := 72) dX6_kindAt_61 (by decide) rfl (fun q => ?_) (fun q => ?_)
  · have h := h.tt q
    exact w_sub [0] rfl (b_X6_kindAt_72 v2 σ h)
  · have h := h.ff q
    refine w_iload_n 0 dX6_kindAt_64 rfl rfl rfl ?_
    refine w_bipush (57 : Int32) dX6_kindAt_65 ic_bipush_57 rfl ?_
    refine w_icmp_gt (tgt := 72) dX6_kindAt_67 (by decide) rfl (fun q => ?_) (fun q => ?_)
    · have h := h.tt q
      exact w_sub [0] rfl (b_X6_kindAt_72 v2 σ h)
    · have h := h.ff q
      refine w_iconst (3 : Int32) dX6_kindAt_70 ic_iconst_3 rfl ?_
      exact w_ireturn dX6_kindAt_71 h
def f_X6_kindAt (p0 : Int32) (σ : St) : Option (Int32 × St) :=
  if p0 < 0 then
    f_X6_kindAt_21 σ
  else
    if (gf σ 29 1) ≤ p0 then
      f_X6_kindAt_21 σ
    else
      if p0 < (nI (ln 30)) then
        gd (inb p0 (ln 30)) <|
        bnd ((gr σ 30 p0.toNatClampNeg)) fun x2 =>
        if x2 = (32 : Int32) then
          f_X6_kindAt_42 σ
        else
          if x2 = (10 : Int32) then
            f_X6_kindAt_42 σ
          else
            if x2 < (97 : Int32) then
              f_X6_kindAt_58 x2 σ
            else
              if (122 : Int32) < x2 then
                f_X6_kindAt_58 x2 σ
              else
                some ((2 : Int32), σ)
      else
        f_X6_kindAt_21 σ
theorem e_X6_kindAt {Γ : CX} (p0 : Int32) (σ : St) (h : RR vI Γ (f_X6_kindAt p0 σ)) : WW Γ cX6_kindAt 3 RX6 (some .int) rX6_kindAt σ 0 [(0, .ref (xd Γ 29)), (1, .int p0)] [] := by
  unfold f_X6_kindAt at h
  refine w_iload_n 1 dX6_kindAt_0 rfl rfl rfl ?_
  refine w_if_lt (tgt := 21) dX6_kindAt_1 (by decide) rfl (fun q => ?_) (fun q => ?_)
  · have h := h.tt q
    exact w_sub [] rfl (b_X6_kindAt_21 σ h)
  · have h := h.ff q
    refine w_iload_n 1 dX6_kindAt_4 rfl rfl rfl ?_
    refine w_aload_n 0 dX6_kindAt_5 rfl rfl rfl ?_
    refine gf_RX6_23 dX6_kindAt_6 rfl ?_
    refine w_icmp_ge (tgt := 21) dX6_kindAt_9 (by decide) rfl (fun q => ?_) (fun q => ?_)
    · have h := h.tt q
      exact w_sub [] rfl (b_X6_kindAt_21 σ h)
    · have h := h.ff q
      refine w_iload_n 1 dX6_kindAt_12 rfl rfl rfl ?_
      refine w_aload_n 0 dX6_kindAt_13 rfl rfl rfl ?_
      refine gf_RX6_9 dX6_kindAt_14 rfl ?_
      refine w_alen (i := 30) (lt_lit (by decide)) (Or.inr (Or.inl rfl)) dX6_kindAt_17 rfl ?_
      refine w_icmp_lt (tgt := 23) dX6_kindAt_18 (by decide) rfl (fun q => ?_) (fun q => ?_)
      · have h := h.tt q
        refine w_aload_n 0 dX6_kindAt_23 rfl rfl rfl ?_
        refine gf_RX6_9 dX6_kindAt_24 rfl ?_
        refine w_iload_n 1 dX6_kindAt_27 rfl rfl rfl ?_
        obtain ⟨hi1, h⟩ := h.gd
        refine w_bald (i := 30) (lt_lit (by decide)) rfl hi1 dX6_kindAt_28 rfl ?_
        refine w_nmI (fun x2 ex2 => ?_)
        replace h := h.bnd ex2
        clear ex2
        refine w_istore_n [(2, .int x2), (0, .ref (xd Γ 29)), (1, .int p0)] dX6_kindAt_29 rfl (by decide) rfl rfl ?_
        refine w_iload_n 0 dX6_kindAt_30 rfl rfl rfl ?_
        refine w_bipush (32 : Int32) dX6_kindAt_31 ic_bipush_32 rfl ?_
        refine w_icmp_eq (tgt := 42) dX6_kindAt_33 (by decide) rfl (fun q => ?_) (fun q => ?_)
        · have h := h.tt q
          exact w_sub [] rfl (b_X6_kindAt_42 σ h)
        · have h := h.ff q
          refine w_iload_n 0 dX6_kindAt_36 rfl rfl rfl ?_
          refine w_bipush (10 : Int32) dX6_kindAt_37 ic_bipush_10 rfl ?_
          refine w_icmp_ne (tgt := 44) dX6_kindAt_39 (by decide) rfl (fun q => ?_) (fun q => ?_)
          · have h := h.ff q
            refine w_iload_n 0 dX6_kindAt_44 rfl rfl rfl ?_
            refine w_bipush (97 : Int32) dX6_kindAt_45 ic_bipush_97 rfl ?_
            refine w_icmp_lt (tgt := 58) dX6_kindAt_47 (by decide) rfl (fun q => ?_) (fun q => ?_)
            · have h := h.tt q
              exact w_sub [0] rfl (b_X6_kindAt_58 x2 σ h)
            · have h := h.ff q
              refine w_iload_n 0 dX6_kindAt_50 rfl rfl rfl ?_
              refine w_bipush (122 : Int32) dX6_kindAt_51 ic_bipush_122 rfl ?_
              refine w_icmp_gt (tgt := 58) dX6_kindAt_53 (by decide) rfl (fun q => ?_) (fun q => ?_)
              · have h := h.tt q
                exact w_sub [0] rfl (b_X6_kindAt_58 x2 σ h)
              · have h := h.ff q
                refine w_iconst (2 : Int32) dX6_kindAt_56 ic_iconst_2 rfl ?_
                exact w_ireturn dX6_kindAt_57 h
          · have h := h.tt q
            exact w_sub [] rfl (b_X6_kindAt_42 σ h)
      · have h := h.ff q
        exact w_sub [] rfl (b_X6_kindAt_21 σ h)
theorem c_X6_kindAt {l : Launch} {D : va_G} {cy : Nat → ClassId} {ad : Nat → Nat} {p0 : Int32} {σ σ' : St} {r : Int32} (hf : f_X6_kindAt p0 σ = some (r, σ')) : CT l D cy ad yX6_kindAt cX6_kindAt 3 (some .int) rX6_kindAt [.ref (ad 29), .int p0] σ (some (.int r)) σ' :=
  ct_of (by decide) (Nat.le_of_ble_eq_true rfl) (fun p e s m args below meth c A => e_X6_kindAt (Γ := (p, l, e, rX6_kindAt, s, m, args, below, meth, c, D, cy, ad, A, 0, 0, MQ below (QC D cy ad (some (.int r)) σ' A) args s 0 0 A)) p0 σ ⟨_, hf, rfl⟩)
theorem k_X6_kindAt {Γ : CX} {cc : ByteArray} {nL : Nat} {own : String} {ret : Option FieldType} {rm : Room} {σ σ' : St} {pc pc' idx : Nat} {lv : List (Nat × Value)} {rest : List Value} {p0 : Int32} {r : Int32} (hl : Cond.methodLink own idx yX6_kindAt ∈ TB) (hw : (rest.map fun v => v.category).sum ≤ 8) (hR : rX6_kindAt.frames + 1 ≤ rm.frames ∧ 8 + (3 + 11) + rX6_kindAt.locals ≤ rm.locals) (hd : decode cc pc = .ok (.invokevirtual idx, 3)) (hp : pc + 3 = pc') (hf : f_X6_kindAt p0 σ = some (r, σ')) (h : WW Γ cc nL own ret rm σ' pc' lv (.int r :: rest)) : WW Γ cc nL own ret rm σ pc lv (.int p0 :: .ref (xd Γ 29) :: rest) :=
  w_callV (nn := 1) (i := 29) (As := [.int p0]) (v := (some (.int r))) (T := TX6) (N := 9) (c_X6_kindAt hf) hl mw_X6_kindAt (by decide +kernel) ⟨rfl, rfl⟩ hR (lt_lit (by decide)) cel_29 rfl rfl hw hd rfl hp h
/-! WarByHours.Reader.byteAt (I)I -/
def rX6_byteAt : Room := { frames := 0, cells := 0, slots := 0, locals := 0 }
def f_X6_byteAt_23 (k0 : Int32) (σ : St) : Option (Int32 × St) :=
  some (k0, σ)
theorem b_X6_byteAt_23 {Γ : CX} (k0 : Int32) (σ : St) (h : RR vI Γ (f_X6_byteAt_23 k0 σ)) : WW Γ cX6_byteAt 2 RX6 (some .int) rX6_byteAt σ 23 [] [.int k0] := by
  unfold f_X6_byteAt_23 at h
  exact w_ireturn dX6_byteAt_23 h
def f_X6_byteAt_22 (σ : St) : Option (Int32 × St) :=
  f_X6_byteAt_23 (0 : Int32) σ
theorem b_X6_byteAt_22 {Γ : CX} (σ : St) (h : RR vI Γ (f_X6_byteAt_22 σ)) : WW Γ cX6_byteAt 2 RX6 (some .int) rX6_byteAt σ 22 [] [] := by
  unfold f_X6_byteAt_22 at h
  refine w_iconst (0 : Int32) dX6_byteAt_22 ic_iconst_0 rfl ?_
  exact w_sub [] rfl (b_X6_byteAt_23 (0 : Int32) σ h)
def f_X6_byteAt (p0 : Int32) (σ : St) : Option (Int32 × St) :=
  if p0 < 0 then
    f_X6_byteAt_22 σ
  else
    if (nI (ln 30)) ≤ p0 then
      f_X6_byteAt_22 σ
    else
      gd (inb p0 (ln 30)) <|
      f_X6_byteAt_23 (gr σ 30 p0.toNatClampNeg) σ
theorem e_X6_byteAt {Γ : CX} (p0 : Int32) (σ : St) (h : RR vI Γ (f_X6_byteAt p0 σ)) : WW Γ cX6_byteAt 2 RX6 (some .int) rX6_byteAt σ 0 [(0, .ref (xd Γ 29)), (1, .int p0)] [] := by
  unfold f_X6_byteAt at h
  refine w_iload_n 1 dX6_byteAt_0 rfl rfl rfl ?_
  refine w_if_lt (tgt := 22) dX6_byteAt_1 (by decide) rfl (fun q => ?_) (fun q => ?_)
  · have h := h.tt q
    exact w_sub [] rfl (b_X6_byteAt_22 σ h)
  · have h := h.ff q
    refine w_iload_n 1 dX6_byteAt_4 rfl rfl rfl ?_
    refine w_aload_n 0 dX6_byteAt_5 rfl rfl rfl ?_
    refine gf_RX6_9 dX6_byteAt_6 rfl ?_
    refine w_alen (i := 30) (lt_lit (by decide)) (Or.inr (Or.inl rfl)) dX6_byteAt_9 rfl ?_
    refine w_icmp_ge (tgt := 22) dX6_byteAt_10 (by decide) rfl (fun q => ?_) (fun q => ?_)
    · have h := h.tt q
      exact w_sub [] rfl (b_X6_byteAt_22 σ h)
    · have h := h.ff q
      refine w_aload_n 0 dX6_byteAt_13 rfl rfl rfl ?_
      refine gf_RX6_9 dX6_byteAt_14 rfl ?_
      refine w_iload_n 1 dX6_byteAt_17 rfl rfl rfl ?_
      obtain ⟨hi1, h⟩ := h.gd
      refine w_bald (i := 30) (lt_lit (by decide)) rfl hi1 dX6_byteAt_18 rfl ?_
      refine w_goto (tgt := 23) dX6_byteAt_19 (by decide) ?_
      exact w_sub [] rfl (b_X6_byteAt_23 (gr σ 30 p0.toNatClampNeg) σ h)
theorem c_X6_byteAt {l : Launch} {D : va_G} {cy : Nat → ClassId} {ad : Nat → Nat} {p0 : Int32} {σ σ' : St} {r : Int32} (hf : f_X6_byteAt p0 σ = some (r, σ')) : CT l D cy ad yX6_byteAt cX6_byteAt 2 (some .int) rX6_byteAt [.ref (ad 29), .int p0] σ (some (.int r)) σ' :=
  ct_of (by decide) (Nat.le_of_ble_eq_true rfl) (fun p e s m args below meth c A => e_X6_byteAt (Γ := (p, l, e, rX6_byteAt, s, m, args, below, meth, c, D, cy, ad, A, 0, 0, MQ below (QC D cy ad (some (.int r)) σ' A) args s 0 0 A)) p0 σ ⟨_, hf, rfl⟩)
theorem k_X6_byteAt {Γ : CX} {cc : ByteArray} {nL : Nat} {own : String} {ret : Option FieldType} {rm : Room} {σ σ' : St} {pc pc' idx : Nat} {lv : List (Nat × Value)} {rest : List Value} {p0 : Int32} {r : Int32} (hl : Cond.methodLink own idx yX6_byteAt ∈ TB) (hw : (rest.map fun v => v.category).sum ≤ 8) (hR : rX6_byteAt.frames + 1 ≤ rm.frames ∧ 8 + (2 + 11) + rX6_byteAt.locals ≤ rm.locals) (hd : decode cc pc = .ok (.invokevirtual idx, 3)) (hp : pc + 3 = pc') (hf : f_X6_byteAt p0 σ = some (r, σ')) (h : WW Γ cc nL own ret rm σ' pc' lv (.int r :: rest)) : WW Γ cc nL own ret rm σ pc lv (.int p0 :: .ref (xd Γ 29) :: rest) :=
  w_callV (nn := 1) (i := 29) (As := [.int p0]) (v := (some (.int r))) (T := TX6) (N := 9) (c_X6_byteAt hf) hl mw_X6_byteAt (by decide +kernel) ⟨rfl, rfl⟩ hR (lt_lit (by decide)) cel_29 rfl rfl hw hd rfl hp h
/-! WarByHours.Slots.countRows ()I -/
def rX7_countRows : Room := { frames := 0, cells := 0, slots := 0, locals := 0 }
def f_X7_countRows_21 (K4 : Int32 × Int32 × St → Option (Int32 × St)) (v1 : Int32) (v2 : Int32) (σ : St) : Option (Int32 × St) :=
  bnd (v2 + (1 : Int32)) fun x1 =>
  K4 (v1, x1, σ)
theorem b_X7_countRows_21 {Γ : CX} (K4 : Int32 × Int32 × St → Option (Int32 × St)) (hK4 : ∀ (v1 : Int32) (v2 : Int32) (σ : St), RR vI Γ (K4 (v1, v2, σ)) → WW Γ cX7_countRows 3 RX7 (some .int) rX7_countRows σ 4 [(0, .ref (xd Γ 52)), (1, .int v1), (2, .int v2)] []) (v1 : Int32) (v2 : Int32) (σ : St) (h : RR vI Γ (f_X7_countRows_21 K4 v1 v2 σ)) : WW Γ cX7_countRows 3 RX7 (some .int) rX7_countRows σ 21 [(0, .ref (xd Γ 52)), (1, .int v1), (2, .int v2)] [] := by
  unfold f_X7_countRows_21 at h
  obtain ⟨x1, ex1⟩ : ∃ y : Int32, y = (v2 + (1 : Int32)) := ⟨_, rfl⟩
  replace h := h.bnd ex1
  refine w_iinc 2 x1 [(2, .int x1), (0, .ref (xd Γ 52)), (1, .int v1)] dX7_countRows_21 rfl (by rw [ex1, ic_iconst_1]) (by decide) rfl rfl ?_
  clear ex1
  refine w_goto (tgt := 4) dX7_countRows_24 (by decide) ?_
  exact w_sub [1, 2, 0] rfl (hK4 v1 x1 σ h)
def g_X7_countRows_4 (K4 : Int32 × Int32 × St → Option (Int32 × St)) (x : Int32 × Int32 × St) : Option (Int32 × St) := match x with
  | (v1, v2, σ) =>
  if (4 : Int32) ≤ v2 then
    some (v1, σ)
  else
    gd (inb v2 (ln 53)) <|
    if (gr σ 53 v2.toNatClampNeg) = 0 then
      f_X7_countRows_21 K4 v1 v2 σ
    else
      bnd (v1 + (1 : Int32)) fun x2 =>
      f_X7_countRows_21 K4 x2 v2 σ
theorem l_X7_countRows_4 {Γ : CX} : ∀ (n : Nat) (v1 : Int32) (v2 : Int32) (σ : St), RR vI Γ (itr (g_X7_countRows_4) n (v1, v2, σ)) → WW Γ cX7_countRows 3 RX7 (some .int) rX7_countRows σ 4 [(0, .ref (xd Γ 52)), (1, .int v1), (2, .int v2)] [] := by
  intro n
  induction n with
  | zero => intro v1 v2 σ h; exact RR.no h
  | succ n hK4 =>
  intro v1 v2 σ h
  have h : RR vI Γ (g_X7_countRows_4 (itr (g_X7_countRows_4) n) (v1, v2, σ)) := h
  generalize itr (g_X7_countRows_4) n = K4 at h hK4
  unfold g_X7_countRows_4 at h
  dsimp only at h
  refine w_iload_n 2 dX7_countRows_4 rfl rfl rfl ?_
  refine w_iconst (4 : Int32) dX7_countRows_5 ic_iconst_4 rfl ?_
  refine w_icmp_ge (tgt := 27) dX7_countRows_6 (by decide) rfl (fun q => ?_) (fun q => ?_)
  · have h := h.tt q
    refine w_iload_n 1 dX7_countRows_27 rfl rfl rfl ?_
    exact w_ireturn dX7_countRows_28 h
  · have h := h.ff q
    refine w_aload_n 0 dX7_countRows_9 rfl rfl rfl ?_
    refine gf_RX7_11 dX7_countRows_10 rfl ?_
    refine w_iload_n 2 dX7_countRows_13 rfl rfl rfl ?_
    obtain ⟨hi1, h⟩ := h.gd
    refine w_zald (i := 53) (lt_lit (by decide)) rfl hi1 dX7_countRows_14 rfl ?_
    refine w_if_eq (tgt := 21) dX7_countRows_15 (by decide) rfl (fun q => ?_) (fun q => ?_)
    · have h := h.tt q
      exact w_sub [0, 1, 2] rfl (b_X7_countRows_21 K4 hK4 v1 v2 σ h)
    · have h := h.ff q
      obtain ⟨x2, ex2⟩ : ∃ y : Int32, y = (v1 + (1 : Int32)) := ⟨_, rfl⟩
      replace h := h.bnd ex2
      refine w_iinc 1 x2 [(1, .int x2), (0, .ref (xd Γ 52)), (2, .int v2)] dX7_countRows_18 rfl (by rw [ex2, ic_iconst_1]) (by decide) rfl rfl ?_
      clear ex2
      exact w_sub [1, 0, 2] rfl (b_X7_countRows_21 K4 hK4 x2 v2 σ h)
def f_X7_countRows (σ : St) : Option (Int32 × St) :=
  itr (g_X7_countRows_4) FU ((0 : Int32), (0 : Int32), σ)
theorem e_X7_countRows {Γ : CX} (σ : St) (h : RR vI Γ (f_X7_countRows σ)) : WW Γ cX7_countRows 3 RX7 (some .int) rX7_countRows σ 0 [(0, .ref (xd Γ 52))] [] := by
  unfold f_X7_countRows at h
  refine w_iconst (0 : Int32) dX7_countRows_0 ic_iconst_0 rfl ?_
  refine w_istore_n [(1, .int (0 : Int32)), (0, .ref (xd Γ 52))] dX7_countRows_1 rfl (by decide) rfl rfl ?_
  refine w_iconst (0 : Int32) dX7_countRows_2 ic_iconst_0 rfl ?_
  refine w_istore_n [(2, .int (0 : Int32)), (1, .int (0 : Int32)), (0, .ref (xd Γ 52))] dX7_countRows_3 rfl (by decide) rfl rfl ?_
  exact w_sub [2, 1, 0] rfl (l_X7_countRows_4 FU (0 : Int32) (0 : Int32) σ h)
theorem c_X7_countRows {l : Launch} {D : va_G} {cy : Nat → ClassId} {ad : Nat → Nat}  {σ σ' : St} {r : Int32} (hf : f_X7_countRows σ = some (r, σ')) : CT l D cy ad yX7_countRows cX7_countRows 3 (some .int) rX7_countRows [.ref (ad 52)] σ (some (.int r)) σ' :=
  ct_of (by decide) (Nat.le_of_ble_eq_true rfl) (fun p e s m args below meth c A => e_X7_countRows (Γ := (p, l, e, rX7_countRows, s, m, args, below, meth, c, D, cy, ad, A, 0, 0, MQ below (QC D cy ad (some (.int r)) σ' A) args s 0 0 A)) σ ⟨_, hf, rfl⟩)
theorem k_X7_countRows {Γ : CX} {cc : ByteArray} {nL : Nat} {own : String} {ret : Option FieldType} {rm : Room} {σ σ' : St} {pc pc' idx : Nat} {lv : List (Nat × Value)} {rest : List Value}  {r : Int32} (hl : Cond.methodLink own idx yX7_countRows ∈ TB) (hw : (rest.map fun v => v.category).sum ≤ 8) (hR : rX7_countRows.frames + 1 ≤ rm.frames ∧ 8 + (3 + 11) + rX7_countRows.locals ≤ rm.locals) (hd : decode cc pc = .ok (.invokevirtual idx, 3)) (hp : pc + 3 = pc') (hf : f_X7_countRows σ = some (r, σ')) (h : WW Γ cc nL own ret rm σ' pc' lv (.int r :: rest)) : WW Γ cc nL own ret rm σ pc lv (.ref (xd Γ 52) :: rest) :=
  w_callV (nn := 0) (i := 52) (As := []) (v := (some (.int r))) (T := TX7) (N := 4) (c_X7_countRows hf) hl mw_X7_countRows (by decide +kernel) ⟨rfl, rfl⟩ hR (lt_lit (by decide)) cel_52 rfl rfl hw hd rfl hp h
/-! WarByHours.Slots.isWithin (III)Z -/
def rX7_isWithin : Room := { frames := 0, cells := 0, slots := 0, locals := 0 }
def f_X7_isWithin_35 (k0 : Int32) (σ : St) : Option (Int32 × St) :=
  gd (bz k0) <| some (k0, σ)
theorem b_X7_isWithin_35 {Γ : CX} (k0 : Int32) (σ : St) (h : RR vI Γ (f_X7_isWithin_35 k0 σ)) : WW Γ cX7_isWithin 4 RX7 (some .boolean) rX7_isWithin σ 35 [] [.int k0] := by
  unfold f_X7_isWithin_35 at h
  obtain ⟨hb, h⟩ := h.gd
  exact w_zreturn dX7_isWithin_35 hb h
def f_X7_isWithin_34 (σ : St) : Option (Int32 × St) :=
  f_X7_isWithin_35 (0 : Int32) σ
theorem b_X7_isWithin_34 {Γ : CX} (σ : St) (h : RR vI Γ (f_X7_isWithin_34 σ)) : WW Γ cX7_isWithin 4 RX7 (some .boolean) rX7_isWithin σ 34 [] [] := by
  unfold f_X7_isWithin_34 at h
  refine w_iconst (0 : Int32) dX7_isWithin_34 ic_iconst_0 rfl ?_
  exact w_sub [] rfl (b_X7_isWithin_35 (0 : Int32) σ h)
def f_X7_isWithin (p0 : Int32) (p1 : Int32) (p2 : Int32) (σ : St) : Option (Int32 × St) :=
  if p1 < 0 then
    f_X7_isWithin_34 σ
  else
    if p2 < 0 then
      f_X7_isWithin_34 σ
    else
      gd (inb p0 (ln 55)) <|
      if (gr σ 55 p0.toNatClampNeg) < p1 then
        f_X7_isWithin_34 σ
      else
        gd (inb p0 (ln 55)) <|
        if ((gr σ 55 p0.toNatClampNeg) - p1) < p2 then
          f_X7_isWithin_34 σ
        else
          f_X7_isWithin_35 (1 : Int32) σ
theorem e_X7_isWithin {Γ : CX} (p0 : Int32) (p1 : Int32) (p2 : Int32) (σ : St) (h : RR vI Γ (f_X7_isWithin p0 p1 p2 σ)) : WW Γ cX7_isWithin 4 RX7 (some .boolean) rX7_isWithin σ 0 [(0, .ref (xd Γ 52)), (1, .int p0), (2, .int p1), (3, .int p2)] [] := by
  unfold f_X7_isWithin at h
  refine w_iload_n 2 dX7_isWithin_0 rfl rfl rfl ?_
  refine w_if_lt (tgt := 34) dX7_isWithin_1 (by decide) rfl (fun q => ?_) (fun q => ?_)
  · have h := h.tt q
    exact w_sub [] rfl (b_X7_isWithin_34 σ h)
  · have h := h.ff q
    refine w_iload_n 3 dX7_isWithin_4 rfl rfl rfl ?_
    refine w_if_lt (tgt := 34) dX7_isWithin_5 (by decide) rfl (fun q => ?_) (fun q => ?_)
    · have h := h.tt q
      exact w_sub [] rfl (b_X7_isWithin_34 σ h)
    · have h := h.ff q
      refine w_iload_n 2 dX7_isWithin_8 rfl rfl rfl ?_
      refine w_aload_n 0 dX7_isWithin_9 rfl rfl rfl ?_
      refine gf_RX7_19 dX7_isWithin_10 rfl ?_
      refine w_iload_n 1 dX7_isWithin_13 rfl rfl rfl ?_
      obtain ⟨hi1, h⟩ := h.gd
      refine w_iald (i := 55) (lt_lit (by decide)) rfl hi1 dX7_isWithin_14 rfl ?_
      refine w_icmp_gt (tgt := 34) dX7_isWithin_15 (by decide) rfl (fun q => ?_) (fun q => ?_)
      · have h := h.tt q
        exact w_sub [] rfl (b_X7_isWithin_34 σ h)
      · have h := h.ff q
        refine w_iload_n 3 dX7_isWithin_18 rfl rfl rfl ?_
        refine w_aload_n 0 dX7_isWithin_19 rfl rfl rfl ?_
        refine gf_RX7_19 dX7_isWithin_20 rfl ?_
        refine w_iload_n 1 dX7_isWithin_23 rfl rfl rfl ?_
        obtain ⟨hi2, h⟩ := h.gd
        refine w_iald (i := 55) (lt_lit (by decide)) rfl hi2 dX7_isWithin_24 rfl ?_
        refine w_iload_n 2 dX7_isWithin_25 rfl rfl rfl ?_
        refine w_isub dX7_isWithin_26 rfl ?_
        refine w_icmp_gt (tgt := 34) dX7_isWithin_27 (by decide) rfl (fun q => ?_) (fun q => ?_)
        · have h := h.tt q
          exact w_sub [] rfl (b_X7_isWithin_34 σ h)
        · have h := h.ff q
          refine w_iconst (1 : Int32) dX7_isWithin_30 ic_iconst_1 rfl ?_
          refine w_goto (tgt := 35) dX7_isWithin_31 (by decide) ?_
          exact w_sub [] rfl (b_X7_isWithin_35 (1 : Int32) σ h)
theorem c_X7_isWithin {l : Launch} {D : va_G} {cy : Nat → ClassId} {ad : Nat → Nat} {p0 : Int32} {p1 : Int32} {p2 : Int32} {σ σ' : St} {r : Int32} (hf : f_X7_isWithin p0 p1 p2 σ = some (r, σ')) : CT l D cy ad yX7_isWithin cX7_isWithin 4 (some .boolean) rX7_isWithin [.ref (ad 52), .int p0, .int p1, .int p2] σ (some (.int r)) σ' :=
  ct_of (by decide) (Nat.le_of_ble_eq_true rfl) (fun p e s m args below meth c A => e_X7_isWithin (Γ := (p, l, e, rX7_isWithin, s, m, args, below, meth, c, D, cy, ad, A, 0, 0, MQ below (QC D cy ad (some (.int r)) σ' A) args s 0 0 A)) p0 p1 p2 σ ⟨_, hf, rfl⟩)
theorem k_X7_isWithin {Γ : CX} {cc : ByteArray} {nL : Nat} {own : String} {ret : Option FieldType} {rm : Room} {σ σ' : St} {pc pc' idx : Nat} {lv : List (Nat × Value)} {rest : List Value} {p0 : Int32} {p1 : Int32} {p2 : Int32} {r : Int32} (hl : Cond.methodLink own idx yX7_isWithin ∈ TB) (hw : (rest.map fun v => v.category).sum ≤ 8) (hR : rX7_isWithin.frames + 1 ≤ rm.frames ∧ 8 + (4 + 11) + rX7_isWithin.locals ≤ rm.locals) (hd : decode cc pc = .ok (.invokevirtual idx, 3)) (hp : pc + 3 = pc') (hf : f_X7_isWithin p0 p1 p2 σ = some (r, σ')) (h : WW Γ cc nL own ret rm σ' pc' lv (.int r :: rest)) : WW Γ cc nL own ret rm σ pc lv (.int p2 :: .int p1 :: .int p0 :: .ref (xd Γ 52) :: rest) :=
  w_callV (nn := 3) (i := 52) (As := [.int p0, .int p1, .int p2]) (v := (some (.int r))) (T := TX7) (N := 4) (c_X7_isWithin hf) hl mw_X7_isWithin (by decide +kernel) ⟨rfl, rfl⟩ hR (lt_lit (by decide)) cel_52 rfl rfl hw hd rfl hp h
/-! WarByHours.Slots.isSlot (I)Z -/
def rX7_isSlot : Room := { frames := 0, cells := 0, slots := 0, locals := 0 }
def f_X7_isSlot_14 (k0 : Int32) (σ : St) : Option (Int32 × St) :=
  gd (bz k0) <| some (k0, σ)
theorem b_X7_isSlot_14 {Γ : CX} (k0 : Int32) (σ : St) (h : RR vI Γ (f_X7_isSlot_14 k0 σ)) : WW Γ cX7_isSlot 1 RX7 (some .boolean) rX7_isSlot σ 14 [] [.int k0] := by
  unfold f_X7_isSlot_14 at h
  obtain ⟨hb, h⟩ := h.gd
  exact w_zreturn dX7_isSlot_14 hb h
def f_X7_isSlot_13 (σ : St) : Option (Int32 × St) :=
  f_X7_isSlot_14 (0 : Int32) σ
theorem b_X7_isSlot_13 {Γ : CX} (σ : St) (h : RR vI Γ (f_X7_isSlot_13 σ)) : WW Γ cX7_isSlot 1 RX7 (some .boolean) rX7_isSlot σ 13 [] [] := by
  unfold f_X7_isSlot_13 at h
  refine w_iconst (0 : Int32) dX7_isSlot_13 ic_iconst_0 rfl ?_
  exact w_sub [] rfl (b_X7_isSlot_14 (0 : Int32) σ h)
def f_X7_isSlot (p0 : Int32) (σ : St) : Option (Int32 × St) :=
  if p0 < 0 then
    f_X7_isSlot_13 σ
  else
    if (4 : Int32) ≤ p0 then
      f_X7_isSlot_13 σ
    else
      f_X7_isSlot_14 (1 : Int32) σ
theorem e_X7_isSlot {Γ : CX} (p0 : Int32) (σ : St) (h : RR vI Γ (f_X7_isSlot p0 σ)) : WW Γ cX7_isSlot 1 RX7 (some .boolean) rX7_isSlot σ 0 [(0, .int p0)] [] := by
  unfold f_X7_isSlot at h
  refine w_iload_n 0 dX7_isSlot_0 rfl rfl rfl ?_
  refine w_if_lt (tgt := 13) dX7_isSlot_1 (by decide) rfl (fun q => ?_) (fun q => ?_)
  · have h := h.tt q
    exact w_sub [] rfl (b_X7_isSlot_13 σ h)
  · have h := h.ff q
    refine w_iload_n 0 dX7_isSlot_4 rfl rfl rfl ?_
    refine w_iconst (4 : Int32) dX7_isSlot_5 ic_iconst_4 rfl ?_
    refine w_icmp_ge (tgt := 13) dX7_isSlot_6 (by decide) rfl (fun q => ?_) (fun q => ?_)
    · have h := h.tt q
      exact w_sub [] rfl (b_X7_isSlot_13 σ h)
    · have h := h.ff q
      refine w_iconst (1 : Int32) dX7_isSlot_9 ic_iconst_1 rfl ?_
      refine w_goto (tgt := 14) dX7_isSlot_10 (by decide) ?_
      exact w_sub [] rfl (b_X7_isSlot_14 (1 : Int32) σ h)
theorem c_X7_isSlot {l : Launch} {D : va_G} {cy : Nat → ClassId} {ad : Nat → Nat} {p0 : Int32} {σ σ' : St} {r : Int32} (hf : f_X7_isSlot p0 σ = some (r, σ')) : CT l D cy ad yX7_isSlot cX7_isSlot 1 (some .boolean) rX7_isSlot [.int p0] σ (some (.int r)) σ' :=
  ct_of (by decide) (Nat.le_of_ble_eq_true rfl) (fun p e s m args below meth c A => e_X7_isSlot (Γ := (p, l, e, rX7_isSlot, s, m, args, below, meth, c, D, cy, ad, A, 0, 0, MQ below (QC D cy ad (some (.int r)) σ' A) args s 0 0 A)) p0 σ ⟨_, hf, rfl⟩)
theorem k_X7_isSlot {Γ : CX} {cc : ByteArray} {nL : Nat} {own : String} {ret : Option FieldType} {rm : Room} {σ σ' : St} {pc pc' idx : Nat} {lv : List (Nat × Value)} {rest : List Value} {p0 : Int32} {r : Int32} (hl : Cond.methodLink own idx yX7_isSlot ∈ TB) (hw : (rest.map fun v => v.category).sum ≤ 8) (hR : rX7_isSlot.frames + 1 ≤ rm.frames ∧ 8 + (1 + 11) + rX7_isSlot.locals ≤ rm.locals) (hd : decode cc pc = .ok (.invokestatic idx, 3)) (hp : pc + 3 = pc') (hf : f_X7_isSlot p0 σ = some (r, σ')) (h : WW Γ cc nL own ret rm σ' pc' lv (.int r :: rest)) : WW Γ cc nL own ret rm σ pc lv (.int p0 :: rest) :=
  w_callS (nn := 1) (As := [.int p0]) (v := (some (.int r))) (c_X7_isSlot hf) hl mw_X7_isSlot (by decide +kernel) ⟨rfl, rfl⟩ hR rfl hw hd rfl hp h
/-! WarByHours.Slots.cutTo (IJ)J -/
def rX7_cutTo : Room := { frames := 0, cells := 0, slots := 0, locals := 0 }
def f_X7_cutTo (p0 : Int32) (p1 : Int64) (σ : St) : Option (Int64 × St) :=
  if p0 = (0 : Int32) then
    some (p1.toInt32.toInt8.toInt32.toInt64, σ)
  else
  if p0 = (1 : Int32) then
    some (p1.toInt32.toInt16.toInt32.toInt64, σ)
  else
  if p0 = (2 : Int32) then
    some (p1.toInt32.toInt64, σ)
  else
    some (p1, σ)
theorem e_X7_cutTo {Γ : CX} (p0 : Int32) (p1 : Int64) (σ : St) (h : RR vL Γ (f_X7_cutTo p0 p1 σ)) : WW Γ cX7_cutTo 3 RX7 (some .long) rX7_cutTo σ 0 [(0, .int p0), (1, .long p1)] [] := by
  unfold f_X7_cutTo at h
  refine w_iload_n 0 dX7_cutTo_0 rfl rfl rfl ?_
  by_cases q0 : p0 = (0 : Int32)
  · have h := h.tt q0
    refine w_tsw (0 : Int32) q0 (tgt := 28) dX7_cutTo_1 (by decide) (by decide) rfl (by decide) ?_
    refine w_lload_n 1 dX7_cutTo_28 rfl rfl rfl ?_
    refine w_l2i dX7_cutTo_29 rfl ?_
    refine w_i2b dX7_cutTo_30 rfl ?_
    refine w_i2l dX7_cutTo_31 rfl ?_
    exact w_lreturn dX7_cutTo_32 h
  have h := h.ff q0
  by_cases q1 : p0 = (1 : Int32)
  · have h := h.tt q1
    refine w_tsw (1 : Int32) q1 (tgt := 33) dX7_cutTo_1 (by decide) (by decide) rfl (by decide) ?_
    refine w_lload_n 1 dX7_cutTo_33 rfl rfl rfl ?_
    refine w_l2i dX7_cutTo_34 rfl ?_
    refine w_i2s dX7_cutTo_35 rfl ?_
    refine w_i2l dX7_cutTo_36 rfl ?_
    exact w_lreturn dX7_cutTo_37 h
  have h := h.ff q1
  by_cases q2 : p0 = (2 : Int32)
  · have h := h.tt q2
    refine w_tsw (2 : Int32) q2 (tgt := 38) dX7_cutTo_1 (by decide) (by decide) rfl (by decide) ?_
    refine w_lload_n 1 dX7_cutTo_38 rfl rfl rfl ?_
    refine w_l2i dX7_cutTo_39 rfl ?_
    refine w_i2l dX7_cutTo_40 rfl ?_
    exact w_lreturn dX7_cutTo_41 h
  have h := h.ff q2
  refine w_tableOut (tgt := 42) dX7_cutTo_1 (by have z0 := i32_ne q0 (z := 0) rfl; have z1 := i32_ne q1 (z := 1) rfl; have z2 := i32_ne q2 (z := 2) rfl; omega) (by decide) ?_
  refine w_lload_n 1 dX7_cutTo_42 rfl rfl rfl ?_
  exact w_lreturn dX7_cutTo_43 h
theorem c_X7_cutTo {l : Launch} {D : va_G} {cy : Nat → ClassId} {ad : Nat → Nat} {p0 : Int32} {p1 : Int64} {σ σ' : St} {r : Int64} (hf : f_X7_cutTo p0 p1 σ = some (r, σ')) : CT l D cy ad yX7_cutTo cX7_cutTo 3 (some .long) rX7_cutTo [.int p0, .long p1] σ (some (.long r)) σ' :=
  ct_of (by decide) (Nat.le_of_ble_eq_true rfl) (fun p e s m args below meth c A => e_X7_cutTo (Γ := (p, l, e, rX7_cutTo, s, m, args, below, meth, c, D, cy, ad, A, 0, 0, MQ below (QC D cy ad (some (.long r)) σ' A) args s 0 0 A)) p0 p1 σ ⟨_, hf, rfl⟩)
theorem k_X7_cutTo {Γ : CX} {cc : ByteArray} {nL : Nat} {own : String} {ret : Option FieldType} {rm : Room} {σ σ' : St} {pc pc' idx : Nat} {lv : List (Nat × Value)} {rest : List Value} {p0 : Int32} {p1 : Int64} {r : Int64} (hl : Cond.methodLink own idx yX7_cutTo ∈ TB) (hw : (rest.map fun v => v.category).sum ≤ 8) (hR : rX7_cutTo.frames + 1 ≤ rm.frames ∧ 8 + (3 + 11) + rX7_cutTo.locals ≤ rm.locals) (hd : decode cc pc = .ok (.invokestatic idx, 3)) (hp : pc + 3 = pc') (hf : f_X7_cutTo p0 p1 σ = some (r, σ')) (h : WW Γ cc nL own ret rm σ' pc' lv (.long r :: rest)) : WW Γ cc nL own ret rm σ pc lv (.long p1 :: .int p0 :: rest) :=
  w_callS (nn := 2) (As := [.int p0, .long p1]) (v := (some (.long r))) (c_X7_cutTo hf) hl mw_X7_cutTo (by decide +kernel) ⟨rfl, rfl⟩ hR rfl hw hd rfl hp h
/-! WarByHours.Table.isFull ()Z -/
def rX9_isFull : Room := { frames := 0, cells := 0, slots := 0, locals := 0 }
def f_X9_isFull_16 (t : Nat) (k0 : Int32) (σ : St) : Option (Int32 × St) :=
  gd (bz k0) <| some (k0, σ)
theorem b_X9_isFull_16 {Γ : CX} (t : Nat) (k0 : Int32) (σ : St) (h : RR vI Γ (f_X9_isFull_16 t k0 σ)) : WW Γ cX9_isFull 1 RX9 (some .boolean) rX9_isFull σ 16 [] [.int k0] := by
  unfold f_X9_isFull_16 at h
  obtain ⟨hb, h⟩ := h.gd
  exact w_zreturn dX9_isFull_16 hb h
def f_X9_isFull (t : Nat) (σ : St) : Option (Int32 × St) :=
  gd (isT σ t) <|
  if (gf σ t 3) < (tm t) then
    f_X9_isFull_16 t (0 : Int32) σ
  else
    f_X9_isFull_16 t (1 : Int32) σ
theorem e_X9_isFull {Γ : CX} (t : Nat) (σ : St) (h : RR vI Γ (f_X9_isFull t σ)) : WW Γ cX9_isFull 1 RX9 (some .boolean) rX9_isFull σ 0 [(0, .ref (xd Γ t))] [] := by
  unfold f_X9_isFull at h
  obtain ⟨hg_t_σ, h⟩ := h.gd
  refine w_aload_n 0 dX9_isFull_0 rfl rfl rfl ?_
  refine gf_RX9_28 (i := t) hg_t_σ dX9_isFull_1 rfl ?_
  refine w_aload_n 0 dX9_isFull_4 rfl rfl rfl ?_
  refine gf_RX9_15 (i := t) hg_t_σ dX9_isFull_5 rfl ?_
  refine w_icmp_lt (tgt := 15) dX9_isFull_8 (by decide) rfl (fun q => ?_) (fun q => ?_)
  · have h := h.tt q
    refine w_iconst (0 : Int32) dX9_isFull_15 ic_iconst_0 rfl ?_
    exact w_sub [] rfl (b_X9_isFull_16 t (0 : Int32) σ h)
  · have h := h.ff q
    refine w_iconst (1 : Int32) dX9_isFull_11 ic_iconst_1 rfl ?_
    refine w_goto (tgt := 16) dX9_isFull_12 (by decide) ?_
    exact w_sub [] rfl (b_X9_isFull_16 t (1 : Int32) σ h)
theorem c_X9_isFull {l : Launch} {D : va_G} {cy : Nat → ClassId} {ad : Nat → Nat} {t : Nat} {σ σ' : St} {r : Int32} (hf : f_X9_isFull t σ = some (r, σ')) : CT l D cy ad yX9_isFull cX9_isFull 1 (some .boolean) rX9_isFull [.ref (ad t)] σ (some (.int r)) σ' :=
  ct_of (by decide) (Nat.le_of_ble_eq_true rfl) (fun p e s m args below meth c A => e_X9_isFull (Γ := (p, l, e, rX9_isFull, s, m, args, below, meth, c, D, cy, ad, A, 0, 0, MQ below (QC D cy ad (some (.int r)) σ' A) args s 0 0 A)) t σ ⟨_, hf, rfl⟩)
theorem k_X9_isFull {Γ : CX} {cc : ByteArray} {nL : Nat} {own : String} {ret : Option FieldType} {rm : Room} {σ σ' : St} {pc pc' idx : Nat} {lv : List (Nat × Value)} {rest : List Value} {t : Nat} {r : Int32} (hl : Cond.methodLink own idx yX9_isFull ∈ TB) (hw : (rest.map fun v => v.category).sum ≤ 8) (hR : rX9_isFull.frames + 1 ≤ rm.frames ∧ 8 + (1 + 11) + rX9_isFull.locals ≤ rm.locals) (hd : decode cc pc = .ok (.invokevirtual idx, 3)) (hp : pc + 3 = pc') (hf : f_X9_isFull t σ = some (r, σ')) (h : WW Γ cc nL own ret rm σ' pc' lv (.int r :: rest)) : WW Γ cc nL own ret rm σ pc lv (.ref (xd Γ t) :: rest) := by
  have hT : isT σ t = true := by
    unfold f_X9_isFull at hf
    exact gd_of hf
  exact w_callV (nn := 0) (i := t) (As := []) (v := (some (.int r))) (T := TX9) (N := 4) (c_X9_isFull hf) hl mw_X9_isFull (by decide +kernel) ⟨rfl, rfl⟩ hR (isT_lt0 hT) (cel_T hT) rfl rfl hw hd rfl hp h
/-! WarByHours.Table.cell (II)I -/
def rX9_cell : Room := { frames := 0, cells := 0, slots := 0, locals := 0 }
def f_X9_cell_24 (t : Nat) (σ : St) : Option (Int32 × St) :=
  some ((-2 : Int32), σ)
theorem b_X9_cell_24 {Γ : CX} (t : Nat) (σ : St) (h : RR vI Γ (f_X9_cell_24 t σ)) : WW Γ cX9_cell 3 RX9 (some .int) rX9_cell σ 24 [] [] := by
  unfold f_X9_cell_24 at h
  refine w_bipush (-2 : Int32) dX9_cell_24 ic_bipush_m2 rfl ?_
  exact w_ireturn dX9_cell_26 h
def f_X9_cell (t : Nat) (p0 : Int32) (p1 : Int32) (σ : St) : Option (Int32 × St) :=
  gd (isT σ t) <|
  if p0 < 0 then
    f_X9_cell_24 t σ
  else
    if (gf σ t 3) ≤ p0 then
      f_X9_cell_24 t σ
    else
      if p1 < 0 then
        f_X9_cell_24 t σ
      else
        if p1 < (tw t) then
          gd (inb ((p0 * (tw t)) + p1) (ln (t + 1))) <|
          some ((gr σ (t + 1) ((p0 * (tw t)) + p1).toNatClampNeg), σ)
        else
          f_X9_cell_24 t σ
theorem e_X9_cell {Γ : CX} (t : Nat) (p0 : Int32) (p1 : Int32) (σ : St) (h : RR vI Γ (f_X9_cell t p0 p1 σ)) : WW Γ cX9_cell 3 RX9 (some .int) rX9_cell σ 0 [(0, .ref (xd Γ t)), (1, .int p0), (2, .int p1)] [] := by
  unfold f_X9_cell at h
  obtain ⟨hg_t_σ, h⟩ := h.gd
  refine w_iload_n 1 dX9_cell_0 rfl rfl rfl ?_
  refine w_if_lt (tgt := 24) dX9_cell_1 (by decide) rfl (fun q => ?_) (fun q => ?_)
  · have h := h.tt q
    exact w_sub [] rfl (b_X9_cell_24 t σ h)
  · have h := h.ff q
    refine w_iload_n 1 dX9_cell_4 rfl rfl rfl ?_
    refine w_aload_n 0 dX9_cell_5 rfl rfl rfl ?_
    refine gf_RX9_28 (i := t) hg_t_σ dX9_cell_6 rfl ?_
    refine w_icmp_ge (tgt := 24) dX9_cell_9 (by decide) rfl (fun q => ?_) (fun q => ?_)
    · have h := h.tt q
      exact w_sub [] rfl (b_X9_cell_24 t σ h)
    · have h := h.ff q
      refine w_iload_n 2 dX9_cell_12 rfl rfl rfl ?_
      refine w_if_lt (tgt := 24) dX9_cell_13 (by decide) rfl (fun q => ?_) (fun q => ?_)
      · have h := h.tt q
        exact w_sub [] rfl (b_X9_cell_24 t σ h)
      · have h := h.ff q
        refine w_iload_n 2 dX9_cell_16 rfl rfl rfl ?_
        refine w_aload_n 0 dX9_cell_17 rfl rfl rfl ?_
        refine gf_RX9_21 (i := t) hg_t_σ dX9_cell_18 rfl ?_
        refine w_icmp_lt (tgt := 27) dX9_cell_21 (by decide) rfl (fun q => ?_) (fun q => ?_)
        · have h := h.tt q
          refine w_aload_n 0 dX9_cell_27 rfl rfl rfl ?_
          refine gf_RX9_24 (i := t) hg_t_σ dX9_cell_28 rfl ?_
          refine w_iload_n 1 dX9_cell_31 rfl rfl rfl ?_
          refine w_aload_n 0 dX9_cell_32 rfl rfl rfl ?_
          refine gf_RX9_21 (i := t) hg_t_σ dX9_cell_33 rfl ?_
          refine w_imul dX9_cell_36 rfl ?_
          refine w_iload_n 2 dX9_cell_37 rfl rfl rfl ?_
          refine w_iadd dX9_cell_38 rfl ?_
          obtain ⟨hi1, h⟩ := h.gd
          refine w_iald (i := (t + 1)) (isT_lt hg_t_σ) (isT_kd hg_t_σ) hi1 dX9_cell_39 rfl ?_
          exact w_ireturn dX9_cell_40 h
        · have h := h.ff q
          exact w_sub [] rfl (b_X9_cell_24 t σ h)
theorem c_X9_cell {l : Launch} {D : va_G} {cy : Nat → ClassId} {ad : Nat → Nat} {t : Nat} {p0 : Int32} {p1 : Int32} {σ σ' : St} {r : Int32} (hf : f_X9_cell t p0 p1 σ = some (r, σ')) : CT l D cy ad yX9_cell cX9_cell 3 (some .int) rX9_cell [.ref (ad t), .int p0, .int p1] σ (some (.int r)) σ' :=
  ct_of (by decide) (Nat.le_of_ble_eq_true rfl) (fun p e s m args below meth c A => e_X9_cell (Γ := (p, l, e, rX9_cell, s, m, args, below, meth, c, D, cy, ad, A, 0, 0, MQ below (QC D cy ad (some (.int r)) σ' A) args s 0 0 A)) t p0 p1 σ ⟨_, hf, rfl⟩)
theorem k_X9_cell {Γ : CX} {cc : ByteArray} {nL : Nat} {own : String} {ret : Option FieldType} {rm : Room} {σ σ' : St} {pc pc' idx : Nat} {lv : List (Nat × Value)} {rest : List Value} {t : Nat} {p0 : Int32} {p1 : Int32} {r : Int32} (hl : Cond.methodLink own idx yX9_cell ∈ TB) (hw : (rest.map fun v => v.category).sum ≤ 8) (hR : rX9_cell.frames + 1 ≤ rm.frames ∧ 8 + (3 + 11) + rX9_cell.locals ≤ rm.locals) (hd : decode cc pc = .ok (.invokevirtual idx, 3)) (hp : pc + 3 = pc') (hf : f_X9_cell t p0 p1 σ = some (r, σ')) (h : WW Γ cc nL own ret rm σ' pc' lv (.int r :: rest)) : WW Γ cc nL own ret rm σ pc lv (.int p1 :: .int p0 :: .ref (xd Γ t) :: rest) := by
  have hT : isT σ t = true := by
    unfold f_X9_cell at hf
    exact gd_of hf
  exact w_callV (nn := 2) (i := t) (As := [.int p0, .int p1]) (v := (some (.int r))) (T := TX9) (N := 4) (c_X9_cell hf) hl mw_X9_cell (by decide +kernel) ⟨rfl, rfl⟩ hR (isT_lt0 hT) (cel_T hT) rfl rfl hw hd rfl hp h
/-! WarByHours.Table.set (III)V -/
def rX9_set : Room := { frames := 0, cells := 0, slots := 0, locals := 0 }
def f_X9_set_38 (t : Nat) (σ : St) : Option (Unit × St) :=
  some ((), σ)
theorem b_X9_set_38 {Γ : CX} (t : Nat) (σ : St) (h : RR vU Γ (f_X9_set_38 t σ)) : WW Γ cX9_set 4 RX9 none rX9_set σ 38 [] [] := by
  unfold f_X9_set_38 at h
  exact w_return dX9_set_38 h
def f_X9_set (t : Nat) (p0 : Int32) (p1 : Int32) (p2 : Int32) (σ : St) : Option (Unit × St) :=
  gd (isT σ t) <|
  if p0 < 0 then
    f_X9_set_38 t σ
  else
    if (gf σ t 3) ≤ p0 then
      f_X9_set_38 t σ
    else
      if p1 < 0 then
        f_X9_set_38 t σ
      else
        if (tw t) ≤ p1 then
          f_X9_set_38 t σ
        else
          gd (inb ((p0 * (tw t)) + p1) (ln (t + 1))) <|
          bnd (sr σ (t + 1) ((p0 * (tw t)) + p1).toNatClampNeg p2) fun s2 =>
          f_X9_set_38 t s2
theorem e_X9_set {Γ : CX} (t : Nat) (p0 : Int32) (p1 : Int32) (p2 : Int32) (σ : St) (h : RR vU Γ (f_X9_set t p0 p1 p2 σ)) : WW Γ cX9_set 4 RX9 none rX9_set σ 0 [(0, .ref (xd Γ t)), (1, .int p0), (2, .int p1), (3, .int p2)] [] := by
  unfold f_X9_set at h
  obtain ⟨hg_t_σ, h⟩ := h.gd
  refine w_iload_n 1 dX9_set_0 rfl rfl rfl ?_
  refine w_if_lt (tgt := 38) dX9_set_1 (by decide) rfl (fun q => ?_) (fun q => ?_)
  · have h := h.tt q
    exact w_sub [] rfl (b_X9_set_38 t σ h)
  · have h := h.ff q
    refine w_iload_n 1 dX9_set_4 rfl rfl rfl ?_
    refine w_aload_n 0 dX9_set_5 rfl rfl rfl ?_
    refine gf_RX9_28 (i := t) hg_t_σ dX9_set_6 rfl ?_
    refine w_icmp_ge (tgt := 38) dX9_set_9 (by decide) rfl (fun q => ?_) (fun q => ?_)
    · have h := h.tt q
      exact w_sub [] rfl (b_X9_set_38 t σ h)
    · have h := h.ff q
      refine w_iload_n 2 dX9_set_12 rfl rfl rfl ?_
      refine w_if_lt (tgt := 38) dX9_set_13 (by decide) rfl (fun q => ?_) (fun q => ?_)
      · have h := h.tt q
        exact w_sub [] rfl (b_X9_set_38 t σ h)
      · have h := h.ff q
        refine w_iload_n 2 dX9_set_16 rfl rfl rfl ?_
        refine w_aload_n 0 dX9_set_17 rfl rfl rfl ?_
        refine gf_RX9_21 (i := t) hg_t_σ dX9_set_18 rfl ?_
        refine w_icmp_ge (tgt := 38) dX9_set_21 (by decide) rfl (fun q => ?_) (fun q => ?_)
        · have h := h.tt q
          exact w_sub [] rfl (b_X9_set_38 t σ h)
        · have h := h.ff q
          refine w_aload_n 0 dX9_set_24 rfl rfl rfl ?_
          refine gf_RX9_24 (i := t) hg_t_σ dX9_set_25 rfl ?_
          refine w_iload_n 1 dX9_set_28 rfl rfl rfl ?_
          refine w_aload_n 0 dX9_set_29 rfl rfl rfl ?_
          refine gf_RX9_21 (i := t) hg_t_σ dX9_set_30 rfl ?_
          refine w_imul dX9_set_33 rfl ?_
          refine w_iload_n 2 dX9_set_34 rfl rfl rfl ?_
          refine w_iadd dX9_set_35 rfl ?_
          refine w_iload_n 3 dX9_set_36 rfl rfl rfl ?_
          obtain ⟨hi1, h⟩ := h.gd
          refine w_iast (i := (t + 1)) (isT_lt hg_t_σ) (isT_kd hg_t_σ) hi1 dX9_set_37 rfl ?_
          obtain ⟨s2, es2⟩ : ∃ y : St, y = (sr σ (t + 1) ((p0 * (tw t)) + p1).toNatClampNeg p2) := ⟨_, rfl⟩
          rw [← es2]
          replace h := h.bnd es2
          have hg_t_s2 : isT s2 t = true := by rw [es2]; exact hg_t_σ
          clear es2
          exact w_sub [] rfl (b_X9_set_38 t s2 h)
theorem c_X9_set {l : Launch} {D : va_G} {cy : Nat → ClassId} {ad : Nat → Nat} {t : Nat} {p0 : Int32} {p1 : Int32} {p2 : Int32} {σ σ' : St} {r : Unit} (hf : f_X9_set t p0 p1 p2 σ = some (r, σ')) : CT l D cy ad yX9_set cX9_set 4 none rX9_set [.ref (ad t), .int p0, .int p1, .int p2] σ none σ' :=
  ct_of (by decide) (Nat.le_of_ble_eq_true rfl) (fun p e s m args below meth c A => e_X9_set (Γ := (p, l, e, rX9_set, s, m, args, below, meth, c, D, cy, ad, A, 0, 0, MQ below (QC D cy ad none σ' A) args s 0 0 A)) t p0 p1 p2 σ ⟨_, hf, rfl⟩)
theorem k_X9_set {Γ : CX} {cc : ByteArray} {nL : Nat} {own : String} {ret : Option FieldType} {rm : Room} {σ σ' : St} {pc pc' idx : Nat} {lv : List (Nat × Value)} {rest : List Value} {t : Nat} {p0 : Int32} {p1 : Int32} {p2 : Int32} {r : Unit} (hl : Cond.methodLink own idx yX9_set ∈ TB) (hw : (rest.map fun v => v.category).sum ≤ 8) (hR : rX9_set.frames + 1 ≤ rm.frames ∧ 8 + (4 + 11) + rX9_set.locals ≤ rm.locals) (hd : decode cc pc = .ok (.invokevirtual idx, 3)) (hp : pc + 3 = pc') (hf : f_X9_set t p0 p1 p2 σ = some (r, σ')) (h : WW Γ cc nL own ret rm σ' pc' lv (rest)) : WW Γ cc nL own ret rm σ pc lv (.int p2 :: .int p1 :: .int p0 :: .ref (xd Γ t) :: rest) := by
  have hT : isT σ t = true := by
    unfold f_X9_set at hf
    exact gd_of hf
  exact w_callV (nn := 3) (i := t) (As := [.int p0, .int p1, .int p2]) (v := none) (T := TX9) (N := 4) (c_X9_set hf) hl mw_X9_set (by decide +kernel) ⟨rfl, rfl⟩ hR (isT_lt0 hT) (cel_T hT) rfl rfl hw hd rfl hp h
/-! WarByHours.Table.add ()V -/
def rX9_add : Room := { frames := 1, cells := 0, slots := 0, locals := 20 }
def f_X9_add_17 (t : Nat) (σ : St) : Option (Unit × St) :=
  some ((), σ)
theorem b_X9_add_17 {Γ : CX} (t : Nat) (σ : St) (h : RR vU Γ (f_X9_add_17 t σ)) : WW Γ cX9_add 1 RX9 none rX9_add σ 17 [] [] := by
  unfold f_X9_add_17 at h
  exact w_return dX9_add_17 h
def f_X9_add (t : Nat) (σ : St) : Option (Unit × St) :=
  gd (isT σ t) <|
  bd (f_X9_isFull t σ) fun r1 s2 =>
  if r1 = 0 then
    gd (isT s2 t) <|
    bnd (sf s2 t 3 ((gf s2 t 3) + (1 : Int32))) fun s4 =>
    f_X9_add_17 t s4
  else
    f_X9_add_17 t s2
theorem e_X9_add {Γ : CX} (t : Nat) (σ : St) (h : RR vU Γ (f_X9_add t σ)) : WW Γ cX9_add 1 RX9 none rX9_add σ 0 [(0, .ref (xd Γ t))] [] := by
  unfold f_X9_add at h
  obtain ⟨hg_t_σ, h⟩ := h.gd
  refine w_aload_n 0 dX9_add_0 rfl rfl rfl ?_
  obtain ⟨r1, s2, h3, h⟩ := h.bd
  refine k_X9_isFull ml_RX9_31 (Nat.le_of_ble_eq_true rfl) ⟨Nat.le_of_ble_eq_true rfl, Nat.le_of_ble_eq_true rfl⟩ dX9_add_1 rfl h3 ?_
  refine w_if_ne (tgt := 17) dX9_add_4 (by decide) rfl (fun q => ?_) (fun q => ?_)
  · have h := h.ff q
    exact w_sub [] rfl (b_X9_add_17 t s2 h)
  · have h := h.tt q
    refine w_aload_n 0 dX9_add_7 rfl rfl rfl ?_
    refine w_dup dX9_add_8 rfl rfl ?_
    obtain ⟨hg_t_s2, h⟩ := h.gd
    refine gf_RX9_28 (i := t) hg_t_s2 dX9_add_9 rfl ?_
    refine w_iconst (1 : Int32) dX9_add_12 ic_iconst_1 rfl ?_
    refine w_iadd dX9_add_13 rfl ?_
    refine pf_RX9_28 (i := t) hg_t_s2 dX9_add_14 rfl ?_
    obtain ⟨s4, es4⟩ : ∃ y : St, y = (sf s2 t 3 ((gf s2 t 3) + (1 : Int32))) := ⟨_, rfl⟩
    rw [← es4]
    replace h := h.bnd es4
    have hg_t_s4 : isT s4 t = true := by rw [es4]; exact hg_t_s2
    clear es4
    exact w_sub [] rfl (b_X9_add_17 t s4 h)
theorem c_X9_add {l : Launch} {D : va_G} {cy : Nat → ClassId} {ad : Nat → Nat} {t : Nat} {σ σ' : St} {r : Unit} (hf : f_X9_add t σ = some (r, σ')) : CT l D cy ad yX9_add cX9_add 1 none rX9_add [.ref (ad t)] σ none σ' :=
  ct_of (by decide) (Nat.le_of_ble_eq_true rfl) (fun p e s m args below meth c A => e_X9_add (Γ := (p, l, e, rX9_add, s, m, args, below, meth, c, D, cy, ad, A, 0, 0, MQ below (QC D cy ad none σ' A) args s 0 0 A)) t σ ⟨_, hf, rfl⟩)
theorem k_X9_add {Γ : CX} {cc : ByteArray} {nL : Nat} {own : String} {ret : Option FieldType} {rm : Room} {σ σ' : St} {pc pc' idx : Nat} {lv : List (Nat × Value)} {rest : List Value} {t : Nat} {r : Unit} (hl : Cond.methodLink own idx yX9_add ∈ TB) (hw : (rest.map fun v => v.category).sum ≤ 8) (hR : rX9_add.frames + 1 ≤ rm.frames ∧ 8 + (1 + 11) + rX9_add.locals ≤ rm.locals) (hd : decode cc pc = .ok (.invokevirtual idx, 3)) (hp : pc + 3 = pc') (hf : f_X9_add t σ = some (r, σ')) (h : WW Γ cc nL own ret rm σ' pc' lv (rest)) : WW Γ cc nL own ret rm σ pc lv (.ref (xd Γ t) :: rest) := by
  have hT : isT σ t = true := by
    unfold f_X9_add at hf
    exact gd_of hf
  exact w_callV (nn := 0) (i := t) (As := []) (v := none) (T := TX9) (N := 4) (c_X9_add hf) hl mw_X9_add (by decide +kernel) ⟨rfl, rfl⟩ hR (isT_lt0 hT) (cel_T hT) rfl rfl hw hd rfl hp h
/-! WarByHours.Table.drop ()V -/
def rX9_drop : Room := { frames := 0, cells := 0, slots := 0, locals := 0 }
def f_X9_drop_17 (t : Nat) (σ : St) : Option (Unit × St) :=
  some ((), σ)
theorem b_X9_drop_17 {Γ : CX} (t : Nat) (σ : St) (h : RR vU Γ (f_X9_drop_17 t σ)) : WW Γ cX9_drop 1 RX9 none rX9_drop σ 17 [] [] := by
  unfold f_X9_drop_17 at h
  exact w_return dX9_drop_17 h
def f_X9_drop (t : Nat) (σ : St) : Option (Unit × St) :=
  gd (isT σ t) <|
  if (gf σ t 3) ≤ 0 then
    f_X9_drop_17 t σ
  else
    bnd (sf σ t 3 ((gf σ t 3) - (1 : Int32))) fun s1 =>
    f_X9_drop_17 t s1
theorem e_X9_drop {Γ : CX} (t : Nat) (σ : St) (h : RR vU Γ (f_X9_drop t σ)) : WW Γ cX9_drop 1 RX9 none rX9_drop σ 0 [(0, .ref (xd Γ t))] [] := by
  unfold f_X9_drop at h
  obtain ⟨hg_t_σ, h⟩ := h.gd
  refine w_aload_n 0 dX9_drop_0 rfl rfl rfl ?_
  refine gf_RX9_28 (i := t) hg_t_σ dX9_drop_1 rfl ?_
  refine w_if_le (tgt := 17) dX9_drop_4 (by decide) rfl (fun q => ?_) (fun q => ?_)
  · have h := h.tt q
    exact w_sub [] rfl (b_X9_drop_17 t σ h)
  · have h := h.ff q
    refine w_aload_n 0 dX9_drop_7 rfl rfl rfl ?_
    refine w_dup dX9_drop_8 rfl rfl ?_
    refine gf_RX9_28 (i := t) hg_t_σ dX9_drop_9 rfl ?_
    refine w_iconst (1 : Int32) dX9_drop_12 ic_iconst_1 rfl ?_
    refine w_isub dX9_drop_13 rfl ?_
    refine pf_RX9_28 (i := t) hg_t_σ dX9_drop_14 rfl ?_
    obtain ⟨s1, es1⟩ : ∃ y : St, y = (sf σ t 3 ((gf σ t 3) - (1 : Int32))) := ⟨_, rfl⟩
    rw [← es1]
    replace h := h.bnd es1
    have hg_t_s1 : isT s1 t = true := by rw [es1]; exact hg_t_σ
    clear es1
    exact w_sub [] rfl (b_X9_drop_17 t s1 h)
theorem c_X9_drop {l : Launch} {D : va_G} {cy : Nat → ClassId} {ad : Nat → Nat} {t : Nat} {σ σ' : St} {r : Unit} (hf : f_X9_drop t σ = some (r, σ')) : CT l D cy ad yX9_drop cX9_drop 1 none rX9_drop [.ref (ad t)] σ none σ' :=
  ct_of (by decide) (Nat.le_of_ble_eq_true rfl) (fun p e s m args below meth c A => e_X9_drop (Γ := (p, l, e, rX9_drop, s, m, args, below, meth, c, D, cy, ad, A, 0, 0, MQ below (QC D cy ad none σ' A) args s 0 0 A)) t σ ⟨_, hf, rfl⟩)
theorem k_X9_drop {Γ : CX} {cc : ByteArray} {nL : Nat} {own : String} {ret : Option FieldType} {rm : Room} {σ σ' : St} {pc pc' idx : Nat} {lv : List (Nat × Value)} {rest : List Value} {t : Nat} {r : Unit} (hl : Cond.methodLink own idx yX9_drop ∈ TB) (hw : (rest.map fun v => v.category).sum ≤ 8) (hR : rX9_drop.frames + 1 ≤ rm.frames ∧ 8 + (1 + 11) + rX9_drop.locals ≤ rm.locals) (hd : decode cc pc = .ok (.invokevirtual idx, 3)) (hp : pc + 3 = pc') (hf : f_X9_drop t σ = some (r, σ')) (h : WW Γ cc nL own ret rm σ' pc' lv (rest)) : WW Γ cc nL own ret rm σ pc lv (.ref (xd Γ t) :: rest) := by
  have hT : isT σ t = true := by
    unfold f_X9_drop at hf
    exact gd_of hf
  exact w_callV (nn := 0) (i := t) (As := []) (v := none) (T := TX9) (N := 4) (c_X9_drop hf) hl mw_X9_drop (by decide +kernel) ⟨rfl, rfl⟩ hR (isT_lt0 hT) (cel_T hT) rfl rfl hw hd rfl hp h
/-! WarByHours.Table.become (LWarByHours$Table;)V -/
def rX9_become : Room := { frames := 1, cells := 0, slots := 0, locals := 60 }
def f_X9_become (t : Nat) (u0 : Nat) (σ : St) : Option (Unit × St) :=
  gd (isT σ t) <|
  gd (isT σ u0) <|
  bnd (sf σ t 3 (gf σ u0 3)) fun s1 =>
  gd (cpok (0 : Int32) (0 : Int32) (if (nI (ln (u0 + 1))) < (nI (ln (t + 1))) then (nI (ln (u0 + 1))) else (nI (ln (t + 1)))) (ln (u0 + 1)) (ln (t + 1))) <|
  bnd (sR s1 (t + 1) (va_cpy (gr s1 (u0 + 1)) (gr s1 (t + 1)) (0 : Int32).toNatClampNeg (0 : Int32).toNatClampNeg (if (nI (ln (u0 + 1))) < (nI (ln (t + 1))) then (nI (ln (u0 + 1))) else (nI (ln (t + 1)))).toNatClampNeg)) fun s3 =>
  some ((), s3)
theorem e_X9_become {Γ : CX} (t : Nat) (u0 : Nat) (σ : St) (h : RR vU Γ (f_X9_become t u0 σ)) : WW Γ cX9_become 2 RX9 none rX9_become σ 0 [(0, .ref (xd Γ t)), (1, .ref (xd Γ u0))] [] := by
  unfold f_X9_become at h
  obtain ⟨hg_t_σ, h⟩ := h.gd
  obtain ⟨hg_u0_σ, h⟩ := h.gd
  refine w_aload_n 0 dX9_become_0 rfl rfl rfl ?_
  refine w_aload_n 1 dX9_become_1 rfl rfl rfl ?_
  refine gf_RX9_28 (i := u0) hg_u0_σ dX9_become_2 rfl ?_
  refine pf_RX9_28 (i := t) hg_t_σ dX9_become_5 rfl ?_
  obtain ⟨s1, es1⟩ : ∃ y : St, y = (sf σ t 3 (gf σ u0 3)) := ⟨_, rfl⟩
  rw [← es1]
  replace h := h.bnd es1
  have hg_t_s1 : isT s1 t = true := by rw [es1]; exact hg_t_σ
  have hg_u0_s1 : isT s1 u0 = true := by rw [es1]; exact hg_u0_σ
  clear es1
  refine w_aload_n 1 dX9_become_8 rfl rfl rfl ?_
  refine gf_RX9_24 (i := u0) hg_u0_s1 dX9_become_9 rfl ?_
  refine w_iconst (0 : Int32) dX9_become_12 ic_iconst_0 rfl ?_
  refine w_aload_n 0 dX9_become_13 rfl rfl rfl ?_
  refine gf_RX9_24 (i := t) hg_t_s1 dX9_become_14 rfl ?_
  refine w_iconst (0 : Int32) dX9_become_17 ic_iconst_0 rfl ?_
  refine w_aload_n 0 dX9_become_18 rfl rfl rfl ?_
  refine gf_RX9_24 (i := t) hg_t_s1 dX9_become_19 rfl ?_
  refine w_alen (i := (t + 1)) (isT_lt hg_t_s1) (Or.inl (isT_kd hg_t_s1)) dX9_become_22 rfl ?_
  refine w_aload_n 1 dX9_become_23 rfl rfl rfl ?_
  refine gf_RX9_24 (i := u0) hg_u0_s1 dX9_become_24 rfl ?_
  refine w_alen (i := (u0 + 1)) (isT_lt hg_u0_s1) (Or.inl (isT_kd hg_u0_s1)) dX9_become_27 rfl ?_
  refine w_mmin ml_RX9_35 (Nat.le_of_ble_eq_true rfl) ⟨Nat.le_of_ble_eq_true rfl, Nat.le_of_ble_eq_true rfl⟩ dX9_become_28 rfl ?_
  obtain ⟨hi2, h⟩ := h.gd
  refine w_copyI (i := (u0 + 1)) (j := (t + 1)) (isT_lt hg_u0_s1) (isT_lt hg_t_s1) (isT_kd hg_u0_s1) (isT_kd hg_t_s1) ml_RX9_38 hi2 (Nat.le_of_ble_eq_true rfl) ⟨Nat.le_of_ble_eq_true rfl, Nat.le_of_ble_eq_true rfl⟩ dX9_become_31 rfl ?_
  obtain ⟨s3, es3⟩ : ∃ y : St, y = (sR s1 (t + 1) (va_cpy (gr s1 (u0 + 1)) (gr s1 (t + 1)) (0 : Int32).toNatClampNeg (0 : Int32).toNatClampNeg (if (nI (ln (u0 + 1))) < (nI (ln (t + 1))) then (nI (ln (u0 + 1))) else (nI (ln (t + 1)))).toNatClampNeg)) := ⟨_, rfl⟩
  rw [← es3]
  replace h := h.bnd es3
  have hg_t_s3 : isT s3 t = true := by rw [es3]; exact hg_t_s1
  have hg_u0_s3 : isT s3 u0 = true := by rw [es3]; exact hg_u0_s1
  clear es3
  exact w_return dX9_become_34 h
theorem c_X9_become {l : Launch} {D : va_G} {cy : Nat → ClassId} {ad : Nat → Nat} {t : Nat} {u0 : Nat} {σ σ' : St} {r : Unit} (hf : f_X9_become t u0 σ = some (r, σ')) : CT l D cy ad yX9_become cX9_become 2 none rX9_become [.ref (ad t), .ref (ad u0)] σ none σ' :=
  ct_of (by decide) (Nat.le_of_ble_eq_true rfl) (fun p e s m args below meth c A => e_X9_become (Γ := (p, l, e, rX9_become, s, m, args, below, meth, c, D, cy, ad, A, 0, 0, MQ below (QC D cy ad none σ' A) args s 0 0 A)) t u0 σ ⟨_, hf, rfl⟩)
theorem k_X9_become {Γ : CX} {cc : ByteArray} {nL : Nat} {own : String} {ret : Option FieldType} {rm : Room} {σ σ' : St} {pc pc' idx : Nat} {lv : List (Nat × Value)} {rest : List Value} {t : Nat} {u0 : Nat} {r : Unit} (hl : Cond.methodLink own idx yX9_become ∈ TB) (hw : (rest.map fun v => v.category).sum ≤ 8) (hR : rX9_become.frames + 1 ≤ rm.frames ∧ 8 + (2 + 11) + rX9_become.locals ≤ rm.locals) (hd : decode cc pc = .ok (.invokevirtual idx, 3)) (hp : pc + 3 = pc') (hf : f_X9_become t u0 σ = some (r, σ')) (h : WW Γ cc nL own ret rm σ' pc' lv (rest)) : WW Γ cc nL own ret rm σ pc lv (.ref (xd Γ u0) :: .ref (xd Γ t) :: rest) := by
  have hT : isT σ t = true := by
    unfold f_X9_become at hf
    exact gd_of hf
  exact w_callV (nn := 1) (i := t) (As := [.ref (xd Γ u0)]) (v := none) (T := TX9) (N := 4) (c_X9_become hf) hl mw_X9_become (by decide +kernel) ⟨rfl, rfl⟩ hR (isT_lt0 hT) (cel_T hT) rfl rfl hw hd rfl hp h
/-! WarByHours.War.isIn (II)Z -/
def rX10_isIn : Room := { frames := 0, cells := 0, slots := 0, locals := 0 }
def f_X10_isIn_13 (k0 : Int32) (σ : St) : Option (Int32 × St) :=
  gd (bz k0) <| some (k0, σ)
theorem b_X10_isIn_13 {Γ : CX} (k0 : Int32) (σ : St) (h : RR vI Γ (f_X10_isIn_13 k0 σ)) : WW Γ cX10_isIn 2 RX10 (some .boolean) rX10_isIn σ 13 [] [.int k0] := by
  unfold f_X10_isIn_13 at h
  obtain ⟨hb, h⟩ := h.gd
  exact w_zreturn dX10_isIn_13 hb h
def f_X10_isIn (p0 : Int32) (p1 : Int32) (σ : St) : Option (Int32 × St) :=
  if ((p0 >>> (p1 &&& 31)) &&& (1 : Int32)) = 0 then
    f_X10_isIn_13 (0 : Int32) σ
  else
    f_X10_isIn_13 (1 : Int32) σ
theorem e_X10_isIn {Γ : CX} (p0 : Int32) (p1 : Int32) (σ : St) (h : RR vI Γ (f_X10_isIn p0 p1 σ)) : WW Γ cX10_isIn 2 RX10 (some .boolean) rX10_isIn σ 0 [(0, .int p0), (1, .int p1)] [] := by
  unfold f_X10_isIn at h
  refine w_iload_n 0 dX10_isIn_0 rfl rfl rfl ?_
  refine w_iload_n 1 dX10_isIn_1 rfl rfl rfl ?_
  refine w_ishr dX10_isIn_2 rfl ?_
  refine w_iconst (1 : Int32) dX10_isIn_3 ic_iconst_1 rfl ?_
  refine w_iand dX10_isIn_4 rfl ?_
  refine w_if_eq (tgt := 12) dX10_isIn_5 (by decide) rfl (fun q => ?_) (fun q => ?_)
  · have h := h.tt q
    refine w_iconst (0 : Int32) dX10_isIn_12 ic_iconst_0 rfl ?_
    exact w_sub [] rfl (b_X10_isIn_13 (0 : Int32) σ h)
  · have h := h.ff q
    refine w_iconst (1 : Int32) dX10_isIn_8 ic_iconst_1 rfl ?_
    refine w_goto (tgt := 13) dX10_isIn_9 (by decide) ?_
    exact w_sub [] rfl (b_X10_isIn_13 (1 : Int32) σ h)
theorem c_X10_isIn {l : Launch} {D : va_G} {cy : Nat → ClassId} {ad : Nat → Nat} {p0 : Int32} {p1 : Int32} {σ σ' : St} {r : Int32} (hf : f_X10_isIn p0 p1 σ = some (r, σ')) : CT l D cy ad yX10_isIn cX10_isIn 2 (some .boolean) rX10_isIn [.int p0, .int p1] σ (some (.int r)) σ' :=
  ct_of (by decide) (Nat.le_of_ble_eq_true rfl) (fun p e s m args below meth c A => e_X10_isIn (Γ := (p, l, e, rX10_isIn, s, m, args, below, meth, c, D, cy, ad, A, 0, 0, MQ below (QC D cy ad (some (.int r)) σ' A) args s 0 0 A)) p0 p1 σ ⟨_, hf, rfl⟩)
theorem k_X10_isIn {Γ : CX} {cc : ByteArray} {nL : Nat} {own : String} {ret : Option FieldType} {rm : Room} {σ σ' : St} {pc pc' idx : Nat} {lv : List (Nat × Value)} {rest : List Value} {p0 : Int32} {p1 : Int32} {r : Int32} (hl : Cond.methodLink own idx yX10_isIn ∈ TB) (hw : (rest.map fun v => v.category).sum ≤ 8) (hR : rX10_isIn.frames + 1 ≤ rm.frames ∧ 8 + (2 + 11) + rX10_isIn.locals ≤ rm.locals) (hd : decode cc pc = .ok (.invokestatic idx, 3)) (hp : pc + 3 = pc') (hf : f_X10_isIn p0 p1 σ = some (r, σ')) (h : WW Γ cc nL own ret rm σ' pc' lv (.int r :: rest)) : WW Γ cc nL own ret rm σ pc lv (.int p1 :: .int p0 :: rest) :=
  w_callS (nn := 2) (As := [.int p0, .int p1]) (v := (some (.int r))) (c_X10_isIn hf) hl mw_X10_isIn (by decide +kernel) ⟨rfl, rfl⟩ hR rfl hw hd rfl hp h
/-! WarByHours.War.spread ([III)V -/
def rX10_spread : Room := { frames := 0, cells := 0, slots := 0, locals := 0 }
def f_X10_spread_40 (u0 : Nat) (σ : St) : Option (Unit × St) :=
  some ((), σ)
theorem b_X10_spread_40 {Γ : CX} (u0 : Nat) (σ : St) (h : RR vU Γ (f_X10_spread_40 u0 σ)) : WW Γ cX10_spread 5 RX10 none rX10_spread σ 40 [] [] := by
  unfold f_X10_spread_40 at h
  exact w_return dX10_spread_40 h
def g_X10_spread_7 (u0 : Nat) (K7 : Int32 × Int32 × Int32 × St → Option (Unit × St)) (x : Int32 × Int32 × Int32 × St) : Option (Unit × St) := match x with
  | (v2, v3, v4, σ) =>
  if v3 ≤ v4 then
    f_X10_spread_40 u0 σ
  else
    gd (isA σ u0) <|
    if (nI (ln u0)) ≤ (v4 ||| v3) then
      f_X10_spread_40 u0 σ
    else
      gd (inb v4 (ln u0)) <|
      gd (inb (v4 ||| v3) (ln u0)) <|
      bnd (sr σ u0 (v4 ||| v3).toNatClampNeg ((gr σ u0 v4.toNatClampNeg) + v2)) fun s3 =>
      bnd (v4 + (1 : Int32)) fun x4 =>
      K7 (v2, v3, x4, s3)
theorem l_X10_spread_7 {Γ : CX} (u0 : Nat) : ∀ (n : Nat) (v2 : Int32) (v3 : Int32) (v4 : Int32) (σ : St), RR vU Γ (itr (g_X10_spread_7 u0) n (v2, v3, v4, σ)) → WW Γ cX10_spread 5 RX10 none rX10_spread σ 7 [(0, .ref (xd Γ u0)), (2, .int v2), (3, .int v3), (4, .int v4)] [] := by
  intro n
  induction n with
  | zero => intro v2 v3 v4 σ h; exact RR.no h
  | succ n hK7 =>
  intro v2 v3 v4 σ h
  have h : RR vU Γ (g_X10_spread_7 u0 (itr (g_X10_spread_7 u0) n) (v2, v3, v4, σ)) := h
  generalize itr (g_X10_spread_7 u0) n = K7 at h hK7
  unfold g_X10_spread_7 at h
  dsimp only at h
  refine w_iload 3 dX10_spread_7 rfl rfl ?_
  refine w_iload_n 2 dX10_spread_9 rfl rfl rfl ?_
  refine w_icmp_ge (tgt := 40) dX10_spread_10 (by decide) rfl (fun q => ?_) (fun q => ?_)
  · have h := h.tt q
    exact w_sub [] rfl (b_X10_spread_40 u0 σ h)
  · have h := h.ff q
    refine w_iload 3 dX10_spread_13 rfl rfl ?_
    refine w_iload_n 2 dX10_spread_15 rfl rfl rfl ?_
    refine w_ior dX10_spread_16 rfl ?_
    refine w_aload_n 0 dX10_spread_17 rfl rfl rfl ?_
    obtain ⟨hg_u0_σ, h⟩ := h.gd
    refine w_alen (i := u0) (isA_lt hg_u0_σ) (Or.inl (isA_kd hg_u0_σ)) dX10_spread_18 rfl ?_
    refine w_icmp_ge (tgt := 40) dX10_spread_19 (by decide) rfl (fun q => ?_) (fun q => ?_)
    · have h := h.tt q
      exact w_sub [] rfl (b_X10_spread_40 u0 σ h)
    · have h := h.ff q
      refine w_aload_n 0 dX10_spread_22 rfl rfl rfl ?_
      refine w_iload 3 dX10_spread_23 rfl rfl ?_
      refine w_iload_n 2 dX10_spread_25 rfl rfl rfl ?_
      refine w_ior dX10_spread_26 rfl ?_
      refine w_aload_n 0 dX10_spread_27 rfl rfl rfl ?_
      refine w_iload 3 dX10_spread_28 rfl rfl ?_
      obtain ⟨hi1, h⟩ := h.gd
      refine w_iald (i := u0) (isA_lt hg_u0_σ) (isA_kd hg_u0_σ) hi1 dX10_spread_30 rfl ?_
      refine w_iload_n 1 dX10_spread_31 rfl rfl rfl ?_
      refine w_iadd dX10_spread_32 rfl ?_
      obtain ⟨hi2, h⟩ := h.gd
      refine w_iast (i := u0) (isA_lt hg_u0_σ) (isA_kd hg_u0_σ) hi2 dX10_spread_33 rfl ?_
      obtain ⟨s3, es3⟩ : ∃ y : St, y = (sr σ u0 (v4 ||| v3).toNatClampNeg ((gr σ u0 v4.toNatClampNeg) + v2)) := ⟨_, rfl⟩
      rw [← es3]
      replace h := h.bnd es3
      have hg_u0_s3 : isA s3 u0 = true := by rw [es3]; exact hg_u0_σ
      clear es3
      obtain ⟨x4, ex4⟩ : ∃ y : Int32, y = (v4 + (1 : Int32)) := ⟨_, rfl⟩
      replace h := h.bnd ex4
      refine w_iinc 3 x4 [(4, .int x4), (0, .ref (xd Γ u0)), (2, .int v2), (3, .int v3)] dX10_spread_34 rfl (by rw [ex4, ic_iconst_1]) (by decide) rfl rfl ?_
      clear ex4
      refine w_goto (tgt := 7) dX10_spread_37 (by decide) ?_
      exact w_sub [1, 2, 3, 0] rfl (hK7 v2 v3 x4 s3 h)
def f_X10_spread (u0 : Nat) (p1 : Int32) (p2 : Int32) (σ : St) : Option (Unit × St) :=
  gd (isA σ u0) <|
  bnd (((1 : Int32) <<< (p1 &&& 31))) fun x1 =>
  itr (g_X10_spread_7 u0) FU (p2, x1, (0 : Int32), σ)
theorem e_X10_spread {Γ : CX} (u0 : Nat) (p1 : Int32) (p2 : Int32) (σ : St) (h : RR vU Γ (f_X10_spread u0 p1 p2 σ)) : WW Γ cX10_spread 5 RX10 none rX10_spread σ 0 [(0, .ref (xd Γ u0)), (1, .int p1), (2, .int p2)] [] := by
  unfold f_X10_spread at h
  obtain ⟨hg_u0_σ, h⟩ := h.gd
  refine w_iconst (1 : Int32) dX10_spread_0 ic_iconst_1 rfl ?_
  refine w_iload_n 1 dX10_spread_1 rfl rfl rfl ?_
  refine w_ishl dX10_spread_2 rfl ?_
  refine w_nmI (fun x1 ex1 => ?_)
  replace h := h.bnd ex1
  clear ex1
  refine w_istore_n [(3, .int x1), (0, .ref (xd Γ u0)), (1, .int p1), (2, .int p2)] dX10_spread_3 rfl (by decide) rfl rfl ?_
  refine w_iconst (0 : Int32) dX10_spread_4 ic_iconst_0 rfl ?_
  refine w_istore [(4, .int (0 : Int32)), (3, .int x1), (0, .ref (xd Γ u0)), (1, .int p1), (2, .int p2)] dX10_spread_5 (by decide) rfl rfl ?_
  exact w_sub [2, 4, 1, 0] rfl (l_X10_spread_7 u0 FU p2 x1 (0 : Int32) σ h)
theorem c_X10_spread {l : Launch} {D : va_G} {cy : Nat → ClassId} {ad : Nat → Nat} {u0 : Nat} {p1 : Int32} {p2 : Int32} {σ σ' : St} {r : Unit} (hf : f_X10_spread u0 p1 p2 σ = some (r, σ')) : CT l D cy ad yX10_spread cX10_spread 5 none rX10_spread [.ref (ad u0), .int p1, .int p2] σ none σ' :=
  ct_of (by decide) (Nat.le_of_ble_eq_true rfl) (fun p e s m args below meth c A => e_X10_spread (Γ := (p, l, e, rX10_spread, s, m, args, below, meth, c, D, cy, ad, A, 0, 0, MQ below (QC D cy ad none σ' A) args s 0 0 A)) u0 p1 p2 σ ⟨_, hf, rfl⟩)
theorem k_X10_spread {Γ : CX} {cc : ByteArray} {nL : Nat} {own : String} {ret : Option FieldType} {rm : Room} {σ σ' : St} {pc pc' idx : Nat} {lv : List (Nat × Value)} {rest : List Value} {u0 : Nat} {p1 : Int32} {p2 : Int32} {r : Unit} (hl : Cond.methodLink own idx yX10_spread ∈ TB) (hw : (rest.map fun v => v.category).sum ≤ 8) (hR : rX10_spread.frames + 1 ≤ rm.frames ∧ 8 + (5 + 11) + rX10_spread.locals ≤ rm.locals) (hd : decode cc pc = .ok (.invokestatic idx, 3)) (hp : pc + 3 = pc') (hf : f_X10_spread u0 p1 p2 σ = some (r, σ')) (h : WW Γ cc nL own ret rm σ' pc' lv (rest)) : WW Γ cc nL own ret rm σ pc lv (.int p2 :: .int p1 :: .ref (xd Γ u0) :: rest) :=
  w_callS (nn := 3) (As := [.ref (xd Γ u0), .int p1, .int p2]) (v := none) (c_X10_spread hf) hl mw_X10_spread (by decide +kernel) ⟨rfl, rfl⟩ hR rfl hw hd rfl hp h
/-! WarByHours.War.mostTold (I)I -/
def rX10_mostTold : Room := { frames := 0, cells := 0, slots := 0, locals := 0 }
def f_X10_mostTold_21 (k0 : Int32) (σ : St) : Option (Int32 × St) :=
  some (k0, σ)
theorem b_X10_mostTold_21 {Γ : CX} (k0 : Int32) (σ : St) (h : RR vI Γ (f_X10_mostTold_21 k0 σ)) : WW Γ cX10_mostTold 1 RX10 (some .int) rX10_mostTold σ 21 [] [.int k0] := by
  unfold f_X10_mostTold_21 at h
  exact w_ireturn dX10_mostTold_21 h
def f_X10_mostTold_20 (σ : St) : Option (Int32 × St) :=
  f_X10_mostTold_21 (-1 : Int32) σ
theorem b_X10_mostTold_20 {Γ : CX} (σ : St) (h : RR vI Γ (f_X10_mostTold_20 σ)) : WW Γ cX10_mostTold 1 RX10 (some .int) rX10_mostTold σ 20 [] [] := by
  unfold f_X10_mostTold_20 at h
  refine w_iconst (-1 : Int32) dX10_mostTold_20 ic_iconst_m1 rfl ?_
  exact w_sub [] rfl (b_X10_mostTold_21 (-1 : Int32) σ h)
def f_X10_mostTold (p0 : Int32) (σ : St) : Option (Int32 × St) :=
  if p0 < 0 then
    f_X10_mostTold_20 σ
  else
    if (nI 4) ≤ p0 then
      f_X10_mostTold_20 σ
    else
      gd (inb p0 4) <|
      f_X10_mostTold_21 (mTold p0.toNatClampNeg) σ
theorem e_X10_mostTold {Γ : CX} (p0 : Int32) (σ : St) (h : RR vI Γ (f_X10_mostTold p0 σ)) : WW Γ cX10_mostTold 1 RX10 (some .int) rX10_mostTold σ 0 [(0, .int p0)] [] := by
  unfold f_X10_mostTold at h
  refine w_iload_n 0 dX10_mostTold_0 rfl rfl rfl ?_
  refine w_if_lt (tgt := 20) dX10_mostTold_1 (by decide) rfl (fun q => ?_) (fun q => ?_)
  · have h := h.tt q
    exact w_sub [] rfl (b_X10_mostTold_20 σ h)
  · have h := h.ff q
    refine w_iload_n 0 dX10_mostTold_4 rfl rfl rfl ?_
    refine w_gmt fl_RX10_39 dX10_mostTold_5 rfl ?_
    refine w_lmt dX10_mostTold_8 rfl ?_
    refine w_icmp_ge (tgt := 20) dX10_mostTold_9 (by decide) rfl (fun q => ?_) (fun q => ?_)
    · have h := h.tt q
      exact w_sub [] rfl (b_X10_mostTold_20 σ h)
    · have h := h.ff q
      refine w_gmt fl_RX10_39 dX10_mostTold_12 rfl ?_
      refine w_iload_n 0 dX10_mostTold_15 rfl rfl rfl ?_
      obtain ⟨hi1, h⟩ := h.gd
      refine w_imt hi1 dX10_mostTold_16 rfl ?_
      refine w_goto (tgt := 21) dX10_mostTold_17 (by decide) ?_
      exact w_sub [] rfl (b_X10_mostTold_21 (mTold p0.toNatClampNeg) σ h)
theorem c_X10_mostTold {l : Launch} {D : va_G} {cy : Nat → ClassId} {ad : Nat → Nat} {p0 : Int32} {σ σ' : St} {r : Int32} (hf : f_X10_mostTold p0 σ = some (r, σ')) : CT l D cy ad yX10_mostTold cX10_mostTold 1 (some .int) rX10_mostTold [.int p0] σ (some (.int r)) σ' :=
  ct_of (by decide) (Nat.le_of_ble_eq_true rfl) (fun p e s m args below meth c A => e_X10_mostTold (Γ := (p, l, e, rX10_mostTold, s, m, args, below, meth, c, D, cy, ad, A, 0, 0, MQ below (QC D cy ad (some (.int r)) σ' A) args s 0 0 A)) p0 σ ⟨_, hf, rfl⟩)
theorem k_X10_mostTold {Γ : CX} {cc : ByteArray} {nL : Nat} {own : String} {ret : Option FieldType} {rm : Room} {σ σ' : St} {pc pc' idx : Nat} {lv : List (Nat × Value)} {rest : List Value} {p0 : Int32} {r : Int32} (hl : Cond.methodLink own idx yX10_mostTold ∈ TB) (hw : (rest.map fun v => v.category).sum ≤ 8) (hR : rX10_mostTold.frames + 1 ≤ rm.frames ∧ 8 + (1 + 11) + rX10_mostTold.locals ≤ rm.locals) (hd : decode cc pc = .ok (.invokestatic idx, 3)) (hp : pc + 3 = pc') (hf : f_X10_mostTold p0 σ = some (r, σ')) (h : WW Γ cc nL own ret rm σ' pc' lv (.int r :: rest)) : WW Γ cc nL own ret rm σ pc lv (.int p0 :: rest) :=
  w_callS (nn := 1) (As := [.int p0]) (v := (some (.int r))) (c_X10_mostTold hf) hl mw_X10_mostTold (by decide +kernel) ⟨rfl, rfl⟩ hR rfl hw hd rfl hp h
/-! WarByHours.War.clear ()V -/
def rX10_clear : Room := { frames := 0, cells := 0, slots := 0, locals := 0 }
def f_X10_clear (w : Nat) (σ : St) : Option (Unit × St) :=
  gd (isW σ w) <|
  bnd (sf σ w 0 (0 : Int32)) fun s1 =>
  bnd (sf s1 w 1 (0 : Int32)) fun s2 =>
  bnd (sf s2 w 2 (0 : Int32)) fun s3 =>
  bnd (sf s3 w 3 (0 : Int32)) fun s4 =>
  bnd (sf s4 w 4 (0 : Int32)) fun s5 =>
  gd (inb (0 : Int32) (ln (w + 1))) <|
  bnd (sr s5 (w + 1) (0 : Int32).toNatClampNeg (0 : Int32)) fun s7 =>
  gd (inb (1 : Int32) (ln (w + 1))) <|
  bnd (sr s7 (w + 1) (1 : Int32).toNatClampNeg (0 : Int32)) fun s9 =>
  bnd (sf s9 (w + 2) 3 (0 : Int32)) fun s10 =>
  bnd (sf s10 (w + 4) 3 (0 : Int32)) fun s11 =>
  bnd (sf s11 (w + 6) 3 (0 : Int32)) fun s12 =>
  bnd (sf s12 (w + 8) 3 (0 : Int32)) fun s13 =>
  bnd (sf s13 (w + 10) 3 (0 : Int32)) fun s14 =>
  bnd (sf s14 (w + 12) 3 (0 : Int32)) fun s15 =>
  some ((), s15)
theorem e_X10_clear {Γ : CX} (w : Nat) (σ : St) (h : RR vU Γ (f_X10_clear w σ)) : WW Γ cX10_clear 1 RX10 none rX10_clear σ 0 [(0, .ref (xd Γ w))] [] := by
  unfold f_X10_clear at h
  obtain ⟨hg_w_σ, h⟩ := h.gd
  refine w_aload_n 0 dX10_clear_0 rfl rfl rfl ?_
  refine w_iconst (0 : Int32) dX10_clear_1 ic_iconst_0 rfl ?_
  refine pf_RX10_42 (i := w) hg_w_σ dX10_clear_2 rfl ?_
  obtain ⟨s1, es1⟩ : ∃ y : St, y = (sf σ w 0 (0 : Int32)) := ⟨_, rfl⟩
  rw [← es1]
  replace h := h.bnd es1
  have hg_w_s1 : isW s1 w = true := by rw [es1]; exact hg_w_σ
  clear es1
  refine w_aload_n 0 dX10_clear_5 rfl rfl rfl ?_
  refine w_iconst (0 : Int32) dX10_clear_6 ic_iconst_0 rfl ?_
  refine pf_RX10_46 (i := w) hg_w_s1 dX10_clear_7 rfl ?_
  obtain ⟨s2, es2⟩ : ∃ y : St, y = (sf s1 w 1 (0 : Int32)) := ⟨_, rfl⟩
  rw [← es2]
  replace h := h.bnd es2
  have hg_w_s2 : isW s2 w = true := by rw [es2]; exact hg_w_s1
  clear es2
  refine w_aload_n 0 dX10_clear_10 rfl rfl rfl ?_
  refine w_iconst (0 : Int32) dX10_clear_11 ic_iconst_0 rfl ?_
  refine pf_RX10_49 (i := w) hg_w_s2 dX10_clear_12 rfl ?_
  obtain ⟨s3, es3⟩ : ∃ y : St, y = (sf s2 w 2 (0 : Int32)) := ⟨_, rfl⟩
  rw [← es3]
  replace h := h.bnd es3
  have hg_w_s3 : isW s3 w = true := by rw [es3]; exact hg_w_s2
  clear es3
  refine w_aload_n 0 dX10_clear_15 rfl rfl rfl ?_
  refine w_iconst (0 : Int32) dX10_clear_16 ic_iconst_0 rfl ?_
  refine pf_RX10_52 (i := w) hg_w_s3 dX10_clear_17 rfl ?_
  obtain ⟨s4, es4⟩ : ∃ y : St, y = (sf s3 w 3 (0 : Int32)) := ⟨_, rfl⟩
  rw [← es4]
  replace h := h.bnd es4
  have hg_w_s4 : isW s4 w = true := by rw [es4]; exact hg_w_s3
  clear es4
  refine w_aload_n 0 dX10_clear_20 rfl rfl rfl ?_
  refine w_iconst (0 : Int32) dX10_clear_21 ic_iconst_0 rfl ?_
  refine pf_RX10_55 (i := w) hg_w_s4 dX10_clear_22 rfl ?_
  obtain ⟨s5, es5⟩ : ∃ y : St, y = (sf s4 w 4 (0 : Int32)) := ⟨_, rfl⟩
  rw [← es5]
  replace h := h.bnd es5
  have hg_w_s5 : isW s5 w = true := by rw [es5]; exact hg_w_s4
  clear es5
  refine w_aload_n 0 dX10_clear_25 rfl rfl rfl ?_
  refine gf_RX10_9 (i := w) hg_w_s5 dX10_clear_26 rfl ?_
  refine w_iconst (0 : Int32) dX10_clear_29 ic_iconst_0 rfl ?_
  refine w_iconst (0 : Int32) dX10_clear_30 ic_iconst_0 rfl ?_
  obtain ⟨hi6, h⟩ := h.gd
  refine w_iast (i := (w + 1)) (isW_lt hg_w_s5 1 (by decide)) (isW_kd hg_w_s5 1 (by decide)) hi6 dX10_clear_31 rfl ?_
  obtain ⟨s7, es7⟩ : ∃ y : St, y = (sr s5 (w + 1) (0 : Int32).toNatClampNeg (0 : Int32)) := ⟨_, rfl⟩
  rw [← es7]
  replace h := h.bnd es7
  have hg_w_s7 : isW s7 w = true := by rw [es7]; exact hg_w_s5
  clear es7
  refine w_aload_n 0 dX10_clear_32 rfl rfl rfl ?_
  refine gf_RX10_9 (i := w) hg_w_s7 dX10_clear_33 rfl ?_
  refine w_iconst (1 : Int32) dX10_clear_36 ic_iconst_1 rfl ?_
  refine w_iconst (0 : Int32) dX10_clear_37 ic_iconst_0 rfl ?_
  obtain ⟨hi8, h⟩ := h.gd
  refine w_iast (i := (w + 1)) (isW_lt hg_w_s7 1 (by decide)) (isW_kd hg_w_s7 1 (by decide)) hi8 dX10_clear_38 rfl ?_
  obtain ⟨s9, es9⟩ : ∃ y : St, y = (sr s7 (w + 1) (1 : Int32).toNatClampNeg (0 : Int32)) := ⟨_, rfl⟩
  rw [← es9]
  replace h := h.bnd es9
  have hg_w_s9 : isW s9 w = true := by rw [es9]; exact hg_w_s7
  clear es9
  refine w_aload_n 0 dX10_clear_39 rfl rfl rfl ?_
  refine gf_RX10_20 (i := w) hg_w_s9 dX10_clear_40 rfl ?_
  refine w_iconst (0 : Int32) dX10_clear_43 ic_iconst_0 rfl ?_
  refine pf_RX10_58 (i := (w + 2)) (isW_T hg_w_s9 2 (by decide)) dX10_clear_44 rfl ?_
  obtain ⟨s10, es10⟩ : ∃ y : St, y = (sf s9 (w + 2) 3 (0 : Int32)) := ⟨_, rfl⟩
  rw [← es10]
  replace h := h.bnd es10
  have hg_w_s10 : isW s10 w = true := by rw [es10]; exact hg_w_s9
  clear es10
  refine w_aload_n 0 dX10_clear_47 rfl rfl rfl ?_
  refine gf_RX10_24 (i := w) hg_w_s10 dX10_clear_48 rfl ?_
  refine w_iconst (0 : Int32) dX10_clear_51 ic_iconst_0 rfl ?_
  refine pf_RX10_58 (i := (w + 4)) (isW_T hg_w_s10 4 (by decide)) dX10_clear_52 rfl ?_
  obtain ⟨s11, es11⟩ : ∃ y : St, y = (sf s10 (w + 4) 3 (0 : Int32)) := ⟨_, rfl⟩
  rw [← es11]
  replace h := h.bnd es11
  have hg_w_s11 : isW s11 w = true := by rw [es11]; exact hg_w_s10
  clear es11
  refine w_aload_n 0 dX10_clear_55 rfl rfl rfl ?_
  refine gf_RX10_27 (i := w) hg_w_s11 dX10_clear_56 rfl ?_
  refine w_iconst (0 : Int32) dX10_clear_59 ic_iconst_0 rfl ?_
  refine pf_RX10_58 (i := (w + 6)) (isW_T hg_w_s11 6 (by decide)) dX10_clear_60 rfl ?_
  obtain ⟨s12, es12⟩ : ∃ y : St, y = (sf s11 (w + 6) 3 (0 : Int32)) := ⟨_, rfl⟩
  rw [← es12]
  replace h := h.bnd es12
  have hg_w_s12 : isW s12 w = true := by rw [es12]; exact hg_w_s11
  clear es12
  refine w_aload_n 0 dX10_clear_63 rfl rfl rfl ?_
  refine gf_RX10_30 (i := w) hg_w_s12 dX10_clear_64 rfl ?_
  refine w_iconst (0 : Int32) dX10_clear_67 ic_iconst_0 rfl ?_
  refine pf_RX10_58 (i := (w + 8)) (isW_T hg_w_s12 8 (by decide)) dX10_clear_68 rfl ?_
  obtain ⟨s13, es13⟩ : ∃ y : St, y = (sf s12 (w + 8) 3 (0 : Int32)) := ⟨_, rfl⟩
  rw [← es13]
  replace h := h.bnd es13
  have hg_w_s13 : isW s13 w = true := by rw [es13]; exact hg_w_s12
  clear es13
  refine w_aload_n 0 dX10_clear_71 rfl rfl rfl ?_
  refine gf_RX10_33 (i := w) hg_w_s13 dX10_clear_72 rfl ?_
  refine w_iconst (0 : Int32) dX10_clear_75 ic_iconst_0 rfl ?_
  refine pf_RX10_58 (i := (w + 10)) (isW_T hg_w_s13 10 (by decide)) dX10_clear_76 rfl ?_
  obtain ⟨s14, es14⟩ : ∃ y : St, y = (sf s13 (w + 10) 3 (0 : Int32)) := ⟨_, rfl⟩
  rw [← es14]
  replace h := h.bnd es14
  have hg_w_s14 : isW s14 w = true := by rw [es14]; exact hg_w_s13
  clear es14
  refine w_aload_n 0 dX10_clear_79 rfl rfl rfl ?_
  refine gf_RX10_36 (i := w) hg_w_s14 dX10_clear_80 rfl ?_
  refine w_iconst (0 : Int32) dX10_clear_83 ic_iconst_0 rfl ?_
  refine pf_RX10_58 (i := (w + 12)) (isW_T hg_w_s14 12 (by decide)) dX10_clear_84 rfl ?_
  obtain ⟨s15, es15⟩ : ∃ y : St, y = (sf s14 (w + 12) 3 (0 : Int32)) := ⟨_, rfl⟩
  rw [← es15]
  replace h := h.bnd es15
  have hg_w_s15 : isW s15 w = true := by rw [es15]; exact hg_w_s14
  clear es15
  exact w_return dX10_clear_87 h
theorem c_X10_clear {l : Launch} {D : va_G} {cy : Nat → ClassId} {ad : Nat → Nat} {w : Nat} {σ σ' : St} {r : Unit} (hf : f_X10_clear w σ = some (r, σ')) : CT l D cy ad yX10_clear cX10_clear 1 none rX10_clear [.ref (ad w)] σ none σ' :=
  ct_of (by decide) (Nat.le_of_ble_eq_true rfl) (fun p e s m args below meth c A => e_X10_clear (Γ := (p, l, e, rX10_clear, s, m, args, below, meth, c, D, cy, ad, A, 0, 0, MQ below (QC D cy ad none σ' A) args s 0 0 A)) w σ ⟨_, hf, rfl⟩)
theorem k_X10_clear {Γ : CX} {cc : ByteArray} {nL : Nat} {own : String} {ret : Option FieldType} {rm : Room} {σ σ' : St} {pc pc' idx : Nat} {lv : List (Nat × Value)} {rest : List Value} {w : Nat} {r : Unit} (hl : Cond.methodLink own idx yX10_clear ∈ TB) (hw : (rest.map fun v => v.category).sum ≤ 8) (hR : rX10_clear.frames + 1 ≤ rm.frames ∧ 8 + (1 + 11) + rX10_clear.locals ≤ rm.locals) (hd : decode cc pc = .ok (.invokevirtual idx, 3)) (hp : pc + 3 = pc') (hf : f_X10_clear w σ = some (r, σ')) (h : WW Γ cc nL own ret rm σ' pc' lv (rest)) : WW Γ cc nL own ret rm σ pc lv (.ref (xd Γ w) :: rest) := by
  have hT : isW σ w = true := by
    unfold f_X10_clear at hf
    exact gd_of hf
  exact w_callV (nn := 0) (i := w) (As := []) (v := none) (T := TX10) (N := 12) (c_X10_clear hf) hl mw_X10_clear (by decide +kernel) ⟨rfl, rfl⟩ hR (isW_lt hT 0 (by decide)) (cel_W hT) rfl rfl hw hd rfl hp h
/-! WarByHours.War.become (LWarByHours$War;)V -/
def rX10_become : Room := { frames := 2, cells := 0, slots := 0, locals := 81 }
def f_X10_become (w : Nat) (u0 : Nat) (σ : St) : Option (Unit × St) :=
  gd (isW σ w) <|
  gd (isW σ u0) <|
  bnd (sf σ w 0 (gf σ u0 0)) fun s1 =>
  bnd (sf s1 w 1 (gf s1 u0 1)) fun s2 =>
  bnd (sf s2 w 2 (gf s2 u0 2)) fun s3 =>
  bnd (sf s3 w 3 (gf s3 u0 3)) fun s4 =>
  bnd (sf s4 w 4 (gf s4 u0 4)) fun s5 =>
  gd (inb (0 : Int32) (ln (u0 + 1))) <|
  gd (inb (0 : Int32) (ln (w + 1))) <|
  bnd (sr s5 (w + 1) (0 : Int32).toNatClampNeg (gr s5 (u0 + 1) (0 : Int32).toNatClampNeg)) fun s8 =>
  gd (inb (1 : Int32) (ln (u0 + 1))) <|
  gd (inb (1 : Int32) (ln (w + 1))) <|
  bnd (sr s8 (w + 1) (1 : Int32).toNatClampNeg (gr s8 (u0 + 1) (1 : Int32).toNatClampNeg)) fun s11 =>
  bd (f_X9_become (w + 2) (u0 + 2) s11) fun _ s13 =>
  gd (isW s13 w) <|
  gd (isW s13 u0) <|
  bd (f_X9_become (w + 4) (u0 + 4) s13) fun _ s16 =>
  gd (isW s16 w) <|
  gd (isW s16 u0) <|
  bd (f_X9_become (w + 6) (u0 + 6) s16) fun _ s19 =>
  gd (isW s19 w) <|
  gd (isW s19 u0) <|
  bd (f_X9_become (w + 8) (u0 + 8) s19) fun _ s22 =>
  gd (isW s22 w) <|
  gd (isW s22 u0) <|
  bd (f_X9_become (w + 10) (u0 + 10) s22) fun _ s25 =>
  gd (isW s25 w) <|
  gd (isW s25 u0) <|
  bd (f_X9_become (w + 12) (u0 + 12) s25) fun _ s28 =>
  some ((), s28)
theorem e_X10_become {Γ : CX} (w : Nat) (u0 : Nat) (σ : St) (h : RR vU Γ (f_X10_become w u0 σ)) : WW Γ cX10_become 2 RX10 none rX10_become σ 0 [(0, .ref (xd Γ w)), (1, .ref (xd Γ u0))] [] := by
  unfold f_X10_become at h
  obtain ⟨hg_w_σ, h⟩ := h.gd
  obtain ⟨hg_u0_σ, h⟩ := h.gd
  refine w_aload_n 0 dX10_become_0 rfl rfl rfl ?_
  refine w_aload_n 1 dX10_become_1 rfl rfl rfl ?_
  refine gf_RX10_42 (i := u0) hg_u0_σ dX10_become_2 rfl ?_
  refine pf_RX10_42 (i := w) hg_w_σ dX10_become_5 rfl ?_
  obtain ⟨s1, es1⟩ : ∃ y : St, y = (sf σ w 0 (gf σ u0 0)) := ⟨_, rfl⟩
  rw [← es1]
  replace h := h.bnd es1
  have hg_u0_s1 : isW s1 u0 = true := by rw [es1]; exact hg_u0_σ
  have hg_w_s1 : isW s1 w = true := by rw [es1]; exact hg_w_σ
  clear es1
  refine w_aload_n 0 dX10_become_8 rfl rfl rfl ?_
  refine w_aload_n 1 dX10_become_9 rfl rfl rfl ?_
  refine gf_RX10_46 (i := u0) hg_u0_s1 dX10_become_10 rfl ?_
  refine pf_RX10_46 (i := w) hg_w_s1 dX10_become_13 rfl ?_
  obtain ⟨s2, es2⟩ : ∃ y : St, y = (sf s1 w 1 (gf s1 u0 1)) := ⟨_, rfl⟩
  rw [← es2]
  replace h := h.bnd es2
  have hg_u0_s2 : isW s2 u0 = true := by rw [es2]; exact hg_u0_s1
  have hg_w_s2 : isW s2 w = true := by rw [es2]; exact hg_w_s1
  clear es2
  refine w_aload_n 0 dX10_become_16 rfl rfl rfl ?_
  refine w_aload_n 1 dX10_become_17 rfl rfl rfl ?_
  refine gf_RX10_49 (i := u0) hg_u0_s2 dX10_become_18 rfl ?_
  refine pf_RX10_49 (i := w) hg_w_s2 dX10_become_21 rfl ?_
  obtain ⟨s3, es3⟩ : ∃ y : St, y = (sf s2 w 2 (gf s2 u0 2)) := ⟨_, rfl⟩
  rw [← es3]
  replace h := h.bnd es3
  have hg_w_s3 : isW s3 w = true := by rw [es3]; exact hg_w_s2
  have hg_u0_s3 : isW s3 u0 = true := by rw [es3]; exact hg_u0_s2
  clear es3
  refine w_aload_n 0 dX10_become_24 rfl rfl rfl ?_
  refine w_aload_n 1 dX10_become_25 rfl rfl rfl ?_
  refine gf_RX10_52 (i := u0) hg_u0_s3 dX10_become_26 rfl ?_
  refine pf_RX10_52 (i := w) hg_w_s3 dX10_become_29 rfl ?_
  obtain ⟨s4, es4⟩ : ∃ y : St, y = (sf s3 w 3 (gf s3 u0 3)) := ⟨_, rfl⟩
  rw [← es4]
  replace h := h.bnd es4
  have hg_u0_s4 : isW s4 u0 = true := by rw [es4]; exact hg_u0_s3
  have hg_w_s4 : isW s4 w = true := by rw [es4]; exact hg_w_s3
  clear es4
  refine w_aload_n 0 dX10_become_32 rfl rfl rfl ?_
  refine w_aload_n 1 dX10_become_33 rfl rfl rfl ?_
  refine gf_RX10_55 (i := u0) hg_u0_s4 dX10_become_34 rfl ?_
  refine pf_RX10_55 (i := w) hg_w_s4 dX10_become_37 rfl ?_
  obtain ⟨s5, es5⟩ : ∃ y : St, y = (sf s4 w 4 (gf s4 u0 4)) := ⟨_, rfl⟩
  rw [← es5]
  replace h := h.bnd es5
  have hg_u0_s5 : isW s5 u0 = true := by rw [es5]; exact hg_u0_s4
  have hg_w_s5 : isW s5 w = true := by rw [es5]; exact hg_w_s4
  clear es5
  refine w_aload_n 0 dX10_become_40 rfl rfl rfl ?_
  refine gf_RX10_9 (i := w) hg_w_s5 dX10_become_41 rfl ?_
  refine w_iconst (0 : Int32) dX10_become_44 ic_iconst_0 rfl ?_
  refine w_aload_n 1 dX10_become_45 rfl rfl rfl ?_
  refine gf_RX10_9 (i := u0) hg_u0_s5 dX10_become_46 rfl ?_
  refine w_iconst (0 : Int32) dX10_become_49 ic_iconst_0 rfl ?_
  obtain ⟨hi6, h⟩ := h.gd
  refine w_iald (i := (u0 + 1)) (isW_lt hg_u0_s5 1 (by decide)) (isW_kd hg_u0_s5 1 (by decide)) hi6 dX10_become_50 rfl ?_
  obtain ⟨hi7, h⟩ := h.gd
  refine w_iast (i := (w + 1)) (isW_lt hg_w_s5 1 (by decide)) (isW_kd hg_w_s5 1 (by decide)) hi7 dX10_become_51 rfl ?_
  obtain ⟨s8, es8⟩ : ∃ y : St, y = (sr s5 (w + 1) (0 : Int32).toNatClampNeg (gr s5 (u0 + 1) (0 : Int32).toNatClampNeg)) := ⟨_, rfl⟩
  rw [← es8]
  replace h := h.bnd es8
  have hg_u0_s8 : isW s8 u0 = true := by rw [es8]; exact hg_u0_s5
  have hg_w_s8 : isW s8 w = true := by rw [es8]; exact hg_w_s5
  clear es8
  refine w_aload_n 0 dX10_become_52 rfl rfl rfl ?_
  refine gf_RX10_9 (i := w) hg_w_s8 dX10_become_53 rfl ?_
  refine w_iconst (1 : Int32) dX10_become_56 ic_iconst_1 rfl ?_
  refine w_aload_n 1 dX10_become_57 rfl rfl rfl ?_
  refine gf_RX10_9 (i := u0) hg_u0_s8 dX10_become_58 rfl ?_
  refine w_iconst (1 : Int32) dX10_become_61 ic_iconst_1 rfl ?_
  obtain ⟨hi9, h⟩ := h.gd
  refine w_iald (i := (u0 + 1)) (isW_lt hg_u0_s8 1 (by decide)) (isW_kd hg_u0_s8 1 (by decide)) hi9 dX10_become_62 rfl ?_
  obtain ⟨hi10, h⟩ := h.gd
  refine w_iast (i := (w + 1)) (isW_lt hg_w_s8 1 (by decide)) (isW_kd hg_w_s8 1 (by decide)) hi10 dX10_become_63 rfl ?_
  obtain ⟨s11, es11⟩ : ∃ y : St, y = (sr s8 (w + 1) (1 : Int32).toNatClampNeg (gr s8 (u0 + 1) (1 : Int32).toNatClampNeg)) := ⟨_, rfl⟩
  rw [← es11]
  replace h := h.bnd es11
  have hg_u0_s11 : isW s11 u0 = true := by rw [es11]; exact hg_u0_s8
  have hg_w_s11 : isW s11 w = true := by rw [es11]; exact hg_w_s8
  clear es11
  refine w_aload_n 0 dX10_become_64 rfl rfl rfl ?_
  refine gf_RX10_20 (i := w) hg_w_s11 dX10_become_65 rfl ?_
  refine w_aload_n 1 dX10_become_68 rfl rfl rfl ?_
  refine gf_RX10_20 (i := u0) hg_u0_s11 dX10_become_69 rfl ?_
  obtain ⟨r12, s13, h14, h⟩ := h.bd
  refine k_X9_become ml_RX10_61 (Nat.le_of_ble_eq_true rfl) ⟨Nat.le_of_ble_eq_true rfl, Nat.le_of_ble_eq_true rfl⟩ dX10_become_72 rfl h14 ?_
  refine w_aload_n 0 dX10_become_75 rfl rfl rfl ?_
  obtain ⟨hg_w_s13, h⟩ := h.gd
  refine gf_RX10_24 (i := w) hg_w_s13 dX10_become_76 rfl ?_
  refine w_aload_n 1 dX10_become_79 rfl rfl rfl ?_
  obtain ⟨hg_u0_s13, h⟩ := h.gd
  refine gf_RX10_24 (i := u0) hg_u0_s13 dX10_become_80 rfl ?_
  obtain ⟨r15, s16, h17, h⟩ := h.bd
  refine k_X9_become ml_RX10_61 (Nat.le_of_ble_eq_true rfl) ⟨Nat.le_of_ble_eq_true rfl, Nat.le_of_ble_eq_true rfl⟩ dX10_become_83 rfl h17 ?_
  refine w_aload_n 0 dX10_become_86 rfl rfl rfl ?_
  obtain ⟨hg_w_s16, h⟩ := h.gd
  refine gf_RX10_27 (i := w) hg_w_s16 dX10_become_87 rfl ?_
  refine w_aload_n 1 dX10_become_90 rfl rfl rfl ?_
  obtain ⟨hg_u0_s16, h⟩ := h.gd
  refine gf_RX10_27 (i := u0) hg_u0_s16 dX10_become_91 rfl ?_
  obtain ⟨r18, s19, h20, h⟩ := h.bd
  refine k_X9_become ml_RX10_61 (Nat.le_of_ble_eq_true rfl) ⟨Nat.le_of_ble_eq_true rfl, Nat.le_of_ble_eq_true rfl⟩ dX10_become_94 rfl h20 ?_
  refine w_aload_n 0 dX10_become_97 rfl rfl rfl ?_
  obtain ⟨hg_w_s19, h⟩ := h.gd
  refine gf_RX10_30 (i := w) hg_w_s19 dX10_become_98 rfl ?_
  refine w_aload_n 1 dX10_become_101 rfl rfl rfl ?_
  obtain ⟨hg_u0_s19, h⟩ := h.gd
  refine gf_RX10_30 (i := u0) hg_u0_s19 dX10_become_102 rfl ?_
  obtain ⟨r21, s22, h23, h⟩ := h.bd
  refine k_X9_become ml_RX10_61 (Nat.le_of_ble_eq_true rfl) ⟨Nat.le_of_ble_eq_true rfl, Nat.le_of_ble_eq_true rfl⟩ dX10_become_105 rfl h23 ?_
  refine w_aload_n 0 dX10_become_108 rfl rfl rfl ?_
  obtain ⟨hg_w_s22, h⟩ := h.gd
  refine gf_RX10_33 (i := w) hg_w_s22 dX10_become_109 rfl ?_
  refine w_aload_n 1 dX10_become_112 rfl rfl rfl ?_
  obtain ⟨hg_u0_s22, h⟩ := h.gd
  refine gf_RX10_33 (i := u0) hg_u0_s22 dX10_become_113 rfl ?_
  obtain ⟨r24, s25, h26, h⟩ := h.bd
  refine k_X9_become ml_RX10_61 (Nat.le_of_ble_eq_true rfl) ⟨Nat.le_of_ble_eq_true rfl, Nat.le_of_ble_eq_true rfl⟩ dX10_become_116 rfl h26 ?_
  refine w_aload_n 0 dX10_become_119 rfl rfl rfl ?_
  obtain ⟨hg_w_s25, h⟩ := h.gd
  refine gf_RX10_36 (i := w) hg_w_s25 dX10_become_120 rfl ?_
  refine w_aload_n 1 dX10_become_123 rfl rfl rfl ?_
  obtain ⟨hg_u0_s25, h⟩ := h.gd
  refine gf_RX10_36 (i := u0) hg_u0_s25 dX10_become_124 rfl ?_
  obtain ⟨r27, s28, h29, h⟩ := h.bd
  refine k_X9_become ml_RX10_61 (Nat.le_of_ble_eq_true rfl) ⟨Nat.le_of_ble_eq_true rfl, Nat.le_of_ble_eq_true rfl⟩ dX10_become_127 rfl h29 ?_
  exact w_return dX10_become_130 h
theorem c_X10_become {l : Launch} {D : va_G} {cy : Nat → ClassId} {ad : Nat → Nat} {w : Nat} {u0 : Nat} {σ σ' : St} {r : Unit} (hf : f_X10_become w u0 σ = some (r, σ')) : CT l D cy ad yX10_become cX10_become 2 none rX10_become [.ref (ad w), .ref (ad u0)] σ none σ' :=
  ct_of (by decide) (Nat.le_of_ble_eq_true rfl) (fun p e s m args below meth c A => e_X10_become (Γ := (p, l, e, rX10_become, s, m, args, below, meth, c, D, cy, ad, A, 0, 0, MQ below (QC D cy ad none σ' A) args s 0 0 A)) w u0 σ ⟨_, hf, rfl⟩)
theorem k_X10_become {Γ : CX} {cc : ByteArray} {nL : Nat} {own : String} {ret : Option FieldType} {rm : Room} {σ σ' : St} {pc pc' idx : Nat} {lv : List (Nat × Value)} {rest : List Value} {w : Nat} {u0 : Nat} {r : Unit} (hl : Cond.methodLink own idx yX10_become ∈ TB) (hw : (rest.map fun v => v.category).sum ≤ 8) (hR : rX10_become.frames + 1 ≤ rm.frames ∧ 8 + (2 + 11) + rX10_become.locals ≤ rm.locals) (hd : decode cc pc = .ok (.invokevirtual idx, 3)) (hp : pc + 3 = pc') (hf : f_X10_become w u0 σ = some (r, σ')) (h : WW Γ cc nL own ret rm σ' pc' lv (rest)) : WW Γ cc nL own ret rm σ pc lv (.ref (xd Γ u0) :: .ref (xd Γ w) :: rest) := by
  have hT : isW σ w = true := by
    unfold f_X10_become at hf
    exact gd_of hf
  exact w_callV (nn := 1) (i := w) (As := [.ref (xd Γ u0)]) (v := none) (T := TX10) (N := 12) (c_X10_become hf) hl mw_X10_become (by decide +kernel) ⟨rfl, rfl⟩ hR (isW_lt hT 0 (by decide)) (cel_W hT) rfl rfl hw hd rfl hp h
/-! WarByHours.War.isTold ()Z -/
def rX10_isTold : Room := { frames := 0, cells := 0, slots := 0, locals := 0 }
def f_X10_isTold_12 (w : Nat) (k0 : Int32) (σ : St) : Option (Int32 × St) :=
  gd (bz k0) <| some (k0, σ)
theorem b_X10_isTold_12 {Γ : CX} (w : Nat) (k0 : Int32) (σ : St) (h : RR vI Γ (f_X10_isTold_12 w k0 σ)) : WW Γ cX10_isTold 1 RX10 (some .boolean) rX10_isTold σ 12 [] [.int k0] := by
  unfold f_X10_isTold_12 at h
  obtain ⟨hb, h⟩ := h.gd
  exact w_zreturn dX10_isTold_12 hb h
def f_X10_isTold (w : Nat) (σ : St) : Option (Int32 × St) :=
  gd (isW σ w) <|
  if (gf σ w 0) ≤ 0 then
    f_X10_isTold_12 w (0 : Int32) σ
  else
    f_X10_isTold_12 w (1 : Int32) σ
theorem e_X10_isTold {Γ : CX} (w : Nat) (σ : St) (h : RR vI Γ (f_X10_isTold w σ)) : WW Γ cX10_isTold 1 RX10 (some .boolean) rX10_isTold σ 0 [(0, .ref (xd Γ w))] [] := by
  unfold f_X10_isTold at h
  obtain ⟨hg_w_σ, h⟩ := h.gd
  refine w_aload_n 0 dX10_isTold_0 rfl rfl rfl ?_
  refine gf_RX10_42 (i := w) hg_w_σ dX10_isTold_1 rfl ?_
  refine w_if_le (tgt := 11) dX10_isTold_4 (by decide) rfl (fun q => ?_) (fun q => ?_)
  · have h := h.tt q
    refine w_iconst (0 : Int32) dX10_isTold_11 ic_iconst_0 rfl ?_
    exact w_sub [] rfl (b_X10_isTold_12 w (0 : Int32) σ h)
  · have h := h.ff q
    refine w_iconst (1 : Int32) dX10_isTold_7 ic_iconst_1 rfl ?_
    refine w_goto (tgt := 12) dX10_isTold_8 (by decide) ?_
    exact w_sub [] rfl (b_X10_isTold_12 w (1 : Int32) σ h)
theorem c_X10_isTold {l : Launch} {D : va_G} {cy : Nat → ClassId} {ad : Nat → Nat} {w : Nat} {σ σ' : St} {r : Int32} (hf : f_X10_isTold w σ = some (r, σ')) : CT l D cy ad yX10_isTold cX10_isTold 1 (some .boolean) rX10_isTold [.ref (ad w)] σ (some (.int r)) σ' :=
  ct_of (by decide) (Nat.le_of_ble_eq_true rfl) (fun p e s m args below meth c A => e_X10_isTold (Γ := (p, l, e, rX10_isTold, s, m, args, below, meth, c, D, cy, ad, A, 0, 0, MQ below (QC D cy ad (some (.int r)) σ' A) args s 0 0 A)) w σ ⟨_, hf, rfl⟩)
theorem k_X10_isTold {Γ : CX} {cc : ByteArray} {nL : Nat} {own : String} {ret : Option FieldType} {rm : Room} {σ σ' : St} {pc pc' idx : Nat} {lv : List (Nat × Value)} {rest : List Value} {w : Nat} {r : Int32} (hl : Cond.methodLink own idx yX10_isTold ∈ TB) (hw : (rest.map fun v => v.category).sum ≤ 8) (hR : rX10_isTold.frames + 1 ≤ rm.frames ∧ 8 + (1 + 11) + rX10_isTold.locals ≤ rm.locals) (hd : decode cc pc = .ok (.invokevirtual idx, 3)) (hp : pc + 3 = pc') (hf : f_X10_isTold w σ = some (r, σ')) (h : WW Γ cc nL own ret rm σ' pc' lv (.int r :: rest)) : WW Γ cc nL own ret rm σ pc lv (.ref (xd Γ w) :: rest) := by
  have hT : isW σ w = true := by
    unfold f_X10_isTold at hf
    exact gd_of hf
  exact w_callV (nn := 0) (i := w) (As := []) (v := (some (.int r))) (T := TX10) (N := 12) (c_X10_isTold hf) hl mw_X10_isTold (by decide +kernel) ⟨rfl, rfl⟩ hR (isW_lt hT 0 (by decide)) (cel_W hT) rfl rfl hw hd rfl hp h
/-! WarByHours.War.hasSide (I)Z -/
def rX10_hasSide : Room := { frames := 1, cells := 0, slots := 0, locals := 20 }
def f_X10_hasSide_21 (w : Nat) (k0 : Int32) (σ : St) : Option (Int32 × St) :=
  gd (bz k0) <| some (k0, σ)
theorem b_X10_hasSide_21 {Γ : CX} (w : Nat) (k0 : Int32) (σ : St) (h : RR vI Γ (f_X10_hasSide_21 w k0 σ)) : WW Γ cX10_hasSide 2 RX10 (some .boolean) rX10_hasSide σ 21 [] [.int k0] := by
  unfold f_X10_hasSide_21 at h
  obtain ⟨hb, h⟩ := h.gd
  exact w_zreturn dX10_hasSide_21 hb h
def f_X10_hasSide_16 (w : Nat) (σ : St) : Option (Int32 × St) :=
  f_X10_hasSide_21 w (1 : Int32) σ
theorem b_X10_hasSide_16 {Γ : CX} (w : Nat) (σ : St) (h : RR vI Γ (f_X10_hasSide_16 w σ)) : WW Γ cX10_hasSide 2 RX10 (some .boolean) rX10_hasSide σ 16 [] [] := by
  unfold f_X10_hasSide_16 at h
  refine w_iconst (1 : Int32) dX10_hasSide_16 ic_iconst_1 rfl ?_
  refine w_goto (tgt := 21) dX10_hasSide_17 (by decide) ?_
  exact w_sub [] rfl (b_X10_hasSide_21 w (1 : Int32) σ h)
def f_X10_hasSide_20 (w : Nat) (σ : St) : Option (Int32 × St) :=
  f_X10_hasSide_21 w (0 : Int32) σ
theorem b_X10_hasSide_20 {Γ : CX} (w : Nat) (σ : St) (h : RR vI Γ (f_X10_hasSide_20 w σ)) : WW Γ cX10_hasSide 2 RX10 (some .boolean) rX10_hasSide σ 20 [] [] := by
  unfold f_X10_hasSide_20 at h
  refine w_iconst (0 : Int32) dX10_hasSide_20 ic_iconst_0 rfl ?_
  exact w_sub [] rfl (b_X10_hasSide_21 w (0 : Int32) σ h)
def f_X10_hasSide (w : Nat) (p0 : Int32) (σ : St) : Option (Int32 × St) :=
  gd (isW σ w) <|
  bd (f_X10_isTold w σ) fun r1 s2 =>
  if r1 = 0 then
    f_X10_hasSide_20 w s2
  else
    if p0 = 0 then
      f_X10_hasSide_16 w s2
    else
      if p0 = (1 : Int32) then
        f_X10_hasSide_16 w s2
      else
        f_X10_hasSide_20 w s2
theorem e_X10_hasSide {Γ : CX} (w : Nat) (p0 : Int32) (σ : St) (h : RR vI Γ (f_X10_hasSide w p0 σ)) : WW Γ cX10_hasSide 2 RX10 (some .boolean) rX10_hasSide σ 0 [(0, .ref (xd Γ w)), (1, .int p0)] [] := by
  unfold f_X10_hasSide at h
  obtain ⟨hg_w_σ, h⟩ := h.gd
  refine w_aload_n 0 dX10_hasSide_0 rfl rfl rfl ?_
  obtain ⟨r1, s2, h3, h⟩ := h.bd
  refine k_X10_isTold ml_RX10_65 (Nat.le_of_ble_eq_true rfl) ⟨Nat.le_of_ble_eq_true rfl, Nat.le_of_ble_eq_true rfl⟩ dX10_hasSide_1 rfl h3 ?_
  refine w_if_eq (tgt := 20) dX10_hasSide_4 (by decide) rfl (fun q => ?_) (fun q => ?_)
  · have h := h.tt q
    exact w_sub [] rfl (b_X10_hasSide_20 w s2 h)
  · have h := h.ff q
    refine w_iload_n 1 dX10_hasSide_7 rfl rfl rfl ?_
    refine w_if_eq (tgt := 16) dX10_hasSide_8 (by decide) rfl (fun q => ?_) (fun q => ?_)
    · have h := h.tt q
      exact w_sub [] rfl (b_X10_hasSide_16 w s2 h)
    · have h := h.ff q
      refine w_iload_n 1 dX10_hasSide_11 rfl rfl rfl ?_
      refine w_iconst (1 : Int32) dX10_hasSide_12 ic_iconst_1 rfl ?_
      refine w_icmp_ne (tgt := 20) dX10_hasSide_13 (by decide) rfl (fun q => ?_) (fun q => ?_)
      · have h := h.ff q
        exact w_sub [] rfl (b_X10_hasSide_20 w s2 h)
      · have h := h.tt q
        exact w_sub [] rfl (b_X10_hasSide_16 w s2 h)
theorem c_X10_hasSide {l : Launch} {D : va_G} {cy : Nat → ClassId} {ad : Nat → Nat} {w : Nat} {p0 : Int32} {σ σ' : St} {r : Int32} (hf : f_X10_hasSide w p0 σ = some (r, σ')) : CT l D cy ad yX10_hasSide cX10_hasSide 2 (some .boolean) rX10_hasSide [.ref (ad w), .int p0] σ (some (.int r)) σ' :=
  ct_of (by decide) (Nat.le_of_ble_eq_true rfl) (fun p e s m args below meth c A => e_X10_hasSide (Γ := (p, l, e, rX10_hasSide, s, m, args, below, meth, c, D, cy, ad, A, 0, 0, MQ below (QC D cy ad (some (.int r)) σ' A) args s 0 0 A)) w p0 σ ⟨_, hf, rfl⟩)
theorem k_X10_hasSide {Γ : CX} {cc : ByteArray} {nL : Nat} {own : String} {ret : Option FieldType} {rm : Room} {σ σ' : St} {pc pc' idx : Nat} {lv : List (Nat × Value)} {rest : List Value} {w : Nat} {p0 : Int32} {r : Int32} (hl : Cond.methodLink own idx yX10_hasSide ∈ TB) (hw : (rest.map fun v => v.category).sum ≤ 8) (hR : rX10_hasSide.frames + 1 ≤ rm.frames ∧ 8 + (2 + 11) + rX10_hasSide.locals ≤ rm.locals) (hd : decode cc pc = .ok (.invokevirtual idx, 3)) (hp : pc + 3 = pc') (hf : f_X10_hasSide w p0 σ = some (r, σ')) (h : WW Γ cc nL own ret rm σ' pc' lv (.int r :: rest)) : WW Γ cc nL own ret rm σ pc lv (.int p0 :: .ref (xd Γ w) :: rest) := by
  have hT : isW σ w = true := by
    unfold f_X10_hasSide at hf
    exact gd_of hf
  exact w_callV (nn := 1) (i := w) (As := [.int p0]) (v := (some (.int r))) (T := TX10) (N := 12) (c_X10_hasSide hf) hl mw_X10_hasSide (by decide +kernel) ⟨rfl, rfl⟩ hR (isW_lt hT 0 (by decide)) (cel_W hT) rfl rfl hw hd rfl hp h
/-! WarByHours.War.hasTrain (I)Z -/
def rX10_hasTrain : Room := { frames := 1, cells := 0, slots := 0, locals := 20 }
def f_X10_hasTrain_27 (w : Nat) (k0 : Int32) (σ : St) : Option (Int32 × St) :=
  gd (bz k0) <| some (k0, σ)
theorem b_X10_hasTrain_27 {Γ : CX} (w : Nat) (k0 : Int32) (σ : St) (h : RR vI Γ (f_X10_hasTrain_27 w k0 σ)) : WW Γ cX10_hasTrain 2 RX10 (some .boolean) rX10_hasTrain σ 27 [] [.int k0] := by
  unfold f_X10_hasTrain_27 at h
  obtain ⟨hb, h⟩ := h.gd
  exact w_zreturn dX10_hasTrain_27 hb h
def f_X10_hasTrain_26 (w : Nat) (σ : St) : Option (Int32 × St) :=
  f_X10_hasTrain_27 w (0 : Int32) σ
theorem b_X10_hasTrain_26 {Γ : CX} (w : Nat) (σ : St) (h : RR vI Γ (f_X10_hasTrain_26 w σ)) : WW Γ cX10_hasTrain 2 RX10 (some .boolean) rX10_hasTrain σ 26 [] [] := by
  unfold f_X10_hasTrain_26 at h
  refine w_iconst (0 : Int32) dX10_hasTrain_26 ic_iconst_0 rfl ?_
  exact w_sub [] rfl (b_X10_hasTrain_27 w (0 : Int32) σ h)
def f_X10_hasTrain (w : Nat) (p0 : Int32) (σ : St) : Option (Int32 × St) :=
  gd (isW σ w) <|
  bd (f_X10_isTold w σ) fun r1 s2 =>
  if r1 = 0 then
    f_X10_hasTrain_26 w s2
  else
    if p0 < 0 then
      f_X10_hasTrain_26 w s2
    else
      gd (isW s2 w) <|
      if (gf s2 (w + 2) 3) ≤ p0 then
        f_X10_hasTrain_26 w s2
      else
        f_X10_hasTrain_27 w (1 : Int32) s2
theorem e_X10_hasTrain {Γ : CX} (w : Nat) (p0 : Int32) (σ : St) (h : RR vI Γ (f_X10_hasTrain w p0 σ)) : WW Γ cX10_hasTrain 2 RX10 (some .boolean) rX10_hasTrain σ 0 [(0, .ref (xd Γ w)), (1, .int p0)] [] := by
  unfold f_X10_hasTrain at h
  obtain ⟨hg_w_σ, h⟩ := h.gd
  refine w_aload_n 0 dX10_hasTrain_0 rfl rfl rfl ?_
  obtain ⟨r1, s2, h3, h⟩ := h.bd
  refine k_X10_isTold ml_RX10_65 (Nat.le_of_ble_eq_true rfl) ⟨Nat.le_of_ble_eq_true rfl, Nat.le_of_ble_eq_true rfl⟩ dX10_hasTrain_1 rfl h3 ?_
  refine w_if_eq (tgt := 26) dX10_hasTrain_4 (by decide) rfl (fun q => ?_) (fun q => ?_)
  · have h := h.tt q
    exact w_sub [] rfl (b_X10_hasTrain_26 w s2 h)
  · have h := h.ff q
    refine w_iload_n 1 dX10_hasTrain_7 rfl rfl rfl ?_
    refine w_if_lt (tgt := 26) dX10_hasTrain_8 (by decide) rfl (fun q => ?_) (fun q => ?_)
    · have h := h.tt q
      exact w_sub [] rfl (b_X10_hasTrain_26 w s2 h)
    · have h := h.ff q
      refine w_iload_n 1 dX10_hasTrain_11 rfl rfl rfl ?_
      refine w_aload_n 0 dX10_hasTrain_12 rfl rfl rfl ?_
      obtain ⟨hg_w_s2, h⟩ := h.gd
      refine gf_RX10_20 (i := w) hg_w_s2 dX10_hasTrain_13 rfl ?_
      refine gf_RX10_58 (i := (w + 2)) (isW_T hg_w_s2 2 (by decide)) dX10_hasTrain_16 rfl ?_
      refine w_icmp_ge (tgt := 26) dX10_hasTrain_19 (by decide) rfl (fun q => ?_) (fun q => ?_)
      · have h := h.tt q
        exact w_sub [] rfl (b_X10_hasTrain_26 w s2 h)
      · have h := h.ff q
        refine w_iconst (1 : Int32) dX10_hasTrain_22 ic_iconst_1 rfl ?_
        refine w_goto (tgt := 27) dX10_hasTrain_23 (by decide) ?_
        exact w_sub [] rfl (b_X10_hasTrain_27 w (1 : Int32) s2 h)
theorem c_X10_hasTrain {l : Launch} {D : va_G} {cy : Nat → ClassId} {ad : Nat → Nat} {w : Nat} {p0 : Int32} {σ σ' : St} {r : Int32} (hf : f_X10_hasTrain w p0 σ = some (r, σ')) : CT l D cy ad yX10_hasTrain cX10_hasTrain 2 (some .boolean) rX10_hasTrain [.ref (ad w), .int p0] σ (some (.int r)) σ' :=
  ct_of (by decide) (Nat.le_of_ble_eq_true rfl) (fun p e s m args below meth c A => e_X10_hasTrain (Γ := (p, l, e, rX10_hasTrain, s, m, args, below, meth, c, D, cy, ad, A, 0, 0, MQ below (QC D cy ad (some (.int r)) σ' A) args s 0 0 A)) w p0 σ ⟨_, hf, rfl⟩)
theorem k_X10_hasTrain {Γ : CX} {cc : ByteArray} {nL : Nat} {own : String} {ret : Option FieldType} {rm : Room} {σ σ' : St} {pc pc' idx : Nat} {lv : List (Nat × Value)} {rest : List Value} {w : Nat} {p0 : Int32} {r : Int32} (hl : Cond.methodLink own idx yX10_hasTrain ∈ TB) (hw : (rest.map fun v => v.category).sum ≤ 8) (hR : rX10_hasTrain.frames + 1 ≤ rm.frames ∧ 8 + (2 + 11) + rX10_hasTrain.locals ≤ rm.locals) (hd : decode cc pc = .ok (.invokevirtual idx, 3)) (hp : pc + 3 = pc') (hf : f_X10_hasTrain w p0 σ = some (r, σ')) (h : WW Γ cc nL own ret rm σ' pc' lv (.int r :: rest)) : WW Γ cc nL own ret rm σ pc lv (.int p0 :: .ref (xd Γ w) :: rest) := by
  have hT : isW σ w = true := by
    unfold f_X10_hasTrain at hf
    exact gd_of hf
  exact w_callV (nn := 1) (i := w) (As := [.int p0]) (v := (some (.int r))) (T := TX10) (N := 12) (c_X10_hasTrain hf) hl mw_X10_hasTrain (by decide +kernel) ⟨rfl, rfl⟩ hR (isW_lt hT 0 (by decide)) (cel_W hT) rfl rfl hw hd rfl hp h
/-! WarByHours.War.sets ()I -/
def rX10_sets : Room := { frames := 1, cells := 0, slots := 0, locals := 23 }
def f_X10_sets (w : Nat) (σ : St) : Option (Int32 × St) :=
  gd (isW σ w) <|
  some ((if (512 : Int32) < ((1 : Int32) <<< ((gf σ (w + 2) 3) &&& 31)) then (512 : Int32) else ((1 : Int32) <<< ((gf σ (w + 2) 3) &&& 31))), σ)
theorem e_X10_sets {Γ : CX} (w : Nat) (σ : St) (h : RR vI Γ (f_X10_sets w σ)) : WW Γ cX10_sets 1 RX10 (some .int) rX10_sets σ 0 [(0, .ref (xd Γ w))] [] := by
  unfold f_X10_sets at h
  obtain ⟨hg_w_σ, h⟩ := h.gd
  refine w_iconst (1 : Int32) dX10_sets_0 ic_iconst_1 rfl ?_
  refine w_aload_n 0 dX10_sets_1 rfl rfl rfl ?_
  refine gf_RX10_20 (i := w) hg_w_σ dX10_sets_2 rfl ?_
  refine gf_RX10_58 (i := (w + 2)) (isW_T hg_w_σ 2 (by decide)) dX10_sets_5 rfl ?_
  refine w_ishl dX10_sets_8 rfl ?_
  refine w_sipush (512 : Int32) dX10_sets_9 ic_sipush_512 rfl ?_
  refine w_mmin ml_RX10_73 (Nat.le_of_ble_eq_true rfl) ⟨Nat.le_of_ble_eq_true rfl, Nat.le_of_ble_eq_true rfl⟩ dX10_sets_12 rfl ?_
  exact w_ireturn dX10_sets_15 h
theorem c_X10_sets {l : Launch} {D : va_G} {cy : Nat → ClassId} {ad : Nat → Nat} {w : Nat} {σ σ' : St} {r : Int32} (hf : f_X10_sets w σ = some (r, σ')) : CT l D cy ad yX10_sets cX10_sets 1 (some .int) rX10_sets [.ref (ad w)] σ (some (.int r)) σ' :=
  ct_of (by decide) (Nat.le_of_ble_eq_true rfl) (fun p e s m args below meth c A => e_X10_sets (Γ := (p, l, e, rX10_sets, s, m, args, below, meth, c, D, cy, ad, A, 0, 0, MQ below (QC D cy ad (some (.int r)) σ' A) args s 0 0 A)) w σ ⟨_, hf, rfl⟩)
theorem k_X10_sets {Γ : CX} {cc : ByteArray} {nL : Nat} {own : String} {ret : Option FieldType} {rm : Room} {σ σ' : St} {pc pc' idx : Nat} {lv : List (Nat × Value)} {rest : List Value} {w : Nat} {r : Int32} (hl : Cond.methodLink own idx yX10_sets ∈ TB) (hw : (rest.map fun v => v.category).sum ≤ 8) (hR : rX10_sets.frames + 1 ≤ rm.frames ∧ 8 + (1 + 11) + rX10_sets.locals ≤ rm.locals) (hd : decode cc pc = .ok (.invokevirtual idx, 3)) (hp : pc + 3 = pc') (hf : f_X10_sets w σ = some (r, σ')) (h : WW Γ cc nL own ret rm σ' pc' lv (.int r :: rest)) : WW Γ cc nL own ret rm σ pc lv (.ref (xd Γ w) :: rest) := by
  have hT : isW σ w = true := by
    unfold f_X10_sets at hf
    exact gd_of hf
  exact w_callV (nn := 0) (i := w) (As := []) (v := (some (.int r))) (T := TX10) (N := 12) (c_X10_sets hf) hl mw_X10_sets (by decide +kernel) ⟨rfl, rfl⟩ hR (isW_lt hT 0 (by decide)) (cel_W hT) rfl rfl hw hd rfl hp h
/-! WarByHours.War.needOf (I)I -/
def rX10_needOf : Room := { frames := 0, cells := 0, slots := 0, locals := 0 }
def f_X10_needOf_19 (w : Nat) (k0 : Int32) (σ : St) : Option (Int32 × St) :=
  some (k0, σ)
theorem b_X10_needOf_19 {Γ : CX} (w : Nat) (k0 : Int32) (σ : St) (h : RR vI Γ (f_X10_needOf_19 w k0 σ)) : WW Γ cX10_needOf 2 RX10 (some .int) rX10_needOf σ 19 [] [.int k0] := by
  unfold f_X10_needOf_19 at h
  exact w_ireturn dX10_needOf_19 h
def f_X10_needOf_9 (w : Nat) (v1 : Int32) (σ : St) : Option (Int32 × St) :=
  gd (isW σ w) <|
  gd (inb v1 (ln (w + 1))) <|
  f_X10_needOf_19 w (gr σ (w + 1) v1.toNatClampNeg) σ
theorem b_X10_needOf_9 {Γ : CX} (w : Nat) (v1 : Int32) (σ : St) (h : RR vI Γ (f_X10_needOf_9 w v1 σ)) : WW Γ cX10_needOf 2 RX10 (some .int) rX10_needOf σ 9 [(0, .ref (xd Γ w)), (1, .int v1)] [] := by
  unfold f_X10_needOf_9 at h
  refine w_aload_n 0 dX10_needOf_9 rfl rfl rfl ?_
  obtain ⟨hg_w_σ, h⟩ := h.gd
  refine gf_RX10_9 (i := w) hg_w_σ dX10_needOf_10 rfl ?_
  refine w_iload_n 1 dX10_needOf_13 rfl rfl rfl ?_
  obtain ⟨hi1, h⟩ := h.gd
  refine w_iald (i := (w + 1)) (isW_lt hg_w_σ 1 (by decide)) (isW_kd hg_w_σ 1 (by decide)) hi1 dX10_needOf_14 rfl ?_
  refine w_goto (tgt := 19) dX10_needOf_15 (by decide) ?_
  exact w_sub [] rfl (b_X10_needOf_19 w (gr σ (w + 1) v1.toNatClampNeg) σ h)
def f_X10_needOf (w : Nat) (p0 : Int32) (σ : St) : Option (Int32 × St) :=
  gd (isW σ w) <|
  if p0 = 0 then
    f_X10_needOf_9 w p0 σ
  else
    if p0 = (1 : Int32) then
      f_X10_needOf_9 w p0 σ
    else
      f_X10_needOf_19 w (0 : Int32) σ
theorem e_X10_needOf {Γ : CX} (w : Nat) (p0 : Int32) (σ : St) (h : RR vI Γ (f_X10_needOf w p0 σ)) : WW Γ cX10_needOf 2 RX10 (some .int) rX10_needOf σ 0 [(0, .ref (xd Γ w)), (1, .int p0)] [] := by
  unfold f_X10_needOf at h
  obtain ⟨hg_w_σ, h⟩ := h.gd
  refine w_iload_n 1 dX10_needOf_0 rfl rfl rfl ?_
  refine w_if_eq (tgt := 9) dX10_needOf_1 (by decide) rfl (fun q => ?_) (fun q => ?_)
  · have h := h.tt q
    exact w_sub [0, 1] rfl (b_X10_needOf_9 w p0 σ h)
  · have h := h.ff q
    refine w_iload_n 1 dX10_needOf_4 rfl rfl rfl ?_
    refine w_iconst (1 : Int32) dX10_needOf_5 ic_iconst_1 rfl ?_
    refine w_icmp_ne (tgt := 18) dX10_needOf_6 (by decide) rfl (fun q => ?_) (fun q => ?_)
    · have h := h.ff q
      refine w_iconst (0 : Int32) dX10_needOf_18 ic_iconst_0 rfl ?_
      exact w_sub [] rfl (b_X10_needOf_19 w (0 : Int32) σ h)
    · have h := h.tt q
      exact w_sub [0, 1] rfl (b_X10_needOf_9 w p0 σ h)
theorem c_X10_needOf {l : Launch} {D : va_G} {cy : Nat → ClassId} {ad : Nat → Nat} {w : Nat} {p0 : Int32} {σ σ' : St} {r : Int32} (hf : f_X10_needOf w p0 σ = some (r, σ')) : CT l D cy ad yX10_needOf cX10_needOf 2 (some .int) rX10_needOf [.ref (ad w), .int p0] σ (some (.int r)) σ' :=
  ct_of (by decide) (Nat.le_of_ble_eq_true rfl) (fun p e s m args below meth c A => e_X10_needOf (Γ := (p, l, e, rX10_needOf, s, m, args, below, meth, c, D, cy, ad, A, 0, 0, MQ below (QC D cy ad (some (.int r)) σ' A) args s 0 0 A)) w p0 σ ⟨_, hf, rfl⟩)
theorem k_X10_needOf {Γ : CX} {cc : ByteArray} {nL : Nat} {own : String} {ret : Option FieldType} {rm : Room} {σ σ' : St} {pc pc' idx : Nat} {lv : List (Nat × Value)} {rest : List Value} {w : Nat} {p0 : Int32} {r : Int32} (hl : Cond.methodLink own idx yX10_needOf ∈ TB) (hw : (rest.map fun v => v.category).sum ≤ 8) (hR : rX10_needOf.frames + 1 ≤ rm.frames ∧ 8 + (2 + 11) + rX10_needOf.locals ≤ rm.locals) (hd : decode cc pc = .ok (.invokevirtual idx, 3)) (hp : pc + 3 = pc') (hf : f_X10_needOf w p0 σ = some (r, σ')) (h : WW Γ cc nL own ret rm σ' pc' lv (.int r :: rest)) : WW Γ cc nL own ret rm σ pc lv (.int p0 :: .ref (xd Γ w) :: rest) := by
  have hT : isW σ w = true := by
    unfold f_X10_needOf at hf
    exact gd_of hf
  exact w_callV (nn := 1) (i := w) (As := [.int p0]) (v := (some (.int r))) (T := TX10) (N := 12) (c_X10_needOf hf) hl mw_X10_needOf (by decide +kernel) ⟨rfl, rfl⟩ hR (isW_lt hT 0 (by decide)) (cel_W hT) rfl rfl hw hd rfl hp h
/-! WarByHours.War.setNeed (II)V -/
def rX10_setNeed : Room := { frames := 0, cells := 0, slots := 0, locals := 0 }
def f_X10_setNeed_16 (w : Nat) (σ : St) : Option (Unit × St) :=
  some ((), σ)
theorem b_X10_setNeed_16 {Γ : CX} (w : Nat) (σ : St) (h : RR vU Γ (f_X10_setNeed_16 w σ)) : WW Γ cX10_setNeed 3 RX10 none rX10_setNeed σ 16 [] [] := by
  unfold f_X10_setNeed_16 at h
  exact w_return dX10_setNeed_16 h
def f_X10_setNeed_9 (w : Nat) (v1 : Int32) (v2 : Int32) (σ : St) : Option (Unit × St) :=
  gd (isW σ w) <|
  gd (inb v1 (ln (w + 1))) <|
  bnd (sr σ (w + 1) v1.toNatClampNeg v2) fun s2 =>
  f_X10_setNeed_16 w s2
theorem b_X10_setNeed_9 {Γ : CX} (w : Nat) (v1 : Int32) (v2 : Int32) (σ : St) (h : RR vU Γ (f_X10_setNeed_9 w v1 v2 σ)) : WW Γ cX10_setNeed 3 RX10 none rX10_setNeed σ 9 [(0, .ref (xd Γ w)), (1, .int v1), (2, .int v2)] [] := by
  unfold f_X10_setNeed_9 at h
  refine w_aload_n 0 dX10_setNeed_9 rfl rfl rfl ?_
  obtain ⟨hg_w_σ, h⟩ := h.gd
  refine gf_RX10_9 (i := w) hg_w_σ dX10_setNeed_10 rfl ?_
  refine w_iload_n 1 dX10_setNeed_13 rfl rfl rfl ?_
  refine w_iload_n 2 dX10_setNeed_14 rfl rfl rfl ?_
  obtain ⟨hi1, h⟩ := h.gd
  refine w_iast (i := (w + 1)) (isW_lt hg_w_σ 1 (by decide)) (isW_kd hg_w_σ 1 (by decide)) hi1 dX10_setNeed_15 rfl ?_
  obtain ⟨s2, es2⟩ : ∃ y : St, y = (sr σ (w + 1) v1.toNatClampNeg v2) := ⟨_, rfl⟩
  rw [← es2]
  replace h := h.bnd es2
  have hg_w_s2 : isW s2 w = true := by rw [es2]; exact hg_w_σ
  clear es2
  exact w_sub [] rfl (b_X10_setNeed_16 w s2 h)
def f_X10_setNeed (w : Nat) (p0 : Int32) (p1 : Int32) (σ : St) : Option (Unit × St) :=
  gd (isW σ w) <|
  if p0 = 0 then
    f_X10_setNeed_9 w p0 p1 σ
  else
    if p0 = (1 : Int32) then
      f_X10_setNeed_9 w p0 p1 σ
    else
      f_X10_setNeed_16 w σ
theorem e_X10_setNeed {Γ : CX} (w : Nat) (p0 : Int32) (p1 : Int32) (σ : St) (h : RR vU Γ (f_X10_setNeed w p0 p1 σ)) : WW Γ cX10_setNeed 3 RX10 none rX10_setNeed σ 0 [(0, .ref (xd Γ w)), (1, .int p0), (2, .int p1)] [] := by
  unfold f_X10_setNeed at h
  obtain ⟨hg_w_σ, h⟩ := h.gd
  refine w_iload_n 1 dX10_setNeed_0 rfl rfl rfl ?_
  refine w_if_eq (tgt := 9) dX10_setNeed_1 (by decide) rfl (fun q => ?_) (fun q => ?_)
  · have h := h.tt q
    exact w_sub [0, 1, 2] rfl (b_X10_setNeed_9 w p0 p1 σ h)
  · have h := h.ff q
    refine w_iload_n 1 dX10_setNeed_4 rfl rfl rfl ?_
    refine w_iconst (1 : Int32) dX10_setNeed_5 ic_iconst_1 rfl ?_
    refine w_icmp_ne (tgt := 16) dX10_setNeed_6 (by decide) rfl (fun q => ?_) (fun q => ?_)
    · have h := h.ff q
      exact w_sub [] rfl (b_X10_setNeed_16 w σ h)
    · have h := h.tt q
      exact w_sub [0, 1, 2] rfl (b_X10_setNeed_9 w p0 p1 σ h)
theorem c_X10_setNeed {l : Launch} {D : va_G} {cy : Nat → ClassId} {ad : Nat → Nat} {w : Nat} {p0 : Int32} {p1 : Int32} {σ σ' : St} {r : Unit} (hf : f_X10_setNeed w p0 p1 σ = some (r, σ')) : CT l D cy ad yX10_setNeed cX10_setNeed 3 none rX10_setNeed [.ref (ad w), .int p0, .int p1] σ none σ' :=
  ct_of (by decide) (Nat.le_of_ble_eq_true rfl) (fun p e s m args below meth c A => e_X10_setNeed (Γ := (p, l, e, rX10_setNeed, s, m, args, below, meth, c, D, cy, ad, A, 0, 0, MQ below (QC D cy ad none σ' A) args s 0 0 A)) w p0 p1 σ ⟨_, hf, rfl⟩)
theorem k_X10_setNeed {Γ : CX} {cc : ByteArray} {nL : Nat} {own : String} {ret : Option FieldType} {rm : Room} {σ σ' : St} {pc pc' idx : Nat} {lv : List (Nat × Value)} {rest : List Value} {w : Nat} {p0 : Int32} {p1 : Int32} {r : Unit} (hl : Cond.methodLink own idx yX10_setNeed ∈ TB) (hw : (rest.map fun v => v.category).sum ≤ 8) (hR : rX10_setNeed.frames + 1 ≤ rm.frames ∧ 8 + (3 + 11) + rX10_setNeed.locals ≤ rm.locals) (hd : decode cc pc = .ok (.invokevirtual idx, 3)) (hp : pc + 3 = pc') (hf : f_X10_setNeed w p0 p1 σ = some (r, σ')) (h : WW Γ cc nL own ret rm σ' pc' lv (rest)) : WW Γ cc nL own ret rm σ pc lv (.int p1 :: .int p0 :: .ref (xd Γ w) :: rest) := by
  have hT : isW σ w = true := by
    unfold f_X10_setNeed at hf
    exact gd_of hf
  exact w_callV (nn := 2) (i := w) (As := [.int p0, .int p1]) (v := none) (T := TX10) (N := 12) (c_X10_setNeed hf) hl mw_X10_setNeed (by decide +kernel) ⟨rfl, rfl⟩ hR (isW_lt hT 0 (by decide)) (cel_W hT) rfl rfl hw hd rfl hp h
/-! WarByHours.War.trainsOf (I)I -/
def rX10_trainsOf : Room := { frames := 1, cells := 0, slots := 0, locals := 22 }
def f_X10_trainsOf_34 (w : Nat) (K4 : Int32 × Int32 × Int32 × St → Option (Int32 × St)) (v1 : Int32) (v2 : Int32) (v3 : Int32) (σ : St) : Option (Int32 × St) :=
  bnd (v3 + (1 : Int32)) fun x1 =>
  K4 (v1, v2, x1, σ)
theorem b_X10_trainsOf_34 {Γ : CX} (w : Nat) (K4 : Int32 × Int32 × Int32 × St → Option (Int32 × St)) (hK4 : ∀ (v1 : Int32) (v2 : Int32) (v3 : Int32) (σ : St), RR vI Γ (K4 (v1, v2, v3, σ)) → WW Γ cX10_trainsOf 4 RX10 (some .int) rX10_trainsOf σ 4 [(0, .ref (xd Γ w)), (1, .int v1), (2, .int v2), (3, .int v3)] []) (v1 : Int32) (v2 : Int32) (v3 : Int32) (σ : St) (h : RR vI Γ (f_X10_trainsOf_34 w K4 v1 v2 v3 σ)) : WW Γ cX10_trainsOf 4 RX10 (some .int) rX10_trainsOf σ 34 [(0, .ref (xd Γ w)), (1, .int v1), (2, .int v2), (3, .int v3)] [] := by
  unfold f_X10_trainsOf_34 at h
  obtain ⟨x1, ex1⟩ : ∃ y : Int32, y = (v3 + (1 : Int32)) := ⟨_, rfl⟩
  replace h := h.bnd ex1
  refine w_iinc 3 x1 [(3, .int x1), (0, .ref (xd Γ w)), (1, .int v1), (2, .int v2)] dX10_trainsOf_34 rfl (by rw [ex1, ic_iconst_1]) (by decide) rfl rfl ?_
  clear ex1
  refine w_goto (tgt := 4) dX10_trainsOf_37 (by decide) ?_
  exact w_sub [1, 2, 3, 0] rfl (hK4 v1 v2 x1 σ h)
def g_X10_trainsOf_4 (w : Nat) (K4 : Int32 × Int32 × Int32 × St → Option (Int32 × St)) (x : Int32 × Int32 × Int32 × St) : Option (Int32 × St) := match x with
  | (v1, v2, v3, σ) =>
  gd (isW σ w) <|
  if (gf σ (w + 2) 3) ≤ v3 then
    some (v2, σ)
  else
    bd (f_X9_cell (w + 2) v3 (0 : Int32) σ) fun r1 s2 =>
    if r1 = v1 then
      bnd ((v2 ||| ((1 : Int32) <<< (v3 &&& 31)))) fun x4 =>
      f_X10_trainsOf_34 w K4 v1 x4 v3 s2
    else
      f_X10_trainsOf_34 w K4 v1 v2 v3 s2
theorem l_X10_trainsOf_4 {Γ : CX} (w : Nat) : ∀ (n : Nat) (v1 : Int32) (v2 : Int32) (v3 : Int32) (σ : St), RR vI Γ (itr (g_X10_trainsOf_4 w) n (v1, v2, v3, σ)) → WW Γ cX10_trainsOf 4 RX10 (some .int) rX10_trainsOf σ 4 [(0, .ref (xd Γ w)), (1, .int v1), (2, .int v2), (3, .int v3)] [] := by
  intro n
  induction n with
  | zero => intro v1 v2 v3 σ h; exact RR.no h
  | succ n hK4 =>
  intro v1 v2 v3 σ h
  have h : RR vI Γ (g_X10_trainsOf_4 w (itr (g_X10_trainsOf_4 w) n) (v1, v2, v3, σ)) := h
  generalize itr (g_X10_trainsOf_4 w) n = K4 at h hK4
  unfold g_X10_trainsOf_4 at h
  dsimp only at h
  refine w_iload_n 3 dX10_trainsOf_4 rfl rfl rfl ?_
  refine w_aload_n 0 dX10_trainsOf_5 rfl rfl rfl ?_
  obtain ⟨hg_w_σ, h⟩ := h.gd
  refine gf_RX10_20 (i := w) hg_w_σ dX10_trainsOf_6 rfl ?_
  refine gf_RX10_58 (i := (w + 2)) (isW_T hg_w_σ 2 (by decide)) dX10_trainsOf_9 rfl ?_
  refine w_icmp_ge (tgt := 40) dX10_trainsOf_12 (by decide) rfl (fun q => ?_) (fun q => ?_)
  · have h := h.tt q
    refine w_iload_n 2 dX10_trainsOf_40 rfl rfl rfl ?_
    exact w_ireturn dX10_trainsOf_41 h
  · have h := h.ff q
    refine w_aload_n 0 dX10_trainsOf_15 rfl rfl rfl ?_
    refine gf_RX10_20 (i := w) hg_w_σ dX10_trainsOf_16 rfl ?_
    refine w_iload_n 3 dX10_trainsOf_19 rfl rfl rfl ?_
    refine w_iconst (0 : Int32) dX10_trainsOf_20 ic_iconst_0 rfl ?_
    obtain ⟨r1, s2, h3, h⟩ := h.bd
    refine k_X9_cell ml_RX10_79 (Nat.le_of_ble_eq_true rfl) ⟨Nat.le_of_ble_eq_true rfl, Nat.le_of_ble_eq_true rfl⟩ dX10_trainsOf_21 rfl h3 ?_
    refine w_iload_n 1 dX10_trainsOf_24 rfl rfl rfl ?_
    refine w_icmp_ne (tgt := 34) dX10_trainsOf_25 (by decide) rfl (fun q => ?_) (fun q => ?_)
    · have h := h.ff q
      exact w_sub [0, 1, 2, 3] rfl (b_X10_trainsOf_34 w K4 hK4 v1 v2 v3 s2 h)
    · have h := h.tt q
      refine w_iload_n 2 dX10_trainsOf_28 rfl rfl rfl ?_
      refine w_iconst (1 : Int32) dX10_trainsOf_29 ic_iconst_1 rfl ?_
      refine w_iload_n 3 dX10_trainsOf_30 rfl rfl rfl ?_
      refine w_ishl dX10_trainsOf_31 rfl ?_
      refine w_ior dX10_trainsOf_32 rfl ?_
      refine w_nmI (fun x4 ex4 => ?_)
      replace h := h.bnd ex4
      clear ex4
      refine w_istore_n [(2, .int x4), (0, .ref (xd Γ w)), (1, .int v1), (3, .int v3)] dX10_trainsOf_33 rfl (by decide) rfl rfl ?_
      exact w_sub [1, 2, 0, 3] rfl (b_X10_trainsOf_34 w K4 hK4 v1 x4 v3 s2 h)
def f_X10_trainsOf (w : Nat) (p0 : Int32) (σ : St) : Option (Int32 × St) :=
  gd (isW σ w) <|
  itr (g_X10_trainsOf_4 w) FU (p0, (0 : Int32), (0 : Int32), σ)
theorem e_X10_trainsOf {Γ : CX} (w : Nat) (p0 : Int32) (σ : St) (h : RR vI Γ (f_X10_trainsOf w p0 σ)) : WW Γ cX10_trainsOf 4 RX10 (some .int) rX10_trainsOf σ 0 [(0, .ref (xd Γ w)), (1, .int p0)] [] := by
  unfold f_X10_trainsOf at h
  obtain ⟨hg_w_σ, h⟩ := h.gd
  refine w_iconst (0 : Int32) dX10_trainsOf_0 ic_iconst_0 rfl ?_
  refine w_istore_n [(2, .int (0 : Int32)), (0, .ref (xd Γ w)), (1, .int p0)] dX10_trainsOf_1 rfl (by decide) rfl rfl ?_
  refine w_iconst (0 : Int32) dX10_trainsOf_2 ic_iconst_0 rfl ?_
  refine w_istore_n [(3, .int (0 : Int32)), (2, .int (0 : Int32)), (0, .ref (xd Γ w)), (1, .int p0)] dX10_trainsOf_3 rfl (by decide) rfl rfl ?_
  exact w_sub [2, 3, 1, 0] rfl (l_X10_trainsOf_4 w FU p0 (0 : Int32) (0 : Int32) σ h)
theorem c_X10_trainsOf {l : Launch} {D : va_G} {cy : Nat → ClassId} {ad : Nat → Nat} {w : Nat} {p0 : Int32} {σ σ' : St} {r : Int32} (hf : f_X10_trainsOf w p0 σ = some (r, σ')) : CT l D cy ad yX10_trainsOf cX10_trainsOf 4 (some .int) rX10_trainsOf [.ref (ad w), .int p0] σ (some (.int r)) σ' :=
  ct_of (by decide) (Nat.le_of_ble_eq_true rfl) (fun p e s m args below meth c A => e_X10_trainsOf (Γ := (p, l, e, rX10_trainsOf, s, m, args, below, meth, c, D, cy, ad, A, 0, 0, MQ below (QC D cy ad (some (.int r)) σ' A) args s 0 0 A)) w p0 σ ⟨_, hf, rfl⟩)
theorem k_X10_trainsOf {Γ : CX} {cc : ByteArray} {nL : Nat} {own : String} {ret : Option FieldType} {rm : Room} {σ σ' : St} {pc pc' idx : Nat} {lv : List (Nat × Value)} {rest : List Value} {w : Nat} {p0 : Int32} {r : Int32} (hl : Cond.methodLink own idx yX10_trainsOf ∈ TB) (hw : (rest.map fun v => v.category).sum ≤ 8) (hR : rX10_trainsOf.frames + 1 ≤ rm.frames ∧ 8 + (4 + 11) + rX10_trainsOf.locals ≤ rm.locals) (hd : decode cc pc = .ok (.invokevirtual idx, 3)) (hp : pc + 3 = pc') (hf : f_X10_trainsOf w p0 σ = some (r, σ')) (h : WW Γ cc nL own ret rm σ' pc' lv (.int r :: rest)) : WW Γ cc nL own ret rm σ pc lv (.int p0 :: .ref (xd Γ w) :: rest) := by
  have hT : isW σ w = true := by
    unfold f_X10_trainsOf at hf
    exact gd_of hf
  exact w_callV (nn := 1) (i := w) (As := [.int p0]) (v := (some (.int r))) (T := TX10) (N := 12) (c_X10_trainsOf hf) hl mw_X10_trainsOf (by decide +kernel) ⟨rfl, rfl⟩ hR (isW_lt hT 0 (by decide)) (cel_W hT) rfl rfl hw hd rfl hp h
/-! WarByHours.War.priceOf (I)I -/
def rX10_priceOf : Room := { frames := 1, cells := 0, slots := 0, locals := 22 }
def f_X10_priceOf_42 (w : Nat) (K11 : Int32 × Int32 × Int32 × St → Option (Int32 × St)) (v1 : Int32) (v2 : Int32) (v3 : Int32) (σ : St) : Option (Int32 × St) :=
  bnd (v3 + (1 : Int32)) fun x1 =>
  K11 (v1, v2, x1, σ)
theorem b_X10_priceOf_42 {Γ : CX} (w : Nat) (K11 : Int32 × Int32 × Int32 × St → Option (Int32 × St)) (hK11 : ∀ (v1 : Int32) (v2 : Int32) (v3 : Int32) (σ : St), RR vI Γ (K11 (v1, v2, v3, σ)) → WW Γ cX10_priceOf 4 RX10 (some .int) rX10_priceOf σ 11 [(0, .ref (xd Γ w)), (1, .int v1), (2, .int v2), (3, .int v3)] []) (v1 : Int32) (v2 : Int32) (v3 : Int32) (σ : St) (h : RR vI Γ (f_X10_priceOf_42 w K11 v1 v2 v3 σ)) : WW Γ cX10_priceOf 4 RX10 (some .int) rX10_priceOf σ 42 [(0, .ref (xd Γ w)), (1, .int v1), (2, .int v2), (3, .int v3)] [] := by
  unfold f_X10_priceOf_42 at h
  obtain ⟨x1, ex1⟩ : ∃ y : Int32, y = (v3 + (1 : Int32)) := ⟨_, rfl⟩
  replace h := h.bnd ex1
  refine w_iinc 3 x1 [(3, .int x1), (0, .ref (xd Γ w)), (1, .int v1), (2, .int v2)] dX10_priceOf_42 rfl (by rw [ex1, ic_iconst_1]) (by decide) rfl rfl ?_
  clear ex1
  refine w_goto (tgt := 11) dX10_priceOf_45 (by decide) ?_
  exact w_sub [1, 2, 3, 0] rfl (hK11 v1 v2 x1 σ h)
def g_X10_priceOf_11 (w : Nat) (K11 : Int32 × Int32 × Int32 × St → Option (Int32 × St)) (x : Int32 × Int32 × Int32 × St) : Option (Int32 × St) := match x with
  | (v1, v2, v3, σ) =>
  gd (isW σ w) <|
  if (gf σ (w + 2) 3) ≤ v3 then
    some (v2, σ)
  else
    bd (f_X10_isIn v1 v3 σ) fun r1 s2 =>
    if r1 = 0 then
      f_X10_priceOf_42 w K11 v1 v2 v3 s2
    else
      gd (isW s2 w) <|
      bd (f_X9_cell (w + 2) v3 (5 : Int32) s2) fun r4 s5 =>
      bnd ((v2 + r4)) fun x7 =>
      f_X10_priceOf_42 w K11 v1 x7 v3 s5
theorem l_X10_priceOf_11 {Γ : CX} (w : Nat) : ∀ (n : Nat) (v1 : Int32) (v2 : Int32) (v3 : Int32) (σ : St), RR vI Γ (itr (g_X10_priceOf_11 w) n (v1, v2, v3, σ)) → WW Γ cX10_priceOf 4 RX10 (some .int) rX10_priceOf σ 11 [(0, .ref (xd Γ w)), (1, .int v1), (2, .int v2), (3, .int v3)] [] := by
  intro n
  induction n with
  | zero => intro v1 v2 v3 σ h; exact RR.no h
  | succ n hK11 =>
  intro v1 v2 v3 σ h
  have h : RR vI Γ (g_X10_priceOf_11 w (itr (g_X10_priceOf_11 w) n) (v1, v2, v3, σ)) := h
  generalize itr (g_X10_priceOf_11 w) n = K11 at h hK11
  unfold g_X10_priceOf_11 at h
  dsimp only at h
  refine w_iload_n 3 dX10_priceOf_11 rfl rfl rfl ?_
  refine w_aload_n 0 dX10_priceOf_12 rfl rfl rfl ?_
  obtain ⟨hg_w_σ, h⟩ := h.gd
  refine gf_RX10_20 (i := w) hg_w_σ dX10_priceOf_13 rfl ?_
  refine gf_RX10_58 (i := (w + 2)) (isW_T hg_w_σ 2 (by decide)) dX10_priceOf_16 rfl ?_
  refine w_icmp_ge (tgt := 48) dX10_priceOf_19 (by decide) rfl (fun q => ?_) (fun q => ?_)
  · have h := h.tt q
    refine w_iload_n 2 dX10_priceOf_48 rfl rfl rfl ?_
    exact w_ireturn dX10_priceOf_49 h
  · have h := h.ff q
    refine w_iload_n 1 dX10_priceOf_22 rfl rfl rfl ?_
    refine w_iload_n 3 dX10_priceOf_23 rfl rfl rfl ?_
    obtain ⟨r1, s2, h3, h⟩ := h.bd
    refine k_X10_isIn ml_RX10_82 (Nat.le_of_ble_eq_true rfl) ⟨Nat.le_of_ble_eq_true rfl, Nat.le_of_ble_eq_true rfl⟩ dX10_priceOf_24 rfl h3 ?_
    refine w_if_eq (tgt := 42) dX10_priceOf_27 (by decide) rfl (fun q => ?_) (fun q => ?_)
    · have h := h.tt q
      exact w_sub [0, 1, 2, 3] rfl (b_X10_priceOf_42 w K11 hK11 v1 v2 v3 s2 h)
    · have h := h.ff q
      refine w_iload_n 2 dX10_priceOf_30 rfl rfl rfl ?_
      refine w_aload_n 0 dX10_priceOf_31 rfl rfl rfl ?_
      obtain ⟨hg_w_s2, h⟩ := h.gd
      refine gf_RX10_20 (i := w) hg_w_s2 dX10_priceOf_32 rfl ?_
      refine w_iload_n 3 dX10_priceOf_35 rfl rfl rfl ?_
      refine w_iconst (5 : Int32) dX10_priceOf_36 ic_iconst_5 rfl ?_
      obtain ⟨r4, s5, h6, h⟩ := h.bd
      refine k_X9_cell ml_RX10_79 (Nat.le_of_ble_eq_true rfl) ⟨Nat.le_of_ble_eq_true rfl, Nat.le_of_ble_eq_true rfl⟩ dX10_priceOf_37 rfl h6 ?_
      refine w_iadd dX10_priceOf_40 rfl ?_
      refine w_nmI (fun x7 ex7 => ?_)
      replace h := h.bnd ex7
      clear ex7
      refine w_istore_n [(2, .int x7), (0, .ref (xd Γ w)), (1, .int v1), (3, .int v3)] dX10_priceOf_41 rfl (by decide) rfl rfl ?_
      exact w_sub [1, 2, 0, 3] rfl (b_X10_priceOf_42 w K11 hK11 v1 x7 v3 s5 h)
def f_X10_priceOf (w : Nat) (p0 : Int32) (σ : St) : Option (Int32 × St) :=
  gd (isW σ w) <|
  if p0 = (-1 : Int32) then
    some ((-1 : Int32), σ)
  else
    itr (g_X10_priceOf_11 w) FU (p0, (0 : Int32), (0 : Int32), σ)
theorem e_X10_priceOf {Γ : CX} (w : Nat) (p0 : Int32) (σ : St) (h : RR vI Γ (f_X10_priceOf w p0 σ)) : WW Γ cX10_priceOf 4 RX10 (some .int) rX10_priceOf σ 0 [(0, .ref (xd Γ w)), (1, .int p0)] [] := by
  unfold f_X10_priceOf at h
  obtain ⟨hg_w_σ, h⟩ := h.gd
  refine w_iload_n 1 dX10_priceOf_0 rfl rfl rfl ?_
  refine w_iconst (-1 : Int32) dX10_priceOf_1 ic_iconst_m1 rfl ?_
  refine w_icmp_ne (tgt := 7) dX10_priceOf_2 (by decide) rfl (fun q => ?_) (fun q => ?_)
  · have h := h.ff q
    refine w_iconst (0 : Int32) dX10_priceOf_7 ic_iconst_0 rfl ?_
    refine w_istore_n [(2, .int (0 : Int32)), (0, .ref (xd Γ w)), (1, .int p0)] dX10_priceOf_8 rfl (by decide) rfl rfl ?_
    refine w_iconst (0 : Int32) dX10_priceOf_9 ic_iconst_0 rfl ?_
    refine w_istore_n [(3, .int (0 : Int32)), (2, .int (0 : Int32)), (0, .ref (xd Γ w)), (1, .int p0)] dX10_priceOf_10 rfl (by decide) rfl rfl ?_
    exact w_sub [2, 3, 1, 0] rfl (l_X10_priceOf_11 w FU p0 (0 : Int32) (0 : Int32) σ h)
  · have h := h.tt q
    refine w_iconst (-1 : Int32) dX10_priceOf_5 ic_iconst_m1 rfl ?_
    exact w_ireturn dX10_priceOf_6 h
theorem c_X10_priceOf {l : Launch} {D : va_G} {cy : Nat → ClassId} {ad : Nat → Nat} {w : Nat} {p0 : Int32} {σ σ' : St} {r : Int32} (hf : f_X10_priceOf w p0 σ = some (r, σ')) : CT l D cy ad yX10_priceOf cX10_priceOf 4 (some .int) rX10_priceOf [.ref (ad w), .int p0] σ (some (.int r)) σ' :=
  ct_of (by decide) (Nat.le_of_ble_eq_true rfl) (fun p e s m args below meth c A => e_X10_priceOf (Γ := (p, l, e, rX10_priceOf, s, m, args, below, meth, c, D, cy, ad, A, 0, 0, MQ below (QC D cy ad (some (.int r)) σ' A) args s 0 0 A)) w p0 σ ⟨_, hf, rfl⟩)
theorem k_X10_priceOf {Γ : CX} {cc : ByteArray} {nL : Nat} {own : String} {ret : Option FieldType} {rm : Room} {σ σ' : St} {pc pc' idx : Nat} {lv : List (Nat × Value)} {rest : List Value} {w : Nat} {p0 : Int32} {r : Int32} (hl : Cond.methodLink own idx yX10_priceOf ∈ TB) (hw : (rest.map fun v => v.category).sum ≤ 8) (hR : rX10_priceOf.frames + 1 ≤ rm.frames ∧ 8 + (4 + 11) + rX10_priceOf.locals ≤ rm.locals) (hd : decode cc pc = .ok (.invokevirtual idx, 3)) (hp : pc + 3 = pc') (hf : f_X10_priceOf w p0 σ = some (r, σ')) (h : WW Γ cc nL own ret rm σ' pc' lv (.int r :: rest)) : WW Γ cc nL own ret rm σ pc lv (.int p0 :: .ref (xd Γ w) :: rest) := by
  have hT : isW σ w = true := by
    unfold f_X10_priceOf at hf
    exact gd_of hf
  exact w_callV (nn := 1) (i := w) (As := [.int p0]) (v := (some (.int r))) (T := TX10) (N := 12) (c_X10_priceOf hf) hl mw_X10_priceOf (by decide +kernel) ⟨rfl, rfl⟩ hR (isW_lt hT 0 (by decide)) (cel_W hT) rfl rfl hw hd rfl hp h
/-! WarByHours.War.arrival (II)I -/
def rX10_arrival : Room := { frames := 1, cells := 0, slots := 0, locals := 22 }
def f_X10_arrival_30 (w : Nat) (k0 : Int32) (k1 : Int32) (σ : St) : Option (Int32 × St) :=
  some ((k1 + k0), σ)
theorem b_X10_arrival_30 {Γ : CX} (w : Nat) (k0 : Int32) (k1 : Int32) (σ : St) (h : RR vI Γ (f_X10_arrival_30 w k0 k1 σ)) : WW Γ cX10_arrival 3 RX10 (some .int) rX10_arrival σ 30 [] [.int k0, .int k1] := by
  unfold f_X10_arrival_30 at h
  refine w_iadd dX10_arrival_30 rfl ?_
  exact w_ireturn dX10_arrival_31 h
def f_X10_arrival (w : Nat) (p0 : Int32) (p1 : Int32) (σ : St) : Option (Int32 × St) :=
  gd (isW σ w) <|
  bd (f_X9_cell (w + 2) p0 (2 : Int32) σ) fun r1 s2 =>
  bd (f_X10_isIn p1 p0 s2) fun r4 s5 =>
  if r4 = 0 then
    f_X10_arrival_30 w (0 : Int32) r1 s5
  else
    gd (isW s5 w) <|
    bd (f_X9_cell (w + 2) p0 (4 : Int32) s5) fun r7 s8 =>
    f_X10_arrival_30 w r7 r1 s8
theorem e_X10_arrival {Γ : CX} (w : Nat) (p0 : Int32) (p1 : Int32) (σ : St) (h : RR vI Γ (f_X10_arrival w p0 p1 σ)) : WW Γ cX10_arrival 3 RX10 (some .int) rX10_arrival σ 0 [(0, .ref (xd Γ w)), (1, .int p0), (2, .int p1)] [] := by
  unfold f_X10_arrival at h
  obtain ⟨hg_w_σ, h⟩ := h.gd
  refine w_aload_n 0 dX10_arrival_0 rfl rfl rfl ?_
  refine gf_RX10_20 (i := w) hg_w_σ dX10_arrival_1 rfl ?_
  refine w_iload_n 1 dX10_arrival_4 rfl rfl rfl ?_
  refine w_iconst (2 : Int32) dX10_arrival_5 ic_iconst_2 rfl ?_
  obtain ⟨r1, s2, h3, h⟩ := h.bd
  refine k_X9_cell ml_RX10_79 (Nat.le_of_ble_eq_true rfl) ⟨Nat.le_of_ble_eq_true rfl, Nat.le_of_ble_eq_true rfl⟩ dX10_arrival_6 rfl h3 ?_
  refine w_iload_n 2 dX10_arrival_9 rfl rfl rfl ?_
  refine w_iload_n 1 dX10_arrival_10 rfl rfl rfl ?_
  obtain ⟨r4, s5, h6, h⟩ := h.bd
  refine k_X10_isIn ml_RX10_82 (Nat.le_of_ble_eq_true rfl) ⟨Nat.le_of_ble_eq_true rfl, Nat.le_of_ble_eq_true rfl⟩ dX10_arrival_11 rfl h6 ?_
  refine w_if_eq (tgt := 29) dX10_arrival_14 (by decide) rfl (fun q => ?_) (fun q => ?_)
  · have h := h.tt q
    refine w_iconst (0 : Int32) dX10_arrival_29 ic_iconst_0 rfl ?_
    exact w_sub [] rfl (b_X10_arrival_30 w (0 : Int32) r1 s5 h)
  · have h := h.ff q
    refine w_aload_n 0 dX10_arrival_17 rfl rfl rfl ?_
    obtain ⟨hg_w_s5, h⟩ := h.gd
    refine gf_RX10_20 (i := w) hg_w_s5 dX10_arrival_18 rfl ?_
    refine w_iload_n 1 dX10_arrival_21 rfl rfl rfl ?_
    refine w_iconst (4 : Int32) dX10_arrival_22 ic_iconst_4 rfl ?_
    obtain ⟨r7, s8, h9, h⟩ := h.bd
    refine k_X9_cell ml_RX10_79 (Nat.le_of_ble_eq_true rfl) ⟨Nat.le_of_ble_eq_true rfl, Nat.le_of_ble_eq_true rfl⟩ dX10_arrival_23 rfl h9 ?_
    refine w_goto (tgt := 30) dX10_arrival_26 (by decide) ?_
    exact w_sub [] rfl (b_X10_arrival_30 w r7 r1 s8 h)
theorem c_X10_arrival {l : Launch} {D : va_G} {cy : Nat → ClassId} {ad : Nat → Nat} {w : Nat} {p0 : Int32} {p1 : Int32} {σ σ' : St} {r : Int32} (hf : f_X10_arrival w p0 p1 σ = some (r, σ')) : CT l D cy ad yX10_arrival cX10_arrival 3 (some .int) rX10_arrival [.ref (ad w), .int p0, .int p1] σ (some (.int r)) σ' :=
  ct_of (by decide) (Nat.le_of_ble_eq_true rfl) (fun p e s m args below meth c A => e_X10_arrival (Γ := (p, l, e, rX10_arrival, s, m, args, below, meth, c, D, cy, ad, A, 0, 0, MQ below (QC D cy ad (some (.int r)) σ' A) args s 0 0 A)) w p0 p1 σ ⟨_, hf, rfl⟩)
theorem k_X10_arrival {Γ : CX} {cc : ByteArray} {nL : Nat} {own : String} {ret : Option FieldType} {rm : Room} {σ σ' : St} {pc pc' idx : Nat} {lv : List (Nat × Value)} {rest : List Value} {w : Nat} {p0 : Int32} {p1 : Int32} {r : Int32} (hl : Cond.methodLink own idx yX10_arrival ∈ TB) (hw : (rest.map fun v => v.category).sum ≤ 8) (hR : rX10_arrival.frames + 1 ≤ rm.frames ∧ 8 + (3 + 11) + rX10_arrival.locals ≤ rm.locals) (hd : decode cc pc = .ok (.invokevirtual idx, 3)) (hp : pc + 3 = pc') (hf : f_X10_arrival w p0 p1 σ = some (r, σ')) (h : WW Γ cc nL own ret rm σ' pc' lv (.int r :: rest)) : WW Γ cc nL own ret rm σ pc lv (.int p1 :: .int p0 :: .ref (xd Γ w) :: rest) := by
  have hT : isW σ w = true := by
    unfold f_X10_arrival at hf
    exact gd_of hf
  exact w_callV (nn := 2) (i := w) (As := [.int p0, .int p1]) (v := (some (.int r))) (T := TX10) (N := 12) (c_X10_arrival hf) hl mw_X10_arrival (by decide +kernel) ⟨rfl, rfl⟩ hR (isW_lt hT 0 (by decide)) (cel_W hT) rfl rfl hw hd rfl hp h
/-! WarByHours.War.comingIn (II)I -/
def rX10_comingIn : Room := { frames := 2, cells := 0, slots := 0, locals := 44 }
def f_X10_comingIn_35 (w : Nat) (K5 : Int32 × Int32 × Int32 × Int32 × St → Option (Int32 × St)) (v1 : Int32) (v2 : Int32) (v3 : Int32) (v4 : Int32) (σ : St) : Option (Int32 × St) :=
  bnd (v4 + (1 : Int32)) fun x1 =>
  K5 (v1, v2, v3, x1, σ)
theorem b_X10_comingIn_35 {Γ : CX} (w : Nat) (K5 : Int32 × Int32 × Int32 × Int32 × St → Option (Int32 × St)) (hK5 : ∀ (v1 : Int32) (v2 : Int32) (v3 : Int32) (v4 : Int32) (σ : St), RR vI Γ (K5 (v1, v2, v3, v4, σ)) → WW Γ cX10_comingIn 5 RX10 (some .int) rX10_comingIn σ 5 [(0, .ref (xd Γ w)), (1, .int v1), (2, .int v2), (3, .int v3), (4, .int v4)] []) (v1 : Int32) (v2 : Int32) (v3 : Int32) (v4 : Int32) (σ : St) (h : RR vI Γ (f_X10_comingIn_35 w K5 v1 v2 v3 v4 σ)) : WW Γ cX10_comingIn 5 RX10 (some .int) rX10_comingIn σ 35 [(0, .ref (xd Γ w)), (1, .int v1), (2, .int v2), (3, .int v3), (4, .int v4)] [] := by
  unfold f_X10_comingIn_35 at h
  obtain ⟨x1, ex1⟩ : ∃ y : Int32, y = (v4 + (1 : Int32)) := ⟨_, rfl⟩
  replace h := h.bnd ex1
  refine w_iinc 4 x1 [(4, .int x1), (0, .ref (xd Γ w)), (1, .int v1), (2, .int v2), (3, .int v3)] dX10_comingIn_35 rfl (by rw [ex1, ic_iconst_1]) (by decide) rfl rfl ?_
  clear ex1
  refine w_goto (tgt := 5) dX10_comingIn_38 (by decide) ?_
  exact w_sub [1, 2, 3, 4, 0] rfl (hK5 v1 v2 v3 x1 σ h)
def g_X10_comingIn_5 (w : Nat) (K5 : Int32 × Int32 × Int32 × Int32 × St → Option (Int32 × St)) (x : Int32 × Int32 × Int32 × Int32 × St) : Option (Int32 × St) := match x with
  | (v1, v2, v3, v4, σ) =>
  gd (isW σ w) <|
  if (gf σ (w + 2) 3) ≤ v4 then
    some (v3, σ)
  else
    bd (f_X10_arrival w v4 v2 σ) fun r1 s2 =>
    if r1 = v1 then
      bnd ((v3 ||| ((1 : Int32) <<< (v4 &&& 31)))) fun x4 =>
      f_X10_comingIn_35 w K5 v1 v2 x4 v4 s2
    else
      f_X10_comingIn_35 w K5 v1 v2 v3 v4 s2
theorem l_X10_comingIn_5 {Γ : CX} (w : Nat) : ∀ (n : Nat) (v1 : Int32) (v2 : Int32) (v3 : Int32) (v4 : Int32) (σ : St), RR vI Γ (itr (g_X10_comingIn_5 w) n (v1, v2, v3, v4, σ)) → WW Γ cX10_comingIn 5 RX10 (some .int) rX10_comingIn σ 5 [(0, .ref (xd Γ w)), (1, .int v1), (2, .int v2), (3, .int v3), (4, .int v4)] [] := by
  intro n
  induction n with
  | zero => intro v1 v2 v3 v4 σ h; exact RR.no h
  | succ n hK5 =>
  intro v1 v2 v3 v4 σ h
  have h : RR vI Γ (g_X10_comingIn_5 w (itr (g_X10_comingIn_5 w) n) (v1, v2, v3, v4, σ)) := h
  generalize itr (g_X10_comingIn_5 w) n = K5 at h hK5
  unfold g_X10_comingIn_5 at h
  dsimp only at h
  refine w_iload 4 dX10_comingIn_5 rfl rfl ?_
  refine w_aload_n 0 dX10_comingIn_7 rfl rfl rfl ?_
  obtain ⟨hg_w_σ, h⟩ := h.gd
  refine gf_RX10_20 (i := w) hg_w_σ dX10_comingIn_8 rfl ?_
  refine gf_RX10_58 (i := (w + 2)) (isW_T hg_w_σ 2 (by decide)) dX10_comingIn_11 rfl ?_
  refine w_icmp_ge (tgt := 41) dX10_comingIn_14 (by decide) rfl (fun q => ?_) (fun q => ?_)
  · have h := h.tt q
    refine w_iload_n 3 dX10_comingIn_41 rfl rfl rfl ?_
    exact w_ireturn dX10_comingIn_42 h
  · have h := h.ff q
    refine w_aload_n 0 dX10_comingIn_17 rfl rfl rfl ?_
    refine w_iload 4 dX10_comingIn_18 rfl rfl ?_
    refine w_iload_n 2 dX10_comingIn_20 rfl rfl rfl ?_
    obtain ⟨r1, s2, h3, h⟩ := h.bd
    refine k_X10_arrival ml_RX10_86 (Nat.le_of_ble_eq_true rfl) ⟨Nat.le_of_ble_eq_true rfl, Nat.le_of_ble_eq_true rfl⟩ dX10_comingIn_21 rfl h3 ?_
    refine w_iload_n 1 dX10_comingIn_24 rfl rfl rfl ?_
    refine w_icmp_ne (tgt := 35) dX10_comingIn_25 (by decide) rfl (fun q => ?_) (fun q => ?_)
    · have h := h.ff q
      exact w_sub [0, 1, 2, 3, 4] rfl (b_X10_comingIn_35 w K5 hK5 v1 v2 v3 v4 s2 h)
    · have h := h.tt q
      refine w_iload_n 3 dX10_comingIn_28 rfl rfl rfl ?_
      refine w_iconst (1 : Int32) dX10_comingIn_29 ic_iconst_1 rfl ?_
      refine w_iload 4 dX10_comingIn_30 rfl rfl ?_
      refine w_ishl dX10_comingIn_32 rfl ?_
      refine w_ior dX10_comingIn_33 rfl ?_
      refine w_nmI (fun x4 ex4 => ?_)
      replace h := h.bnd ex4
      clear ex4
      refine w_istore_n [(3, .int x4), (0, .ref (xd Γ w)), (1, .int v1), (2, .int v2), (4, .int v4)] dX10_comingIn_34 rfl (by decide) rfl rfl ?_
      exact w_sub [1, 2, 3, 0, 4] rfl (b_X10_comingIn_35 w K5 hK5 v1 v2 x4 v4 s2 h)
def f_X10_comingIn (w : Nat) (p0 : Int32) (p1 : Int32) (σ : St) : Option (Int32 × St) :=
  gd (isW σ w) <|
  itr (g_X10_comingIn_5 w) FU (p0, p1, (0 : Int32), (0 : Int32), σ)
theorem e_X10_comingIn {Γ : CX} (w : Nat) (p0 : Int32) (p1 : Int32) (σ : St) (h : RR vI Γ (f_X10_comingIn w p0 p1 σ)) : WW Γ cX10_comingIn 5 RX10 (some .int) rX10_comingIn σ 0 [(0, .ref (xd Γ w)), (1, .int p0), (2, .int p1)] [] := by
  unfold f_X10_comingIn at h
  obtain ⟨hg_w_σ, h⟩ := h.gd
  refine w_iconst (0 : Int32) dX10_comingIn_0 ic_iconst_0 rfl ?_
  refine w_istore_n [(3, .int (0 : Int32)), (0, .ref (xd Γ w)), (1, .int p0), (2, .int p1)] dX10_comingIn_1 rfl (by decide) rfl rfl ?_
  refine w_iconst (0 : Int32) dX10_comingIn_2 ic_iconst_0 rfl ?_
  refine w_istore [(4, .int (0 : Int32)), (3, .int (0 : Int32)), (0, .ref (xd Γ w)), (1, .int p0), (2, .int p1)] dX10_comingIn_3 (by decide) rfl rfl ?_
  exact w_sub [2, 3, 4, 1, 0] rfl (l_X10_comingIn_5 w FU p0 p1 (0 : Int32) (0 : Int32) σ h)
theorem c_X10_comingIn {l : Launch} {D : va_G} {cy : Nat → ClassId} {ad : Nat → Nat} {w : Nat} {p0 : Int32} {p1 : Int32} {σ σ' : St} {r : Int32} (hf : f_X10_comingIn w p0 p1 σ = some (r, σ')) : CT l D cy ad yX10_comingIn cX10_comingIn 5 (some .int) rX10_comingIn [.ref (ad w), .int p0, .int p1] σ (some (.int r)) σ' :=
  ct_of (by decide) (Nat.le_of_ble_eq_true rfl) (fun p e s m args below meth c A => e_X10_comingIn (Γ := (p, l, e, rX10_comingIn, s, m, args, below, meth, c, D, cy, ad, A, 0, 0, MQ below (QC D cy ad (some (.int r)) σ' A) args s 0 0 A)) w p0 p1 σ ⟨_, hf, rfl⟩)
theorem k_X10_comingIn {Γ : CX} {cc : ByteArray} {nL : Nat} {own : String} {ret : Option FieldType} {rm : Room} {σ σ' : St} {pc pc' idx : Nat} {lv : List (Nat × Value)} {rest : List Value} {w : Nat} {p0 : Int32} {p1 : Int32} {r : Int32} (hl : Cond.methodLink own idx yX10_comingIn ∈ TB) (hw : (rest.map fun v => v.category).sum ≤ 8) (hR : rX10_comingIn.frames + 1 ≤ rm.frames ∧ 8 + (5 + 11) + rX10_comingIn.locals ≤ rm.locals) (hd : decode cc pc = .ok (.invokevirtual idx, 3)) (hp : pc + 3 = pc') (hf : f_X10_comingIn w p0 p1 σ = some (r, σ')) (h : WW Γ cc nL own ret rm σ' pc' lv (.int r :: rest)) : WW Γ cc nL own ret rm σ pc lv (.int p1 :: .int p0 :: .ref (xd Γ w) :: rest) := by
  have hT : isW σ w = true := by
    unfold f_X10_comingIn at hf
    exact gd_of hf
  exact w_callV (nn := 2) (i := w) (As := [.int p0, .int p1]) (v := (some (.int r))) (T := TX10) (N := 12) (c_X10_comingIn hf) hl mw_X10_comingIn (by decide +kernel) ⟨rfl, rfl⟩ hR (isW_lt hT 0 (by decide)) (cel_W hT) rfl rfl hw hd rfl hp h
/-! WarByHours.War.menThere (III)I -/
def rX10_menThere : Room := { frames := 2, cells := 0, slots := 0, locals := 44 }
def f_X10_menThere_58 (w : Nat) (K6 : Int32 × Int32 × Int32 × Int32 × Int32 × St → Option (Int32 × St)) (v1 : Int32) (v2 : Int32) (v3 : Int32) (v4 : Int32) (v5 : Int32) (σ : St) : Option (Int32 × St) :=
  bnd (v5 + (1 : Int32)) fun x1 =>
  K6 (v1, v2, v3, v4, x1, σ)
theorem b_X10_menThere_58 {Γ : CX} (w : Nat) (K6 : Int32 × Int32 × Int32 × Int32 × Int32 × St → Option (Int32 × St)) (hK6 : ∀ (v1 : Int32) (v2 : Int32) (v3 : Int32) (v4 : Int32) (v5 : Int32) (σ : St), RR vI Γ (K6 (v1, v2, v3, v4, v5, σ)) → WW Γ cX10_menThere 6 RX10 (some .int) rX10_menThere σ 6 [(0, .ref (xd Γ w)), (1, .int v1), (2, .int v2), (3, .int v3), (4, .int v4), (5, .int v5)] []) (v1 : Int32) (v2 : Int32) (v3 : Int32) (v4 : Int32) (v5 : Int32) (σ : St) (h : RR vI Γ (f_X10_menThere_58 w K6 v1 v2 v3 v4 v5 σ)) : WW Γ cX10_menThere 6 RX10 (some .int) rX10_menThere σ 58 [(0, .ref (xd Γ w)), (1, .int v1), (2, .int v2), (3, .int v3), (4, .int v4), (5, .int v5)] [] := by
  unfold f_X10_menThere_58 at h
  obtain ⟨x1, ex1⟩ : ∃ y : Int32, y = (v5 + (1 : Int32)) := ⟨_, rfl⟩
  replace h := h.bnd ex1
  refine w_iinc 5 x1 [(5, .int x1), (0, .ref (xd Γ w)), (1, .int v1), (2, .int v2), (3, .int v3), (4, .int v4)] dX10_menThere_58 rfl (by rw [ex1, ic_iconst_1]) (by decide) rfl rfl ?_
  clear ex1
  refine w_goto (tgt := 6) dX10_menThere_61 (by decide) ?_
  exact w_sub [1, 2, 3, 4, 5, 0] rfl (hK6 v1 v2 v3 v4 x1 σ h)
def g_X10_menThere_6 (w : Nat) (K6 : Int32 × Int32 × Int32 × Int32 × Int32 × St → Option (Int32 × St)) (x : Int32 × Int32 × Int32 × Int32 × Int32 × St) : Option (Int32 × St) := match x with
  | (v1, v2, v3, v4, v5, σ) =>
  gd (isW σ w) <|
  if (gf σ (w + 2) 3) ≤ v5 then
    some (v4, σ)
  else
    bd (f_X9_cell (w + 2) v5 (0 : Int32) σ) fun r1 s2 =>
    if r1 = v1 then
      bd (f_X10_arrival w v5 v3 s2) fun r4 s5 =>
      if v2 < r4 then
        f_X10_menThere_58 w K6 v1 v2 v3 v4 v5 s5
      else
        gd (isW s5 w) <|
        bd (f_X9_cell (w + 2) v5 (1 : Int32) s5) fun r7 s8 =>
        bnd ((v4 + r7)) fun x10 =>
        f_X10_menThere_58 w K6 v1 v2 v3 x10 v5 s8
    else
      f_X10_menThere_58 w K6 v1 v2 v3 v4 v5 s2
theorem l_X10_menThere_6 {Γ : CX} (w : Nat) : ∀ (n : Nat) (v1 : Int32) (v2 : Int32) (v3 : Int32) (v4 : Int32) (v5 : Int32) (σ : St), RR vI Γ (itr (g_X10_menThere_6 w) n (v1, v2, v3, v4, v5, σ)) → WW Γ cX10_menThere 6 RX10 (some .int) rX10_menThere σ 6 [(0, .ref (xd Γ w)), (1, .int v1), (2, .int v2), (3, .int v3), (4, .int v4), (5, .int v5)] [] := by
  intro n
  induction n with
  | zero => intro v1 v2 v3 v4 v5 σ h; exact RR.no h
  | succ n hK6 =>
  intro v1 v2 v3 v4 v5 σ h
  have h : RR vI Γ (g_X10_menThere_6 w (itr (g_X10_menThere_6 w) n) (v1, v2, v3, v4, v5, σ)) := h
  generalize itr (g_X10_menThere_6 w) n = K6 at h hK6
  unfold g_X10_menThere_6 at h
  dsimp only at h
  refine w_iload 5 dX10_menThere_6 rfl rfl ?_
  refine w_aload_n 0 dX10_menThere_8 rfl rfl rfl ?_
  obtain ⟨hg_w_σ, h⟩ := h.gd
  refine gf_RX10_20 (i := w) hg_w_σ dX10_menThere_9 rfl ?_
  refine gf_RX10_58 (i := (w + 2)) (isW_T hg_w_σ 2 (by decide)) dX10_menThere_12 rfl ?_
  refine w_icmp_ge (tgt := 64) dX10_menThere_15 (by decide) rfl (fun q => ?_) (fun q => ?_)
  · have h := h.tt q
    refine w_iload 4 dX10_menThere_64 rfl rfl ?_
    exact w_ireturn dX10_menThere_66 h
  · have h := h.ff q
    refine w_aload_n 0 dX10_menThere_18 rfl rfl rfl ?_
    refine gf_RX10_20 (i := w) hg_w_σ dX10_menThere_19 rfl ?_
    refine w_iload 5 dX10_menThere_22 rfl rfl ?_
    refine w_iconst (0 : Int32) dX10_menThere_24 ic_iconst_0 rfl ?_
    obtain ⟨r1, s2, h3, h⟩ := h.bd
    refine k_X9_cell ml_RX10_79 (Nat.le_of_ble_eq_true rfl) ⟨Nat.le_of_ble_eq_true rfl, Nat.le_of_ble_eq_true rfl⟩ dX10_menThere_25 rfl h3 ?_
    refine w_iload_n 1 dX10_menThere_28 rfl rfl rfl ?_
    refine w_icmp_ne (tgt := 58) dX10_menThere_29 (by decide) rfl (fun q => ?_) (fun q => ?_)
    · have h := h.ff q
      exact w_sub [0, 1, 2, 3, 4, 5] rfl (b_X10_menThere_58 w K6 hK6 v1 v2 v3 v4 v5 s2 h)
    · have h := h.tt q
      refine w_aload_n 0 dX10_menThere_32 rfl rfl rfl ?_
      refine w_iload 5 dX10_menThere_33 rfl rfl ?_
      refine w_iload_n 3 dX10_menThere_35 rfl rfl rfl ?_
      obtain ⟨r4, s5, h6, h⟩ := h.bd
      refine k_X10_arrival ml_RX10_86 (Nat.le_of_ble_eq_true rfl) ⟨Nat.le_of_ble_eq_true rfl, Nat.le_of_ble_eq_true rfl⟩ dX10_menThere_36 rfl h6 ?_
      refine w_iload_n 2 dX10_menThere_39 rfl rfl rfl ?_
      refine w_icmp_gt (tgt := 58) dX10_menThere_40 (by decide) rfl (fun q => ?_) (fun q => ?_)
      · have h := h.tt q
        exact w_sub [0, 1, 2, 3, 4, 5] rfl (b_X10_menThere_58 w K6 hK6 v1 v2 v3 v4 v5 s5 h)
      · have h := h.ff q
        refine w_iload 4 dX10_menThere_43 rfl rfl ?_
        refine w_aload_n 0 dX10_menThere_45 rfl rfl rfl ?_
        obtain ⟨hg_w_s5, h⟩ := h.gd
        refine gf_RX10_20 (i := w) hg_w_s5 dX10_menThere_46 rfl ?_
        refine w_iload 5 dX10_menThere_49 rfl rfl ?_
        refine w_iconst (1 : Int32) dX10_menThere_51 ic_iconst_1 rfl ?_
        obtain ⟨r7, s8, h9, h⟩ := h.bd
        refine k_X9_cell ml_RX10_79 (Nat.le_of_ble_eq_true rfl) ⟨Nat.le_of_ble_eq_true rfl, Nat.le_of_ble_eq_true rfl⟩ dX10_menThere_52 rfl h9 ?_
        refine w_iadd dX10_menThere_55 rfl ?_
        refine w_nmI (fun x10 ex10 => ?_)
        replace h := h.bnd ex10
        clear ex10
        refine w_istore [(4, .int x10), (0, .ref (xd Γ w)), (1, .int v1), (2, .int v2), (3, .int v3), (5, .int v5)] dX10_menThere_56 (by decide) rfl rfl ?_
        exact w_sub [1, 2, 3, 4, 0, 5] rfl (b_X10_menThere_58 w K6 hK6 v1 v2 v3 x10 v5 s8 h)
def f_X10_menThere (w : Nat) (p0 : Int32) (p1 : Int32) (p2 : Int32) (σ : St) : Option (Int32 × St) :=
  gd (isW σ w) <|
  itr (g_X10_menThere_6 w) FU (p0, p1, p2, (0 : Int32), (0 : Int32), σ)
theorem e_X10_menThere {Γ : CX} (w : Nat) (p0 : Int32) (p1 : Int32) (p2 : Int32) (σ : St) (h : RR vI Γ (f_X10_menThere w p0 p1 p2 σ)) : WW Γ cX10_menThere 6 RX10 (some .int) rX10_menThere σ 0 [(0, .ref (xd Γ w)), (1, .int p0), (2, .int p1), (3, .int p2)] [] := by
  unfold f_X10_menThere at h
  obtain ⟨hg_w_σ, h⟩ := h.gd
  refine w_iconst (0 : Int32) dX10_menThere_0 ic_iconst_0 rfl ?_
  refine w_istore [(4, .int (0 : Int32)), (0, .ref (xd Γ w)), (1, .int p0), (2, .int p1), (3, .int p2)] dX10_menThere_1 (by decide) rfl rfl ?_
  refine w_iconst (0 : Int32) dX10_menThere_3 ic_iconst_0 rfl ?_
  refine w_istore [(5, .int (0 : Int32)), (4, .int (0 : Int32)), (0, .ref (xd Γ w)), (1, .int p0), (2, .int p1), (3, .int p2)] dX10_menThere_4 (by decide) rfl rfl ?_
  exact w_sub [2, 3, 4, 5, 1, 0] rfl (l_X10_menThere_6 w FU p0 p1 p2 (0 : Int32) (0 : Int32) σ h)
theorem c_X10_menThere {l : Launch} {D : va_G} {cy : Nat → ClassId} {ad : Nat → Nat} {w : Nat} {p0 : Int32} {p1 : Int32} {p2 : Int32} {σ σ' : St} {r : Int32} (hf : f_X10_menThere w p0 p1 p2 σ = some (r, σ')) : CT l D cy ad yX10_menThere cX10_menThere 6 (some .int) rX10_menThere [.ref (ad w), .int p0, .int p1, .int p2] σ (some (.int r)) σ' :=
  ct_of (by decide) (Nat.le_of_ble_eq_true rfl) (fun p e s m args below meth c A => e_X10_menThere (Γ := (p, l, e, rX10_menThere, s, m, args, below, meth, c, D, cy, ad, A, 0, 0, MQ below (QC D cy ad (some (.int r)) σ' A) args s 0 0 A)) w p0 p1 p2 σ ⟨_, hf, rfl⟩)
theorem k_X10_menThere {Γ : CX} {cc : ByteArray} {nL : Nat} {own : String} {ret : Option FieldType} {rm : Room} {σ σ' : St} {pc pc' idx : Nat} {lv : List (Nat × Value)} {rest : List Value} {w : Nat} {p0 : Int32} {p1 : Int32} {p2 : Int32} {r : Int32} (hl : Cond.methodLink own idx yX10_menThere ∈ TB) (hw : (rest.map fun v => v.category).sum ≤ 8) (hR : rX10_menThere.frames + 1 ≤ rm.frames ∧ 8 + (6 + 11) + rX10_menThere.locals ≤ rm.locals) (hd : decode cc pc = .ok (.invokevirtual idx, 3)) (hp : pc + 3 = pc') (hf : f_X10_menThere w p0 p1 p2 σ = some (r, σ')) (h : WW Γ cc nL own ret rm σ' pc' lv (.int r :: rest)) : WW Γ cc nL own ret rm σ pc lv (.int p2 :: .int p1 :: .int p0 :: .ref (xd Γ w) :: rest) := by
  have hT : isW σ w = true := by
    unfold f_X10_menThere at hf
    exact gd_of hf
  exact w_callV (nn := 3) (i := w) (As := [.int p0, .int p1, .int p2]) (v := (some (.int r))) (T := TX10) (N := 12) (c_X10_menThere hf) hl mw_X10_menThere (by decide +kernel) ⟨rfl, rfl⟩ hR (isW_lt hT 0 (by decide)) (cel_W hT) rfl rfl hw hd rfl hp h
/-! WarByHours.War.menLost (II)I -/
def rX10_menLost : Room := { frames := 1, cells := 0, slots := 0, locals := 22 }
def f_X10_menLost_42 (w : Nat) (k0 : Int32) (σ : St) : Option (Int32 × St) :=
  some (k0, σ)
theorem b_X10_menLost_42 {Γ : CX} (w : Nat) (k0 : Int32) (σ : St) (h : RR vI Γ (f_X10_menLost_42 w k0 σ)) : WW Γ cX10_menLost 4 RX10 (some .int) rX10_menLost σ 42 [] [.int k0] := by
  unfold f_X10_menLost_42 at h
  exact w_ireturn dX10_menLost_42 h
def f_X10_menLost_41 (w : Nat) (σ : St) : Option (Int32 × St) :=
  f_X10_menLost_42 w (0 : Int32) σ
theorem b_X10_menLost_41 {Γ : CX} (w : Nat) (σ : St) (h : RR vI Γ (f_X10_menLost_41 w σ)) : WW Γ cX10_menLost 4 RX10 (some .int) rX10_menLost σ 41 [] [] := by
  unfold f_X10_menLost_41 at h
  refine w_iconst (0 : Int32) dX10_menLost_41 ic_iconst_0 rfl ?_
  exact w_sub [] rfl (b_X10_menLost_42 w (0 : Int32) σ h)
def f_X10_menLost (w : Nat) (p0 : Int32) (p1 : Int32) (σ : St) : Option (Int32 × St) :=
  gd (isW σ w) <|
  bd (f_X9_cell (w + 2) p0 (2 : Int32) σ) fun r1 s2 =>
  bnd ((p1 - r1)) fun x4 =>
  if x4 < 0 then
    f_X10_menLost_41 w s2
  else
    gd (isW s2 w) <|
    bd (f_X9_cell (w + 2) p0 (4 : Int32) s2) fun r5 s6 =>
    if r5 ≤ x4 then
      f_X10_menLost_41 w s6
    else
      gd (isW s6 w) <|
      bd (f_X9_cell (w + 2) p0 (1 : Int32) s6) fun r8 s9 =>
      f_X10_menLost_42 w r8 s9
theorem e_X10_menLost {Γ : CX} (w : Nat) (p0 : Int32) (p1 : Int32) (σ : St) (h : RR vI Γ (f_X10_menLost w p0 p1 σ)) : WW Γ cX10_menLost 4 RX10 (some .int) rX10_menLost σ 0 [(0, .ref (xd Γ w)), (1, .int p0), (2, .int p1)] [] := by
  unfold f_X10_menLost at h
  obtain ⟨hg_w_σ, h⟩ := h.gd
  refine w_iload_n 2 dX10_menLost_0 rfl rfl rfl ?_
  refine w_aload_n 0 dX10_menLost_1 rfl rfl rfl ?_
  refine gf_RX10_20 (i := w) hg_w_σ dX10_menLost_2 rfl ?_
  refine w_iload_n 1 dX10_menLost_5 rfl rfl rfl ?_
  refine w_iconst (2 : Int32) dX10_menLost_6 ic_iconst_2 rfl ?_
  obtain ⟨r1, s2, h3, h⟩ := h.bd
  refine k_X9_cell ml_RX10_79 (Nat.le_of_ble_eq_true rfl) ⟨Nat.le_of_ble_eq_true rfl, Nat.le_of_ble_eq_true rfl⟩ dX10_menLost_7 rfl h3 ?_
  refine w_isub dX10_menLost_10 rfl ?_
  refine w_nmI (fun x4 ex4 => ?_)
  replace h := h.bnd ex4
  clear ex4
  refine w_istore_n [(3, .int x4), (0, .ref (xd Γ w)), (1, .int p0), (2, .int p1)] dX10_menLost_11 rfl (by decide) rfl rfl ?_
  refine w_iload_n 0 dX10_menLost_12 rfl rfl rfl ?_
  refine w_if_lt (tgt := 41) dX10_menLost_13 (by decide) rfl (fun q => ?_) (fun q => ?_)
  · have h := h.tt q
    exact w_sub [] rfl (b_X10_menLost_41 w s2 h)
  · have h := h.ff q
    refine w_iload_n 0 dX10_menLost_16 rfl rfl rfl ?_
    refine w_aload_n 1 dX10_menLost_17 rfl rfl rfl ?_
    obtain ⟨hg_w_s2, h⟩ := h.gd
    refine gf_RX10_20 (i := w) hg_w_s2 dX10_menLost_18 rfl ?_
    refine w_iload_n 2 dX10_menLost_21 rfl rfl rfl ?_
    refine w_iconst (4 : Int32) dX10_menLost_22 ic_iconst_4 rfl ?_
    obtain ⟨r5, s6, h7, h⟩ := h.bd
    refine k_X9_cell ml_RX10_79 (Nat.le_of_ble_eq_true rfl) ⟨Nat.le_of_ble_eq_true rfl, Nat.le_of_ble_eq_true rfl⟩ dX10_menLost_23 rfl h7 ?_
    refine w_icmp_ge (tgt := 41) dX10_menLost_26 (by decide) rfl (fun q => ?_) (fun q => ?_)
    · have h := h.tt q
      exact w_sub [] rfl (b_X10_menLost_41 w s6 h)
    · have h := h.ff q
      refine w_aload_n 1 dX10_menLost_29 rfl rfl rfl ?_
      obtain ⟨hg_w_s6, h⟩ := h.gd
      refine gf_RX10_20 (i := w) hg_w_s6 dX10_menLost_30 rfl ?_
      refine w_iload_n 2 dX10_menLost_33 rfl rfl rfl ?_
      refine w_iconst (1 : Int32) dX10_menLost_34 ic_iconst_1 rfl ?_
      obtain ⟨r8, s9, h10, h⟩ := h.bd
      refine k_X9_cell ml_RX10_79 (Nat.le_of_ble_eq_true rfl) ⟨Nat.le_of_ble_eq_true rfl, Nat.le_of_ble_eq_true rfl⟩ dX10_menLost_35 rfl h10 ?_
      refine w_goto (tgt := 42) dX10_menLost_38 (by decide) ?_
      exact w_sub [] rfl (b_X10_menLost_42 w r8 s9 h)
theorem c_X10_menLost {l : Launch} {D : va_G} {cy : Nat → ClassId} {ad : Nat → Nat} {w : Nat} {p0 : Int32} {p1 : Int32} {σ σ' : St} {r : Int32} (hf : f_X10_menLost w p0 p1 σ = some (r, σ')) : CT l D cy ad yX10_menLost cX10_menLost 4 (some .int) rX10_menLost [.ref (ad w), .int p0, .int p1] σ (some (.int r)) σ' :=
  ct_of (by decide) (Nat.le_of_ble_eq_true rfl) (fun p e s m args below meth c A => e_X10_menLost (Γ := (p, l, e, rX10_menLost, s, m, args, below, meth, c, D, cy, ad, A, 0, 0, MQ below (QC D cy ad (some (.int r)) σ' A) args s 0 0 A)) w p0 p1 σ ⟨_, hf, rfl⟩)
theorem k_X10_menLost {Γ : CX} {cc : ByteArray} {nL : Nat} {own : String} {ret : Option FieldType} {rm : Room} {σ σ' : St} {pc pc' idx : Nat} {lv : List (Nat × Value)} {rest : List Value} {w : Nat} {p0 : Int32} {p1 : Int32} {r : Int32} (hl : Cond.methodLink own idx yX10_menLost ∈ TB) (hw : (rest.map fun v => v.category).sum ≤ 8) (hR : rX10_menLost.frames + 1 ≤ rm.frames ∧ 8 + (4 + 11) + rX10_menLost.locals ≤ rm.locals) (hd : decode cc pc = .ok (.invokevirtual idx, 3)) (hp : pc + 3 = pc') (hf : f_X10_menLost w p0 p1 σ = some (r, σ')) (h : WW Γ cc nL own ret rm σ' pc' lv (.int r :: rest)) : WW Γ cc nL own ret rm σ pc lv (.int p1 :: .int p0 :: .ref (xd Γ w) :: rest) := by
  have hT : isW σ w = true := by
    unfold f_X10_menLost at hf
    exact gd_of hf
  exact w_callV (nn := 2) (i := w) (As := [.int p0, .int p1]) (v := (some (.int r))) (T := TX10) (N := 12) (c_X10_menLost hf) hl mw_X10_menLost (by decide +kernel) ⟨rfl, rfl⟩ hR (isW_lt hT 0 (by decide)) (cel_W hT) rfl rfl hw hd rfl hp h
/-! WarByHours.War.leadIn (II)I -/
def rX10_leadIn : Room := { frames := 3, cells := 0, slots := 0, locals := 69 }
def f_X10_leadIn (w : Nat) (p0 : Int32) (p1 : Int32) (σ : St) : Option (Int32 × St) :=
  gd (isW σ w) <|
  bd (f_X10_menThere w (0 : Int32) p0 p1 σ) fun r1 s2 =>
  bd (f_X10_menThere w (1 : Int32) p0 p1 s2) fun r4 s5 =>
  some ((r1 - r4), s5)
theorem e_X10_leadIn {Γ : CX} (w : Nat) (p0 : Int32) (p1 : Int32) (σ : St) (h : RR vI Γ (f_X10_leadIn w p0 p1 σ)) : WW Γ cX10_leadIn 3 RX10 (some .int) rX10_leadIn σ 0 [(0, .ref (xd Γ w)), (1, .int p0), (2, .int p1)] [] := by
  unfold f_X10_leadIn at h
  obtain ⟨hg_w_σ, h⟩ := h.gd
  refine w_aload_n 0 dX10_leadIn_0 rfl rfl rfl ?_
  refine w_iconst (0 : Int32) dX10_leadIn_1 ic_iconst_0 rfl ?_
  refine w_iload_n 1 dX10_leadIn_2 rfl rfl rfl ?_
  refine w_iload_n 2 dX10_leadIn_3 rfl rfl rfl ?_
  obtain ⟨r1, s2, h3, h⟩ := h.bd
  refine k_X10_menThere ml_RX10_89 (Nat.le_of_ble_eq_true rfl) ⟨Nat.le_of_ble_eq_true rfl, Nat.le_of_ble_eq_true rfl⟩ dX10_leadIn_4 rfl h3 ?_
  refine w_aload_n 0 dX10_leadIn_7 rfl rfl rfl ?_
  refine w_iconst (1 : Int32) dX10_leadIn_8 ic_iconst_1 rfl ?_
  refine w_iload_n 1 dX10_leadIn_9 rfl rfl rfl ?_
  refine w_iload_n 2 dX10_leadIn_10 rfl rfl rfl ?_
  obtain ⟨r4, s5, h6, h⟩ := h.bd
  refine k_X10_menThere ml_RX10_89 (Nat.le_of_ble_eq_true rfl) ⟨Nat.le_of_ble_eq_true rfl, Nat.le_of_ble_eq_true rfl⟩ dX10_leadIn_11 rfl h6 ?_
  refine w_isub dX10_leadIn_14 rfl ?_
  exact w_ireturn dX10_leadIn_15 h
theorem c_X10_leadIn {l : Launch} {D : va_G} {cy : Nat → ClassId} {ad : Nat → Nat} {w : Nat} {p0 : Int32} {p1 : Int32} {σ σ' : St} {r : Int32} (hf : f_X10_leadIn w p0 p1 σ = some (r, σ')) : CT l D cy ad yX10_leadIn cX10_leadIn 3 (some .int) rX10_leadIn [.ref (ad w), .int p0, .int p1] σ (some (.int r)) σ' :=
  ct_of (by decide) (Nat.le_of_ble_eq_true rfl) (fun p e s m args below meth c A => e_X10_leadIn (Γ := (p, l, e, rX10_leadIn, s, m, args, below, meth, c, D, cy, ad, A, 0, 0, MQ below (QC D cy ad (some (.int r)) σ' A) args s 0 0 A)) w p0 p1 σ ⟨_, hf, rfl⟩)
theorem k_X10_leadIn {Γ : CX} {cc : ByteArray} {nL : Nat} {own : String} {ret : Option FieldType} {rm : Room} {σ σ' : St} {pc pc' idx : Nat} {lv : List (Nat × Value)} {rest : List Value} {w : Nat} {p0 : Int32} {p1 : Int32} {r : Int32} (hl : Cond.methodLink own idx yX10_leadIn ∈ TB) (hw : (rest.map fun v => v.category).sum ≤ 8) (hR : rX10_leadIn.frames + 1 ≤ rm.frames ∧ 8 + (3 + 11) + rX10_leadIn.locals ≤ rm.locals) (hd : decode cc pc = .ok (.invokevirtual idx, 3)) (hp : pc + 3 = pc') (hf : f_X10_leadIn w p0 p1 σ = some (r, σ')) (h : WW Γ cc nL own ret rm σ' pc' lv (.int r :: rest)) : WW Γ cc nL own ret rm σ pc lv (.int p1 :: .int p0 :: .ref (xd Γ w) :: rest) := by
  have hT : isW σ w = true := by
    unfold f_X10_leadIn at hf
    exact gd_of hf
  exact w_callV (nn := 2) (i := w) (As := [.int p0, .int p1]) (v := (some (.int r))) (T := TX10) (N := 12) (c_X10_leadIn hf) hl mw_X10_leadIn (by decide +kernel) ⟨rfl, rfl⟩ hR (isW_lt hT 0 (by decide)) (cel_W hT) rfl rfl hw hd rfl hp h
/-! WarByHours.War.isTea (I)Z -/
def rX10_isTea : Room := { frames := 1, cells := 0, slots := 0, locals := 22 }
def f_X10_isTea_41 (w : Nat) (K2 : Int32 × Int32 × St → Option (Int32 × St)) (v1 : Int32) (v2 : Int32) (σ : St) : Option (Int32 × St) :=
  bnd (v2 + (1 : Int32)) fun x1 =>
  K2 (v1, x1, σ)
theorem b_X10_isTea_41 {Γ : CX} (w : Nat) (K2 : Int32 × Int32 × St → Option (Int32 × St)) (hK2 : ∀ (v1 : Int32) (v2 : Int32) (σ : St), RR vI Γ (K2 (v1, v2, σ)) → WW Γ cX10_isTea 3 RX10 (some .boolean) rX10_isTea σ 2 [(0, .ref (xd Γ w)), (1, .int v1), (2, .int v2)] []) (v1 : Int32) (v2 : Int32) (σ : St) (h : RR vI Γ (f_X10_isTea_41 w K2 v1 v2 σ)) : WW Γ cX10_isTea 3 RX10 (some .boolean) rX10_isTea σ 41 [(0, .ref (xd Γ w)), (1, .int v1), (2, .int v2)] [] := by
  unfold f_X10_isTea_41 at h
  obtain ⟨x1, ex1⟩ : ∃ y : Int32, y = (v2 + (1 : Int32)) := ⟨_, rfl⟩
  replace h := h.bnd ex1
  refine w_iinc 2 x1 [(2, .int x1), (0, .ref (xd Γ w)), (1, .int v1)] dX10_isTea_41 rfl (by rw [ex1, ic_iconst_1]) (by decide) rfl rfl ?_
  clear ex1
  refine w_goto (tgt := 2) dX10_isTea_44 (by decide) ?_
  exact w_sub [1, 2, 0] rfl (hK2 v1 x1 σ h)
def g_X10_isTea_2 (w : Nat) (K2 : Int32 × Int32 × St → Option (Int32 × St)) (x : Int32 × Int32 × St) : Option (Int32 × St) := match x with
  | (v1, v2, σ) =>
  gd (isW σ w) <|
  if (gf σ (w + 4) 3) ≤ v2 then
    gd (bz (0 : Int32)) <| some ((0 : Int32), σ)
  else
    bd (f_X9_cell (w + 4) v2 (0 : Int32) σ) fun r1 s2 =>
    if v1 < r1 then
      f_X10_isTea_41 w K2 v1 v2 s2
    else
      gd (isW s2 w) <|
      bd (f_X9_cell (w + 4) v2 (1 : Int32) s2) fun r4 s5 =>
      if r4 < v1 then
        f_X10_isTea_41 w K2 v1 v2 s5
      else
        gd (bz (1 : Int32)) <| some ((1 : Int32), s5)
theorem l_X10_isTea_2 {Γ : CX} (w : Nat) : ∀ (n : Nat) (v1 : Int32) (v2 : Int32) (σ : St), RR vI Γ (itr (g_X10_isTea_2 w) n (v1, v2, σ)) → WW Γ cX10_isTea 3 RX10 (some .boolean) rX10_isTea σ 2 [(0, .ref (xd Γ w)), (1, .int v1), (2, .int v2)] [] := by
  intro n
  induction n with
  | zero => intro v1 v2 σ h; exact RR.no h
  | succ n hK2 =>
  intro v1 v2 σ h
  have h : RR vI Γ (g_X10_isTea_2 w (itr (g_X10_isTea_2 w) n) (v1, v2, σ)) := h
  generalize itr (g_X10_isTea_2 w) n = K2 at h hK2
  unfold g_X10_isTea_2 at h
  dsimp only at h
  refine w_iload_n 2 dX10_isTea_2 rfl rfl rfl ?_
  refine w_aload_n 0 dX10_isTea_3 rfl rfl rfl ?_
  obtain ⟨hg_w_σ, h⟩ := h.gd
  refine gf_RX10_24 (i := w) hg_w_σ dX10_isTea_4 rfl ?_
  refine gf_RX10_58 (i := (w + 4)) (isW_T hg_w_σ 4 (by decide)) dX10_isTea_7 rfl ?_
  refine w_icmp_ge (tgt := 47) dX10_isTea_10 (by decide) rfl (fun q => ?_) (fun q => ?_)
  · have h := h.tt q
    refine w_iconst (0 : Int32) dX10_isTea_47 ic_iconst_0 rfl ?_
    obtain ⟨hb, h⟩ := h.gd
    exact w_zreturn dX10_isTea_48 hb h
  · have h := h.ff q
    refine w_iload_n 1 dX10_isTea_13 rfl rfl rfl ?_
    refine w_aload_n 0 dX10_isTea_14 rfl rfl rfl ?_
    refine gf_RX10_24 (i := w) hg_w_σ dX10_isTea_15 rfl ?_
    refine w_iload_n 2 dX10_isTea_18 rfl rfl rfl ?_
    refine w_iconst (0 : Int32) dX10_isTea_19 ic_iconst_0 rfl ?_
    obtain ⟨r1, s2, h3, h⟩ := h.bd
    refine k_X9_cell ml_RX10_79 (Nat.le_of_ble_eq_true rfl) ⟨Nat.le_of_ble_eq_true rfl, Nat.le_of_ble_eq_true rfl⟩ dX10_isTea_20 rfl h3 ?_
    refine w_icmp_lt (tgt := 41) dX10_isTea_23 (by decide) rfl (fun q => ?_) (fun q => ?_)
    · have h := h.tt q
      exact w_sub [0, 1, 2] rfl (b_X10_isTea_41 w K2 hK2 v1 v2 s2 h)
    · have h := h.ff q
      refine w_iload_n 1 dX10_isTea_26 rfl rfl rfl ?_
      refine w_aload_n 0 dX10_isTea_27 rfl rfl rfl ?_
      obtain ⟨hg_w_s2, h⟩ := h.gd
      refine gf_RX10_24 (i := w) hg_w_s2 dX10_isTea_28 rfl ?_
      refine w_iload_n 2 dX10_isTea_31 rfl rfl rfl ?_
      refine w_iconst (1 : Int32) dX10_isTea_32 ic_iconst_1 rfl ?_
      obtain ⟨r4, s5, h6, h⟩ := h.bd
      refine k_X9_cell ml_RX10_79 (Nat.le_of_ble_eq_true rfl) ⟨Nat.le_of_ble_eq_true rfl, Nat.le_of_ble_eq_true rfl⟩ dX10_isTea_33 rfl h6 ?_
      refine w_icmp_gt (tgt := 41) dX10_isTea_36 (by decide) rfl (fun q => ?_) (fun q => ?_)
      · have h := h.tt q
        exact w_sub [0, 1, 2] rfl (b_X10_isTea_41 w K2 hK2 v1 v2 s5 h)
      · have h := h.ff q
        refine w_iconst (1 : Int32) dX10_isTea_39 ic_iconst_1 rfl ?_
        obtain ⟨hb, h⟩ := h.gd
        exact w_zreturn dX10_isTea_40 hb h
def f_X10_isTea (w : Nat) (p0 : Int32) (σ : St) : Option (Int32 × St) :=
  gd (isW σ w) <|
  itr (g_X10_isTea_2 w) FU (p0, (0 : Int32), σ)
theorem e_X10_isTea {Γ : CX} (w : Nat) (p0 : Int32) (σ : St) (h : RR vI Γ (f_X10_isTea w p0 σ)) : WW Γ cX10_isTea 3 RX10 (some .boolean) rX10_isTea σ 0 [(0, .ref (xd Γ w)), (1, .int p0)] [] := by
  unfold f_X10_isTea at h
  obtain ⟨hg_w_σ, h⟩ := h.gd
  refine w_iconst (0 : Int32) dX10_isTea_0 ic_iconst_0 rfl ?_
  refine w_istore_n [(2, .int (0 : Int32)), (0, .ref (xd Γ w)), (1, .int p0)] dX10_isTea_1 rfl (by decide) rfl rfl ?_
  exact w_sub [1, 2, 0] rfl (l_X10_isTea_2 w FU p0 (0 : Int32) σ h)
theorem c_X10_isTea {l : Launch} {D : va_G} {cy : Nat → ClassId} {ad : Nat → Nat} {w : Nat} {p0 : Int32} {σ σ' : St} {r : Int32} (hf : f_X10_isTea w p0 σ = some (r, σ')) : CT l D cy ad yX10_isTea cX10_isTea 3 (some .boolean) rX10_isTea [.ref (ad w), .int p0] σ (some (.int r)) σ' :=
  ct_of (by decide) (Nat.le_of_ble_eq_true rfl) (fun p e s m args below meth c A => e_X10_isTea (Γ := (p, l, e, rX10_isTea, s, m, args, below, meth, c, D, cy, ad, A, 0, 0, MQ below (QC D cy ad (some (.int r)) σ' A) args s 0 0 A)) w p0 σ ⟨_, hf, rfl⟩)
theorem k_X10_isTea {Γ : CX} {cc : ByteArray} {nL : Nat} {own : String} {ret : Option FieldType} {rm : Room} {σ σ' : St} {pc pc' idx : Nat} {lv : List (Nat × Value)} {rest : List Value} {w : Nat} {p0 : Int32} {r : Int32} (hl : Cond.methodLink own idx yX10_isTea ∈ TB) (hw : (rest.map fun v => v.category).sum ≤ 8) (hR : rX10_isTea.frames + 1 ≤ rm.frames ∧ 8 + (3 + 11) + rX10_isTea.locals ≤ rm.locals) (hd : decode cc pc = .ok (.invokevirtual idx, 3)) (hp : pc + 3 = pc') (hf : f_X10_isTea w p0 σ = some (r, σ')) (h : WW Γ cc nL own ret rm σ' pc' lv (.int r :: rest)) : WW Γ cc nL own ret rm σ pc lv (.int p0 :: .ref (xd Γ w) :: rest) := by
  have hT : isW σ w = true := by
    unfold f_X10_isTea at hf
    exact gd_of hf
  exact w_callV (nn := 1) (i := w) (As := [.int p0]) (v := (some (.int r))) (T := TX10) (N := 12) (c_X10_isTea hf) hl mw_X10_isTea (by decide +kernel) ⟨rfl, rfl⟩ hR (isW_lt hT 0 (by decide)) (cel_W hT) rfl rfl hw hd rfl hp h
/-! WarByHours.War.lateSides (I)I -/
def rX10_lateSides : Room := { frames := 3, cells := 0, slots := 0, locals := 69 }
def f_X10_lateSides_33 (w : Nat) (K4 : Int32 × Int32 × Int32 × St → Option (Int32 × St)) (v1 : Int32) (v2 : Int32) (v3 : Int32) (σ : St) : Option (Int32 × St) :=
  bnd (v3 + (1 : Int32)) fun x1 =>
  K4 (v1, v2, x1, σ)
theorem b_X10_lateSides_33 {Γ : CX} (w : Nat) (K4 : Int32 × Int32 × Int32 × St → Option (Int32 × St)) (hK4 : ∀ (v1 : Int32) (v2 : Int32) (v3 : Int32) (σ : St), RR vI Γ (K4 (v1, v2, v3, σ)) → WW Γ cX10_lateSides 4 RX10 (some .int) rX10_lateSides σ 4 [(0, .ref (xd Γ w)), (1, .int v1), (2, .int v2), (3, .int v3)] []) (v1 : Int32) (v2 : Int32) (v3 : Int32) (σ : St) (h : RR vI Γ (f_X10_lateSides_33 w K4 v1 v2 v3 σ)) : WW Γ cX10_lateSides 4 RX10 (some .int) rX10_lateSides σ 33 [(0, .ref (xd Γ w)), (1, .int v1), (2, .int v2), (3, .int v3)] [] := by
  unfold f_X10_lateSides_33 at h
  obtain ⟨x1, ex1⟩ : ∃ y : Int32, y = (v3 + (1 : Int32)) := ⟨_, rfl⟩
  replace h := h.bnd ex1
  refine w_iinc 3 x1 [(3, .int x1), (0, .ref (xd Γ w)), (1, .int v1), (2, .int v2)] dX10_lateSides_33 rfl (by rw [ex1, ic_iconst_1]) (by decide) rfl rfl ?_
  clear ex1
  refine w_goto (tgt := 4) dX10_lateSides_36 (by decide) ?_
  exact w_sub [1, 2, 3, 0] rfl (hK4 v1 v2 x1 σ h)
def g_X10_lateSides_4 (w : Nat) (K4 : Int32 × Int32 × Int32 × St → Option (Int32 × St)) (x : Int32 × Int32 × Int32 × St) : Option (Int32 × St) := match x with
  | (v1, v2, v3, σ) =>
  if (2 : Int32) ≤ v3 then
    some (v2, σ)
  else
    gd (isW σ w) <|
    bd (f_X10_menThere w v3 (gf σ w 2) v1 σ) fun r1 s2 =>
    bd (f_X10_needOf w v3 s2) fun r4 s5 =>
    if r4 ≤ r1 then
      f_X10_lateSides_33 w K4 v1 v2 v3 s5
    else
      bnd ((v2 ||| ((1 : Int32) <<< (v3 &&& 31)))) fun x7 =>
      f_X10_lateSides_33 w K4 v1 x7 v3 s5
theorem l_X10_lateSides_4 {Γ : CX} (w : Nat) : ∀ (n : Nat) (v1 : Int32) (v2 : Int32) (v3 : Int32) (σ : St), RR vI Γ (itr (g_X10_lateSides_4 w) n (v1, v2, v3, σ)) → WW Γ cX10_lateSides 4 RX10 (some .int) rX10_lateSides σ 4 [(0, .ref (xd Γ w)), (1, .int v1), (2, .int v2), (3, .int v3)] [] := by
  intro n
  induction n with
  | zero => intro v1 v2 v3 σ h; exact RR.no h
  | succ n hK4 =>
  intro v1 v2 v3 σ h
  have h : RR vI Γ (g_X10_lateSides_4 w (itr (g_X10_lateSides_4 w) n) (v1, v2, v3, σ)) := h
  generalize itr (g_X10_lateSides_4 w) n = K4 at h hK4
  unfold g_X10_lateSides_4 at h
  dsimp only at h
  refine w_iload_n 3 dX10_lateSides_4 rfl rfl rfl ?_
  refine w_iconst (2 : Int32) dX10_lateSides_5 ic_iconst_2 rfl ?_
  refine w_icmp_ge (tgt := 39) dX10_lateSides_6 (by decide) rfl (fun q => ?_) (fun q => ?_)
  · have h := h.tt q
    refine w_iload_n 2 dX10_lateSides_39 rfl rfl rfl ?_
    exact w_ireturn dX10_lateSides_40 h
  · have h := h.ff q
    refine w_aload_n 0 dX10_lateSides_9 rfl rfl rfl ?_
    refine w_iload_n 3 dX10_lateSides_10 rfl rfl rfl ?_
    refine w_aload_n 0 dX10_lateSides_11 rfl rfl rfl ?_
    obtain ⟨hg_w_σ, h⟩ := h.gd
    refine gf_RX10_49 (i := w) hg_w_σ dX10_lateSides_12 rfl ?_
    refine w_iload_n 1 dX10_lateSides_15 rfl rfl rfl ?_
    obtain ⟨r1, s2, h3, h⟩ := h.bd
    refine k_X10_menThere ml_RX10_89 (Nat.le_of_ble_eq_true rfl) ⟨Nat.le_of_ble_eq_true rfl, Nat.le_of_ble_eq_true rfl⟩ dX10_lateSides_16 rfl h3 ?_
    refine w_aload_n 0 dX10_lateSides_19 rfl rfl rfl ?_
    refine w_iload_n 3 dX10_lateSides_20 rfl rfl rfl ?_
    obtain ⟨r4, s5, h6, h⟩ := h.bd
    refine k_X10_needOf ml_RX10_93 (Nat.le_of_ble_eq_true rfl) ⟨Nat.le_of_ble_eq_true rfl, Nat.le_of_ble_eq_true rfl⟩ dX10_lateSides_21 rfl h6 ?_
    refine w_icmp_ge (tgt := 33) dX10_lateSides_24 (by decide) rfl (fun q => ?_) (fun q => ?_)
    · have h := h.tt q
      exact w_sub [0, 1, 2, 3] rfl (b_X10_lateSides_33 w K4 hK4 v1 v2 v3 s5 h)
    · have h := h.ff q
      refine w_iload_n 2 dX10_lateSides_27 rfl rfl rfl ?_
      refine w_iconst (1 : Int32) dX10_lateSides_28 ic_iconst_1 rfl ?_
      refine w_iload_n 3 dX10_lateSides_29 rfl rfl rfl ?_
      refine w_ishl dX10_lateSides_30 rfl ?_
      refine w_ior dX10_lateSides_31 rfl ?_
      refine w_nmI (fun x7 ex7 => ?_)
      replace h := h.bnd ex7
      clear ex7
      refine w_istore_n [(2, .int x7), (0, .ref (xd Γ w)), (1, .int v1), (3, .int v3)] dX10_lateSides_32 rfl (by decide) rfl rfl ?_
      exact w_sub [1, 2, 0, 3] rfl (b_X10_lateSides_33 w K4 hK4 v1 x7 v3 s5 h)
def f_X10_lateSides (w : Nat) (p0 : Int32) (σ : St) : Option (Int32 × St) :=
  gd (isW σ w) <|
  itr (g_X10_lateSides_4 w) FU (p0, (0 : Int32), (0 : Int32), σ)
theorem e_X10_lateSides {Γ : CX} (w : Nat) (p0 : Int32) (σ : St) (h : RR vI Γ (f_X10_lateSides w p0 σ)) : WW Γ cX10_lateSides 4 RX10 (some .int) rX10_lateSides σ 0 [(0, .ref (xd Γ w)), (1, .int p0)] [] := by
  unfold f_X10_lateSides at h
  obtain ⟨hg_w_σ, h⟩ := h.gd
  refine w_iconst (0 : Int32) dX10_lateSides_0 ic_iconst_0 rfl ?_
  refine w_istore_n [(2, .int (0 : Int32)), (0, .ref (xd Γ w)), (1, .int p0)] dX10_lateSides_1 rfl (by decide) rfl rfl ?_
  refine w_iconst (0 : Int32) dX10_lateSides_2 ic_iconst_0 rfl ?_
  refine w_istore_n [(3, .int (0 : Int32)), (2, .int (0 : Int32)), (0, .ref (xd Γ w)), (1, .int p0)] dX10_lateSides_3 rfl (by decide) rfl rfl ?_
  exact w_sub [2, 3, 1, 0] rfl (l_X10_lateSides_4 w FU p0 (0 : Int32) (0 : Int32) σ h)
theorem c_X10_lateSides {l : Launch} {D : va_G} {cy : Nat → ClassId} {ad : Nat → Nat} {w : Nat} {p0 : Int32} {σ σ' : St} {r : Int32} (hf : f_X10_lateSides w p0 σ = some (r, σ')) : CT l D cy ad yX10_lateSides cX10_lateSides 4 (some .int) rX10_lateSides [.ref (ad w), .int p0] σ (some (.int r)) σ' :=
  ct_of (by decide) (Nat.le_of_ble_eq_true rfl) (fun p e s m args below meth c A => e_X10_lateSides (Γ := (p, l, e, rX10_lateSides, s, m, args, below, meth, c, D, cy, ad, A, 0, 0, MQ below (QC D cy ad (some (.int r)) σ' A) args s 0 0 A)) w p0 σ ⟨_, hf, rfl⟩)
theorem k_X10_lateSides {Γ : CX} {cc : ByteArray} {nL : Nat} {own : String} {ret : Option FieldType} {rm : Room} {σ σ' : St} {pc pc' idx : Nat} {lv : List (Nat × Value)} {rest : List Value} {w : Nat} {p0 : Int32} {r : Int32} (hl : Cond.methodLink own idx yX10_lateSides ∈ TB) (hw : (rest.map fun v => v.category).sum ≤ 8) (hR : rX10_lateSides.frames + 1 ≤ rm.frames ∧ 8 + (4 + 11) + rX10_lateSides.locals ≤ rm.locals) (hd : decode cc pc = .ok (.invokevirtual idx, 3)) (hp : pc + 3 = pc') (hf : f_X10_lateSides w p0 σ = some (r, σ')) (h : WW Γ cc nL own ret rm σ' pc' lv (.int r :: rest)) : WW Γ cc nL own ret rm σ pc lv (.int p0 :: .ref (xd Γ w) :: rest) := by
  have hT : isW σ w = true := by
    unfold f_X10_lateSides at hf
    exact gd_of hf
  exact w_callV (nn := 1) (i := w) (As := [.int p0]) (v := (some (.int r))) (T := TX10) (N := 12) (c_X10_lateSides hf) hl mw_X10_lateSides (by decide +kernel) ⟨rfl, rfl⟩ hR (isW_lt hT 0 (by decide)) (cel_W hT) rfl rfl hw hd rfl hp h
/-! WarByHours.War.toldNumber (II)I -/
def rX10_toldNumber : Room := { frames := 1, cells := 0, slots := 0, locals := 22 }
def f_X10_toldNumber_26 (w : Nat) (v1 : Int32) (σ : St) : Option (Int32 × St) :=
  bd (f_X10_needOf w v1 σ) fun r1 s2 =>
  some (r1, s2)
theorem b_X10_toldNumber_26 {Γ : CX} (w : Nat) (v1 : Int32) (σ : St) (h : RR vI Γ (f_X10_toldNumber_26 w v1 σ)) : WW Γ cX10_toldNumber 3 RX10 (some .int) rX10_toldNumber σ 26 [(0, .ref (xd Γ w)), (1, .int v1)] [] := by
  unfold f_X10_toldNumber_26 at h
  refine w_aload_n 0 dX10_toldNumber_26 rfl rfl rfl ?_
  refine w_iload_n 1 dX10_toldNumber_27 rfl rfl rfl ?_
  obtain ⟨r1, s2, h3, h⟩ := h.bd
  refine k_X10_needOf ml_RX10_93 (Nat.le_of_ble_eq_true rfl) ⟨Nat.le_of_ble_eq_true rfl, Nat.le_of_ble_eq_true rfl⟩ dX10_toldNumber_28 rfl h3 ?_
  exact w_ireturn dX10_toldNumber_31 h
def f_X10_toldNumber (w : Nat) (p0 : Int32) (p1 : Int32) (σ : St) : Option (Int32 × St) :=
  gd (isW σ w) <|
  if p1 < 0 then
    f_X10_toldNumber_26 w p0 σ
  else
    if (nI 3) ≤ p1 then
      f_X10_toldNumber_26 w p0 σ
    else
      gd (inb p1 3) <|
      bd (f_X9_cell (w + 2) p0 (tColumn p1.toNatClampNeg) σ) fun r2 s3 =>
      some (r2, s3)
theorem e_X10_toldNumber {Γ : CX} (w : Nat) (p0 : Int32) (p1 : Int32) (σ : St) (h : RR vI Γ (f_X10_toldNumber w p0 p1 σ)) : WW Γ cX10_toldNumber 3 RX10 (some .int) rX10_toldNumber σ 0 [(0, .ref (xd Γ w)), (1, .int p0), (2, .int p1)] [] := by
  unfold f_X10_toldNumber at h
  obtain ⟨hg_w_σ, h⟩ := h.gd
  refine w_iload_n 2 dX10_toldNumber_0 rfl rfl rfl ?_
  refine w_if_lt (tgt := 26) dX10_toldNumber_1 (by decide) rfl (fun q => ?_) (fun q => ?_)
  · have h := h.tt q
    exact w_sub [0, 1] rfl (b_X10_toldNumber_26 w p0 σ h)
  · have h := h.ff q
    refine w_iload_n 2 dX10_toldNumber_4 rfl rfl rfl ?_
    refine w_gtc fl_RX10_116 dX10_toldNumber_5 rfl ?_
    refine w_ltc dX10_toldNumber_8 rfl ?_
    refine w_icmp_ge (tgt := 26) dX10_toldNumber_9 (by decide) rfl (fun q => ?_) (fun q => ?_)
    · have h := h.tt q
      exact w_sub [0, 1] rfl (b_X10_toldNumber_26 w p0 σ h)
    · have h := h.ff q
      refine w_aload_n 0 dX10_toldNumber_12 rfl rfl rfl ?_
      refine gf_RX10_20 (i := w) hg_w_σ dX10_toldNumber_13 rfl ?_
      refine w_iload_n 1 dX10_toldNumber_16 rfl rfl rfl ?_
      refine w_gtc fl_RX10_116 dX10_toldNumber_17 rfl ?_
      refine w_iload_n 2 dX10_toldNumber_20 rfl rfl rfl ?_
      obtain ⟨hi1, h⟩ := h.gd
      refine w_itc hi1 dX10_toldNumber_21 rfl ?_
      obtain ⟨r2, s3, h4, h⟩ := h.bd
      refine k_X9_cell ml_RX10_79 (Nat.le_of_ble_eq_true rfl) ⟨Nat.le_of_ble_eq_true rfl, Nat.le_of_ble_eq_true rfl⟩ dX10_toldNumber_22 rfl h4 ?_
      exact w_ireturn dX10_toldNumber_25 h
theorem c_X10_toldNumber {l : Launch} {D : va_G} {cy : Nat → ClassId} {ad : Nat → Nat} {w : Nat} {p0 : Int32} {p1 : Int32} {σ σ' : St} {r : Int32} (hf : f_X10_toldNumber w p0 p1 σ = some (r, σ')) : CT l D cy ad yX10_toldNumber cX10_toldNumber 3 (some .int) rX10_toldNumber [.ref (ad w), .int p0, .int p1] σ (some (.int r)) σ' :=
  ct_of (by decide) (Nat.le_of_ble_eq_true rfl) (fun p e s m args below meth c A => e_X10_toldNumber (Γ := (p, l, e, rX10_toldNumber, s, m, args, below, meth, c, D, cy, ad, A, 0, 0, MQ below (QC D cy ad (some (.int r)) σ' A) args s 0 0 A)) w p0 p1 σ ⟨_, hf, rfl⟩)
theorem k_X10_toldNumber {Γ : CX} {cc : ByteArray} {nL : Nat} {own : String} {ret : Option FieldType} {rm : Room} {σ σ' : St} {pc pc' idx : Nat} {lv : List (Nat × Value)} {rest : List Value} {w : Nat} {p0 : Int32} {p1 : Int32} {r : Int32} (hl : Cond.methodLink own idx yX10_toldNumber ∈ TB) (hw : (rest.map fun v => v.category).sum ≤ 8) (hR : rX10_toldNumber.frames + 1 ≤ rm.frames ∧ 8 + (3 + 11) + rX10_toldNumber.locals ≤ rm.locals) (hd : decode cc pc = .ok (.invokevirtual idx, 3)) (hp : pc + 3 = pc') (hf : f_X10_toldNumber w p0 p1 σ = some (r, σ')) (h : WW Γ cc nL own ret rm σ' pc' lv (.int r :: rest)) : WW Γ cc nL own ret rm σ pc lv (.int p1 :: .int p0 :: .ref (xd Γ w) :: rest) := by
  have hT : isW σ w = true := by
    unfold f_X10_toldNumber at hf
    exact gd_of hf
  exact w_callV (nn := 2) (i := w) (As := [.int p0, .int p1]) (v := (some (.int r))) (T := TX10) (N := 12) (c_X10_toldNumber hf) hl mw_X10_toldNumber (by decide +kernel) ⟨rfl, rfl⟩ hR (isW_lt hT 0 (by decide)) (cel_W hT) rfl rfl hw hd rfl hp h
/-! WarByHours.War.setToldNumber (III)V -/
def rX10_setToldNumber : Room := { frames := 1, cells := 0, slots := 0, locals := 23 }
def f_X10_setToldNumber_35 (w : Nat) (σ : St) : Option (Unit × St) :=
  some ((), σ)
theorem b_X10_setToldNumber_35 {Γ : CX} (w : Nat) (σ : St) (h : RR vU Γ (f_X10_setToldNumber_35 w σ)) : WW Γ cX10_setToldNumber 4 RX10 none rX10_setToldNumber σ 35 [] [] := by
  unfold f_X10_setToldNumber_35 at h
  exact w_return dX10_setToldNumber_35 h
def f_X10_setToldNumber_29 (w : Nat) (v1 : Int32) (v3 : Int32) (σ : St) : Option (Unit × St) :=
  bd (f_X10_setNeed w v1 v3 σ) fun _ s2 =>
  f_X10_setToldNumber_35 w s2
theorem b_X10_setToldNumber_29 {Γ : CX} (w : Nat) (v1 : Int32) (v3 : Int32) (σ : St) (h : RR vU Γ (f_X10_setToldNumber_29 w v1 v3 σ)) : WW Γ cX10_setToldNumber 4 RX10 none rX10_setToldNumber σ 29 [(0, .ref (xd Γ w)), (1, .int v1), (3, .int v3)] [] := by
  unfold f_X10_setToldNumber_29 at h
  refine w_aload_n 0 dX10_setToldNumber_29 rfl rfl rfl ?_
  refine w_iload_n 1 dX10_setToldNumber_30 rfl rfl rfl ?_
  refine w_iload_n 2 dX10_setToldNumber_31 rfl rfl rfl ?_
  obtain ⟨r1, s2, h3, h⟩ := h.bd
  refine k_X10_setNeed ml_RX10_119 (Nat.le_of_ble_eq_true rfl) ⟨Nat.le_of_ble_eq_true rfl, Nat.le_of_ble_eq_true rfl⟩ dX10_setToldNumber_32 rfl h3 ?_
  exact w_sub [] rfl (b_X10_setToldNumber_35 w s2 h)
def f_X10_setToldNumber (w : Nat) (p0 : Int32) (p1 : Int32) (p2 : Int32) (σ : St) : Option (Unit × St) :=
  gd (isW σ w) <|
  if p1 < 0 then
    f_X10_setToldNumber_29 w p0 p2 σ
  else
    if (nI 3) ≤ p1 then
      f_X10_setToldNumber_29 w p0 p2 σ
    else
      gd (inb p1 3) <|
      bd (f_X9_set (w + 2) p0 (tColumn p1.toNatClampNeg) p2 σ) fun _ s3 =>
      f_X10_setToldNumber_35 w s3
theorem e_X10_setToldNumber {Γ : CX} (w : Nat) (p0 : Int32) (p1 : Int32) (p2 : Int32) (σ : St) (h : RR vU Γ (f_X10_setToldNumber w p0 p1 p2 σ)) : WW Γ cX10_setToldNumber 4 RX10 none rX10_setToldNumber σ 0 [(0, .ref (xd Γ w)), (1, .int p0), (2, .int p1), (3, .int p2)] [] := by
  unfold f_X10_setToldNumber at h
  obtain ⟨hg_w_σ, h⟩ := h.gd
  refine w_iload_n 2 dX10_setToldNumber_0 rfl rfl rfl ?_
  refine w_if_lt (tgt := 29) dX10_setToldNumber_1 (by decide) rfl (fun q => ?_) (fun q => ?_)
  · have h := h.tt q
    exact w_sub [0, 1, 3] rfl (b_X10_setToldNumber_29 w p0 p2 σ h)
  · have h := h.ff q
    refine w_iload_n 2 dX10_setToldNumber_4 rfl rfl rfl ?_
    refine w_gtc fl_RX10_116 dX10_setToldNumber_5 rfl ?_
    refine w_ltc dX10_setToldNumber_8 rfl ?_
    refine w_icmp_ge (tgt := 29) dX10_setToldNumber_9 (by decide) rfl (fun q => ?_) (fun q => ?_)
    · have h := h.tt q
      exact w_sub [0, 1, 3] rfl (b_X10_setToldNumber_29 w p0 p2 σ h)
    · have h := h.ff q
      refine w_aload_n 0 dX10_setToldNumber_12 rfl rfl rfl ?_
      refine gf_RX10_20 (i := w) hg_w_σ dX10_setToldNumber_13 rfl ?_
      refine w_iload_n 1 dX10_setToldNumber_16 rfl rfl rfl ?_
      refine w_gtc fl_RX10_116 dX10_setToldNumber_17 rfl ?_
      refine w_iload_n 2 dX10_setToldNumber_20 rfl rfl rfl ?_
      obtain ⟨hi1, h⟩ := h.gd
      refine w_itc hi1 dX10_setToldNumber_21 rfl ?_
      refine w_iload_n 3 dX10_setToldNumber_22 rfl rfl rfl ?_
      obtain ⟨r2, s3, h4, h⟩ := h.bd
      refine k_X9_set ml_RX10_106 (Nat.le_of_ble_eq_true rfl) ⟨Nat.le_of_ble_eq_true rfl, Nat.le_of_ble_eq_true rfl⟩ dX10_setToldNumber_23 rfl h4 ?_
      refine w_goto (tgt := 35) dX10_setToldNumber_26 (by decide) ?_
      exact w_sub [] rfl (b_X10_setToldNumber_35 w s3 h)
theorem c_X10_setToldNumber {l : Launch} {D : va_G} {cy : Nat → ClassId} {ad : Nat → Nat} {w : Nat} {p0 : Int32} {p1 : Int32} {p2 : Int32} {σ σ' : St} {r : Unit} (hf : f_X10_setToldNumber w p0 p1 p2 σ = some (r, σ')) : CT l D cy ad yX10_setToldNumber cX10_setToldNumber 4 none rX10_setToldNumber [.ref (ad w), .int p0, .int p1, .int p2] σ none σ' :=
  ct_of (by decide) (Nat.le_of_ble_eq_true rfl) (fun p e s m args below meth c A => e_X10_setToldNumber (Γ := (p, l, e, rX10_setToldNumber, s, m, args, below, meth, c, D, cy, ad, A, 0, 0, MQ below (QC D cy ad none σ' A) args s 0 0 A)) w p0 p1 p2 σ ⟨_, hf, rfl⟩)
theorem k_X10_setToldNumber {Γ : CX} {cc : ByteArray} {nL : Nat} {own : String} {ret : Option FieldType} {rm : Room} {σ σ' : St} {pc pc' idx : Nat} {lv : List (Nat × Value)} {rest : List Value} {w : Nat} {p0 : Int32} {p1 : Int32} {p2 : Int32} {r : Unit} (hl : Cond.methodLink own idx yX10_setToldNumber ∈ TB) (hw : (rest.map fun v => v.category).sum ≤ 8) (hR : rX10_setToldNumber.frames + 1 ≤ rm.frames ∧ 8 + (4 + 11) + rX10_setToldNumber.locals ≤ rm.locals) (hd : decode cc pc = .ok (.invokevirtual idx, 3)) (hp : pc + 3 = pc') (hf : f_X10_setToldNumber w p0 p1 p2 σ = some (r, σ')) (h : WW Γ cc nL own ret rm σ' pc' lv (rest)) : WW Γ cc nL own ret rm σ pc lv (.int p2 :: .int p1 :: .int p0 :: .ref (xd Γ w) :: rest) := by
  have hT : isW σ w = true := by
    unfold f_X10_setToldNumber at hf
    exact gd_of hf
  exact w_callV (nn := 3) (i := w) (As := [.int p0, .int p1, .int p2]) (v := none) (T := TX10) (N := 12) (c_X10_setToldNumber hf) hl mw_X10_setToldNumber (by decide +kernel) ⟨rfl, rfl⟩ hR (isW_lt hT 0 (by decide)) (cel_W hT) rfl rfl hw hd rfl hp h
/-! WarByHours.feed (IIIII)I -/
def rX11_feed : Room := { frames := 1, cells := 0, slots := 0, locals := 22 }
def f_X11_feed (p0 : Int32) (p1 : Int32) (p2 : Int32) (p3 : Int32) (p4 : Int32) (σ : St) : Option (Int32 × St) :=
  bd (f_X6_hasRoom (20 : Int32) σ) fun r1 s2 =>
  if r1 = 0 then
    some ((-1 : Int32), s2)
  else
    bd (f_X6_take p0 s2) fun _ s5 =>
    bd (f_X6_take p1 s5) fun _ s8 =>
    bd (f_X6_take p2 s8) fun _ s11 =>
    bd (f_X6_take p3 s11) fun _ s14 =>
    bd (f_X6_take p4 s14) fun _ s17 =>
    some ((gf s17 29 1), s17)
theorem e_X11_feed {Γ : CX} (p0 : Int32) (p1 : Int32) (p2 : Int32) (p3 : Int32) (p4 : Int32) (σ : St) (h : RR vI Γ (f_X11_feed p0 p1 p2 p3 p4 σ)) : WW Γ cX11_feed 6 RX11 (some .int) rX11_feed σ 0 [(0, .ref (xd Γ 0)), (1, .int p0), (2, .int p1), (3, .int p2), (4, .int p3), (5, .int p4)] [] := by
  unfold f_X11_feed at h
  refine w_aload_n 0 dX11_feed_0 rfl rfl rfl ?_
  refine gf_RX11_24 dX11_feed_1 rfl ?_
  refine w_bipush (20 : Int32) dX11_feed_4 ic_bipush_20 rfl ?_
  obtain ⟨r1, s2, h3, h⟩ := h.bd
  refine k_X6_hasRoom ml_RX11_83 (Nat.le_of_ble_eq_true rfl) ⟨Nat.le_of_ble_eq_true rfl, Nat.le_of_ble_eq_true rfl⟩ dX11_feed_6 rfl h3 ?_
  refine w_if_ne (tgt := 14) dX11_feed_9 (by decide) rfl (fun q => ?_) (fun q => ?_)
  · have h := h.ff q
    refine w_aload_n 0 dX11_feed_14 rfl rfl rfl ?_
    refine gf_RX11_24 dX11_feed_15 rfl ?_
    refine w_iload_n 1 dX11_feed_18 rfl rfl rfl ?_
    obtain ⟨r4, s5, h6, h⟩ := h.bd
    refine k_X6_take ml_RX11_87 (Nat.le_of_ble_eq_true rfl) ⟨Nat.le_of_ble_eq_true rfl, Nat.le_of_ble_eq_true rfl⟩ dX11_feed_19 rfl h6 ?_
    refine w_aload_n 0 dX11_feed_22 rfl rfl rfl ?_
    refine gf_RX11_24 dX11_feed_23 rfl ?_
    refine w_iload_n 2 dX11_feed_26 rfl rfl rfl ?_
    obtain ⟨r7, s8, h9, h⟩ := h.bd
    refine k_X6_take ml_RX11_87 (Nat.le_of_ble_eq_true rfl) ⟨Nat.le_of_ble_eq_true rfl, Nat.le_of_ble_eq_true rfl⟩ dX11_feed_27 rfl h9 ?_
    refine w_aload_n 0 dX11_feed_30 rfl rfl rfl ?_
    refine gf_RX11_24 dX11_feed_31 rfl ?_
    refine w_iload_n 3 dX11_feed_34 rfl rfl rfl ?_
    obtain ⟨r10, s11, h12, h⟩ := h.bd
    refine k_X6_take ml_RX11_87 (Nat.le_of_ble_eq_true rfl) ⟨Nat.le_of_ble_eq_true rfl, Nat.le_of_ble_eq_true rfl⟩ dX11_feed_35 rfl h12 ?_
    refine w_aload_n 0 dX11_feed_38 rfl rfl rfl ?_
    refine gf_RX11_24 dX11_feed_39 rfl ?_
    refine w_iload 4 dX11_feed_42 rfl rfl ?_
    obtain ⟨r13, s14, h15, h⟩ := h.bd
    refine k_X6_take ml_RX11_87 (Nat.le_of_ble_eq_true rfl) ⟨Nat.le_of_ble_eq_true rfl, Nat.le_of_ble_eq_true rfl⟩ dX11_feed_44 rfl h15 ?_
    refine w_aload_n 0 dX11_feed_47 rfl rfl rfl ?_
    refine gf_RX11_24 dX11_feed_48 rfl ?_
    refine w_iload 5 dX11_feed_51 rfl rfl ?_
    obtain ⟨r16, s17, h18, h⟩ := h.bd
    refine k_X6_take ml_RX11_87 (Nat.le_of_ble_eq_true rfl) ⟨Nat.le_of_ble_eq_true rfl, Nat.le_of_ble_eq_true rfl⟩ dX11_feed_53 rfl h18 ?_
    refine w_aload_n 0 dX11_feed_56 rfl rfl rfl ?_
    refine gf_RX11_24 dX11_feed_57 rfl ?_
    refine gf_RX11_91 dX11_feed_60 rfl ?_
    exact w_ireturn dX11_feed_63 h
  · have h := h.tt q
    refine w_iconst (-1 : Int32) dX11_feed_12 ic_iconst_m1 rfl ?_
    exact w_ireturn dX11_feed_13 h
theorem c_X11_feed {l : Launch} {D : va_G} {cy : Nat → ClassId} {ad : Nat → Nat} {p0 : Int32} {p1 : Int32} {p2 : Int32} {p3 : Int32} {p4 : Int32} {σ σ' : St} {r : Int32} (hf : f_X11_feed p0 p1 p2 p3 p4 σ = some (r, σ')) : CT l D cy ad yX11_feed cX11_feed 6 (some .int) rX11_feed [.ref (ad 0), .int p0, .int p1, .int p2, .int p3, .int p4] σ (some (.int r)) σ' :=
  ct_of (by decide) (Nat.le_of_ble_eq_true rfl) (fun p e s m args below meth c A => e_X11_feed (Γ := (p, l, e, rX11_feed, s, m, args, below, meth, c, D, cy, ad, A, 0, 0, MQ below (QC D cy ad (some (.int r)) σ' A) args s 0 0 A)) p0 p1 p2 p3 p4 σ ⟨_, hf, rfl⟩)
theorem k_X11_feed {Γ : CX} {cc : ByteArray} {nL : Nat} {own : String} {ret : Option FieldType} {rm : Room} {σ σ' : St} {pc pc' idx : Nat} {lv : List (Nat × Value)} {rest : List Value} {p0 : Int32} {p1 : Int32} {p2 : Int32} {p3 : Int32} {p4 : Int32} {r : Int32} (hl : Cond.methodLink own idx yX11_feed ∈ TB) (hw : (rest.map fun v => v.category).sum ≤ 8) (hR : rX11_feed.frames + 1 ≤ rm.frames ∧ 8 + (6 + 11) + rX11_feed.locals ≤ rm.locals) (hd : decode cc pc = .ok (.invokevirtual idx, 3)) (hp : pc + 3 = pc') (hf : f_X11_feed p0 p1 p2 p3 p4 σ = some (r, σ')) (h : WW Γ cc nL own ret rm σ' pc' lv (.int r :: rest)) : WW Γ cc nL own ret rm σ pc lv (.int p4 :: .int p3 :: .int p2 :: .int p1 :: .int p0 :: .ref (xd Γ 0) :: rest) :=
  w_callV (nn := 5) (i := 0) (As := [.int p0, .int p1, .int p2, .int p3, .int p4]) (v := (some (.int r))) (T := TX11) (N := 11) (c_X11_feed hf) hl mw_X11_feed (by decide +kernel) ⟨rfl, rfl⟩ hR (lt_lit (by decide)) cel_0 rfl rfl hw hd rfl hp h
/-! WarByHours.end (I)I -/
def rX11_end : Room := { frames := 1, cells := 0, slots := 0, locals := 21 }
def f_X11_end_16 (k0 : Int32) (σ : St) : Option (Int32 × St) :=
  some (k0, σ)
theorem b_X11_end_16 {Γ : CX} (k0 : Int32) (σ : St) (h : RR vI Γ (f_X11_end_16 k0 σ)) : WW Γ cX11_end 2 RX11 (some .int) rX11_end σ 16 [] [.int k0] := by
  unfold f_X11_end_16 at h
  exact w_ireturn dX11_end_16 h
def f_X11_end (p0 : Int32) (σ : St) : Option (Int32 × St) :=
  bd (f_X6_cut p0 σ) fun r1 s2 =>
  if r1 = 0 then
    f_X11_end_16 (-1 : Int32) s2
  else
    f_X11_end_16 p0 s2
theorem e_X11_end {Γ : CX} (p0 : Int32) (σ : St) (h : RR vI Γ (f_X11_end p0 σ)) : WW Γ cX11_end 2 RX11 (some .int) rX11_end σ 0 [(0, .ref (xd Γ 0)), (1, .int p0)] [] := by
  unfold f_X11_end at h
  refine w_aload_n 0 dX11_end_0 rfl rfl rfl ?_
  refine gf_RX11_24 dX11_end_1 rfl ?_
  refine w_iload_n 1 dX11_end_4 rfl rfl rfl ?_
  obtain ⟨r1, s2, h3, h⟩ := h.bd
  refine k_X6_cut ml_RX11_95 (Nat.le_of_ble_eq_true rfl) ⟨Nat.le_of_ble_eq_true rfl, Nat.le_of_ble_eq_true rfl⟩ dX11_end_5 rfl h3 ?_
  refine w_if_eq (tgt := 15) dX11_end_8 (by decide) rfl (fun q => ?_) (fun q => ?_)
  · have h := h.tt q
    refine w_iconst (-1 : Int32) dX11_end_15 ic_iconst_m1 rfl ?_
    exact w_sub [] rfl (b_X11_end_16 (-1 : Int32) s2 h)
  · have h := h.ff q
    refine w_iload_n 1 dX11_end_11 rfl rfl rfl ?_
    refine w_goto (tgt := 16) dX11_end_12 (by decide) ?_
    exact w_sub [] rfl (b_X11_end_16 p0 s2 h)
theorem c_X11_end {l : Launch} {D : va_G} {cy : Nat → ClassId} {ad : Nat → Nat} {p0 : Int32} {σ σ' : St} {r : Int32} (hf : f_X11_end p0 σ = some (r, σ')) : CT l D cy ad yX11_end cX11_end 2 (some .int) rX11_end [.ref (ad 0), .int p0] σ (some (.int r)) σ' :=
  ct_of (by decide) (Nat.le_of_ble_eq_true rfl) (fun p e s m args below meth c A => e_X11_end (Γ := (p, l, e, rX11_end, s, m, args, below, meth, c, D, cy, ad, A, 0, 0, MQ below (QC D cy ad (some (.int r)) σ' A) args s 0 0 A)) p0 σ ⟨_, hf, rfl⟩)
theorem k_X11_end {Γ : CX} {cc : ByteArray} {nL : Nat} {own : String} {ret : Option FieldType} {rm : Room} {σ σ' : St} {pc pc' idx : Nat} {lv : List (Nat × Value)} {rest : List Value} {p0 : Int32} {r : Int32} (hl : Cond.methodLink own idx yX11_end ∈ TB) (hw : (rest.map fun v => v.category).sum ≤ 8) (hR : rX11_end.frames + 1 ≤ rm.frames ∧ 8 + (2 + 11) + rX11_end.locals ≤ rm.locals) (hd : decode cc pc = .ok (.invokevirtual idx, 3)) (hp : pc + 3 = pc') (hf : f_X11_end p0 σ = some (r, σ')) (h : WW Γ cc nL own ret rm σ' pc' lv (.int r :: rest)) : WW Γ cc nL own ret rm σ pc lv (.int p0 :: .ref (xd Γ 0) :: rest) :=
  w_callV (nn := 1) (i := 0) (As := [.int p0]) (v := (some (.int r))) (T := TX11) (N := 11) (c_X11_end hf) hl mw_X11_end (by decide +kernel) ⟨rfl, rfl⟩ hR (lt_lit (by decide)) cel_0 rfl rfl hw hd rfl hp h
/-! WarByHours.fault (I)I -/
def rX11_fault : Room := { frames := 0, cells := 0, slots := 0, locals := 0 }
def f_X11_fault (p0 : Int32) (σ : St) : Option (Int32 × St) :=
  if p0 = (0 : Int32) then
    some ((gf σ 29 2), σ)
  else
  if p0 = (1 : Int32) then
    some ((gf σ 29 3), σ)
  else
    some ((-1 : Int32), σ)
theorem e_X11_fault {Γ : CX} (p0 : Int32) (σ : St) (h : RR vI Γ (f_X11_fault p0 σ)) : WW Γ cX11_fault 2 RX11 (some .int) rX11_fault σ 0 [(0, .ref (xd Γ 0)), (1, .int p0)] [] := by
  unfold f_X11_fault at h
  refine w_iload_n 1 dX11_fault_0 rfl rfl rfl ?_
  by_cases q0 : p0 = (0 : Int32)
  · have h := h.tt q0
    refine w_lsw (0 : Int32) q0 (tgt := 28) dX11_fault_1 (by decide) rfl (by decide) ?_
    refine w_aload_n 0 dX11_fault_28 rfl rfl rfl ?_
    refine gf_RX11_24 dX11_fault_29 rfl ?_
    refine gf_RX11_101 dX11_fault_32 rfl ?_
    exact w_ireturn dX11_fault_35 h
  have h := h.ff q0
  by_cases q1 : p0 = (1 : Int32)
  · have h := h.tt q1
    refine w_lsw (1 : Int32) q1 (tgt := 36) dX11_fault_1 (by decide) rfl (by decide) ?_
    refine w_aload_n 0 dX11_fault_36 rfl rfl rfl ?_
    refine gf_RX11_24 dX11_fault_37 rfl ?_
    refine gf_RX11_113 dX11_fault_40 rfl ?_
    exact w_ireturn dX11_fault_43 h
  have h := h.ff q1
  refine w_lookup (tgt := 44) (off := 43) dX11_fault_1 (by decide) (by simp [Op.lookupswitch.offset, i32_en q0 (z := 0) rfl, i32_en q1 (z := 1) rfl]) (by decide) ?_
  refine w_iconst (-1 : Int32) dX11_fault_44 ic_iconst_m1 rfl ?_
  exact w_ireturn dX11_fault_45 h
theorem c_X11_fault {l : Launch} {D : va_G} {cy : Nat → ClassId} {ad : Nat → Nat} {p0 : Int32} {σ σ' : St} {r : Int32} (hf : f_X11_fault p0 σ = some (r, σ')) : CT l D cy ad yX11_fault cX11_fault 2 (some .int) rX11_fault [.ref (ad 0), .int p0] σ (some (.int r)) σ' :=
  ct_of (by decide) (Nat.le_of_ble_eq_true rfl) (fun p e s m args below meth c A => e_X11_fault (Γ := (p, l, e, rX11_fault, s, m, args, below, meth, c, D, cy, ad, A, 0, 0, MQ below (QC D cy ad (some (.int r)) σ' A) args s 0 0 A)) p0 σ ⟨_, hf, rfl⟩)
theorem k_X11_fault {Γ : CX} {cc : ByteArray} {nL : Nat} {own : String} {ret : Option FieldType} {rm : Room} {σ σ' : St} {pc pc' idx : Nat} {lv : List (Nat × Value)} {rest : List Value} {p0 : Int32} {r : Int32} (hl : Cond.methodLink own idx yX11_fault ∈ TB) (hw : (rest.map fun v => v.category).sum ≤ 8) (hR : rX11_fault.frames + 1 ≤ rm.frames ∧ 8 + (2 + 11) + rX11_fault.locals ≤ rm.locals) (hd : decode cc pc = .ok (.invokevirtual idx, 3)) (hp : pc + 3 = pc') (hf : f_X11_fault p0 σ = some (r, σ')) (h : WW Γ cc nL own ret rm σ' pc' lv (.int r :: rest)) : WW Γ cc nL own ret rm σ pc lv (.int p0 :: .ref (xd Γ 0) :: rest) :=
  w_callV (nn := 1) (i := 0) (As := [.int p0]) (v := (some (.int r))) (T := TX11) (N := 11) (c_X11_fault hf) hl mw_X11_fault (by decide +kernel) ⟨rfl, rfl⟩ hR (lt_lit (by decide)) cel_0 rfl rfl hw hd rfl hp h
