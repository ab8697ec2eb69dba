def rX10_init : Room := { frames := 2, cells := 13, slots := 313, locals := 45 }
theorem mw_X10_init : Cond.instanceMethod yX10_init ∈ TB ∧ Cond.initialized yX10_init.cls ∈ TB ∧ Cond.code yX10_init cX10_init 1 none ∈ TB := ⟨tb_m (bk_1 (List.mem_of_getElem? (i := 33) rfl)) rfl, tb_m (bk_1 (List.mem_of_getElem? (i := 2) rfl)) rfl, tb_m (bk_1 (List.mem_of_getElem? (i := 34) rfl)) rfl⟩
set_option maxHeartbeats 4000000 in
set_option maxRecDepth 40000 in
theorem c_X10_init {l : Launch} {D : va_G} {cy : Nat → ClassId} {ad : Nat → Nat} {ws : va_W} {k a : Nat} (hk : k < ws.length) : CN l D cy ad yX10_init cX10_init 1 rX10_init [.ref a] (cf ws k (a, .inr (9, [.int 0, .int 0, .int 0, .int 0, .int 0, .null, .null, .null, .null, .null, .null, .null])) []) (fun qs => cf ws k (a, .inr (9, [.int 0, .int 0, .int 0, .int 0, .int 0, .ref (qs 0), .ref (qs 1), .ref (qs 3), .ref (qs 5), .ref (qs 7), .ref (qs 9), .ref (qs 11)])) [((qs 0), .inl (cy 13, 2, .inl dfI)), ((qs 1), .inr (8, [.int (6 : Int32), .int (9 : Int32), .ref (qs 2), .int 0])), ((qs 2), .inl (cy 13, 54, .inl dfI)), ((qs 3), .inr (8, [.int (2 : Int32), .int (4 : Int32), .ref (qs 4), .int 0])), ((qs 4), .inl (cy 13, 8, .inl dfI)), ((qs 5), .inr (8, [.int (4 : Int32), .int (8 : Int32), .ref (qs 6), .int 0])), ((qs 6), .inl (cy 13, 32, .inl dfI)), ((qs 7), .inr (8, [.int (2 : Int32), .int (4 : Int32), .ref (qs 8), .int 0])), ((qs 8), .inl (cy 13, 8, .inl dfI)), ((qs 9), .inr (8, [.int (1 : Int32), .int (5 : Int32), .ref (qs 10), .int 0])), ((qs 10), .inl (cy 13, 5, .inl dfI)), ((qs 11), .inr (8, [.int (3 : Int32), .int (60 : Int32), .ref (qs 12), .int 0])), ((qs 12), .inl (cy 13, 180, .inl dfI))]) := by
  refine cn_of (by decide) rfl (Nat.le_of_ble_eq_true rfl) (fun p e s m args below meth c A hin => ?_)
  refine w_aload_n 0 dX10_init_0 rfl rfl rfl ?_
  refine l_obj ml_RX10_3 oi_w (Nat.le_of_ble_eq_true rfl) ⟨Nat.le_of_ble_eq_true rfl, Nat.le_of_ble_eq_true rfl⟩ dX10_init_1 rfl ?_
  refine w_aload_n 0 dX10_init_4 rfl rfl rfl ?_
  refine w_iconst (2 : Int32) dX10_init_5 ic_iconst_2 rfl ?_
  refine l_newI 2 ac_int (by decide) (by decide +kernel) (by decide) ⟨Nat.le_of_ble_eq_true rfl, Nat.le_of_ble_eq_true rfl⟩ dX10_init_6 rfl (fun q6 => ?_)
  refine w_G (Γ' := (p, l, e, rX10_init, s, m, args, below, meth, c, D, cy, ad, A, 1, 2, _)) rfl ?_
  refine l_putF (j := 5) (C := RX10) (Tt := TX10) (N := 12) (ty := (.array .int)) tyX10 hk rfl (by decide) inT_X10 fl_RX10_9 rfl tyX10_ok nmX10 rfl hin rfl (by decide +kernel) rfl rfl (Nat.le_of_ble_eq_true rfl) dX10_init_8 rfl ?_
  refine w_W (ws' := cf ws k (a, .inr (9, [.int 0, .int 0, .int 0, .int 0, .int 0, .ref q6, .null, .null, .null, .null, .null, .null])) [(q6, .inl (cy 13, 2, .inl dfI))]) rfl ?_
  refine w_aload_n 0 dX10_init_11 rfl rfl rfl ?_
  refine l_new (ci := 8) [.int 0, .int 0, .null, .int 0] tyX9 rfl inT_X9 tyX9_ok ⟨kl_RX10_15, is_X9⟩ df_X9 ⟨Nat.le_of_ble_eq_true rfl, Nat.le_of_ble_eq_true rfl⟩ dX10_init_12 rfl (fun q12 => ?_)
  refine w_G (Γ' := (p, l, e, rX10_init, s, m, args, below, meth, c, D, cy, ad, A, 2, 6, _)) rfl ?_
  refine w_dup dX10_init_15 rfl rfl ?_
  refine w_bipush (9 : Int32) dX10_init_16 ic_bipush_9 rfl ?_
  refine w_bipush (6 : Int32) dX10_init_18 ic_bipush_6 rfl ?_
  refine k_X9_init_9_6 ml_RX10_17 (Nat.le_of_ble_eq_true rfl) ⟨Nat.le_of_ble_eq_true rfl, Nat.le_of_ble_eq_true rfl⟩ ⟨Nat.le_of_ble_eq_true rfl, Nat.le_of_ble_eq_true rfl⟩ dX10_init_20 rfl (fun u20 => ?_)
  refine w_G (Γ' := (p, l, e, rX10_init, s, m, args, below, meth, c, D, cy, ad, A, 3, 60, _)) rfl ?_
  refine l_putF (j := 6) (C := RX10) (Tt := TX10) (N := 12) (ty := (.object RX9)) tyX10 hk rfl (by decide) inT_X10 fl_RX10_20 rfl tyX10_ok nmX10 rfl hin rfl (by decide +kernel) rfl rfl (Nat.le_of_ble_eq_true rfl) dX10_init_23 rfl ?_
  refine w_W (ws' := cf ws k (a, .inr (9, [.int 0, .int 0, .int 0, .int 0, .int 0, .ref q6, .ref q12, .null, .null, .null, .null, .null])) [(q6, .inl (cy 13, 2, .inl dfI)), (q12, .inr (8, [.int (6 : Int32), .int (9 : Int32), .ref (u20 0), .int 0])), ((u20 0), .inl (cy 13, 54, .inl dfI))]) rfl ?_
  refine w_aload_n 0 dX10_init_26 rfl rfl rfl ?_
  refine l_new (ci := 8) [.int 0, .int 0, .null, .int 0] tyX9 rfl inT_X9 tyX9_ok ⟨kl_RX10_15, is_X9⟩ df_X9 ⟨Nat.le_of_ble_eq_true rfl, Nat.le_of_ble_eq_true rfl⟩ dX10_init_27 rfl (fun q27 => ?_)
  refine w_G (Γ' := (p, l, e, rX10_init, s, m, args, below, meth, c, D, cy, ad, A, 4, 64, _)) rfl ?_
  refine w_dup dX10_init_30 rfl rfl ?_
  refine w_iconst (4 : Int32) dX10_init_31 ic_iconst_4 rfl ?_
  refine w_iconst (2 : Int32) dX10_init_32 ic_iconst_2 rfl ?_
  refine k_X9_init_4_2 ml_RX10_17 (Nat.le_of_ble_eq_true rfl) ⟨Nat.le_of_ble_eq_true rfl, Nat.le_of_ble_eq_true rfl⟩ ⟨Nat.le_of_ble_eq_true rfl, Nat.le_of_ble_eq_true rfl⟩ dX10_init_33 rfl (fun u33 => ?_)
  refine w_G (Γ' := (p, l, e, rX10_init, s, m, args, below, meth, c, D, cy, ad, A, 5, 72, _)) rfl ?_
  refine l_putF (j := 7) (C := RX10) (Tt := TX10) (N := 12) (ty := (.object RX9)) tyX10 hk rfl (by decide) inT_X10 fl_RX10_24 rfl tyX10_ok nmX10 rfl hin rfl (by decide +kernel) rfl rfl (Nat.le_of_ble_eq_true rfl) dX10_init_36 rfl ?_
  refine w_W (ws' := cf ws k (a, .inr (9, [.int 0, .int 0, .int 0, .int 0, .int 0, .ref q6, .ref q12, .ref q27, .null, .null, .null, .null])) [(q6, .inl (cy 13, 2, .inl dfI)), (q12, .inr (8, [.int (6 : Int32), .int (9 : Int32), .ref (u20 0), .int 0])), ((u20 0), .inl (cy 13, 54, .inl dfI)), (q27, .inr (8, [.int (2 : Int32), .int (4 : Int32), .ref (u33 0), .int 0])), ((u33 0), .inl (cy 13, 8, .inl dfI))]) rfl ?_
  refine w_aload_n 0 dX10_init_39 rfl rfl rfl ?_
  refine l_new (ci := 8) [.int 0, .int 0, .null, .int 0] tyX9 rfl inT_X9 tyX9_ok ⟨kl_RX10_15, is_X9⟩ df_X9 ⟨Nat.le_of_ble_eq_true rfl, Nat.le_of_ble_eq_true rfl⟩ dX10_init_40 rfl (fun q40 => ?_)
  refine w_G (Γ' := (p, l, e, rX10_init, s, m, args, below, meth, c, D, cy, ad, A, 6, 76, _)) rfl ?_
  refine w_dup dX10_init_43 rfl rfl ?_
  refine w_bipush (8 : Int32) dX10_init_44 ic_bipush_8 rfl ?_
  refine w_iconst (4 : Int32) dX10_init_46 ic_iconst_4 rfl ?_
  refine k_X9_init_8_4 ml_RX10_17 (Nat.le_of_ble_eq_true rfl) ⟨Nat.le_of_ble_eq_true rfl, Nat.le_of_ble_eq_true rfl⟩ ⟨Nat.le_of_ble_eq_true rfl, Nat.le_of_ble_eq_true rfl⟩ dX10_init_47 rfl (fun u47 => ?_)
  refine w_G (Γ' := (p, l, e, rX10_init, s, m, args, below, meth, c, D, cy, ad, A, 7, 108, _)) rfl ?_
  refine l_putF (j := 8) (C := RX10) (Tt := TX10) (N := 12) (ty := (.object RX9)) tyX10 hk rfl (by decide) inT_X10 fl_RX10_27 rfl tyX10_ok nmX10 rfl hin rfl (by decide +kernel) rfl rfl (Nat.le_of_ble_eq_true rfl) dX10_init_50 rfl ?_
  refine w_W (ws' := cf ws k (a, .inr (9, [.int 0, .int 0, .int 0, .int 0, .int 0, .ref q6, .ref q12, .ref q27, .ref q40, .null, .null, .null])) [(q6, .inl (cy 13, 2, .inl dfI)), (q12, .inr (8, [.int (6 : Int32), .int (9 : Int32), .ref (u20 0), .int 0])), ((u20 0), .inl (cy 13, 54, .inl dfI)), (q27, .inr (8, [.int (2 : Int32), .int (4 : Int32), .ref (u33 0), .int 0])), ((u33 0), .inl (cy 13, 8, .inl dfI)), (q40, .inr (8, [.int (4 : Int32), .int (8 : Int32), .ref (u47 0), .int 0])), ((u47 0), .inl (cy 13, 32, .inl dfI))]) rfl ?_
  refine w_aload_n 0 dX10_init_53 rfl rfl rfl ?_
  refine l_new (ci := 8) [.int 0, .int 0, .null, .int 0] tyX9 rfl inT_X9 tyX9_ok ⟨kl_RX10_15, is_X9⟩ df_X9 ⟨Nat.le_of_ble_eq_true rfl, Nat.le_of_ble_eq_true rfl⟩ dX10_init_54 rfl (fun q54 => ?_)
  refine w_G (Γ' := (p, l, e, rX10_init, s, m, args, below, meth, c, D, cy, ad, A, 8, 112, _)) rfl ?_
  refine w_dup dX10_init_57 rfl rfl ?_
  refine w_iconst (4 : Int32) dX10_init_58 ic_iconst_4 rfl ?_
  refine w_iconst (2 : Int32) dX10_init_59 ic_iconst_2 rfl ?_
  refine k_X9_init_4_2 ml_RX10_17 (Nat.le_of_ble_eq_true rfl) ⟨Nat.le_of_ble_eq_true rfl, Nat.le_of_ble_eq_true rfl⟩ ⟨Nat.le_of_ble_eq_true rfl, Nat.le_of_ble_eq_true rfl⟩ dX10_init_60 rfl (fun u60 => ?_)
  refine w_G (Γ' := (p, l, e, rX10_init, s, m, args, below, meth, c, D, cy, ad, A, 9, 120, _)) rfl ?_
  refine l_putF (j := 9) (C := RX10) (Tt := TX10) (N := 12) (ty := (.object RX9)) tyX10 hk rfl (by decide) inT_X10 fl_RX10_30 rfl tyX10_ok nmX10 rfl hin rfl (by decide +kernel) rfl rfl (Nat.le_of_ble_eq_true rfl) dX10_init_63 rfl ?_
  refine w_W (ws' := cf ws k (a, .inr (9, [.int 0, .int 0, .int 0, .int 0, .int 0, .ref q6, .ref q12, .ref q27, .ref q40, .ref q54, .null, .null])) [(q6, .inl (cy 13, 2, .inl dfI)), (q12, .inr (8, [.int (6 : Int32), .int (9 : Int32), .ref (u20 0), .int 0])), ((u20 0), .inl (cy 13, 54, .inl dfI)), (q27, .inr (8, [.int (2 : Int32), .int (4 : Int32), .ref (u33 0), .int 0])), ((u33 0), .inl (cy 13, 8, .inl dfI)), (q40, .inr (8, [.int (4 : Int32), .int (8 : Int32), .ref (u47 0), .int 0])), ((u47 0), .inl (cy 13, 32, .inl dfI)), (q54, .inr (8, [.int (2 : Int32), .int (4 : Int32), .ref (u60 0), .int 0])), ((u60 0), .inl (cy 13, 8, .inl dfI))]) rfl ?_
  refine w_aload_n 0 dX10_init_66 rfl rfl rfl ?_
  refine l_new (ci := 8) [.int 0, .int 0, .null, .int 0] tyX9 rfl inT_X9 tyX9_ok ⟨kl_RX10_15, is_X9⟩ df_X9 ⟨Nat.le_of_ble_eq_true rfl, Nat.le_of_ble_eq_true rfl⟩ dX10_init_67 rfl (fun q67 => ?_)
  refine w_G (Γ' := (p, l, e, rX10_init, s, m, args, below, meth, c, D, cy, ad, A, 10, 124, _)) rfl ?_
  refine w_dup dX10_init_70 rfl rfl ?_
  refine w_iconst (5 : Int32) dX10_init_71 ic_iconst_5 rfl ?_
  refine w_iconst (1 : Int32) dX10_init_72 ic_iconst_1 rfl ?_
  refine k_X9_init_5_1 ml_RX10_17 (Nat.le_of_ble_eq_true rfl) ⟨Nat.le_of_ble_eq_true rfl, Nat.le_of_ble_eq_true rfl⟩ ⟨Nat.le_of_ble_eq_true rfl, Nat.le_of_ble_eq_true rfl⟩ dX10_init_73 rfl (fun u73 => ?_)
  refine w_G (Γ' := (p, l, e, rX10_init, s, m, args, below, meth, c, D, cy, ad, A, 11, 129, _)) rfl ?_
  refine l_putF (j := 10) (C := RX10) (Tt := TX10) (N := 12) (ty := (.object RX9)) tyX10 hk rfl (by decide) inT_X10 fl_RX10_33 rfl tyX10_ok nmX10 rfl hin rfl (by decide +kernel) rfl rfl (Nat.le_of_ble_eq_true rfl) dX10_init_76 rfl ?_
  refine w_W (ws' := cf ws k (a, .inr (9, [.int 0, .int 0, .int 0, .int 0, .int 0, .ref q6, .ref q12, .ref q27, .ref q40, .ref q54, .ref q67, .null])) [(q6, .inl (cy 13, 2, .inl dfI)), (q12, .inr (8, [.int (6 : Int32), .int (9 : Int32), .ref (u20 0), .int 0])), ((u20 0), .inl (cy 13, 54, .inl dfI)), (q27, .inr (8, [.int (2 : Int32), .int (4 : Int32), .ref (u33 0), .int 0])), ((u33 0), .inl (cy 13, 8, .inl dfI)), (q40, .inr (8, [.int (4 : Int32), .int (8 : Int32), .ref (u47 0), .int 0])), ((u47 0), .inl (cy 13, 32, .inl dfI)), (q54, .inr (8, [.int (2 : Int32), .int (4 : Int32), .ref (u60 0), .int 0])), ((u60 0), .inl (cy 13, 8, .inl dfI)), (q67, .inr (8, [.int (1 : Int32), .int (5 : Int32), .ref (u73 0), .int 0])), ((u73 0), .inl (cy 13, 5, .inl dfI))]) rfl ?_
  refine w_aload_n 0 dX10_init_79 rfl rfl rfl ?_
  refine l_new (ci := 8) [.int 0, .int 0, .null, .int 0] tyX9 rfl inT_X9 tyX9_ok ⟨kl_RX10_15, is_X9⟩ df_X9 ⟨Nat.le_of_ble_eq_true rfl, Nat.le_of_ble_eq_true rfl⟩ dX10_init_80 rfl (fun q80 => ?_)
  refine w_G (Γ' := (p, l, e, rX10_init, s, m, args, below, meth, c, D, cy, ad, A, 12, 133, _)) rfl ?_
  refine w_dup dX10_init_83 rfl rfl ?_
  refine w_bipush (60 : Int32) dX10_init_84 ic_bipush_60 rfl ?_
  refine w_iconst (3 : Int32) dX10_init_86 ic_iconst_3 rfl ?_
  refine k_X9_init_60_3 ml_RX10_17 (Nat.le_of_ble_eq_true rfl) ⟨Nat.le_of_ble_eq_true rfl, Nat.le_of_ble_eq_true rfl⟩ ⟨Nat.le_of_ble_eq_true rfl, Nat.le_of_ble_eq_true rfl⟩ dX10_init_87 rfl (fun u87 => ?_)
  refine w_G (Γ' := (p, l, e, rX10_init, s, m, args, below, meth, c, D, cy, ad, A, 13, 313, _)) rfl ?_
  refine l_putF (j := 11) (C := RX10) (Tt := TX10) (N := 12) (ty := (.object RX9)) tyX10 hk rfl (by decide) inT_X10 fl_RX10_36 rfl tyX10_ok nmX10 rfl hin rfl (by decide +kernel) rfl rfl (Nat.le_of_ble_eq_true rfl) dX10_init_90 rfl ?_
  refine w_W (ws' := cf ws k (a, .inr (9, [.int 0, .int 0, .int 0, .int 0, .int 0, .ref q6, .ref q12, .ref q27, .ref q40, .ref q54, .ref q67, .ref q80])) [(q6, .inl (cy 13, 2, .inl dfI)), (q12, .inr (8, [.int (6 : Int32), .int (9 : Int32), .ref (u20 0), .int 0])), ((u20 0), .inl (cy 13, 54, .inl dfI)), (q27, .inr (8, [.int (2 : Int32), .int (4 : Int32), .ref (u33 0), .int 0])), ((u33 0), .inl (cy 13, 8, .inl dfI)), (q40, .inr (8, [.int (4 : Int32), .int (8 : Int32), .ref (u47 0), .int 0])), ((u47 0), .inl (cy 13, 32, .inl dfI)), (q54, .inr (8, [.int (2 : Int32), .int (4 : Int32), .ref (u60 0), .int 0])), ((u60 0), .inl (cy 13, 8, .inl dfI)), (q67, .inr (8, [.int (1 : Int32), .int (5 : Int32), .ref (u73 0), .int 0])), ((u73 0), .inl (cy 13, 5, .inl dfI)), (q80, .inr (8, [.int (3 : Int32), .int (60 : Int32), .ref (u87 0), .int 0])), ((u87 0), .inl (cy 13, 180, .inl dfI))]) rfl ?_
  exact l_return (fun i => [q6, q12, (u20 0), q27, (u33 0), q40, (u47 0), q54, (u60 0), q67, (u73 0), q80, (u87 0)].getD i 0) rfl rfl dX10_init_93
theorem k_X10_init {Γ : CX} {cc : ByteArray} {nL : Nat} {own : String} {ret : Option FieldType} {rm : Room} {ws L : va_W} {k q : Nat} {T : Nat × va_E} {pc pc' idx : Nat} {lv : List (Nat × Value)} {rest : List Value} (hl : SR (xd Γ) (xs Γ) → va_Nw (.methodLinkNest own idx yX10_init RX11) (xs Γ)) (hw : (rest.map fun v => v.category).sum ≤ 8) (hR : rX10_init.frames + 1 ≤ rm.frames ∧ 8 + (1 + 11) + rX10_init.locals ≤ rm.locals) (hR2 : xk Γ + rX10_init.cells ≤ rm.cells ∧ xn Γ + rX10_init.slots ≤ rm.slots) (hd : decode cc pc = .ok (.invokespecial idx, 3)) (hp : pc + 3 = pc') (h : ∀ qs : Nat → Nat, WL (bump Γ rX10_init.cells rX10_init.slots) cc nL own ret rm (cf ws k T (L ++ [(q, .inr (9, [.int 0, .int 0, .int 0, .int 0, .int 0, .ref (qs 0), .ref (qs 1), .ref (qs 3), .ref (qs 5), .ref (qs 7), .ref (qs 9), .ref (qs 11)]))] ++ [((qs 0), .inl (xy Γ 13, 2, .inl dfI)), ((qs 1), .inr (8, [.int (6 : Int32), .int (9 : Int32), .ref (qs 2), .int 0])), ((qs 2), .inl (xy Γ 13, 54, .inl dfI)), ((qs 3), .inr (8, [.int (2 : Int32), .int (4 : Int32), .ref (qs 4), .int 0])), ((qs 4), .inl (xy Γ 13, 8, .inl dfI)), ((qs 5), .inr (8, [.int (4 : Int32), .int (8 : Int32), .ref (qs 6), .int 0])), ((qs 6), .inl (xy Γ 13, 32, .inl dfI)), ((qs 7), .inr (8, [.int (2 : Int32), .int (4 : Int32), .ref (qs 8), .int 0])), ((qs 8), .inl (xy Γ 13, 8, .inl dfI)), ((qs 9), .inr (8, [.int (1 : Int32), .int (5 : Int32), .ref (qs 10), .int 0])), ((qs 10), .inl (xy Γ 13, 5, .inl dfI)), ((qs 11), .inr (8, [.int (3 : Int32), .int (60 : Int32), .ref (qs 12), .int 0])), ((qs 12), .inl (xy Γ 13, 180, .inl dfI))])) pc' lv rest) : WL Γ cc nL own ret rm (cf ws k T (L ++ [(q, .inr (9, [.int 0, .int 0, .int 0, .int 0, .int 0, .null, .null, .null, .null, .null, .null, .null]))])) pc lv (.ref q :: rest) := by
  have hc := c_X10_init (l := xl Γ) (D := xD Γ) (cy := xy Γ) (ad := xd Γ) (ws := cf ws k T (L ++ [(q, .inr (9, [.int 0, .int 0, .int 0, .int 0, .int 0, .null, .null, .null, .null, .null, .null, .null]))])) (k := (cf ws k T L).length) (a := q) (by simp [cf])
  rw [cf_self cf_last] at hc
  simp only [cf_last_set] at hc
  exact l_callN (host := RX11) (nn := 0) (As := []) (rest := rest) hc hl mw_X10_init rfl (by decide +kernel) hR hR2 rfl hw hd rfl hp h
