def rX6_init : Room := { frames := 1, cells := 1, slots := 1200, locals := 20 }
set_option maxRecDepth 8000 in
theorem mw_X6_init : Cond.instanceMethod yX6_init ∈ TB ∧ Cond.initialized yX6_init.cls ∈ TB ∧ Cond.code yX6_init cX6_init 2 none ∈ TB := ⟨tb_m (bk_1 (List.mem_of_getElem? (i := 141) rfl)) rfl, tb_m (bk_1 (List.mem_of_getElem? (i := 5) rfl)) rfl, tb_m (bk_1 (List.mem_of_getElem? (i := 142) rfl)) rfl⟩
set_option maxHeartbeats 4000000 in
set_option maxRecDepth 40000 in
theorem c_X6_init {l : Launch} {D : va_G} {cy : Nat → ClassId} {ad : Nat → Nat} {ws : va_W} {k a : Nat} {r0 : Nat} (hk : k < ws.length) : CN l D cy ad yX6_init cX6_init 2 rX6_init [.ref a, .ref r0] (cf ws k (a, .inr (5, [.null, .int 0, .int 0, .int 0, .null, .int 0, .int 0, .int 0, .int 0])) []) (fun qs => cf ws k (a, .inr (5, [.ref (qs 0), .int 0, .int 0, .int (-1 : Int32), .ref r0, .int 0, .int 0, .int 0, .int 0])) [((qs 0), .inl (cy 12, 1200, .inl dfI))]) := by
  refine cn_of (by decide) rfl (Nat.le_of_ble_eq_true rfl) (fun p e s m args below meth c A hin => ?_)
  refine w_aload_n 0 dX6_init_0 rfl rfl rfl ?_
  refine l_obj ml_RX6_3 oi_w (Nat.le_of_ble_eq_true rfl) ⟨Nat.le_of_ble_eq_true rfl, Nat.le_of_ble_eq_true rfl⟩ dX6_init_1 rfl ?_
  refine w_aload_n 0 dX6_init_4 rfl rfl rfl ?_
  refine w_sipush (1200 : Int32) dX6_init_5 ic_sipush_1200 rfl ?_
  refine l_newB 1200 ac_byte (by decide) (by decide +kernel) (by decide) ⟨Nat.le_of_ble_eq_true rfl, Nat.le_of_ble_eq_true rfl⟩ dX6_init_8 rfl (fun q8 => ?_)
  refine w_G (Γ' := (p, l, e, rX6_init, s, m, args, below, meth, c, D, cy, ad, A, 1, 1200, _)) rfl ?_
  refine l_putF (j := 0) (C := RX6) (Tt := TX6) (N := 9) (ty := (.array .byte)) tyX6 hk rfl (by decide) inT_X6 fl_RX6_9 rfl tyX6_ok nmX6 rfl hin rfl (by decide +kernel) rfl rfl (Nat.le_of_ble_eq_true rfl) dX6_init_10 rfl ?_
  refine w_W (ws' := cf ws k (a, .inr (5, [.ref q8, .int 0, .int 0, .int 0, .null, .int 0, .int 0, .int 0, .int 0])) [(q8, .inl (cy 12, 1200, .inl dfI))]) rfl ?_
  refine w_aload_n 0 dX6_init_13 rfl rfl rfl ?_
  refine w_iconst (-1 : Int32) dX6_init_14 ic_iconst_m1 rfl ?_
  refine l_put (j := 3) (C := RX6) (Tt := TX6) (N := 9) (ty := .int) tyX6 hk rfl (by decide) inT_X6 fl_RX6_15 rfl tyX6_ok nmX6 rfl (by decide +kernel) rfl rfl (Nat.le_of_ble_eq_true rfl) dX6_init_15 rfl ?_
  refine w_W (ws' := cf ws k (a, .inr (5, [.ref q8, .int 0, .int 0, .int (-1 : Int32), .null, .int 0, .int 0, .int 0, .int 0])) [(q8, .inl (cy 12, 1200, .inl dfI))]) rfl ?_
  refine w_aload_n 0 dX6_init_18 rfl rfl rfl ?_
  refine w_aload_n 1 dX6_init_19 rfl rfl rfl ?_
  refine l_putF (j := 4) (C := RX6) (Tt := TX6) (N := 9) (ty := (.object RX10)) tyX6 hk rfl (by decide) inT_X6 fl_RX6_19 rfl tyX6_ok nmX6 rfl hin rfl (by decide +kernel) rfl rfl (Nat.le_of_ble_eq_true rfl) dX6_init_20 rfl ?_
  refine w_W (ws' := cf ws k (a, .inr (5, [.ref q8, .int 0, .int 0, .int (-1 : Int32), .ref r0, .int 0, .int 0, .int 0, .int 0])) [(q8, .inl (cy 12, 1200, .inl dfI))]) rfl ?_
  exact l_return (fun i => [q8].getD i 0) rfl rfl dX6_init_23
theorem k_X6_init {Γ : CX} {cc : ByteArray} {nL : Nat} {own : String} {ret : Option FieldType} {rm : Room} {ws L : va_W} {k q : Nat} {T : Nat × va_E} {pc pc' idx : Nat} {lv : List (Nat × Value)} {rest : List Value} {r0 : Nat} (hl : Cond.methodLink own idx yX6_init ∈ TB) (hw : (rest.map fun v => v.category).sum ≤ 8) (hR : rX6_init.frames + 1 ≤ rm.frames ∧ 8 + (2 + 11) + rX6_init.locals ≤ rm.locals) (hR2 : xk Γ + rX6_init.cells ≤ rm.cells ∧ xn Γ + rX6_init.slots ≤ rm.slots) (hd : decode cc pc = .ok (.invokespecial idx, 3)) (hp : pc + 3 = pc') (h : ∀ qs : Nat → Nat, WL (bump Γ rX6_init.cells rX6_init.slots) cc nL own ret rm (cf ws k T (L ++ [(q, .inr (5, [.ref (qs 0), .int 0, .int 0, .int (-1 : Int32), .ref r0, .int 0, .int 0, .int 0, .int 0]))] ++ [((qs 0), .inl (xy Γ 12, 1200, .inl dfI))])) pc' lv rest) : WL Γ cc nL own ret rm (cf ws k T (L ++ [(q, .inr (5, [.null, .int 0, .int 0, .int 0, .null, .int 0, .int 0, .int 0, .int 0]))])) pc lv (.ref r0 :: .ref q :: rest) := by
  have hc := c_X6_init (l := xl Γ) (D := xD Γ) (cy := xy Γ) (ad := xd Γ) (ws := cf ws k T (L ++ [(q, .inr (5, [.null, .int 0, .int 0, .int 0, .null, .int 0, .int 0, .int 0, .int 0]))])) (k := (cf ws k T L).length) (a := q) (r0 := r0) (by simp [cf])
  rw [cf_self cf_last] at hc
  simp only [cf_last_set] at hc
  exact l_callI (nn := 1) (As := [.ref r0]) (rest := rest) hc hl mw_X6_init rfl (by decide +kernel) hR hR2 rfl hw hd rfl hp h
def rX2_init : Room := { frames := 1, cells := 4, slots := 1597, locals := 20 }
set_option maxRecDepth 8000 in
theorem mw_X2_init : Cond.instanceMethod yX2_init ∈ TB ∧ Cond.initialized yX2_init.cls ∈ TB ∧ Cond.code yX2_init cX2_init 2 none ∈ TB := ⟨tb_m (bk_1 (List.mem_of_getElem? (i := 179) rfl)) rfl, tb_m (bk_1 (List.mem_of_getElem? (i := 6) rfl)) rfl, tb_m (bk_1 (List.mem_of_getElem? (i := 180) rfl)) rfl⟩
set_option maxHeartbeats 4000000 in
set_option maxRecDepth 40000 in
theorem c_X2_init {l : Launch} {D : va_G} {cy : Nat → ClassId} {ad : Nat → Nat} {ws : va_W} {k a : Nat} {r0 : Nat} (hk : k < ws.length) : CN l D cy ad yX2_init cX2_init 2 rX2_init [.ref a, .ref r0] (cf ws k (a, .inr (1, [.null, .null, .null, .null, .null, .int 0])) []) (fun qs => cf ws k (a, .inr (1, [.ref r0, .ref (qs 0), .ref (qs 1), .ref (qs 2), .ref (qs 3), .int 0])) [((qs 0), .inl (cy 13, 61, .inl dfI)), ((qs 1), .inl (cy 13, 512, .inl dfI)), ((qs 2), .inl (cy 13, 512, .inl dfI)), ((qs 3), .inl (cy 13, 512, .inl dfI))]) := by
  refine cn_of (by decide) rfl (Nat.le_of_ble_eq_true rfl) (fun p e s m args below meth c A hin => ?_)
  refine w_aload_n 0 dX2_init_0 rfl rfl rfl ?_
  refine l_obj ml_RX2_3 oi_w (Nat.le_of_ble_eq_true rfl) ⟨Nat.le_of_ble_eq_true rfl, Nat.le_of_ble_eq_true rfl⟩ dX2_init_1 rfl ?_
  refine w_aload_n 0 dX2_init_4 rfl rfl rfl ?_
  refine w_bipush (61 : Int32) dX2_init_5 ic_bipush_61 rfl ?_
  refine l_newI 61 ac_int (by decide) (by decide +kernel) (by decide) ⟨Nat.le_of_ble_eq_true rfl, Nat.le_of_ble_eq_true rfl⟩ dX2_init_7 rfl (fun q7 => ?_)
  refine w_G (Γ' := (p, l, e, rX2_init, s, m, args, below, meth, c, D, cy, ad, A, 1, 61, _)) rfl ?_
  refine l_putF (j := 1) (C := RX2) (Tt := TX2) (N := 6) (ty := (.array .int)) tyX2 hk rfl (by decide) inT_X2 fl_RX2_9 rfl tyX2_ok nmX2 rfl hin rfl (by decide +kernel) rfl rfl (Nat.le_of_ble_eq_true rfl) dX2_init_9 rfl ?_
  refine w_W (ws' := cf ws k (a, .inr (1, [.null, .ref q7, .null, .null, .null, .int 0])) [(q7, .inl (cy 13, 61, .inl dfI))]) rfl ?_
  refine w_aload_n 0 dX2_init_12 rfl rfl rfl ?_
  refine w_sipush (512 : Int32) dX2_init_13 ic_sipush_512 rfl ?_
  refine l_newI 512 ac_int (by decide) (by decide +kernel) (by decide) ⟨Nat.le_of_ble_eq_true rfl, Nat.le_of_ble_eq_true rfl⟩ dX2_init_16 rfl (fun q16 => ?_)
  refine w_G (Γ' := (p, l, e, rX2_init, s, m, args, below, meth, c, D, cy, ad, A, 2, 573, _)) rfl ?_
  refine l_putF (j := 2) (C := RX2) (Tt := TX2) (N := 6) (ty := (.array .int)) tyX2 hk rfl (by decide) inT_X2 fl_RX2_15 rfl tyX2_ok nmX2 rfl hin rfl (by decide +kernel) rfl rfl (Nat.le_of_ble_eq_true rfl) dX2_init_18 rfl ?_
  refine w_W (ws' := cf ws k (a, .inr (1, [.null, .ref q7, .ref q16, .null, .null, .int 0])) [(q7, .inl (cy 13, 61, .inl dfI)), (q16, .inl (cy 13, 512, .inl dfI))]) rfl ?_
  refine w_aload_n 0 dX2_init_21 rfl rfl rfl ?_
  refine w_sipush (512 : Int32) dX2_init_22 ic_sipush_512 rfl ?_
  refine l_newI 512 ac_int (by decide) (by decide +kernel) (by decide) ⟨Nat.le_of_ble_eq_true rfl, Nat.le_of_ble_eq_true rfl⟩ dX2_init_25 rfl (fun q25 => ?_)
  refine w_G (Γ' := (p, l, e, rX2_init, s, m, args, below, meth, c, D, cy, ad, A, 3, 1085, _)) rfl ?_
  refine l_putF (j := 3) (C := RX2) (Tt := TX2) (N := 6) (ty := (.array .int)) tyX2 hk rfl (by decide) inT_X2 fl_RX2_18 rfl tyX2_ok nmX2 rfl hin rfl (by decide +kernel) rfl rfl (Nat.le_of_ble_eq_true rfl) dX2_init_27 rfl ?_
  refine w_W (ws' := cf ws k (a, .inr (1, [.null, .ref q7, .ref q16, .ref q25, .null, .int 0])) [(q7, .inl (cy 13, 61, .inl dfI)), (q16, .inl (cy 13, 512, .inl dfI)), (q25, .inl (cy 13, 512, .inl dfI))]) rfl ?_
  refine w_aload_n 0 dX2_init_30 rfl rfl rfl ?_
  refine w_sipush (512 : Int32) dX2_init_31 ic_sipush_512 rfl ?_
  refine l_newI 512 ac_int (by decide) (by decide +kernel) (by decide) ⟨Nat.le_of_ble_eq_true rfl, Nat.le_of_ble_eq_true rfl⟩ dX2_init_34 rfl (fun q34 => ?_)
  refine w_G (Γ' := (p, l, e, rX2_init, s, m, args, below, meth, c, D, cy, ad, A, 4, 1597, _)) rfl ?_
  refine l_putF (j := 4) (C := RX2) (Tt := TX2) (N := 6) (ty := (.array .int)) tyX2 hk rfl (by decide) inT_X2 fl_RX2_21 rfl tyX2_ok nmX2 rfl hin rfl (by decide +kernel) rfl rfl (Nat.le_of_ble_eq_true rfl) dX2_init_36 rfl ?_
  refine w_W (ws' := cf ws k (a, .inr (1, [.null, .ref q7, .ref q16, .ref q25, .ref q34, .int 0])) [(q7, .inl (cy 13, 61, .inl dfI)), (q16, .inl (cy 13, 512, .inl dfI)), (q25, .inl (cy 13, 512, .inl dfI)), (q34, .inl (cy 13, 512, .inl dfI))]) rfl ?_
  refine w_aload_n 0 dX2_init_39 rfl rfl rfl ?_
  refine w_aload_n 1 dX2_init_40 rfl rfl rfl ?_
  refine l_putF (j := 0) (C := RX2) (Tt := TX2) (N := 6) (ty := (.object RX10)) tyX2 hk rfl (by decide) inT_X2 fl_RX2_24 rfl tyX2_ok nmX2 rfl hin rfl (by decide +kernel) rfl rfl (Nat.le_of_ble_eq_true rfl) dX2_init_41 rfl ?_
  refine w_W (ws' := cf ws k (a, .inr (1, [.ref r0, .ref q7, .ref q16, .ref q25, .ref q34, .int 0])) [(q7, .inl (cy 13, 61, .inl dfI)), (q16, .inl (cy 13, 512, .inl dfI)), (q25, .inl (cy 13, 512, .inl dfI)), (q34, .inl (cy 13, 512, .inl dfI))]) rfl ?_
  exact l_return (fun i => [q7, q16, q25, q34].getD i 0) rfl rfl dX2_init_44
theorem k_X2_init {Γ : CX} {cc : ByteArray} {nL : Nat} {own : String} {ret : Option FieldType} {rm : Room} {ws L : va_W} {k q : Nat} {T : Nat × va_E} {pc pc' idx : Nat} {lv : List (Nat × Value)} {rest : List Value} {r0 : Nat} (hl : Cond.methodLink own idx yX2_init ∈ TB) (hw : (rest.map fun v => v.category).sum ≤ 8) (hR : rX2_init.frames + 1 ≤ rm.frames ∧ 8 + (2 + 11) + rX2_init.locals ≤ rm.locals) (hR2 : xk Γ + rX2_init.cells ≤ rm.cells ∧ xn Γ + rX2_init.slots ≤ rm.slots) (hd : decode cc pc = .ok (.invokespecial idx, 3)) (hp : pc + 3 = pc') (h : ∀ qs : Nat → Nat, WL (bump Γ rX2_init.cells rX2_init.slots) cc nL own ret rm (cf ws k T (L ++ [(q, .inr (1, [.ref r0, .ref (qs 0), .ref (qs 1), .ref (qs 2), .ref (qs 3), .int 0]))] ++ [((qs 0), .inl (xy Γ 13, 61, .inl dfI)), ((qs 1), .inl (xy Γ 13, 512, .inl dfI)), ((qs 2), .inl (xy Γ 13, 512, .inl dfI)), ((qs 3), .inl (xy Γ 13, 512, .inl dfI))])) pc' lv rest) : WL Γ cc nL own ret rm (cf ws k T (L ++ [(q, .inr (1, [.null, .null, .null, .null, .null, .int 0]))])) pc lv (.ref r0 :: .ref q :: rest) := by
  have hc := c_X2_init (l := xl Γ) (D := xD Γ) (cy := xy Γ) (ad := xd Γ) (ws := cf ws k T (L ++ [(q, .inr (1, [.null, .null, .null, .null, .null, .int 0]))])) (k := (cf ws k T L).length) (a := q) (r0 := r0) (by simp [cf])
  rw [cf_self cf_last] at hc
  simp only [cf_last_set] at hc
  exact l_callI (nn := 1) (As := [.ref r0]) (rest := rest) hc hl mw_X2_init rfl (by decide +kernel) hR hR2 rfl hw hd rfl hp h
def rX3_init : Room := { frames := 1, cells := 6, slots := 3072, locals := 20 }
set_option maxRecDepth 8000 in
theorem mw_X3_init : Cond.instanceMethod yX3_init ∈ TB ∧ Cond.initialized yX3_init.cls ∈ TB ∧ Cond.code yX3_init cX3_init 3 none ∈ TB := ⟨tb_m (bk_1 (List.mem_of_getElem? (i := 204) rfl)) rfl, tb_m (bk_1 (List.mem_of_getElem? (i := 7) rfl)) rfl, tb_m (bk_1 (List.mem_of_getElem? (i := 205) rfl)) rfl⟩
set_option maxHeartbeats 4000000 in
set_option maxRecDepth 40000 in
theorem c_X3_init {l : Launch} {D : va_G} {cy : Nat → ClassId} {ad : Nat → Nat} {ws : va_W} {k a : Nat} {r0 : Nat} {r1 : Nat} (hk : k < ws.length) : CN l D cy ad yX3_init cX3_init 3 rX3_init [.ref a, .ref r0, .ref r1] (cf ws k (a, .inr (2, [.null, .null, .null, .null, .null, .null, .null, .null])) []) (fun qs => cf ws k (a, .inr (2, [.ref r0, .ref r1, .ref (qs 0), .ref (qs 1), .ref (qs 2), .ref (qs 3), .ref (qs 4), .ref (qs 5)])) [((qs 0), .inl (cy 13, 512, .inl dfI)), ((qs 1), .inl (cy 13, 512, .inl dfI)), ((qs 2), .inl (cy 14, 512, .inr (.inl dfJ))), ((qs 3), .inl (cy 15, 512, .inl dfI)), ((qs 4), .inl (cy 13, 512, .inl dfI)), ((qs 5), .inl (cy 13, 512, .inl dfI))]) := by
  refine cn_of (by decide) rfl (Nat.le_of_ble_eq_true rfl) (fun p e s m args below meth c A hin => ?_)
  refine w_aload_n 0 dX3_init_0 rfl rfl rfl ?_
  refine l_obj ml_RX3_3 oi_w (Nat.le_of_ble_eq_true rfl) ⟨Nat.le_of_ble_eq_true rfl, Nat.le_of_ble_eq_true rfl⟩ dX3_init_1 rfl ?_
  refine w_aload_n 0 dX3_init_4 rfl rfl rfl ?_
  refine w_sipush (512 : Int32) dX3_init_5 ic_sipush_512 rfl ?_
  refine l_newI 512 ac_int (by decide) (by decide +kernel) (by decide) ⟨Nat.le_of_ble_eq_true rfl, Nat.le_of_ble_eq_true rfl⟩ dX3_init_8 rfl (fun q8 => ?_)
  refine w_G (Γ' := (p, l, e, rX3_init, s, m, args, below, meth, c, D, cy, ad, A, 1, 512, _)) rfl ?_
  refine l_putF (j := 2) (C := RX3) (Tt := TX3) (N := 8) (ty := (.array .int)) tyX3 hk rfl (by decide) inT_X3 fl_RX3_9 rfl tyX3_ok nmX3 rfl hin rfl (by decide +kernel) rfl rfl (Nat.le_of_ble_eq_true rfl) dX3_init_10 rfl ?_
  refine w_W (ws' := cf ws k (a, .inr (2, [.null, .null, .ref q8, .null, .null, .null, .null, .null])) [(q8, .inl (cy 13, 512, .inl dfI))]) rfl ?_
  refine w_aload_n 0 dX3_init_13 rfl rfl rfl ?_
  refine w_sipush (512 : Int32) dX3_init_14 ic_sipush_512 rfl ?_
  refine l_newI 512 ac_int (by decide) (by decide +kernel) (by decide) ⟨Nat.le_of_ble_eq_true rfl, Nat.le_of_ble_eq_true rfl⟩ dX3_init_17 rfl (fun q17 => ?_)
  refine w_G (Γ' := (p, l, e, rX3_init, s, m, args, below, meth, c, D, cy, ad, A, 2, 1024, _)) rfl ?_
  refine l_putF (j := 3) (C := RX3) (Tt := TX3) (N := 8) (ty := (.array .int)) tyX3 hk rfl (by decide) inT_X3 fl_RX3_15 rfl tyX3_ok nmX3 rfl hin rfl (by decide +kernel) rfl rfl (Nat.le_of_ble_eq_true rfl) dX3_init_19 rfl ?_
  refine w_W (ws' := cf ws k (a, .inr (2, [.null, .null, .ref q8, .ref q17, .null, .null, .null, .null])) [(q8, .inl (cy 13, 512, .inl dfI)), (q17, .inl (cy 13, 512, .inl dfI))]) rfl ?_
  refine w_aload_n 0 dX3_init_22 rfl rfl rfl ?_
  refine w_sipush (512 : Int32) dX3_init_23 ic_sipush_512 rfl ?_
  refine l_newJ 512 ac_long (by decide) (by decide +kernel) (by decide) ⟨Nat.le_of_ble_eq_true rfl, Nat.le_of_ble_eq_true rfl⟩ dX3_init_26 rfl (fun q26 => ?_)
  refine w_G (Γ' := (p, l, e, rX3_init, s, m, args, below, meth, c, D, cy, ad, A, 3, 1536, _)) rfl ?_
  refine l_putF (j := 4) (C := RX3) (Tt := TX3) (N := 8) (ty := (.array .long)) tyX3 hk rfl (by decide) inT_X3 fl_RX3_18 rfl tyX3_ok nmX3 rfl hin rfl (by decide +kernel) rfl rfl (Nat.le_of_ble_eq_true rfl) dX3_init_28 rfl ?_
  refine w_W (ws' := cf ws k (a, .inr (2, [.null, .null, .ref q8, .ref q17, .ref q26, .null, .null, .null])) [(q8, .inl (cy 13, 512, .inl dfI)), (q17, .inl (cy 13, 512, .inl dfI)), (q26, .inl (cy 14, 512, .inr (.inl dfJ)))]) rfl ?_
  refine w_aload_n 0 dX3_init_31 rfl rfl rfl ?_
  refine w_sipush (512 : Int32) dX3_init_32 ic_sipush_512 rfl ?_
  refine l_newZ 512 ac_boolean (by decide) (by decide +kernel) (by decide) ⟨Nat.le_of_ble_eq_true rfl, Nat.le_of_ble_eq_true rfl⟩ dX3_init_35 rfl (fun q35 => ?_)
  refine w_G (Γ' := (p, l, e, rX3_init, s, m, args, below, meth, c, D, cy, ad, A, 4, 2048, _)) rfl ?_
  refine l_putF (j := 5) (C := RX3) (Tt := TX3) (N := 8) (ty := (.array .boolean)) tyX3 hk rfl (by decide) inT_X3 fl_RX3_22 rfl tyX3_ok nmX3 rfl hin rfl (by decide +kernel) rfl rfl (Nat.le_of_ble_eq_true rfl) dX3_init_37 rfl ?_
  refine w_W (ws' := cf ws k (a, .inr (2, [.null, .null, .ref q8, .ref q17, .ref q26, .ref q35, .null, .null])) [(q8, .inl (cy 13, 512, .inl dfI)), (q17, .inl (cy 13, 512, .inl dfI)), (q26, .inl (cy 14, 512, .inr (.inl dfJ))), (q35, .inl (cy 15, 512, .inl dfI))]) rfl ?_
  refine w_aload_n 0 dX3_init_40 rfl rfl rfl ?_
  refine w_sipush (512 : Int32) dX3_init_41 ic_sipush_512 rfl ?_
  refine l_newI 512 ac_int (by decide) (by decide +kernel) (by decide) ⟨Nat.le_of_ble_eq_true rfl, Nat.le_of_ble_eq_true rfl⟩ dX3_init_44 rfl (fun q44 => ?_)
  refine w_G (Γ' := (p, l, e, rX3_init, s, m, args, below, meth, c, D, cy, ad, A, 5, 2560, _)) rfl ?_
  refine l_putF (j := 6) (C := RX3) (Tt := TX3) (N := 8) (ty := (.array .int)) tyX3 hk rfl (by decide) inT_X3 fl_RX3_26 rfl tyX3_ok nmX3 rfl hin rfl (by decide +kernel) rfl rfl (Nat.le_of_ble_eq_true rfl) dX3_init_46 rfl ?_
  refine w_W (ws' := cf ws k (a, .inr (2, [.null, .null, .ref q8, .ref q17, .ref q26, .ref q35, .ref q44, .null])) [(q8, .inl (cy 13, 512, .inl dfI)), (q17, .inl (cy 13, 512, .inl dfI)), (q26, .inl (cy 14, 512, .inr (.inl dfJ))), (q35, .inl (cy 15, 512, .inl dfI)), (q44, .inl (cy 13, 512, .inl dfI))]) rfl ?_
  refine w_aload_n 0 dX3_init_49 rfl rfl rfl ?_
  refine w_sipush (512 : Int32) dX3_init_50 ic_sipush_512 rfl ?_
  refine l_newI 512 ac_int (by decide) (by decide +kernel) (by decide) ⟨Nat.le_of_ble_eq_true rfl, Nat.le_of_ble_eq_true rfl⟩ dX3_init_53 rfl (fun q53 => ?_)
  refine w_G (Γ' := (p, l, e, rX3_init, s, m, args, below, meth, c, D, cy, ad, A, 6, 3072, _)) rfl ?_
  refine l_putF (j := 7) (C := RX3) (Tt := TX3) (N := 8) (ty := (.array .int)) tyX3 hk rfl (by decide) inT_X3 fl_RX3_29 rfl tyX3_ok nmX3 rfl hin rfl (by decide +kernel) rfl rfl (Nat.le_of_ble_eq_true rfl) dX3_init_55 rfl ?_
  refine w_W (ws' := cf ws k (a, .inr (2, [.null, .null, .ref q8, .ref q17, .ref q26, .ref q35, .ref q44, .ref q53])) [(q8, .inl (cy 13, 512, .inl dfI)), (q17, .inl (cy 13, 512, .inl dfI)), (q26, .inl (cy 14, 512, .inr (.inl dfJ))), (q35, .inl (cy 15, 512, .inl dfI)), (q44, .inl (cy 13, 512, .inl dfI)), (q53, .inl (cy 13, 512, .inl dfI))]) rfl ?_
  refine w_aload_n 0 dX3_init_58 rfl rfl rfl ?_
  refine w_aload_n 1 dX3_init_59 rfl rfl rfl ?_
  refine l_putF (j := 0) (C := RX3) (Tt := TX3) (N := 8) (ty := (.object RX10)) tyX3 hk rfl (by decide) inT_X3 fl_RX3_32 rfl tyX3_ok nmX3 rfl hin rfl (by decide +kernel) rfl rfl (Nat.le_of_ble_eq_true rfl) dX3_init_60 rfl ?_
  refine w_W (ws' := cf ws k (a, .inr (2, [.ref r0, .null, .ref q8, .ref q17, .ref q26, .ref q35, .ref q44, .ref q53])) [(q8, .inl (cy 13, 512, .inl dfI)), (q17, .inl (cy 13, 512, .inl dfI)), (q26, .inl (cy 14, 512, .inr (.inl dfJ))), (q35, .inl (cy 15, 512, .inl dfI)), (q44, .inl (cy 13, 512, .inl dfI)), (q53, .inl (cy 13, 512, .inl dfI))]) rfl ?_
  refine w_aload_n 0 dX3_init_63 rfl rfl rfl ?_
  refine w_aload_n 2 dX3_init_64 rfl rfl rfl ?_
  refine l_putF (j := 1) (C := RX3) (Tt := TX3) (N := 8) (ty := (.object RX2)) tyX3 hk rfl (by decide) inT_X3 fl_RX3_36 rfl tyX3_ok nmX3 rfl hin rfl (by decide +kernel) rfl rfl (Nat.le_of_ble_eq_true rfl) dX3_init_65 rfl ?_
  refine w_W (ws' := cf ws k (a, .inr (2, [.ref r0, .ref r1, .ref q8, .ref q17, .ref q26, .ref q35, .ref q44, .ref q53])) [(q8, .inl (cy 13, 512, .inl dfI)), (q17, .inl (cy 13, 512, .inl dfI)), (q26, .inl (cy 14, 512, .inr (.inl dfJ))), (q35, .inl (cy 15, 512, .inl dfI)), (q44, .inl (cy 13, 512, .inl dfI)), (q53, .inl (cy 13, 512, .inl dfI))]) rfl ?_
  exact l_return (fun i => [q8, q17, q26, q35, q44, q53].getD i 0) rfl rfl dX3_init_68
theorem k_X3_init {Γ : CX} {cc : ByteArray} {nL : Nat} {own : String} {ret : Option FieldType} {rm : Room} {ws L : va_W} {k q : Nat} {T : Nat × va_E} {pc pc' idx : Nat} {lv : List (Nat × Value)} {rest : List Value} {r0 : Nat} {r1 : Nat} (hl : Cond.methodLink own idx yX3_init ∈ TB) (hw : (rest.map fun v => v.category).sum ≤ 8) (hR : rX3_init.frames + 1 ≤ rm.frames ∧ 8 + (3 + 11) + rX3_init.locals ≤ rm.locals) (hR2 : xk Γ + rX3_init.cells ≤ rm.cells ∧ xn Γ + rX3_init.slots ≤ rm.slots) (hd : decode cc pc = .ok (.invokespecial idx, 3)) (hp : pc + 3 = pc') (h : ∀ qs : Nat → Nat, WL (bump Γ rX3_init.cells rX3_init.slots) cc nL own ret rm (cf ws k T (L ++ [(q, .inr (2, [.ref r0, .ref r1, .ref (qs 0), .ref (qs 1), .ref (qs 2), .ref (qs 3), .ref (qs 4), .ref (qs 5)]))] ++ [((qs 0), .inl (xy Γ 13, 512, .inl dfI)), ((qs 1), .inl (xy Γ 13, 512, .inl dfI)), ((qs 2), .inl (xy Γ 14, 512, .inr (.inl dfJ))), ((qs 3), .inl (xy Γ 15, 512, .inl dfI)), ((qs 4), .inl (xy Γ 13, 512, .inl dfI)), ((qs 5), .inl (xy Γ 13, 512, .inl dfI))])) pc' lv rest) : WL Γ cc nL own ret rm (cf ws k T (L ++ [(q, .inr (2, [.null, .null, .null, .null, .null, .null, .null, .null]))])) pc lv (.ref r1 :: .ref r0 :: .ref q :: rest) := by
  have hc := c_X3_init (l := xl Γ) (D := xD Γ) (cy := xy Γ) (ad := xd Γ) (ws := cf ws k T (L ++ [(q, .inr (2, [.null, .null, .null, .null, .null, .null, .null, .null]))])) (k := (cf ws k T L).length) (a := q) (r0 := r0) (r1 := r1) (by simp [cf])
  rw [cf_self cf_last] at hc
  simp only [cf_last_set] at hc
  exact l_callI (nn := 2) (As := [.ref r0, .ref r1]) (rest := rest) hc hl mw_X3_init rfl (by decide +kernel) hR hR2 rfl hw hd rfl hp h
def rX5_init : Room := { frames := 1, cells := 4, slots := 12, locals := 20 }
set_option maxRecDepth 8000 in
theorem mw_X5_init : Cond.instanceMethod yX5_init ∈ TB ∧ Cond.initialized yX5_init.cls ∈ TB ∧ Cond.code yX5_init cX5_init 1 none ∈ TB := ⟨tb_m (bk_1 (List.mem_of_getElem? (i := 237) rfl)) rfl, tb_m (bk_1 (List.mem_of_getElem? (i := 8) rfl)) rfl, tb_m (bk_1 (List.mem_of_getElem? (i := 238) rfl)) rfl⟩
set_option maxHeartbeats 4000000 in
set_option maxRecDepth 40000 in
theorem c_X5_init {l : Launch} {D : va_G} {cy : Nat → ClassId} {ad : Nat → Nat} {ws : va_W} {k a : Nat} (hk : k < ws.length) : CN l D cy ad yX5_init cX5_init 1 rX5_init [.ref a] (cf ws k (a, .inr (4, [.int 0, .null, .null, .null, .null])) []) (fun qs => cf ws k (a, .inr (4, [.int 0, .ref (qs 0), .ref (qs 1), .ref (qs 2), .ref (qs 3)])) [((qs 0), .inl (cy 13, 3, .inl dfI)), ((qs 1), .inl (cy 13, 3, .inl dfI)), ((qs 2), .inl (cy 13, 3, .inl dfI)), ((qs 3), .inl (cy 13, 3, .inl dfI))]) := by
  refine cn_of (by decide) rfl (Nat.le_of_ble_eq_true rfl) (fun p e s m args below meth c A hin => ?_)
  refine w_aload_n 0 dX5_init_0 rfl rfl rfl ?_
  refine l_obj ml_RX5_1 oi_w (Nat.le_of_ble_eq_true rfl) ⟨Nat.le_of_ble_eq_true rfl, Nat.le_of_ble_eq_true rfl⟩ dX5_init_1 rfl ?_
  refine w_aload_n 0 dX5_init_4 rfl rfl rfl ?_
  refine w_iconst (3 : Int32) dX5_init_5 ic_iconst_3 rfl ?_
  refine l_newI 3 ac_int (by decide) (by decide +kernel) (by decide) ⟨Nat.le_of_ble_eq_true rfl, Nat.le_of_ble_eq_true rfl⟩ dX5_init_6 rfl (fun q6 => ?_)
  refine w_G (Γ' := (p, l, e, rX5_init, s, m, args, below, meth, c, D, cy, ad, A, 1, 3, _)) rfl ?_
  refine l_putF (j := 1) (C := RX5) (Tt := TX5) (N := 5) (ty := (.array .int)) tyX5 hk rfl (by decide) inT_X5 fl_RX5_9 rfl tyX5_ok nmX5 rfl hin rfl (by decide +kernel) rfl rfl (Nat.le_of_ble_eq_true rfl) dX5_init_8 rfl ?_
  refine w_W (ws' := cf ws k (a, .inr (4, [.int 0, .ref q6, .null, .null, .null])) [(q6, .inl (cy 13, 3, .inl dfI))]) rfl ?_
  refine w_aload_n 0 dX5_init_11 rfl rfl rfl ?_
  refine w_iconst (3 : Int32) dX5_init_12 ic_iconst_3 rfl ?_
  refine l_newI 3 ac_int (by decide) (by decide +kernel) (by decide) ⟨Nat.le_of_ble_eq_true rfl, Nat.le_of_ble_eq_true rfl⟩ dX5_init_13 rfl (fun q13 => ?_)
  refine w_G (Γ' := (p, l, e, rX5_init, s, m, args, below, meth, c, D, cy, ad, A, 2, 6, _)) rfl ?_
  refine l_putF (j := 2) (C := RX5) (Tt := TX5) (N := 5) (ty := (.array .int)) tyX5 hk rfl (by decide) inT_X5 fl_RX5_13 rfl tyX5_ok nmX5 rfl hin rfl (by decide +kernel) rfl rfl (Nat.le_of_ble_eq_true rfl) dX5_init_15 rfl ?_
  refine w_W (ws' := cf ws k (a, .inr (4, [.int 0, .ref q6, .ref q13, .null, .null])) [(q6, .inl (cy 13, 3, .inl dfI)), (q13, .inl (cy 13, 3, .inl dfI))]) rfl ?_
  refine w_aload_n 0 dX5_init_18 rfl rfl rfl ?_
  refine w_iconst (3 : Int32) dX5_init_19 ic_iconst_3 rfl ?_
  refine l_newI 3 ac_int (by decide) (by decide +kernel) (by decide) ⟨Nat.le_of_ble_eq_true rfl, Nat.le_of_ble_eq_true rfl⟩ dX5_init_20 rfl (fun q20 => ?_)
  refine w_G (Γ' := (p, l, e, rX5_init, s, m, args, below, meth, c, D, cy, ad, A, 3, 9, _)) rfl ?_
  refine l_putF (j := 3) (C := RX5) (Tt := TX5) (N := 5) (ty := (.array .int)) tyX5 hk rfl (by decide) inT_X5 fl_RX5_16 rfl tyX5_ok nmX5 rfl hin rfl (by decide +kernel) rfl rfl (Nat.le_of_ble_eq_true rfl) dX5_init_22 rfl ?_
  refine w_W (ws' := cf ws k (a, .inr (4, [.int 0, .ref q6, .ref q13, .ref q20, .null])) [(q6, .inl (cy 13, 3, .inl dfI)), (q13, .inl (cy 13, 3, .inl dfI)), (q20, .inl (cy 13, 3, .inl dfI))]) rfl ?_
  refine w_aload_n 0 dX5_init_25 rfl rfl rfl ?_
  refine w_iconst (3 : Int32) dX5_init_26 ic_iconst_3 rfl ?_
  refine l_newI 3 ac_int (by decide) (by decide +kernel) (by decide) ⟨Nat.le_of_ble_eq_true rfl, Nat.le_of_ble_eq_true rfl⟩ dX5_init_27 rfl (fun q27 => ?_)
  refine w_G (Γ' := (p, l, e, rX5_init, s, m, args, below, meth, c, D, cy, ad, A, 4, 12, _)) rfl ?_
  refine l_putF (j := 4) (C := RX5) (Tt := TX5) (N := 5) (ty := (.array .int)) tyX5 hk rfl (by decide) inT_X5 fl_RX5_19 rfl tyX5_ok nmX5 rfl hin rfl (by decide +kernel) rfl rfl (Nat.le_of_ble_eq_true rfl) dX5_init_29 rfl ?_
  refine w_W (ws' := cf ws k (a, .inr (4, [.int 0, .ref q6, .ref q13, .ref q20, .ref q27])) [(q6, .inl (cy 13, 3, .inl dfI)), (q13, .inl (cy 13, 3, .inl dfI)), (q20, .inl (cy 13, 3, .inl dfI)), (q27, .inl (cy 13, 3, .inl dfI))]) rfl ?_
  exact l_return (fun i => [q6, q13, q20, q27].getD i 0) rfl rfl dX5_init_32
theorem k_X5_init {Γ : CX} {cc : ByteArray} {nL : Nat} {own : String} {ret : Option FieldType} {rm : Room} {ws L : va_W} {k q : Nat} {T : Nat × va_E} {pc pc' idx : Nat} {lv : List (Nat × Value)} {rest : List Value} (hl : SR (xd Γ) (xs Γ) → va_Nw (.methodLinkNest own idx yX5_init RX11) (xs Γ)) (hw : (rest.map fun v => v.category).sum ≤ 8) (hR : rX5_init.frames + 1 ≤ rm.frames ∧ 8 + (1 + 11) + rX5_init.locals ≤ rm.locals) (hR2 : xk Γ + rX5_init.cells ≤ rm.cells ∧ xn Γ + rX5_init.slots ≤ rm.slots) (hd : decode cc pc = .ok (.invokespecial idx, 3)) (hp : pc + 3 = pc') (h : ∀ qs : Nat → Nat, WL (bump Γ rX5_init.cells rX5_init.slots) cc nL own ret rm (cf ws k T (L ++ [(q, .inr (4, [.int 0, .ref (qs 0), .ref (qs 1), .ref (qs 2), .ref (qs 3)]))] ++ [((qs 0), .inl (xy Γ 13, 3, .inl dfI)), ((qs 1), .inl (xy Γ 13, 3, .inl dfI)), ((qs 2), .inl (xy Γ 13, 3, .inl dfI)), ((qs 3), .inl (xy Γ 13, 3, .inl dfI))])) pc' lv rest) : WL Γ cc nL own ret rm (cf ws k T (L ++ [(q, .inr (4, [.int 0, .null, .null, .null, .null]))])) pc lv (.ref q :: rest) := by
  have hc := c_X5_init (l := xl Γ) (D := xD Γ) (cy := xy Γ) (ad := xd Γ) (ws := cf ws k T (L ++ [(q, .inr (4, [.int 0, .null, .null, .null, .null]))])) (k := (cf ws k T L).length) (a := q) (by simp [cf])
  rw [cf_self cf_last] at hc
  simp only [cf_last_set] at hc
  exact l_callN (host := RX11) (nn := 0) (As := []) (rest := rest) hc hl mw_X5_init rfl (by decide +kernel) hR hR2 rfl hw hd rfl hp h
def rX4_init : Room := { frames := 1, cells := 0, slots := 0, locals := 20 }
theorem mw_X4_init : Cond.instanceMethod yX4_init ∈ TB ∧ Cond.initialized yX4_init.cls ∈ TB ∧ Cond.code yX4_init cX4_init 2 none ∈ TB := ⟨tb_m (bk_2 (List.mem_of_getElem? (i := 22) rfl)) rfl, tb_m (bk_1 (List.mem_of_getElem? (i := 9) rfl)) rfl, tb_m (bk_2 (List.mem_of_getElem? (i := 23) rfl)) rfl⟩
set_option maxHeartbeats 4000000 in
set_option maxRecDepth 40000 in
theorem c_X4_init {l : Launch} {D : va_G} {cy : Nat → ClassId} {ad : Nat → Nat} {ws : va_W} {k a : Nat} {r0 : Nat} (hk : k < ws.length) : CN l D cy ad yX4_init cX4_init 2 rX4_init [.ref a, .ref r0] (cf ws k (a, .inr (3, [.null])) []) (fun qs => cf ws k (a, .inr (3, [.ref r0])) []) := by
  refine cn_of (by decide) rfl (Nat.le_of_ble_eq_true rfl) (fun p e s m args below meth c A hin => ?_)
  refine w_aload_n 0 dX4_init_0 rfl rfl rfl ?_
  refine l_obj ml_RX4_3 oi_w (Nat.le_of_ble_eq_true rfl) ⟨Nat.le_of_ble_eq_true rfl, Nat.le_of_ble_eq_true rfl⟩ dX4_init_1 rfl ?_
  refine w_aload_n 0 dX4_init_4 rfl rfl rfl ?_
  refine w_aload_n 1 dX4_init_5 rfl rfl rfl ?_
  refine l_putF (j := 0) (C := RX4) (Tt := TX4) (N := 1) (ty := (.object RX10)) tyX4 hk rfl (by decide) inT_X4 fl_RX4_9 rfl tyX4_ok nmX4 rfl hin rfl (by decide +kernel) rfl rfl (Nat.le_of_ble_eq_true rfl) dX4_init_6 rfl ?_
  refine w_W (ws' := cf ws k (a, .inr (3, [.ref r0])) []) rfl ?_
  exact l_return (fun i => [].getD i 0) rfl rfl dX4_init_9
theorem k_X4_init {Γ : CX} {cc : ByteArray} {nL : Nat} {own : String} {ret : Option FieldType} {rm : Room} {ws L : va_W} {k q : Nat} {T : Nat × va_E} {pc pc' idx : Nat} {lv : List (Nat × Value)} {rest : List Value} {r0 : Nat} (hl : Cond.methodLink own idx yX4_init ∈ TB) (hw : (rest.map fun v => v.category).sum ≤ 8) (hR : rX4_init.frames + 1 ≤ rm.frames ∧ 8 + (2 + 11) + rX4_init.locals ≤ rm.locals) (hR2 : xk Γ + rX4_init.cells ≤ rm.cells ∧ xn Γ + rX4_init.slots ≤ rm.slots) (hd : decode cc pc = .ok (.invokespecial idx, 3)) (hp : pc + 3 = pc') (h : ∀ qs : Nat → Nat, WL (bump Γ rX4_init.cells rX4_init.slots) cc nL own ret rm (cf ws k T (L ++ [(q, .inr (3, [.ref r0]))] ++ [])) pc' lv rest) : WL Γ cc nL own ret rm (cf ws k T (L ++ [(q, .inr (3, [.null]))])) pc lv (.ref r0 :: .ref q :: rest) := by
  have hc := c_X4_init (l := xl Γ) (D := xD Γ) (cy := xy Γ) (ad := xd Γ) (ws := cf ws k T (L ++ [(q, .inr (3, [.null]))])) (k := (cf ws k T L).length) (a := q) (r0 := r0) (by simp [cf])
  rw [cf_self cf_last] at hc
  simp only [cf_last_set] at hc
  exact l_callI (nn := 1) (As := [.ref r0]) (rest := rest) hc hl mw_X4_init rfl (by decide +kernel) hR hR2 rfl hw hd rfl hp h
def rX8_init : Room := { frames := 1, cells := 0, slots := 0, locals := 20 }
theorem mw_X8_init : Cond.instanceMethod yX8_init ∈ TB ∧ Cond.initialized yX8_init.cls ∈ TB ∧ Cond.code yX8_init cX8_init 2 none ∈ TB := ⟨tb_m (bk_2 (List.mem_of_getElem? (i := 32) rfl)) rfl, tb_m (bk_1 (List.mem_of_getElem? (i := 10) rfl)) rfl, tb_m (bk_2 (List.mem_of_getElem? (i := 33) rfl)) rfl⟩
set_option maxHeartbeats 4000000 in
set_option maxRecDepth 40000 in
theorem c_X8_init {l : Launch} {D : va_G} {cy : Nat → ClassId} {ad : Nat → Nat} {ws : va_W} {k a : Nat} {r0 : Nat} (hk : k < ws.length) : CN l D cy ad yX8_init cX8_init 2 rX8_init [.ref a, .ref r0] (cf ws k (a, .inr (7, [.null])) []) (fun qs => cf ws k (a, .inr (7, [.ref r0])) []) := by
  refine cn_of (by decide) rfl (Nat.le_of_ble_eq_true rfl) (fun p e s m args below meth c A hin => ?_)
  refine w_aload_n 0 dX8_init_0 rfl rfl rfl ?_
  refine l_obj ml_RX8_3 oi_w (Nat.le_of_ble_eq_true rfl) ⟨Nat.le_of_ble_eq_true rfl, Nat.le_of_ble_eq_true rfl⟩ dX8_init_1 rfl ?_
  refine w_aload_n 0 dX8_init_4 rfl rfl rfl ?_
  refine w_aload_n 1 dX8_init_5 rfl rfl rfl ?_
  refine l_putF (j := 0) (C := RX8) (Tt := TX8) (N := 1) (ty := (.object RX10)) tyX8 hk rfl (by decide) inT_X8 fl_RX8_9 rfl tyX8_ok nmX8 rfl hin rfl (by decide +kernel) rfl rfl (Nat.le_of_ble_eq_true rfl) dX8_init_6 rfl ?_
  refine w_W (ws' := cf ws k (a, .inr (7, [.ref r0])) []) rfl ?_
  exact l_return (fun i => [].getD i 0) rfl rfl dX8_init_9
theorem k_X8_init {Γ : CX} {cc : ByteArray} {nL : Nat} {own : String} {ret : Option FieldType} {rm : Room} {ws L : va_W} {k q : Nat} {T : Nat × va_E} {pc pc' idx : Nat} {lv : List (Nat × Value)} {rest : List Value} {r0 : Nat} (hl : Cond.methodLink own idx yX8_init ∈ TB) (hw : (rest.map fun v => v.category).sum ≤ 8) (hR : rX8_init.frames + 1 ≤ rm.frames ∧ 8 + (2 + 11) + rX8_init.locals ≤ rm.locals) (hR2 : xk Γ + rX8_init.cells ≤ rm.cells ∧ xn Γ + rX8_init.slots ≤ rm.slots) (hd : decode cc pc = .ok (.invokespecial idx, 3)) (hp : pc + 3 = pc') (h : ∀ qs : Nat → Nat, WL (bump Γ rX8_init.cells rX8_init.slots) cc nL own ret rm (cf ws k T (L ++ [(q, .inr (7, [.ref r0]))] ++ [])) pc' lv rest) : WL Γ cc nL own ret rm (cf ws k T (L ++ [(q, .inr (7, [.null]))])) pc lv (.ref r0 :: .ref q :: rest) := by
  have hc := c_X8_init (l := xl Γ) (D := xD Γ) (cy := xy Γ) (ad := xd Γ) (ws := cf ws k T (L ++ [(q, .inr (7, [.null]))])) (k := (cf ws k T L).length) (a := q) (r0 := r0) (by simp [cf])
  rw [cf_self cf_last] at hc
  simp only [cf_last_set] at hc
  exact l_callI (nn := 1) (As := [.ref r0]) (rest := rest) hc hl mw_X8_init rfl (by decide +kernel) hR hR2 rfl hw hd rfl hp h
def rX0_init : Room := { frames := 1, cells := 1, slots := 8, locals := 20 }
theorem mw_X0_init : Cond.instanceMethod yX0_init ∈ TB ∧ Cond.initialized yX0_init.cls ∈ TB ∧ Cond.code yX0_init cX0_init 2 none ∈ TB := ⟨tb_m (bk_2 (List.mem_of_getElem? (i := 42) rfl)) rfl, tb_m (bk_1 (List.mem_of_getElem? (i := 11) rfl)) rfl, tb_m (bk_2 (List.mem_of_getElem? (i := 43) rfl)) rfl⟩
set_option maxHeartbeats 4000000 in
set_option maxRecDepth 40000 in
theorem c_X0_init {l : Launch} {D : va_G} {cy : Nat → ClassId} {ad : Nat → Nat} {ws : va_W} {k a : Nat} {r0 : Nat} (hk : k < ws.length) : CN l D cy ad yX0_init cX0_init 2 rX0_init [.ref a, .ref r0] (cf ws k (a, .inr (0, [.null, .null])) []) (fun qs => cf ws k (a, .inr (0, [.ref r0, .ref (qs 0)])) [((qs 0), .inl (cy 13, 8, .inl dfI))]) := by
  refine cn_of (by decide) rfl (Nat.le_of_ble_eq_true rfl) (fun p e s m args below meth c A hin => ?_)
  refine w_aload_n 0 dX0_init_0 rfl rfl rfl ?_
  refine l_obj ml_RX0_3 oi_w (Nat.le_of_ble_eq_true rfl) ⟨Nat.le_of_ble_eq_true rfl, Nat.le_of_ble_eq_true rfl⟩ dX0_init_1 rfl ?_
  refine w_aload_n 0 dX0_init_4 rfl rfl rfl ?_
  refine w_bipush (8 : Int32) dX0_init_5 ic_bipush_8 rfl ?_
  refine l_newI 8 ac_int (by decide) (by decide +kernel) (by decide) ⟨Nat.le_of_ble_eq_true rfl, Nat.le_of_ble_eq_true rfl⟩ dX0_init_7 rfl (fun q7 => ?_)
  refine w_G (Γ' := (p, l, e, rX0_init, s, m, args, below, meth, c, D, cy, ad, A, 1, 8, _)) rfl ?_
  refine l_putF (j := 1) (C := RX0) (Tt := TX0) (N := 2) (ty := (.array .int)) tyX0 hk rfl (by decide) inT_X0 fl_RX0_9 rfl tyX0_ok nmX0 rfl hin rfl (by decide +kernel) rfl rfl (Nat.le_of_ble_eq_true rfl) dX0_init_9 rfl ?_
  refine w_W (ws' := cf ws k (a, .inr (0, [.null, .ref q7])) [(q7, .inl (cy 13, 8, .inl dfI))]) rfl ?_
  refine w_aload_n 0 dX0_init_12 rfl rfl rfl ?_
  refine w_aload_n 1 dX0_init_13 rfl rfl rfl ?_
  refine l_putF (j := 0) (C := RX0) (Tt := TX0) (N := 2) (ty := (.object RX10)) tyX0 hk rfl (by decide) inT_X0 fl_RX0_15 rfl tyX0_ok nmX0 rfl hin rfl (by decide +kernel) rfl rfl (Nat.le_of_ble_eq_true rfl) dX0_init_14 rfl ?_
  refine w_W (ws' := cf ws k (a, .inr (0, [.ref r0, .ref q7])) [(q7, .inl (cy 13, 8, .inl dfI))]) rfl ?_
  exact l_return (fun i => [q7].getD i 0) rfl rfl dX0_init_17
theorem k_X0_init {Γ : CX} {cc : ByteArray} {nL : Nat} {own : String} {ret : Option FieldType} {rm : Room} {ws L : va_W} {k q : Nat} {T : Nat × va_E} {pc pc' idx : Nat} {lv : List (Nat × Value)} {rest : List Value} {r0 : Nat} (hl : Cond.methodLink own idx yX0_init ∈ TB) (hw : (rest.map fun v => v.category).sum ≤ 8) (hR : rX0_init.frames + 1 ≤ rm.frames ∧ 8 + (2 + 11) + rX0_init.locals ≤ rm.locals) (hR2 : xk Γ + rX0_init.cells ≤ rm.cells ∧ xn Γ + rX0_init.slots ≤ rm.slots) (hd : decode cc pc = .ok (.invokespecial idx, 3)) (hp : pc + 3 = pc') (h : ∀ qs : Nat → Nat, WL (bump Γ rX0_init.cells rX0_init.slots) cc nL own ret rm (cf ws k T (L ++ [(q, .inr (0, [.ref r0, .ref (qs 0)]))] ++ [((qs 0), .inl (xy Γ 13, 8, .inl dfI))])) pc' lv rest) : WL Γ cc nL own ret rm (cf ws k T (L ++ [(q, .inr (0, [.null, .null]))])) pc lv (.ref r0 :: .ref q :: rest) := by
  have hc := c_X0_init (l := xl Γ) (D := xD Γ) (cy := xy Γ) (ad := xd Γ) (ws := cf ws k T (L ++ [(q, .inr (0, [.null, .null]))])) (k := (cf ws k T L).length) (a := q) (r0 := r0) (by simp [cf])
  rw [cf_self cf_last] at hc
  simp only [cf_last_set] at hc
  exact l_callI (nn := 1) (As := [.ref r0]) (rest := rest) hc hl mw_X0_init rfl (by decide +kernel) hR hR2 rfl hw hd rfl hp h
def rX7_init : Room := { frames := 1, cells := 4, slots := 252, locals := 20 }
theorem mw_X7_init : Cond.instanceMethod yX7_init ∈ TB ∧ Cond.initialized yX7_init.cls ∈ TB ∧ Cond.code yX7_init cX7_init 1 none ∈ TB := ⟨tb_m (bk_2 (List.mem_of_getElem? (i := 55) rfl)) rfl, tb_m (bk_1 (List.mem_of_getElem? (i := 12) rfl)) rfl, tb_m (bk_2 (List.mem_of_getElem? (i := 56) rfl)) rfl⟩
set_option maxHeartbeats 4000000 in
set_option maxRecDepth 40000 in
theorem c_X7_init {l : Launch} {D : va_G} {cy : Nat → ClassId} {ad : Nat → Nat} {ws : va_W} {k a : Nat} (hk : k < ws.length) : CN l D cy ad yX7_init cX7_init 1 rX7_init [.ref a] (cf ws k (a, .inr (6, [.null, .null, .null, .null])) []) (fun qs => cf ws k (a, .inr (6, [.ref (qs 0), .ref (qs 1), .ref (qs 2), .ref (qs 3)])) [((qs 0), .inl (cy 15, 4, .inl dfI)), ((qs 1), .inl (cy 13, 4, .inl dfI)), ((qs 2), .inl (cy 13, 4, .inl dfI)), ((qs 3), .inl (cy 14, 240, .inr (.inl dfJ)))]) := by
  refine cn_of (by decide) rfl (Nat.le_of_ble_eq_true rfl) (fun p e s m args below meth c A hin => ?_)
  refine w_aload_n 0 dX7_init_0 rfl rfl rfl ?_
  refine l_obj ml_RX7_3 oi_w (Nat.le_of_ble_eq_true rfl) ⟨Nat.le_of_ble_eq_true rfl, Nat.le_of_ble_eq_true rfl⟩ dX7_init_1 rfl ?_
  refine w_aload_n 0 dX7_init_4 rfl rfl rfl ?_
  refine w_iconst (4 : Int32) dX7_init_5 ic_iconst_4 rfl ?_
  refine l_newZ 4 ac_boolean (by decide) (by decide +kernel) (by decide) ⟨Nat.le_of_ble_eq_true rfl, Nat.le_of_ble_eq_true rfl⟩ dX7_init_6 rfl (fun q6 => ?_)
  refine w_G (Γ' := (p, l, e, rX7_init, s, m, args, below, meth, c, D, cy, ad, A, 1, 4, _)) rfl ?_
  refine l_putF (j := 0) (C := RX7) (Tt := TX7) (N := 4) (ty := (.array .boolean)) tyX7 hk rfl (by decide) inT_X7 fl_RX7_11 rfl tyX7_ok nmX7 rfl hin rfl (by decide +kernel) rfl rfl (Nat.le_of_ble_eq_true rfl) dX7_init_8 rfl ?_
  refine w_W (ws' := cf ws k (a, .inr (6, [.ref q6, .null, .null, .null])) [(q6, .inl (cy 15, 4, .inl dfI))]) rfl ?_
  refine w_aload_n 0 dX7_init_11 rfl rfl rfl ?_
  refine w_iconst (4 : Int32) dX7_init_12 ic_iconst_4 rfl ?_
  refine l_newI 4 ac_int (by decide) (by decide +kernel) (by decide) ⟨Nat.le_of_ble_eq_true rfl, Nat.le_of_ble_eq_true rfl⟩ dX7_init_13 rfl (fun q13 => ?_)
  refine w_G (Γ' := (p, l, e, rX7_init, s, m, args, below, meth, c, D, cy, ad, A, 2, 8, _)) rfl ?_
  refine l_putF (j := 1) (C := RX7) (Tt := TX7) (N := 4) (ty := (.array .int)) tyX7 hk rfl (by decide) inT_X7 fl_RX7_15 rfl tyX7_ok nmX7 rfl hin rfl (by decide +kernel) rfl rfl (Nat.le_of_ble_eq_true rfl) dX7_init_15 rfl ?_
  refine w_W (ws' := cf ws k (a, .inr (6, [.ref q6, .ref q13, .null, .null])) [(q6, .inl (cy 15, 4, .inl dfI)), (q13, .inl (cy 13, 4, .inl dfI))]) rfl ?_
  refine w_aload_n 0 dX7_init_18 rfl rfl rfl ?_
  refine w_iconst (4 : Int32) dX7_init_19 ic_iconst_4 rfl ?_
  refine l_newI 4 ac_int (by decide) (by decide +kernel) (by decide) ⟨Nat.le_of_ble_eq_true rfl, Nat.le_of_ble_eq_true rfl⟩ dX7_init_20 rfl (fun q20 => ?_)
  refine w_G (Γ' := (p, l, e, rX7_init, s, m, args, below, meth, c, D, cy, ad, A, 3, 12, _)) rfl ?_
  refine l_putF (j := 2) (C := RX7) (Tt := TX7) (N := 4) (ty := (.array .int)) tyX7 hk rfl (by decide) inT_X7 fl_RX7_19 rfl tyX7_ok nmX7 rfl hin rfl (by decide +kernel) rfl rfl (Nat.le_of_ble_eq_true rfl) dX7_init_22 rfl ?_
  refine w_W (ws' := cf ws k (a, .inr (6, [.ref q6, .ref q13, .ref q20, .null])) [(q6, .inl (cy 15, 4, .inl dfI)), (q13, .inl (cy 13, 4, .inl dfI)), (q20, .inl (cy 13, 4, .inl dfI))]) rfl ?_
  refine w_aload_n 0 dX7_init_25 rfl rfl rfl ?_
  refine w_sipush (240 : Int32) dX7_init_26 ic_sipush_240 rfl ?_
  refine l_newJ 240 ac_long (by decide) (by decide +kernel) (by decide) ⟨Nat.le_of_ble_eq_true rfl, Nat.le_of_ble_eq_true rfl⟩ dX7_init_29 rfl (fun q29 => ?_)
  refine w_G (Γ' := (p, l, e, rX7_init, s, m, args, below, meth, c, D, cy, ad, A, 4, 252, _)) rfl ?_
  refine l_putF (j := 3) (C := RX7) (Tt := TX7) (N := 4) (ty := (.array .long)) tyX7 hk rfl (by decide) inT_X7 fl_RX7_22 rfl tyX7_ok nmX7 rfl hin rfl (by decide +kernel) rfl rfl (Nat.le_of_ble_eq_true rfl) dX7_init_31 rfl ?_
  refine w_W (ws' := cf ws k (a, .inr (6, [.ref q6, .ref q13, .ref q20, .ref q29])) [(q6, .inl (cy 15, 4, .inl dfI)), (q13, .inl (cy 13, 4, .inl dfI)), (q20, .inl (cy 13, 4, .inl dfI)), (q29, .inl (cy 14, 240, .inr (.inl dfJ)))]) rfl ?_
  exact l_return (fun i => [q6, q13, q20, q29].getD i 0) rfl rfl dX7_init_34
theorem k_X7_init {Γ : CX} {cc : ByteArray} {nL : Nat} {own : String} {ret : Option FieldType} {rm : Room} {ws L : va_W} {k q : Nat} {T : Nat × va_E} {pc pc' idx : Nat} {lv : List (Nat × Value)} {rest : List Value} (hl : SR (xd Γ) (xs Γ) → va_Nw (.methodLinkNest own idx yX7_init RX11) (xs Γ)) (hw : (rest.map fun v => v.category).sum ≤ 8) (hR : rX7_init.frames + 1 ≤ rm.frames ∧ 8 + (1 + 11) + rX7_init.locals ≤ rm.locals) (hR2 : xk Γ + rX7_init.cells ≤ rm.cells ∧ xn Γ + rX7_init.slots ≤ rm.slots) (hd : decode cc pc = .ok (.invokespecial idx, 3)) (hp : pc + 3 = pc') (h : ∀ qs : Nat → Nat, WL (bump Γ rX7_init.cells rX7_init.slots) cc nL own ret rm (cf ws k T (L ++ [(q, .inr (6, [.ref (qs 0), .ref (qs 1), .ref (qs 2), .ref (qs 3)]))] ++ [((qs 0), .inl (xy Γ 15, 4, .inl dfI)), ((qs 1), .inl (xy Γ 13, 4, .inl dfI)), ((qs 2), .inl (xy Γ 13, 4, .inl dfI)), ((qs 3), .inl (xy Γ 14, 240, .inr (.inl dfJ)))])) pc' lv rest) : WL Γ cc nL own ret rm (cf ws k T (L ++ [(q, .inr (6, [.null, .null, .null, .null]))])) pc lv (.ref q :: rest) := by
  have hc := c_X7_init (l := xl Γ) (D := xD Γ) (cy := xy Γ) (ad := xd Γ) (ws := cf ws k T (L ++ [(q, .inr (6, [.null, .null, .null, .null]))])) (k := (cf ws k T L).length) (a := q) (by simp [cf])
  rw [cf_self cf_last] at hc
  simp only [cf_last_set] at hc
  exact l_callN (host := RX11) (nn := 0) (As := []) (rest := rest) hc hl mw_X7_init rfl (by decide +kernel) hR hR2 rfl hw hd rfl hp h
