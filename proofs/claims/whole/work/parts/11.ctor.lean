/-! ===== constructors ===== -/
theorem ic_bipush_61 : (Int8.ofInt (61)).toInt32 = (61 : Int32) := by decide
theorem ic_sipush_720 : (Int16.ofInt (720)).toInt32 = (720 : Int32) := by decide
theorem ml_RX11_1 : Cond.methodLink RX11 1 objectInit ∈ TB := tb_m (bk_1 (List.mem_of_getElem? (i := 27) (by decide +kernel))) rfl
theorem ml_RX11_21 : Cond.methodLink RX11 21 yX6_init ∈ TB := tb_m (bk_1 (List.mem_of_getElem? (i := 140) (by decide +kernel))) rfl
theorem ml_RX11_30 : Cond.methodLink RX11 30 yX2_init ∈ TB := tb_m (bk_1 (List.mem_of_getElem? (i := 178) (by decide +kernel))) rfl
theorem ml_RX11_37 : Cond.methodLink RX11 37 yX3_init ∈ TB := tb_m (bk_1 (List.mem_of_getElem? (i := 203) (by decide +kernel))) rfl
theorem ml_RX11_53 : Cond.methodLink RX11 53 yX4_init ∈ TB := tb_m (bk_2 (List.mem_of_getElem? (i := 21) (by decide +kernel))) rfl
theorem ml_RX11_60 : Cond.methodLink RX11 60 yX8_init ∈ TB := tb_m (bk_2 (List.mem_of_getElem? (i := 31) (by decide +kernel))) rfl
theorem ml_RX11_67 : Cond.methodLink RX11 67 yX0_init ∈ TB := tb_m (bk_2 (List.mem_of_getElem? (i := 41) (by decide +kernel))) rfl
theorem ml_RX0_3 : Cond.methodLink RX0 3 objectInit ∈ TB := tb_m (bk_2 (List.mem_of_getElem? (i := 44) (by decide +kernel))) rfl
theorem ml_RX2_3 : Cond.methodLink RX2 3 objectInit ∈ TB := tb_m (bk_1 (List.mem_of_getElem? (i := 181) (by decide +kernel))) rfl
theorem ml_RX3_3 : Cond.methodLink RX3 3 objectInit ∈ TB := tb_m (bk_1 (List.mem_of_getElem? (i := 206) (by decide +kernel))) rfl
theorem ml_RX4_3 : Cond.methodLink RX4 3 objectInit ∈ TB := tb_m (bk_2 (List.mem_of_getElem? (i := 24) (by decide +kernel))) rfl
theorem ml_RX5_1 : Cond.methodLink RX5 1 objectInit ∈ TB := tb_m (bk_1 (List.mem_of_getElem? (i := 239) (by decide +kernel))) rfl
theorem ml_RX6_3 : Cond.methodLink RX6 3 objectInit ∈ TB := tb_m (bk_1 (List.mem_of_getElem? (i := 143) (by decide +kernel))) rfl
theorem ml_RX7_3 : Cond.methodLink RX7 3 objectInit ∈ TB := tb_m (bk_2 (List.mem_of_getElem? (i := 57) (by decide +kernel))) rfl
theorem ml_RX8_3 : Cond.methodLink RX8 3 objectInit ∈ TB := tb_m (bk_2 (List.mem_of_getElem? (i := 34) (by decide +kernel))) rfl
theorem ml_RX9_3 : Cond.methodLink RX9 3 objectInit ∈ TB := tb_m (bk_1 (List.mem_of_getElem? (i := 41) (by decide +kernel))) rfl
theorem ml_RX9_9 : Cond.methodLink RX9 9 yJ9_max_7cf53 ∈ TB := tb_m (bk_1 (List.mem_of_getElem? (i := 42) (by decide +kernel))) rfl
theorem ml_RX10_3 : Cond.methodLink RX10 3 objectInit ∈ TB := tb_m (bk_1 (List.mem_of_getElem? (i := 35) (by decide +kernel))) rfl
theorem ml_RX10_17 : Cond.methodLink RX10 17 yX9_init ∈ TB := tb_m (bk_1 (List.mem_of_getElem? (i := 38) (by decide +kernel))) rfl
theorem ml_RX12_3 : Cond.methodLink RX12 3 objectInit ∈ TB := tb_m (bk_6 (List.mem_of_getElem? (i := 127) (by decide +kernel))) rfl
theorem fl_RX11_79 : Cond.fieldLink RX11 79 RX11 "images" "[LWarByHours$War;" ∈ TB := tb_m (bk_2 (List.mem_of_getElem? (i := 82) (by decide +kernel))) rfl
theorem kl_RX11_7 : Cond.classLink RX11 7 RX10 ∈ TB := tb_m (bk_1 (List.mem_of_getElem? (i := 30) (by decide +kernel))) rfl
theorem kl_RX11_19 : Cond.classLink RX11 19 RX6 ∈ TB := tb_m (bk_1 (List.mem_of_getElem? (i := 138) (by decide +kernel))) rfl
theorem kl_RX11_28 : Cond.classLink RX11 28 RX2 ∈ TB := tb_m (bk_1 (List.mem_of_getElem? (i := 176) (by decide +kernel))) rfl
theorem kl_RX11_35 : Cond.classLink RX11 35 RX3 ∈ TB := tb_m (bk_1 (List.mem_of_getElem? (i := 201) (by decide +kernel))) rfl
theorem kl_RX11_44 : Cond.classLink RX11 44 RX5 ∈ TB := tb_m (bk_1 (List.mem_of_getElem? (i := 234) (by decide +kernel))) rfl
theorem kl_RX11_51 : Cond.classLink RX11 51 RX4 ∈ TB := tb_m (bk_2 (List.mem_of_getElem? (i := 19) (by decide +kernel))) rfl
theorem kl_RX11_58 : Cond.classLink RX11 58 RX8 ∈ TB := tb_m (bk_2 (List.mem_of_getElem? (i := 29) (by decide +kernel))) rfl
theorem kl_RX11_65 : Cond.classLink RX11 65 RX0 ∈ TB := tb_m (bk_2 (List.mem_of_getElem? (i := 39) (by decide +kernel))) rfl
theorem kl_RX11_72 : Cond.classLink RX11 72 RX7 ∈ TB := tb_m (bk_2 (List.mem_of_getElem? (i := 52) (by decide +kernel))) rfl
theorem kl_RX10_15 : Cond.classLink RX10 15 RX9 ∈ TB := tb_m (bk_1 (List.mem_of_getElem? (i := 36) (by decide +kernel))) rfl
theorem is_X11 : Cond.instantiable RX11 11 ∈ TB ∧ Cond.initialized RX11 ∈ TB := ⟨tb_m (bk_1 (List.mem_of_getElem? (i := 23) (by decide +kernel))) rfl, tb_m (bk_1 (List.mem_of_getElem? (i := 1) (by decide +kernel))) rfl⟩
theorem df_X11 : ∀ j, j < 11 → defaultValue (tyX11 j) = vp_V [.null, .null, .null, .null, .null, .null, .null, .null, .null, .null, .null] j := by decide +kernel
theorem is_X0 : Cond.instantiable RX0 2 ∈ TB ∧ Cond.initialized RX0 ∈ TB := ⟨tb_m (bk_2 (List.mem_of_getElem? (i := 40) (by decide +kernel))) rfl, tb_m (bk_1 (List.mem_of_getElem? (i := 11) (by decide +kernel))) rfl⟩
theorem df_X0 : ∀ j, j < 2 → defaultValue (tyX0 j) = vp_V [.null, .null] j := by decide +kernel
theorem is_X2 : Cond.instantiable RX2 6 ∈ TB ∧ Cond.initialized RX2 ∈ TB := ⟨tb_m (bk_1 (List.mem_of_getElem? (i := 177) (by decide +kernel))) rfl, tb_m (bk_1 (List.mem_of_getElem? (i := 6) (by decide +kernel))) rfl⟩
theorem df_X2 : ∀ j, j < 6 → defaultValue (tyX2 j) = vp_V [.null, .null, .null, .null, .null, .int 0] j := by decide +kernel
theorem is_X3 : Cond.instantiable RX3 8 ∈ TB ∧ Cond.initialized RX3 ∈ TB := ⟨tb_m (bk_1 (List.mem_of_getElem? (i := 202) (by decide +kernel))) rfl, tb_m (bk_1 (List.mem_of_getElem? (i := 7) (by decide +kernel))) rfl⟩
theorem df_X3 : ∀ j, j < 8 → defaultValue (tyX3 j) = vp_V [.null, .null, .null, .null, .null, .null, .null, .null] j := by decide +kernel
theorem is_X4 : Cond.instantiable RX4 1 ∈ TB ∧ Cond.initialized RX4 ∈ TB := ⟨tb_m (bk_2 (List.mem_of_getElem? (i := 20) (by decide +kernel))) rfl, tb_m (bk_1 (List.mem_of_getElem? (i := 9) (by decide +kernel))) rfl⟩
theorem df_X4 : ∀ j, j < 1 → defaultValue (tyX4 j) = vp_V [.null] j := by decide +kernel
theorem is_X5 : Cond.instantiable RX5 5 ∈ TB ∧ Cond.initialized RX5 ∈ TB := ⟨tb_m (bk_1 (List.mem_of_getElem? (i := 235) (by decide +kernel))) rfl, tb_m (bk_1 (List.mem_of_getElem? (i := 8) (by decide +kernel))) rfl⟩
theorem df_X5 : ∀ j, j < 5 → defaultValue (tyX5 j) = vp_V [.int 0, .null, .null, .null, .null] j := by decide +kernel
theorem is_X6 : Cond.instantiable RX6 9 ∈ TB ∧ Cond.initialized RX6 ∈ TB := ⟨tb_m (bk_1 (List.mem_of_getElem? (i := 139) (by decide +kernel))) rfl, tb_m (bk_1 (List.mem_of_getElem? (i := 5) (by decide +kernel))) rfl⟩
theorem df_X6 : ∀ j, j < 9 → defaultValue (tyX6 j) = vp_V [.null, .int 0, .int 0, .int 0, .null, .int 0, .int 0, .int 0, .int 0] j := by decide +kernel
theorem is_X7 : Cond.instantiable RX7 4 ∈ TB ∧ Cond.initialized RX7 ∈ TB := ⟨tb_m (bk_2 (List.mem_of_getElem? (i := 53) (by decide +kernel))) rfl, tb_m (bk_1 (List.mem_of_getElem? (i := 12) (by decide +kernel))) rfl⟩
theorem df_X7 : ∀ j, j < 4 → defaultValue (tyX7 j) = vp_V [.null, .null, .null, .null] j := by decide +kernel
theorem is_X8 : Cond.instantiable RX8 1 ∈ TB ∧ Cond.initialized RX8 ∈ TB := ⟨tb_m (bk_2 (List.mem_of_getElem? (i := 30) (by decide +kernel))) rfl, tb_m (bk_1 (List.mem_of_getElem? (i := 10) (by decide +kernel))) rfl⟩
theorem df_X8 : ∀ j, j < 1 → defaultValue (tyX8 j) = vp_V [.null] j := by decide +kernel
theorem is_X9 : Cond.instantiable RX9 4 ∈ TB ∧ Cond.initialized RX9 ∈ TB := ⟨tb_m (bk_1 (List.mem_of_getElem? (i := 37) (by decide +kernel))) rfl, tb_m (bk_1 (List.mem_of_getElem? (i := 3) (by decide +kernel))) rfl⟩
theorem df_X9 : ∀ j, j < 4 → defaultValue (tyX9 j) = vp_V [.int 0, .int 0, .null, .int 0] j := by decide +kernel
theorem is_X10 : Cond.instantiable RX10 12 ∈ TB ∧ Cond.initialized RX10 ∈ TB := ⟨tb_m (bk_1 (List.mem_of_getElem? (i := 31) (by decide +kernel))) rfl, tb_m (bk_1 (List.mem_of_getElem? (i := 2) (by decide +kernel))) rfl⟩
theorem df_X10 : ∀ j, j < 12 → defaultValue (tyX10 j) = vp_V [.int 0, .int 0, .int 0, .int 0, .int 0, .null, .null, .null, .null, .null, .null, .null] j := by decide +kernel
theorem is_X12 : Cond.instantiable RX12 32 ∈ TB ∧ Cond.initialized RX12 ∈ TB := ⟨tb_m (bk_6 (List.mem_of_getElem? (i := 123) (by decide +kernel))) rfl, tb_m (bk_1 (List.mem_of_getElem? (i := 13) (by decide +kernel))) rfl⟩
theorem df_X12 : ∀ j, j < 32 → defaultValue (tyX12 j) = vp_V [.int 0, .null, .null, .null, .null, .int 0, .null, .int 0, .int 0, .int 0, .int 0, .int 0, .int 0, .int 0, .null, .null, .int 0, .null, .int 0, .int 0, .int 0, .null, .int 0, .null, .null, .null, .int 0, .int 0, .null, .null, .null, .null] j := by decide +kernel
theorem ac_int : Cond.arrayClass .int ∈ TB := tb_m (bk_1 (List.mem_of_getElem? (i := 67) (by decide +kernel))) rfl
theorem ac_byte : Cond.arrayClass .byte ∈ TB := tb_m (bk_1 (List.mem_of_getElem? (i := 175) (by decide +kernel))) rfl
theorem ac_long : Cond.arrayClass .long ∈ TB := tb_m (bk_1 (List.mem_of_getElem? (i := 232) (by decide +kernel))) rfl
theorem ac_boolean : Cond.arrayClass .boolean ∈ TB := tb_m (bk_1 (List.mem_of_getElem? (i := 233) (by decide +kernel))) rfl
theorem oi_w : Cond.instanceMethod objectInit ∈ TB ∧ Cond.code objectInit ⟨#[0xb1]⟩ 1 none ∈ TB := ⟨tb_m (bk_1 (List.mem_of_getElem? (i := 28) (by decide +kernel))) rfl, tb_m (bk_1 (List.mem_of_getElem? (i := 29) (by decide +kernel))) rfl⟩
def rX9_init_9_6 : Room := { frames := 1, cells := 1, slots := 54, locals := 23 }
theorem mw_X9_init : Cond.instanceMethod yX9_init ∈ TB ∧ Cond.initialized yX9_init.cls ∈ TB ∧ Cond.code yX9_init cX9_init 3 none ∈ TB := ⟨tb_m (bk_1 (List.mem_of_getElem? (i := 39) (by decide +kernel))) rfl, tb_m (bk_1 (List.mem_of_getElem? (i := 3) (by decide +kernel))) rfl, tb_m (bk_1 (List.mem_of_getElem? (i := 40) (by decide +kernel))) rfl⟩
set_option maxRecDepth 4000 in
theorem c_X9_init_9_6 {l : Launch} {D : va_G} {cy : Nat → ClassId} {ad : Nat → Nat} {ws : va_W} {k a : Nat} (hk : k < ws.length) : CN l D cy ad yX9_init cX9_init 3 rX9_init_9_6 [.ref a, .int (9 : Int32), .int (6 : Int32)] (cf ws k (a, .inr (8, [.int 0, .int 0, .null, .int 0])) []) (fun qs => cf ws k (a, .inr (8, [.int (6 : Int32), .int (9 : Int32), .ref (qs 0), .int 0])) [((qs 0), .inl (cy 13, 54, .inl dfI))]) := by
  refine cn_of (by decide) rfl (Nat.le_of_ble_eq_true rfl) (fun p e s m args below meth c A hin => ?_)
  refine w_aload_n 0 dX9_init_0 rfl rfl rfl ?_
  refine l_obj ml_RX9_3 oi_w (Nat.le_of_ble_eq_true rfl) ⟨Nat.le_of_ble_eq_true rfl, Nat.le_of_ble_eq_true rfl⟩ dX9_init_1 rfl ?_
  refine w_aload_n 0 dX9_init_4 rfl rfl rfl ?_
  refine w_iconst (0 : Int32) dX9_init_5 ic_iconst_0 rfl ?_
  refine w_iload_n 1 dX9_init_6 rfl rfl rfl ?_
  refine w_mmax ml_RX9_9 (Nat.le_of_ble_eq_true rfl) ⟨Nat.le_of_ble_eq_true rfl, Nat.le_of_ble_eq_true rfl⟩ dX9_init_7 rfl ?_
  refine w_nmI (fun y e => ?_)
  have e : y = (9 : Int32) := e.trans (by decide)
  subst e
  refine l_putF (j := 1) (C := RX9) (Tt := TX9) (N := 4) (ty := .int) tyX9 hk rfl (by decide) inT_X9 fl_RX9_15 rfl tyX9_ok nmX9 rfl hin rfl (by decide +kernel) rfl rfl (Nat.le_of_ble_eq_true rfl) dX9_init_10 rfl ?_
  refine w_aload_n 0 dX9_init_13 rfl rfl rfl ?_
  refine w_iconst (0 : Int32) dX9_init_14 ic_iconst_0 rfl ?_
  refine w_iload_n 2 dX9_init_15 rfl rfl rfl ?_
  refine w_mmax ml_RX9_9 (Nat.le_of_ble_eq_true rfl) ⟨Nat.le_of_ble_eq_true rfl, Nat.le_of_ble_eq_true rfl⟩ dX9_init_16 rfl ?_
  refine w_nmI (fun y e => ?_)
  have e : y = (6 : Int32) := e.trans (by decide)
  subst e
  refine l_putF (j := 0) (C := RX9) (Tt := TX9) (N := 4) (ty := .int) tyX9 hk rfl (by decide) inT_X9 fl_RX9_21 rfl tyX9_ok nmX9 rfl hin rfl (by decide +kernel) rfl rfl (Nat.le_of_ble_eq_true rfl) dX9_init_19 rfl ?_
  refine w_aload_n 0 dX9_init_22 rfl rfl rfl ?_
  refine w_aload_n 0 dX9_init_23 rfl rfl rfl ?_
  refine l_get (j := 1) (C := RX9) (Tt := TX9) (N := 4) hk rfl (by decide) rfl inT_X9 fl_RX9_15 rfl dX9_init_24 rfl ?_
  refine w_aload_n 0 dX9_init_27 rfl rfl rfl ?_
  refine l_get (j := 0) (C := RX9) (Tt := TX9) (N := 4) hk rfl (by decide) rfl inT_X9 fl_RX9_21 rfl dX9_init_28 rfl ?_
  refine w_imul dX9_init_31 rfl ?_
  refine w_nmI (fun y e => ?_)
  have e : y = (54 : Int32) := e.trans (by decide)
  subst e
  refine l_newA (N' := 54) 1 13 (54, .inl dfI) rfl rfl (fun _ _ h => h) ac_int (fun _ => rfl) (by decide) (by decide +kernel) (by decide) ⟨Nat.le_of_ble_eq_true rfl, Nat.le_of_ble_eq_true rfl⟩ dX9_init_32 rfl (fun q32 => ?_)
  refine l_putF (j := 2) (C := RX9) (Tt := TX9) (N := 4) (ty := (.array .int)) tyX9 hk rfl (by decide) inT_X9 fl_RX9_24 rfl tyX9_ok nmX9 rfl hin rfl (by decide +kernel) rfl rfl (Nat.le_of_ble_eq_true rfl) dX9_init_34 rfl ?_
  exact l_return (fun i => [q32].getD i 0) rfl rfl dX9_init_37
theorem k_X9_init_9_6 {Γ : CX} {cc : ByteArray} {nL : Nat} {own : String} {ret : Option FieldType} {rm : Room} {ws L : va_W} {k q : Nat} {T : Nat × va_E} {pc pc' idx : Nat} {lv : List (Nat × Value)} {rest : List Value} (hl : Cond.methodLink own idx yX9_init ∈ TB) (hw : (rest.map fun v => v.category).sum ≤ 8) (hR : rX9_init_9_6.frames + 1 ≤ rm.frames ∧ 8 + (3 + 11) + rX9_init_9_6.locals ≤ rm.locals) (hR2 : xk Γ + rX9_init_9_6.cells ≤ rm.cells ∧ xn Γ + rX9_init_9_6.slots ≤ rm.slots) (hd : decode cc pc = .ok (.invokespecial idx, 3)) (hp : pc + 3 = pc') (h : ∀ qs : Nat → Nat, WL (bump Γ rX9_init_9_6.cells rX9_init_9_6.slots) cc nL own ret rm (cf ws k T (L ++ [(q, .inr (8, [.int (6 : Int32), .int (9 : Int32), .ref (qs 0), .int 0]))] ++ [((qs 0), .inl (xy Γ 13, 54, .inl dfI))])) pc' lv rest) : WL Γ cc nL own ret rm (cf ws k T (L ++ [(q, .inr (8, [.int 0, .int 0, .null, .int 0]))])) pc lv (.int (6 : Int32) :: .int (9 : Int32) :: .ref q :: rest) := by
  have hc := c_X9_init_9_6 (l := xl Γ) (D := xD Γ) (cy := xy Γ) (ad := xd Γ) (ws := cf ws k T (L ++ [(q, .inr (8, [.int 0, .int 0, .null, .int 0]))])) (k := (cf ws k T L).length) (a := q) (by simp [cf])
  rw [cf_self cf_last] at hc
  simp only [cf_last_set] at hc
  exact l_callI (nn := 2) (As := [.int (9 : Int32), .int (6 : Int32)]) (rest := rest) hc hl mw_X9_init rfl (by decide +kernel) hR hR2 rfl hw hd rfl hp h
def rX9_init_4_2 : Room := { frames := 1, cells := 1, slots := 8, locals := 23 }
set_option maxRecDepth 4000 in
theorem c_X9_init_4_2 {l : Launch} {D : va_G} {cy : Nat → ClassId} {ad : Nat → Nat} {ws : va_W} {k a : Nat} (hk : k < ws.length) : CN l D cy ad yX9_init cX9_init 3 rX9_init_4_2 [.ref a, .int (4 : Int32), .int (2 : Int32)] (cf ws k (a, .inr (8, [.int 0, .int 0, .null, .int 0])) []) (fun qs => cf ws k (a, .inr (8, [.int (2 : Int32), .int (4 : Int32), .ref (qs 0), .int 0])) [((qs 0), .inl (cy 13, 8, .inl dfI))]) := by
  refine cn_of (by decide) rfl (Nat.le_of_ble_eq_true rfl) (fun p e s m args below meth c A hin => ?_)
  refine w_aload_n 0 dX9_init_0 rfl rfl rfl ?_
  refine l_obj ml_RX9_3 oi_w (Nat.le_of_ble_eq_true rfl) ⟨Nat.le_of_ble_eq_true rfl, Nat.le_of_ble_eq_true rfl⟩ dX9_init_1 rfl ?_
  refine w_aload_n 0 dX9_init_4 rfl rfl rfl ?_
  refine w_iconst (0 : Int32) dX9_init_5 ic_iconst_0 rfl ?_
  refine w_iload_n 1 dX9_init_6 rfl rfl rfl ?_
  refine w_mmax ml_RX9_9 (Nat.le_of_ble_eq_true rfl) ⟨Nat.le_of_ble_eq_true rfl, Nat.le_of_ble_eq_true rfl⟩ dX9_init_7 rfl ?_
  refine w_nmI (fun y e => ?_)
  have e : y = (4 : Int32) := e.trans (by decide)
  subst e
  refine l_putF (j := 1) (C := RX9) (Tt := TX9) (N := 4) (ty := .int) tyX9 hk rfl (by decide) inT_X9 fl_RX9_15 rfl tyX9_ok nmX9 rfl hin rfl (by decide +kernel) rfl rfl (Nat.le_of_ble_eq_true rfl) dX9_init_10 rfl ?_
  refine w_aload_n 0 dX9_init_13 rfl rfl rfl ?_
  refine w_iconst (0 : Int32) dX9_init_14 ic_iconst_0 rfl ?_
  refine w_iload_n 2 dX9_init_15 rfl rfl rfl ?_
  refine w_mmax ml_RX9_9 (Nat.le_of_ble_eq_true rfl) ⟨Nat.le_of_ble_eq_true rfl, Nat.le_of_ble_eq_true rfl⟩ dX9_init_16 rfl ?_
  refine w_nmI (fun y e => ?_)
  have e : y = (2 : Int32) := e.trans (by decide)
  subst e
  refine l_putF (j := 0) (C := RX9) (Tt := TX9) (N := 4) (ty := .int) tyX9 hk rfl (by decide) inT_X9 fl_RX9_21 rfl tyX9_ok nmX9 rfl hin rfl (by decide +kernel) rfl rfl (Nat.le_of_ble_eq_true rfl) dX9_init_19 rfl ?_
  refine w_aload_n 0 dX9_init_22 rfl rfl rfl ?_
  refine w_aload_n 0 dX9_init_23 rfl rfl rfl ?_
  refine l_get (j := 1) (C := RX9) (Tt := TX9) (N := 4) hk rfl (by decide) rfl inT_X9 fl_RX9_15 rfl dX9_init_24 rfl ?_
  refine w_aload_n 0 dX9_init_27 rfl rfl rfl ?_
  refine l_get (j := 0) (C := RX9) (Tt := TX9) (N := 4) hk rfl (by decide) rfl inT_X9 fl_RX9_21 rfl dX9_init_28 rfl ?_
  refine w_imul dX9_init_31 rfl ?_
  refine w_nmI (fun y e => ?_)
  have e : y = (8 : Int32) := e.trans (by decide)
  subst e
  refine l_newA (N' := 8) 1 13 (8, .inl dfI) rfl rfl (fun _ _ h => h) ac_int (fun _ => rfl) (by decide) (by decide +kernel) (by decide) ⟨Nat.le_of_ble_eq_true rfl, Nat.le_of_ble_eq_true rfl⟩ dX9_init_32 rfl (fun q32 => ?_)
  refine l_putF (j := 2) (C := RX9) (Tt := TX9) (N := 4) (ty := (.array .int)) tyX9 hk rfl (by decide) inT_X9 fl_RX9_24 rfl tyX9_ok nmX9 rfl hin rfl (by decide +kernel) rfl rfl (Nat.le_of_ble_eq_true rfl) dX9_init_34 rfl ?_
  exact l_return (fun i => [q32].getD i 0) rfl rfl dX9_init_37
theorem k_X9_init_4_2 {Γ : CX} {cc : ByteArray} {nL : Nat} {own : String} {ret : Option FieldType} {rm : Room} {ws L : va_W} {k q : Nat} {T : Nat × va_E} {pc pc' idx : Nat} {lv : List (Nat × Value)} {rest : List Value} (hl : Cond.methodLink own idx yX9_init ∈ TB) (hw : (rest.map fun v => v.category).sum ≤ 8) (hR : rX9_init_4_2.frames + 1 ≤ rm.frames ∧ 8 + (3 + 11) + rX9_init_4_2.locals ≤ rm.locals) (hR2 : xk Γ + rX9_init_4_2.cells ≤ rm.cells ∧ xn Γ + rX9_init_4_2.slots ≤ rm.slots) (hd : decode cc pc = .ok (.invokespecial idx, 3)) (hp : pc + 3 = pc') (h : ∀ qs : Nat → Nat, WL (bump Γ rX9_init_4_2.cells rX9_init_4_2.slots) cc nL own ret rm (cf ws k T (L ++ [(q, .inr (8, [.int (2 : Int32), .int (4 : Int32), .ref (qs 0), .int 0]))] ++ [((qs 0), .inl (xy Γ 13, 8, .inl dfI))])) pc' lv rest) : WL Γ cc nL own ret rm (cf ws k T (L ++ [(q, .inr (8, [.int 0, .int 0, .null, .int 0]))])) pc lv (.int (2 : Int32) :: .int (4 : Int32) :: .ref q :: rest) := by
  have hc := c_X9_init_4_2 (l := xl Γ) (D := xD Γ) (cy := xy Γ) (ad := xd Γ) (ws := cf ws k T (L ++ [(q, .inr (8, [.int 0, .int 0, .null, .int 0]))])) (k := (cf ws k T L).length) (a := q) (by simp [cf])
  rw [cf_self cf_last] at hc
  simp only [cf_last_set] at hc
  exact l_callI (nn := 2) (As := [.int (4 : Int32), .int (2 : Int32)]) (rest := rest) hc hl mw_X9_init rfl (by decide +kernel) hR hR2 rfl hw hd rfl hp h
def rX9_init_8_4 : Room := { frames := 1, cells := 1, slots := 32, locals := 23 }
set_option maxRecDepth 4000 in
theorem c_X9_init_8_4 {l : Launch} {D : va_G} {cy : Nat → ClassId} {ad : Nat → Nat} {ws : va_W} {k a : Nat} (hk : k < ws.length) : CN l D cy ad yX9_init cX9_init 3 rX9_init_8_4 [.ref a, .int (8 : Int32), .int (4 : Int32)] (cf ws k (a, .inr (8, [.int 0, .int 0, .null, .int 0])) []) (fun qs => cf ws k (a, .inr (8, [.int (4 : Int32), .int (8 : Int32), .ref (qs 0), .int 0])) [((qs 0), .inl (cy 13, 32, .inl dfI))]) := by
  refine cn_of (by decide) rfl (Nat.le_of_ble_eq_true rfl) (fun p e s m args below meth c A hin => ?_)
  refine w_aload_n 0 dX9_init_0 rfl rfl rfl ?_
  refine l_obj ml_RX9_3 oi_w (Nat.le_of_ble_eq_true rfl) ⟨Nat.le_of_ble_eq_true rfl, Nat.le_of_ble_eq_true rfl⟩ dX9_init_1 rfl ?_
  refine w_aload_n 0 dX9_init_4 rfl rfl rfl ?_
  refine w_iconst (0 : Int32) dX9_init_5 ic_iconst_0 rfl ?_
  refine w_iload_n 1 dX9_init_6 rfl rfl rfl ?_
  refine w_mmax ml_RX9_9 (Nat.le_of_ble_eq_true rfl) ⟨Nat.le_of_ble_eq_true rfl, Nat.le_of_ble_eq_true rfl⟩ dX9_init_7 rfl ?_
  refine w_nmI (fun y e => ?_)
  have e : y = (8 : Int32) := e.trans (by decide)
  subst e
  refine l_putF (j := 1) (C := RX9) (Tt := TX9) (N := 4) (ty := .int) tyX9 hk rfl (by decide) inT_X9 fl_RX9_15 rfl tyX9_ok nmX9 rfl hin rfl (by decide +kernel) rfl rfl (Nat.le_of_ble_eq_true rfl) dX9_init_10 rfl ?_
  refine w_aload_n 0 dX9_init_13 rfl rfl rfl ?_
  refine w_iconst (0 : Int32) dX9_init_14 ic_iconst_0 rfl ?_
  refine w_iload_n 2 dX9_init_15 rfl rfl rfl ?_
  refine w_mmax ml_RX9_9 (Nat.le_of_ble_eq_true rfl) ⟨Nat.le_of_ble_eq_true rfl, Nat.le_of_ble_eq_true rfl⟩ dX9_init_16 rfl ?_
  refine w_nmI (fun y e => ?_)
  have e : y = (4 : Int32) := e.trans (by decide)
  subst e
  refine l_putF (j := 0) (C := RX9) (Tt := TX9) (N := 4) (ty := .int) tyX9 hk rfl (by decide) inT_X9 fl_RX9_21 rfl tyX9_ok nmX9 rfl hin rfl (by decide +kernel) rfl rfl (Nat.le_of_ble_eq_true rfl) dX9_init_19 rfl ?_
  refine w_aload_n 0 dX9_init_22 rfl rfl rfl ?_
  refine w_aload_n 0 dX9_init_23 rfl rfl rfl ?_
  refine l_get (j := 1) (C := RX9) (Tt := TX9) (N := 4) hk rfl (by decide) rfl inT_X9 fl_RX9_15 rfl dX9_init_24 rfl ?_
  refine w_aload_n 0 dX9_init_27 rfl rfl rfl ?_
  refine l_get (j := 0) (C := RX9) (Tt := TX9) (N := 4) hk rfl (by decide) rfl inT_X9 fl_RX9_21 rfl dX9_init_28 rfl ?_
  refine w_imul dX9_init_31 rfl ?_
  refine w_nmI (fun y e => ?_)
  have e : y = (32 : Int32) := e.trans (by decide)
  subst e
  refine l_newA (N' := 32) 1 13 (32, .inl dfI) rfl rfl (fun _ _ h => h) ac_int (fun _ => rfl) (by decide) (by decide +kernel) (by decide) ⟨Nat.le_of_ble_eq_true rfl, Nat.le_of_ble_eq_true rfl⟩ dX9_init_32 rfl (fun q32 => ?_)
  refine l_putF (j := 2) (C := RX9) (Tt := TX9) (N := 4) (ty := (.array .int)) tyX9 hk rfl (by decide) inT_X9 fl_RX9_24 rfl tyX9_ok nmX9 rfl hin rfl (by decide +kernel) rfl rfl (Nat.le_of_ble_eq_true rfl) dX9_init_34 rfl ?_
  exact l_return (fun i => [q32].getD i 0) rfl rfl dX9_init_37
theorem k_X9_init_8_4 {Γ : CX} {cc : ByteArray} {nL : Nat} {own : String} {ret : Option FieldType} {rm : Room} {ws L : va_W} {k q : Nat} {T : Nat × va_E} {pc pc' idx : Nat} {lv : List (Nat × Value)} {rest : List Value} (hl : Cond.methodLink own idx yX9_init ∈ TB) (hw : (rest.map fun v => v.category).sum ≤ 8) (hR : rX9_init_8_4.frames + 1 ≤ rm.frames ∧ 8 + (3 + 11) + rX9_init_8_4.locals ≤ rm.locals) (hR2 : xk Γ + rX9_init_8_4.cells ≤ rm.cells ∧ xn Γ + rX9_init_8_4.slots ≤ rm.slots) (hd : decode cc pc = .ok (.invokespecial idx, 3)) (hp : pc + 3 = pc') (h : ∀ qs : Nat → Nat, WL (bump Γ rX9_init_8_4.cells rX9_init_8_4.slots) cc nL own ret rm (cf ws k T (L ++ [(q, .inr (8, [.int (4 : Int32), .int (8 : Int32), .ref (qs 0), .int 0]))] ++ [((qs 0), .inl (xy Γ 13, 32, .inl dfI))])) pc' lv rest) : WL Γ cc nL own ret rm (cf ws k T (L ++ [(q, .inr (8, [.int 0, .int 0, .null, .int 0]))])) pc lv (.int (4 : Int32) :: .int (8 : Int32) :: .ref q :: rest) := by
  have hc := c_X9_init_8_4 (l := xl Γ) (D := xD Γ) (cy := xy Γ) (ad := xd Γ) (ws := cf ws k T (L ++ [(q, .inr (8, [.int 0, .int 0, .null, .int 0]))])) (k := (cf ws k T L).length) (a := q) (by simp [cf])
  rw [cf_self cf_last] at hc
  simp only [cf_last_set] at hc
  exact l_callI (nn := 2) (As := [.int (8 : Int32), .int (4 : Int32)]) (rest := rest) hc hl mw_X9_init rfl (by decide +kernel) hR hR2 rfl hw hd rfl hp h
def rX9_init_5_1 : Room := { frames := 1, cells := 1, slots := 5, locals := 23 }
set_option maxRecDepth 4000 in
theorem c_X9_init_5_1 {l : Launch} {D : va_G} {cy : Nat → ClassId} {ad : Nat → Nat} {ws : va_W} {k a : Nat} (hk : k < ws.length) : CN l D cy ad yX9_init cX9_init 3 rX9_init_5_1 [.ref a, .int (5 : Int32), .int (1 : Int32)] (cf ws k (a, .inr (8, [.int 0, .int 0, .null, .int 0])) []) (fun qs => cf ws k (a, .inr (8, [.int (1 : Int32), .int (5 : Int32), .ref (qs 0), .int 0])) [((qs 0), .inl (cy 13, 5, .inl dfI))]) := by
  refine cn_of (by decide) rfl (Nat.le_of_ble_eq_true rfl) (fun p e s m args below meth c A hin => ?_)
  refine w_aload_n 0 dX9_init_0 rfl rfl rfl ?_
  refine l_obj ml_RX9_3 oi_w (Nat.le_of_ble_eq_true rfl) ⟨Nat.le_of_ble_eq_true rfl, Nat.le_of_ble_eq_true rfl⟩ dX9_init_1 rfl ?_
  refine w_aload_n 0 dX9_init_4 rfl rfl rfl ?_
  refine w_iconst (0 : Int32) dX9_init_5 ic_iconst_0 rfl ?_
  refine w_iload_n 1 dX9_init_6 rfl rfl rfl ?_
  refine w_mmax ml_RX9_9 (Nat.le_of_ble_eq_true rfl) ⟨Nat.le_of_ble_eq_true rfl, Nat.le_of_ble_eq_true rfl⟩ dX9_init_7 rfl ?_
  refine w_nmI (fun y e => ?_)
  have e : y = (5 : Int32) := e.trans (by decide)
  subst e
  refine l_putF (j := 1) (C := RX9) (Tt := TX9) (N := 4) (ty := .int) tyX9 hk rfl (by decide) inT_X9 fl_RX9_15 rfl tyX9_ok nmX9 rfl hin rfl (by decide +kernel) rfl rfl (Nat.le_of_ble_eq_true rfl) dX9_init_10 rfl ?_
  refine w_aload_n 0 dX9_init_13 rfl rfl rfl ?_
  refine w_iconst (0 : Int32) dX9_init_14 ic_iconst_0 rfl ?_
  refine w_iload_n 2 dX9_init_15 rfl rfl rfl ?_
  refine w_mmax ml_RX9_9 (Nat.le_of_ble_eq_true rfl) ⟨Nat.le_of_ble_eq_true rfl, Nat.le_of_ble_eq_true rfl⟩ dX9_init_16 rfl ?_
  refine w_nmI (fun y e => ?_)
  have e : y = (1 : Int32) := e.trans (by decide)
  subst e
  refine l_putF (j := 0) (C := RX9) (Tt := TX9) (N := 4) (ty := .int) tyX9 hk rfl (by decide) inT_X9 fl_RX9_21 rfl tyX9_ok nmX9 rfl hin rfl (by decide +kernel) rfl rfl (Nat.le_of_ble_eq_true rfl) dX9_init_19 rfl ?_
  refine w_aload_n 0 dX9_init_22 rfl rfl rfl ?_
  refine w_aload_n 0 dX9_init_23 rfl rfl rfl ?_
  refine l_get (j := 1) (C := RX9) (Tt := TX9) (N := 4) hk rfl (by decide) rfl inT_X9 fl_RX9_15 rfl dX9_init_24 rfl ?_
  refine w_aload_n 0 dX9_init_27 rfl rfl rfl ?_
  refine l_get (j := 0) (C := RX9) (Tt := TX9) (N := 4) hk rfl (by decide) rfl inT_X9 fl_RX9_21 rfl dX9_init_28 rfl ?_
  refine w_imul dX9_init_31 rfl ?_
  refine w_nmI (fun y e => ?_)
  have e : y = (5 : Int32) := e.trans (by decide)
  subst e
  refine l_newA (N' := 5) 1 13 (5, .inl dfI) rfl rfl (fun _ _ h => h) ac_int (fun _ => rfl) (by decide) (by decide +kernel) (by decide) ⟨Nat.le_of_ble_eq_true rfl, Nat.le_of_ble_eq_true rfl⟩ dX9_init_32 rfl (fun q32 => ?_)
  refine l_putF (j := 2) (C := RX9) (Tt := TX9) (N := 4) (ty := (.array .int)) tyX9 hk rfl (by decide) inT_X9 fl_RX9_24 rfl tyX9_ok nmX9 rfl hin rfl (by decide +kernel) rfl rfl (Nat.le_of_ble_eq_true rfl) dX9_init_34 rfl ?_
  exact l_return (fun i => [q32].getD i 0) rfl rfl dX9_init_37
theorem k_X9_init_5_1 {Γ : CX} {cc : ByteArray} {nL : Nat} {own : String} {ret : Option FieldType} {rm : Room} {ws L : va_W} {k q : Nat} {T : Nat × va_E} {pc pc' idx : Nat} {lv : List (Nat × Value)} {rest : List Value} (hl : Cond.methodLink own idx yX9_init ∈ TB) (hw : (rest.map fun v => v.category).sum ≤ 8) (hR : rX9_init_5_1.frames + 1 ≤ rm.frames ∧ 8 + (3 + 11) + rX9_init_5_1.locals ≤ rm.locals) (hR2 : xk Γ + rX9_init_5_1.cells ≤ rm.cells ∧ xn Γ + rX9_init_5_1.slots ≤ rm.slots) (hd : decode cc pc = .ok (.invokespecial idx, 3)) (hp : pc + 3 = pc') (h : ∀ qs : Nat → Nat, WL (bump Γ rX9_init_5_1.cells rX9_init_5_1.slots) cc nL own ret rm (cf ws k T (L ++ [(q, .inr (8, [.int (1 : Int32), .int (5 : Int32), .ref (qs 0), .int 0]))] ++ [((qs 0), .inl (xy Γ 13, 5, .inl dfI))])) pc' lv rest) : WL Γ cc nL own ret rm (cf ws k T (L ++ [(q, .inr (8, [.int 0, .int 0, .null, .int 0]))])) pc lv (.int (1 : Int32) :: .int (5 : Int32) :: .ref q :: rest) := by
  have hc := c_X9_init_5_1 (l := xl Γ) (D := xD Γ) (cy := xy Γ) (ad := xd Γ) (ws := cf ws k T (L ++ [(q, .inr (8, [.int 0, .int 0, .null, .int 0]))])) (k := (cf ws k T L).length) (a := q) (by simp [cf])
  rw [cf_self cf_last] at hc
  simp only [cf_last_set] at hc
  exact l_callI (nn := 2) (As := [.int (5 : Int32), .int (1 : Int32)]) (rest := rest) hc hl mw_X9_init rfl (by decide +kernel) hR hR2 rfl hw hd rfl hp h
def rX9_init_60_3 : Room := { frames := 1, cells := 1, slots := 180, locals := 23 }
set_option maxRecDepth 4000 in
theorem c_X9_init_60_3 {l : Launch} {D : va_G} {cy : Nat → ClassId} {ad : Nat → Nat} {ws : va_W} {k a : Nat} (hk : k < ws.length) : CN l D cy ad yX9_init cX9_init 3 rX9_init_60_3 [.ref a, .int (60 : Int32), .int (3 : Int32)] (cf ws k (a, .inr (8, [.int 0, .int 0, .null, .int 0])) []) (fun qs => cf ws k (a, .inr (8, [.int (3 : Int32), .int (60 : Int32), .ref (qs 0), .int 0])) [((qs 0), .inl (cy 13, 180, .inl dfI))]) := by
  refine cn_of (by decide) rfl (Nat.le_of_ble_eq_true rfl) (fun p e s m args below meth c A hin => ?_)
  refine w_aload_n 0 dX9_init_0 rfl rfl rfl ?_
  refine l_obj ml_RX9_3 oi_w (Nat.le_of_ble_eq_true rfl) ⟨Nat.le_of_ble_eq_true rfl, Nat.le_of_ble_eq_true rfl⟩ dX9_init_1 rfl ?_
  refine w_aload_n 0 dX9_init_4 rfl rfl rfl ?_
  refine w_iconst (0 : Int32) dX9_init_5 ic_iconst_0 rfl ?_
  refine w_iload_n 1 dX9_init_6 rfl rfl rfl ?_
  refine w_mmax ml_RX9_9 (Nat.le_of_ble_eq_true rfl) ⟨Nat.le_of_ble_eq_true rfl, Nat.le_of_ble_eq_true rfl⟩ dX9_init_7 rfl ?_
  refine w_nmI (fun y e => ?_)
  have e : y = (60 : Int32) := e.trans (by decide)
  subst e
  refine l_putF (j := 1) (C := RX9) (Tt := TX9) (N := 4) (ty := .int) tyX9 hk rfl (by decide) inT_X9 fl_RX9_15 rfl tyX9_ok nmX9 rfl hin rfl (by decide +kernel) rfl rfl (Nat.le_of_ble_eq_true rfl) dX9_init_10 rfl ?_
  refine w_aload_n 0 dX9_init_13 rfl rfl rfl ?_
  refine w_iconst (0 : Int32) dX9_init_14 ic_iconst_0 rfl ?_
  refine w_iload_n 2 dX9_init_15 rfl rfl rfl ?_
  refine w_mmax ml_RX9_9 (Nat.le_of_ble_eq_true rfl) ⟨Nat.le_of_ble_eq_true rfl, Nat.le_of_ble_eq_true rfl⟩ dX9_init_16 rfl ?_
  refine w_nmI (fun y e => ?_)
  have e : y = (3 : Int32) := e.trans (by decide)
  subst e
  refine l_putF (j := 0) (C := RX9) (Tt := TX9) (N := 4) (ty := .int) tyX9 hk rfl (by decide) inT_X9 fl_RX9_21 rfl tyX9_ok nmX9 rfl hin rfl (by decide +kernel) rfl rfl (Nat.le_of_ble_eq_true rfl) dX9_init_19 rfl ?_
  refine w_aload_n 0 dX9_init_22 rfl rfl rfl ?_
  refine w_aload_n 0 dX9_init_23 rfl rfl rfl ?_
  refine l_get (j := 1) (C := RX9) (Tt := TX9) (N := 4) hk rfl (by decide) rfl inT_X9 fl_RX9_15 rfl dX9_init_24 rfl ?_
  refine w_aload_n 0 dX9_init_27 rfl rfl rfl ?_
  refine l_get (j := 0) (C := RX9) (Tt := TX9) (N := 4) hk rfl (by decide) rfl inT_X9 fl_RX9_21 rfl dX9_init_28 rfl ?_
  refine w_imul dX9_init_31 rfl ?_
  refine w_nmI (fun y e => ?_)
  have e : y = (180 : Int32) := e.trans (by decide)
  subst e
  refine l_newA (N' := 180) 1 13 (180, .inl dfI) rfl rfl (fun _ _ h => h) ac_int (fun _ => rfl) (by decide) (by decide +kernel) (by decide) ⟨Nat.le_of_ble_eq_true rfl, Nat.le_of_ble_eq_true rfl⟩ dX9_init_32 rfl (fun q32 => ?_)
  refine l_putF (j := 2) (C := RX9) (Tt := TX9) (N := 4) (ty := (.array .int)) tyX9 hk rfl (by decide) inT_X9 fl_RX9_24 rfl tyX9_ok nmX9 rfl hin rfl (by decide +kernel) rfl rfl (Nat.le_of_ble_eq_true rfl) dX9_init_34 rfl ?_
  exact l_return (fun i => [q32].getD i 0) rfl rfl dX9_init_37
theorem k_X9_init_60_3 {Γ : CX} {cc : ByteArray} {nL : Nat} {own : String} {ret : Option FieldType} {rm : Room} {ws L : va_W} {k q : Nat} {T : Nat × va_E} {pc pc' idx : Nat} {lv : List (Nat × Value)} {rest : List Value} (hl : Cond.methodLink own idx yX9_init ∈ TB) (hw : (rest.map fun v => v.category).sum ≤ 8) (hR : rX9_init_60_3.frames + 1 ≤ rm.frames ∧ 8 + (3 + 11) + rX9_init_60_3.locals ≤ rm.locals) (hR2 : xk Γ + rX9_init_60_3.cells ≤ rm.cells ∧ xn Γ + rX9_init_60_3.slots ≤ rm.slots) (hd : decode cc pc = .ok (.invokespecial idx, 3)) (hp : pc + 3 = pc') (h : ∀ qs : Nat → Nat, WL (bump Γ rX9_init_60_3.cells rX9_init_60_3.slots) cc nL own ret rm (cf ws k T (L ++ [(q, .inr (8, [.int (3 : Int32), .int (60 : Int32), .ref (qs 0), .int 0]))] ++ [((qs 0), .inl (xy Γ 13, 180, .inl dfI))])) pc' lv rest) : WL Γ cc nL own ret rm (cf ws k T (L ++ [(q, .inr (8, [.int 0, .int 0, .null, .int 0]))])) pc lv (.int (3 : Int32) :: .int (60 : Int32) :: .ref q :: rest) := by
  have hc := c_X9_init_60_3 (l := xl Γ) (D := xD Γ) (cy := xy Γ) (ad := xd Γ) (ws := cf ws k T (L ++ [(q, .inr (8, [.int 0, .int 0, .null, .int 0]))])) (k := (cf ws k T L).length) (a := q) (by simp [cf])
  rw [cf_self cf_last] at hc
  simp only [cf_last_set] at hc
  exact l_callI (nn := 2) (As := [.int (60 : Int32), .int (3 : Int32)]) (rest := rest) hc hl mw_X9_init rfl (by decide +kernel) hR hR2 rfl hw hd rfl hp h
def rX10_init : Room := { frames := 2, cells := 13, slots := 313, locals := 45 }
theorem mw_X10_init : Cond.instanceMethod yX10_init ∈ TB ∧ Cond.initialized yX10_init.cls ∈ TB ∧ Cond.code yX10_init cX10_init 1 none ∈ TB := ⟨tb_m (bk_1 (List.mem_of_getElem? (i := 33) (by decide +kernel))) rfl, tb_m (bk_1 (List.mem_of_getElem? (i := 2) (by decide +kernel))) rfl, tb_m (bk_1 (List.mem_of_getElem? (i := 34) (by decide +kernel))) rfl⟩
set_option maxRecDepth 4000 in
theorem c_X10_init {l : Launch} {D : va_G} {cy : Nat → ClassId} {ad : Nat → Nat} {ws : va_W} {k a : Nat} (hk : k < ws.length) : CN l D cy ad yX10_init cX10_init 1 rX10_init [.ref a] (cf ws k (a, .inr (9, [.int 0, .int 0, .int 0, .int 0, .int 0, .null, .null, .null, .null, .null, .null, .null])) []) (fun qs => cf ws k (a, .inr (9, [.int 0, .int 0, .int 0, .int 0, .int 0, .ref (qs 0), .ref (qs 1), .ref (qs 3), .ref (qs 5), .ref (qs 7), .ref (qs 9), .ref (qs 11)])) [((qs 0), .inl (cy 13, 2, .inl dfI)), ((qs 1), .inr (8, [.int (6 : Int32), .int (9 : Int32), .ref (qs 2), .int 0])), ((qs 2), .inl (cy 13, 54, .inl dfI)), ((qs 3), .inr (8, [.int (2 : Int32), .int (4 : Int32), .ref (qs 4), .int 0])), ((qs 4), .inl (cy 13, 8, .inl dfI)), ((qs 5), .inr (8, [.int (4 : Int32), .int (8 : Int32), .ref (qs 6), .int 0])), ((qs 6), .inl (cy 13, 32, .inl dfI)), ((qs 7), .inr (8, [.int (2 : Int32), .int (4 : Int32), .ref (qs 8), .int 0])), ((qs 8), .inl (cy 13, 8, .inl dfI)), ((qs 9), .inr (8, [.int (1 : Int32), .int (5 : Int32), .ref (qs 10), .int 0])), ((qs 10), .inl (cy 13, 5, .inl dfI)), ((qs 11), .inr (8, [.int (3 : Int32), .int (60 : Int32), .ref (qs 12), .int 0])), ((qs 12), .inl (cy 13, 180, .inl dfI))]) := by
  refine cn_of (by decide) rfl (Nat.le_of_ble_eq_true rfl) (fun p e s m args below meth c A hin => ?_)
  refine w_aload_n 0 dX10_init_0 rfl rfl rfl ?_
  refine l_obj ml_RX10_3 oi_w (Nat.le_of_ble_eq_true rfl) ⟨Nat.le_of_ble_eq_true rfl, Nat.le_of_ble_eq_true rfl⟩ dX10_init_1 rfl ?_
  refine w_aload_n 0 dX10_init_4 rfl rfl rfl ?_
  refine w_iconst (2 : Int32) dX10_init_5 ic_iconst_2 rfl ?_
  refine l_newA (N' := 2) 1 13 (2, .inl dfI) rfl rfl (fun _ _ h => h) ac_int (fun _ => rfl) (by decide) (by decide +kernel) (by decide) ⟨Nat.le_of_ble_eq_true rfl, Nat.le_of_ble_eq_true rfl⟩ dX10_init_6 rfl (fun q6 => ?_)
  refine l_putF (j := 5) (C := RX10) (Tt := TX10) (N := 12) (ty := (.array .int)) tyX10 hk rfl (by decide) inT_X10 fl_RX10_9 rfl tyX10_ok nmX10 rfl hin rfl (by decide +kernel) rfl rfl (Nat.le_of_ble_eq_true rfl) dX10_init_8 rfl ?_
  refine w_aload_n 0 dX10_init_11 rfl rfl rfl ?_
  refine l_new (ci := 8) [.int 0, .int 0, .null, .int 0] tyX9 rfl inT_X9 tyX9_ok ⟨kl_RX10_15, is_X9⟩ df_X9 ⟨Nat.le_of_ble_eq_true rfl, Nat.le_of_ble_eq_true rfl⟩ dX10_init_12 rfl (fun q12 => ?_)
  refine w_dup dX10_init_15 rfl rfl ?_
  refine w_bipush (9 : Int32) dX10_init_16 ic_bipush_9 rfl ?_
  refine w_bipush (6 : Int32) dX10_init_18 ic_bipush_6 rfl ?_
  refine k_X9_init_9_6 ml_RX10_17 (Nat.le_of_ble_eq_true rfl) ⟨Nat.le_of_ble_eq_true rfl, Nat.le_of_ble_eq_true rfl⟩ ⟨Nat.le_of_ble_eq_true rfl, Nat.le_of_ble_eq_true rfl⟩ dX10_init_20 rfl (fun u20 => ?_)
  refine l_putF (j := 6) (C := RX10) (Tt := TX10) (N := 12) (ty := (.object RX9)) tyX10 hk rfl (by decide) inT_X10 fl_RX10_20 rfl tyX10_ok nmX10 rfl hin rfl (by decide +kernel) rfl rfl (Nat.le_of_ble_eq_true rfl) dX10_init_23 rfl ?_
  refine w_aload_n 0 dX10_init_26 rfl rfl rfl ?_
  refine l_new (ci := 8) [.int 0, .int 0, .null, .int 0] tyX9 rfl inT_X9 tyX9_ok ⟨kl_RX10_15, is_X9⟩ df_X9 ⟨Nat.le_of_ble_eq_true rfl, Nat.le_of_ble_eq_true rfl⟩ dX10_init_27 rfl (fun q27 => ?_)
  refine w_dup dX10_init_30 rfl rfl ?_
  refine w_iconst (4 : Int32) dX10_init_31 ic_iconst_4 rfl ?_
  refine w_iconst (2 : Int32) dX10_init_32 ic_iconst_2 rfl ?_
  refine k_X9_init_4_2 ml_RX10_17 (Nat.le_of_ble_eq_true rfl) ⟨Nat.le_of_ble_eq_true rfl, Nat.le_of_ble_eq_true rfl⟩ ⟨Nat.le_of_ble_eq_true rfl, Nat.le_of_ble_eq_true rfl⟩ dX10_init_33 rfl (fun u33 => ?_)
  refine l_putF (j := 7) (C := RX10) (Tt := TX10) (N := 12) (ty := (.object RX9)) tyX10 hk rfl (by decide) inT_X10 fl_RX10_24 rfl tyX10_ok nmX10 rfl hin rfl (by decide +kernel) rfl rfl (Nat.le_of_ble_eq_true rfl) dX10_init_36 rfl ?_
  refine w_aload_n 0 dX10_init_39 rfl rfl rfl ?_
  refine l_new (ci := 8) [.int 0, .int 0, .null, .int 0] tyX9 rfl inT_X9 tyX9_ok ⟨kl_RX10_15, is_X9⟩ df_X9 ⟨Nat.le_of_ble_eq_true rfl, Nat.le_of_ble_eq_true rfl⟩ dX10_init_40 rfl (fun q40 => ?_)
  refine w_dup dX10_init_43 rfl rfl ?_
  refine w_bipush (8 : Int32) dX10_init_44 ic_bipush_8 rfl ?_
  refine w_iconst (4 : Int32) dX10_init_46 ic_iconst_4 rfl ?_
  refine k_X9_init_8_4 ml_RX10_17 (Nat.le_of_ble_eq_true rfl) ⟨Nat.le_of_ble_eq_true rfl, Nat.le_of_ble_eq_true rfl⟩ ⟨Nat.le_of_ble_eq_true rfl, Nat.le_of_ble_eq_true rfl⟩ dX10_init_47 rfl (fun u47 => ?_)
  refine l_putF (j := 8) (C := RX10) (Tt := TX10) (N := 12) (ty := (.object RX9)) tyX10 hk rfl (by decide) inT_X10 fl_RX10_27 rfl tyX10_ok nmX10 rfl hin rfl (by decide +kernel) rfl rfl (Nat.le_of_ble_eq_true rfl) dX10_init_50 rfl ?_
  refine w_aload_n 0 dX10_init_53 rfl rfl rfl ?_
  refine l_new (ci := 8) [.int 0, .int 0, .null, .int 0] tyX9 rfl inT_X9 tyX9_ok ⟨kl_RX10_15, is_X9⟩ df_X9 ⟨Nat.le_of_ble_eq_true rfl, Nat.le_of_ble_eq_true rfl⟩ dX10_init_54 rfl (fun q54 => ?_)
  refine w_dup dX10_init_57 rfl rfl ?_
  refine w_iconst (4 : Int32) dX10_init_58 ic_iconst_4 rfl ?_
  refine w_iconst (2 : Int32) dX10_init_59 ic_iconst_2 rfl ?_
  refine k_X9_init_4_2 ml_RX10_17 (Nat.le_of_ble_eq_true rfl) ⟨Nat.le_of_ble_eq_true rfl, Nat.le_of_ble_eq_true rfl⟩ ⟨Nat.le_of_ble_eq_true rfl, Nat.le_of_ble_eq_true rfl⟩ dX10_init_60 rfl (fun u60 => ?_)
  refine l_putF (j := 9) (C := RX10) (Tt := TX10) (N := 12) (ty := (.object RX9)) tyX10 hk rfl (by decide) inT_X10 fl_RX10_30 rfl tyX10_ok nmX10 rfl hin rfl (by decide +kernel) rfl rfl (Nat.le_of_ble_eq_true rfl) dX10_init_63 rfl ?_
  refine w_aload_n 0 dX10_init_66 rfl rfl rfl ?_
  refine l_new (ci := 8) [.int 0, .int 0, .null, .int 0] tyX9 rfl inT_X9 tyX9_ok ⟨kl_RX10_15, is_X9⟩ df_X9 ⟨Nat.le_of_ble_eq_true rfl, Nat.le_of_ble_eq_true rfl⟩ dX10_init_67 rfl (fun q67 => ?_)
  refine w_dup dX10_init_70 rfl rfl ?_
  refine w_iconst (5 : Int32) dX10_init_71 ic_iconst_5 rfl ?_
  refine w_iconst (1 : Int32) dX10_init_72 ic_iconst_1 rfl ?_
  refine k_X9_init_5_1 ml_RX10_17 (Nat.le_of_ble_eq_true rfl) ⟨Nat.le_of_ble_eq_true rfl, Nat.le_of_ble_eq_true rfl⟩ ⟨Nat.le_of_ble_eq_true rfl, Nat.le_of_ble_eq_true rfl⟩ dX10_init_73 rfl (fun u73 => ?_)
  refine l_putF (j := 10) (C := RX10) (Tt := TX10) (N := 12) (ty := (.object RX9)) tyX10 hk rfl (by decide) inT_X10 fl_RX10_33 rfl tyX10_ok nmX10 rfl hin rfl (by decide +kernel) rfl rfl (Nat.le_of_ble_eq_true rfl) dX10_init_76 rfl ?_
  refine w_aload_n 0 dX10_init_79 rfl rfl rfl ?_
  refine l_new (ci := 8) [.int 0, .int 0, .null, .int 0] tyX9 rfl inT_X9 tyX9_ok ⟨kl_RX10_15, is_X9⟩ df_X9 ⟨Nat.le_of_ble_eq_true rfl, Nat.le_of_ble_eq_true rfl⟩ dX10_init_80 rfl (fun q80 => ?_)
  refine w_dup dX10_init_83 rfl rfl ?_
  refine w_bipush (60 : Int32) dX10_init_84 ic_bipush_60 rfl ?_
  refine w_iconst (3 : Int32) dX10_init_86 ic_iconst_3 rfl ?_
  refine k_X9_init_60_3 ml_RX10_17 (Nat.le_of_ble_eq_true rfl) ⟨Nat.le_of_ble_eq_true rfl, Nat.le_of_ble_eq_true rfl⟩ ⟨Nat.le_of_ble_eq_true rfl, Nat.le_of_ble_eq_true rfl⟩ dX10_init_87 rfl (fun u87 => ?_)
  refine l_putF (j := 11) (C := RX10) (Tt := TX10) (N := 12) (ty := (.object RX9)) tyX10 hk rfl (by decide) inT_X10 fl_RX10_36 rfl tyX10_ok nmX10 rfl hin rfl (by decide +kernel) rfl rfl (Nat.le_of_ble_eq_true rfl) dX10_init_90 rfl ?_
  exact l_return (fun i => [q6, q12, (u20 0), q27, (u33 0), q40, (u47 0), q54, (u60 0), q67, (u73 0), q80, (u87 0)].getD i 0) rfl rfl dX10_init_93
theorem k_X10_init {Γ : CX} {cc : ByteArray} {nL : Nat} {own : String} {ret : Option FieldType} {rm : Room} {ws L : va_W} {k q : Nat} {T : Nat × va_E} {pc pc' idx : Nat} {lv : List (Nat × Value)} {rest : List Value} (hl : SR (xd Γ) (xs Γ) → va_Nw (.methodLinkNest own idx yX10_init RX11) (xs Γ)) (hw : (rest.map fun v => v.category).sum ≤ 8) (hR : rX10_init.frames + 1 ≤ rm.frames ∧ 8 + (1 + 11) + rX10_init.locals ≤ rm.locals) (hR2 : xk Γ + rX10_init.cells ≤ rm.cells ∧ xn Γ + rX10_init.slots ≤ rm.slots) (hd : decode cc pc = .ok (.invokespecial idx, 3)) (hp : pc + 3 = pc') (h : ∀ qs : Nat → Nat, WL (bump Γ rX10_init.cells rX10_init.slots) cc nL own ret rm (cf ws k T (L ++ [(q, .inr (9, [.int 0, .int 0, .int 0, .int 0, .int 0, .ref (qs 0), .ref (qs 1), .ref (qs 3), .ref (qs 5), .ref (qs 7), .ref (qs 9), .ref (qs 11)]))] ++ [((qs 0), .inl (xy Γ 13, 2, .inl dfI)), ((qs 1), .inr (8, [.int (6 : Int32), .int (9 : Int32), .ref (qs 2), .int 0])), ((qs 2), .inl (xy Γ 13, 54, .inl dfI)), ((qs 3), .inr (8, [.int (2 : Int32), .int (4 : Int32), .ref (qs 4), .int 0])), ((qs 4), .inl (xy Γ 13, 8, .inl dfI)), ((qs 5), .inr (8, [.int (4 : Int32), .int (8 : Int32), .ref (qs 6), .int 0])), ((qs 6), .inl (xy Γ 13, 32, .inl dfI)), ((qs 7), .inr (8, [.int (2 : Int32), .int (4 : Int32), .ref (qs 8), .int 0])), ((qs 8), .inl (xy Γ 13, 8, .inl dfI)), ((qs 9), .inr (8, [.int (1 : Int32), .int (5 : Int32), .ref (qs 10), .int 0])), ((qs 10), .inl (xy Γ 13, 5, .inl dfI)), ((qs 11), .inr (8, [.int (3 : Int32), .int (60 : Int32), .ref (qs 12), .int 0])), ((qs 12), .inl (xy Γ 13, 180, .inl dfI))])) pc' lv rest) : WL Γ cc nL own ret rm (cf ws k T (L ++ [(q, .inr (9, [.int 0, .int 0, .int 0, .int 0, .int 0, .null, .null, .null, .null, .null, .null, .null]))])) pc lv (.ref q :: rest) := by
  have hc := c_X10_init (l := xl Γ) (D := xD Γ) (cy := xy Γ) (ad := xd Γ) (ws := cf ws k T (L ++ [(q, .inr (9, [.int 0, .int 0, .int 0, .int 0, .int 0, .null, .null, .null, .null, .null, .null, .null]))])) (k := (cf ws k T L).length) (a := q) (by simp [cf])
  rw [cf_self cf_last] at hc
  simp only [cf_last_set] at hc
  exact l_callN (host := RX11) (nn := 0) (As := []) (rest := rest) hc hl mw_X10_init rfl (by decide +kernel) hR hR2 rfl hw hd rfl hp h
def rX6_init : Room := { frames := 1, cells := 1, slots := 1200, locals := 20 }
theorem mw_X6_init : Cond.instanceMethod yX6_init ∈ TB ∧ Cond.initialized yX6_init.cls ∈ TB ∧ Cond.code yX6_init cX6_init 2 none ∈ TB := ⟨tb_m (bk_1 (List.mem_of_getElem? (i := 141) (by decide +kernel))) rfl, tb_m (bk_1 (List.mem_of_getElem? (i := 5) (by decide +kernel))) rfl, tb_m (bk_1 (List.mem_of_getElem? (i := 142) (by decide +kernel))) rfl⟩
set_option maxRecDepth 4000 in
theorem c_X6_init {l : Launch} {D : va_G} {cy : Nat → ClassId} {ad : Nat → Nat} {ws : va_W} {k a : Nat} {r0 : Nat} (hk : k < ws.length) : CN l D cy ad yX6_init cX6_init 2 rX6_init [.ref a, .ref r0] (cf ws k (a, .inr (5, [.null, .int 0, .int 0, .int 0, .null, .int 0, .int 0, .int 0, .int 0])) []) (fun qs => cf ws k (a, .inr (5, [.ref (qs 0), .int 0, .int 0, .int (-1 : Int32), .ref r0, .int 0, .int 0, .int 0, .int 0])) [((qs 0), .inl (cy 12, 1200, .inl dfI))]) := by
  refine cn_of (by decide) rfl (Nat.le_of_ble_eq_true rfl) (fun p e s m args below meth c A hin => ?_)
  refine w_aload_n 0 dX6_init_0 rfl rfl rfl ?_
  refine l_obj ml_RX6_3 oi_w (Nat.le_of_ble_eq_true rfl) ⟨Nat.le_of_ble_eq_true rfl, Nat.le_of_ble_eq_true rfl⟩ dX6_init_1 rfl ?_
  refine w_aload_n 0 dX6_init_4 rfl rfl rfl ?_
  refine w_sipush (1200 : Int32) dX6_init_5 ic_sipush_1200 rfl ?_
  refine l_newA (N' := 1200) 0 12 (1200, .inl dfI) rfl rfl (fun _ _ h => h) ac_byte (fun _ => rfl) (by decide) (by decide +kernel) (by decide) ⟨Nat.le_of_ble_eq_true rfl, Nat.le_of_ble_eq_true rfl⟩ dX6_init_8 rfl (fun q8 => ?_)
  refine l_putF (j := 0) (C := RX6) (Tt := TX6) (N := 9) (ty := (.array .byte)) tyX6 hk rfl (by decide) inT_X6 fl_RX6_9 rfl tyX6_ok nmX6 rfl hin rfl (by decide +kernel) rfl rfl (Nat.le_of_ble_eq_true rfl) dX6_init_10 rfl ?_
  refine w_aload_n 0 dX6_init_13 rfl rfl rfl ?_
  refine w_iconst (-1 : Int32) dX6_init_14 ic_iconst_m1 rfl ?_
  refine l_put (j := 3) (C := RX6) (Tt := TX6) (N := 9) (ty := .int) tyX6 hk rfl (by decide) inT_X6 fl_RX6_15 rfl tyX6_ok nmX6 rfl (by decide +kernel) rfl rfl (Nat.le_of_ble_eq_true rfl) dX6_init_15 rfl ?_
  refine w_aload_n 0 dX6_init_18 rfl rfl rfl ?_
  refine w_aload_n 1 dX6_init_19 rfl rfl rfl ?_
  refine l_putF (j := 4) (C := RX6) (Tt := TX6) (N := 9) (ty := (.object RX10)) tyX6 hk rfl (by decide) inT_X6 fl_RX6_19 rfl tyX6_ok nmX6 rfl hin rfl (by decide +kernel) rfl rfl (Nat.le_of_ble_eq_true rfl) dX6_init_20 rfl ?_
  exact l_return (fun i => [q8].getD i 0) rfl rfl dX6_init_23
theorem k_X6_init {Γ : CX} {cc : ByteArray} {nL : Nat} {own : String} {ret : Option FieldType} {rm : Room} {ws L : va_W} {k q : Nat} {T : Nat × va_E} {pc pc' idx : Nat} {lv : List (Nat × Value)} {rest : List Value} {r0 : Nat} (hl : Cond.methodLink own idx yX6_init ∈ TB) (hw : (rest.map fun v => v.category).sum ≤ 8) (hR : rX6_init.frames + 1 ≤ rm.frames ∧ 8 + (2 + 11) + rX6_init.locals ≤ rm.locals) (hR2 : xk Γ + rX6_init.cells ≤ rm.cells ∧ xn Γ + rX6_init.slots ≤ rm.slots) (hd : decode cc pc = .ok (.invokespecial idx, 3)) (hp : pc + 3 = pc') (h : ∀ qs : Nat → Nat, WL (bump Γ rX6_init.cells rX6_init.slots) cc nL own ret rm (cf ws k T (L ++ [(q, .inr (5, [.ref (qs 0), .int 0, .int 0, .int (-1 : Int32), .ref r0, .int 0, .int 0, .int 0, .int 0]))] ++ [((qs 0), .inl (xy Γ 12, 1200, .inl dfI))])) pc' lv rest) : WL Γ cc nL own ret rm (cf ws k T (L ++ [(q, .inr (5, [.null, .int 0, .int 0, .int 0, .null, .int 0, .int 0, .int 0, .int 0]))])) pc lv (.ref r0 :: .ref q :: rest) := by
  have hc := c_X6_init (l := xl Γ) (D := xD Γ) (cy := xy Γ) (ad := xd Γ) (ws := cf ws k T (L ++ [(q, .inr (5, [.null, .int 0, .int 0, .int 0, .null, .int 0, .int 0, .int 0, .int 0]))])) (k := (cf ws k T L).length) (a := q) (r0 := r0) (by simp [cf])
  rw [cf_self cf_last] at hc
  simp only [cf_last_set] at hc
  exact l_callI (nn := 1) (As := [.ref r0]) (rest := rest) hc hl mw_X6_init rfl (by decide +kernel) hR hR2 rfl hw hd rfl hp h
def rX2_init : Room := { frames := 1, cells := 4, slots := 1597, locals := 20 }
theorem mw_X2_init : Cond.instanceMethod yX2_init ∈ TB ∧ Cond.initialized yX2_init.cls ∈ TB ∧ Cond.code yX2_init cX2_init 2 none ∈ TB := ⟨tb_m (bk_1 (List.mem_of_getElem? (i := 179) (by decide +kernel))) rfl, tb_m (bk_1 (List.mem_of_getElem? (i := 6) (by decide +kernel))) rfl, tb_m (bk_1 (List.mem_of_getElem? (i := 180) (by decide +kernel))) rfl⟩
set_option maxRecDepth 4000 in
theorem c_X2_init {l : Launch} {D : va_G} {cy : Nat → ClassId} {ad : Nat → Nat} {ws : va_W} {k a : Nat} {r0 : Nat} (hk : k < ws.length) : CN l D cy ad yX2_init cX2_init 2 rX2_init [.ref a, .ref r0] (cf ws k (a, .inr (1, [.null, .null, .null, .null, .null, .int 0])) []) (fun qs => cf ws k (a, .inr (1, [.ref r0, .ref (qs 0), .ref (qs 1), .ref (qs 2), .ref (qs 3), .int 0])) [((qs 0), .inl (cy 13, 61, .inl dfI)), ((qs 1), .inl (cy 13, 512, .inl dfI)), ((qs 2), .inl (cy 13, 512, .inl dfI)), ((qs 3), .inl (cy 13, 512, .inl dfI))]) := by
  refine cn_of (by decide) rfl (Nat.le_of_ble_eq_true rfl) (fun p e s m args below meth c A hin => ?_)
  refine w_aload_n 0 dX2_init_0 rfl rfl rfl ?_
  refine l_obj ml_RX2_3 oi_w (Nat.le_of_ble_eq_true rfl) ⟨Nat.le_of_ble_eq_true rfl, Nat.le_of_ble_eq_true rfl⟩ dX2_init_1 rfl ?_
  refine w_aload_n 0 dX2_init_4 rfl rfl rfl ?_
  refine w_bipush (61 : Int32) dX2_init_5 ic_bipush_61 rfl ?_
  refine l_newA (N' := 61) 1 13 (61, .inl dfI) rfl rfl (fun _ _ h => h) ac_int (fun _ => rfl) (by decide) (by decide +kernel) (by decide) ⟨Nat.le_of_ble_eq_true rfl, Nat.le_of_ble_eq_true rfl⟩ dX2_init_7 rfl (fun q7 => ?_)
  refine l_putF (j := 1) (C := RX2) (Tt := TX2) (N := 6) (ty := (.array .int)) tyX2 hk rfl (by decide) inT_X2 fl_RX2_9 rfl tyX2_ok nmX2 rfl hin rfl (by decide +kernel) rfl rfl (Nat.le_of_ble_eq_true rfl) dX2_init_9 rfl ?_
  refine w_aload_n 0 dX2_init_12 rfl rfl rfl ?_
  refine w_sipush (512 : Int32) dX2_init_13 ic_sipush_512 rfl ?_
  refine l_newA (N' := 512) 1 13 (512, .inl dfI) rfl rfl (fun _ _ h => h) ac_int (fun _ => rfl) (by decide) (by decide +kernel) (by decide) ⟨Nat.le_of_ble_eq_true rfl, Nat.le_of_ble_eq_true rfl⟩ dX2_init_16 rfl (fun q16 => ?_)
  refine l_putF (j := 2) (C := RX2) (Tt := TX2) (N := 6) (ty := (.array .int)) tyX2 hk rfl (by decide) inT_X2 fl_RX2_15 rfl tyX2_ok nmX2 rfl hin rfl (by decide +kernel) rfl rfl (Nat.le_of_ble_eq_true rfl) dX2_init_18 rfl ?_
  refine w_aload_n 0 dX2_init_21 rfl rfl rfl ?_
  refine w_sipush (512 : Int32) dX2_init_22 ic_sipush_512 rfl ?_
  refine l_newA (N' := 512) 1 13 (512, .inl dfI) rfl rfl (fun _ _ h => h) ac_int (fun _ => rfl) (by decide) (by decide +kernel) (by decide) ⟨Nat.le_of_ble_eq_true rfl, Nat.le_of_ble_eq_true rfl⟩ dX2_init_25 rfl (fun q25 => ?_)
  refine l_putF (j := 3) (C := RX2) (Tt := TX2) (N := 6) (ty := (.array .int)) tyX2 hk rfl (by decide) inT_X2 fl_RX2_18 rfl tyX2_ok nmX2 rfl hin rfl (by decide +kernel) rfl rfl (Nat.le_of_ble_eq_true rfl) dX2_init_27 rfl ?_
  refine w_aload_n 0 dX2_init_30 rfl rfl rfl ?_
  refine w_sipush (512 : Int32) dX2_init_31 ic_sipush_512 rfl ?_
  refine l_newA (N' := 512) 1 13 (512, .inl dfI) rfl rfl (fun _ _ h => h) ac_int (fun _ => rfl) (by decide) (by decide +kernel) (by decide) ⟨Nat.le_of_ble_eq_true rfl, Nat.le_of_ble_eq_true rfl⟩ dX2_init_34 rfl (fun q34 => ?_)
  refine l_putF (j := 4) (C := RX2) (Tt := TX2) (N := 6) (ty := (.array .int)) tyX2 hk rfl (by decide) inT_X2 fl_RX2_21 rfl tyX2_ok nmX2 rfl hin rfl (by decide +kernel) rfl rfl (Nat.le_of_ble_eq_true rfl) dX2_init_36 rfl ?_
  refine w_aload_n 0 dX2_init_39 rfl rfl rfl ?_
  refine w_aload_n 1 dX2_init_40 rfl rfl rfl ?_
  refine l_putF (j := 0) (C := RX2) (Tt := TX2) (N := 6) (ty := (.object RX10)) tyX2 hk rfl (by decide) inT_X2 fl_RX2_24 rfl tyX2_ok nmX2 rfl hin rfl (by decide +kernel) rfl rfl (Nat.le_of_ble_eq_true rfl) dX2_init_41 rfl ?_
  exact l_return (fun i => [q7, q16, q25, q34].getD i 0) rfl rfl dX2_init_44
theorem k_X2_init {Γ : CX} {cc : ByteArray} {nL : Nat} {own : String} {ret : Option FieldType} {rm : Room} {ws L : va_W} {k q : Nat} {T : Nat × va_E} {pc pc' idx : Nat} {lv : List (Nat × Value)} {rest : List Value} {r0 : Nat} (hl : Cond.methodLink own idx yX2_init ∈ TB) (hw : (rest.map fun v => v.category).sum ≤ 8) (hR : rX2_init.frames + 1 ≤ rm.frames ∧ 8 + (2 + 11) + rX2_init.locals ≤ rm.locals) (hR2 : xk Γ + rX2_init.cells ≤ rm.cells ∧ xn Γ + rX2_init.slots ≤ rm.slots) (hd : decode cc pc = .ok (.invokespecial idx, 3)) (hp : pc + 3 = pc') (h : ∀ qs : Nat → Nat, WL (bump Γ rX2_init.cells rX2_init.slots) cc nL own ret rm (cf ws k T (L ++ [(q, .inr (1, [.ref r0, .ref (qs 0), .ref (qs 1), .ref (qs 2), .ref (qs 3), .int 0]))] ++ [((qs 0), .inl (xy Γ 13, 61, .inl dfI)), ((qs 1), .inl (xy Γ 13, 512, .inl dfI)), ((qs 2), .inl (xy Γ 13, 512, .inl dfI)), ((qs 3), .inl (xy Γ 13, 512, .inl dfI))])) pc' lv rest) : WL Γ cc nL own ret rm (cf ws k T (L ++ [(q, .inr (1, [.null, .null, .null, .null, .null, .int 0]))])) pc lv (.ref r0 :: .ref q :: rest) := by
  have hc := c_X2_init (l := xl Γ) (D := xD Γ) (cy := xy Γ) (ad := xd Γ) (ws := cf ws k T (L ++ [(q, .inr (1, [.null, .null, .null, .null, .null, .int 0]))])) (k := (cf ws k T L).length) (a := q) (r0 := r0) (by simp [cf])
  rw [cf_self cf_last] at hc
  simp only [cf_last_set] at hc
  exact l_callI (nn := 1) (As := [.ref r0]) (rest := rest) hc hl mw_X2_init rfl (by decide +kernel) hR hR2 rfl hw hd rfl hp h
def rX3_init : Room := { frames := 1, cells := 6, slots := 3072, locals := 20 }
theorem mw_X3_init : Cond.instanceMethod yX3_init ∈ TB ∧ Cond.initialized yX3_init.cls ∈ TB ∧ Cond.code yX3_init cX3_init 3 none ∈ TB := ⟨tb_m (bk_1 (List.mem_of_getElem? (i := 204) (by decide +kernel))) rfl, tb_m (bk_1 (List.mem_of_getElem? (i := 7) (by decide +kernel))) rfl, tb_m (bk_1 (List.mem_of_getElem? (i := 205) (by decide +kernel))) rfl⟩
set_option maxRecDepth 4000 in
theorem c_X3_init {l : Launch} {D : va_G} {cy : Nat → ClassId} {ad : Nat → Nat} {ws : va_W} {k a : Nat} {r0 : Nat} {r1 : Nat} (hk : k < ws.length) : CN l D cy ad yX3_init cX3_init 3 rX3_init [.ref a, .ref r0, .ref r1] (cf ws k (a, .inr (2, [.null, .null, .null, .null, .null, .null, .null, .null])) []) (fun qs => cf ws k (a, .inr (2, [.ref r0, .ref r1, .ref (qs 0), .ref (qs 1), .ref (qs 2), .ref (qs 3), .ref (qs 4), .ref (qs 5)])) [((qs 0), .inl (cy 13, 512, .inl dfI)), ((qs 1), .inl (cy 13, 512, .inl dfI)), ((qs 2), .inl (cy 14, 512, .inr (.inl dfJ))), ((qs 3), .inl (cy 15, 512, .inl dfI)), ((qs 4), .inl (cy 13, 512, .inl dfI)), ((qs 5), .inl (cy 13, 512, .inl dfI))]) := by
  refine cn_of (by decide) rfl (Nat.le_of_ble_eq_true rfl) (fun p e s m args below meth c A hin => ?_)
  refine w_aload_n 0 dX3_init_0 rfl rfl rfl ?_
  refine l_obj ml_RX3_3 oi_w (Nat.le_of_ble_eq_true rfl) ⟨Nat.le_of_ble_eq_true rfl, Nat.le_of_ble_eq_true rfl⟩ dX3_init_1 rfl ?_
  refine w_aload_n 0 dX3_init_4 rfl rfl rfl ?_
  refine w_sipush (512 : Int32) dX3_init_5 ic_sipush_512 rfl ?_
  refine l_newA (N' := 512) 1 13 (512, .inl dfI) rfl rfl (fun _ _ h => h) ac_int (fun _ => rfl) (by decide) (by decide +kernel) (by decide) ⟨Nat.le_of_ble_eq_true rfl, Nat.le_of_ble_eq_true rfl⟩ dX3_init_8 rfl (fun q8 => ?_)
  refine l_putF (j := 2) (C := RX3) (Tt := TX3) (N := 8) (ty := (.array .int)) tyX3 hk rfl (by decide) inT_X3 fl_RX3_9 rfl tyX3_ok nmX3 rfl hin rfl (by decide +kernel) rfl rfl (Nat.le_of_ble_eq_true rfl) dX3_init_10 rfl ?_
  refine w_aload_n 0 dX3_init_13 rfl rfl rfl ?_
  refine w_sipush (512 : Int32) dX3_init_14 ic_sipush_512 rfl ?_
  refine l_newA (N' := 512) 1 13 (512, .inl dfI) rfl rfl (fun _ _ h => h) ac_int (fun _ => rfl) (by decide) (by decide +kernel) (by decide) ⟨Nat.le_of_ble_eq_true rfl, Nat.le_of_ble_eq_true rfl⟩ dX3_init_17 rfl (fun q17 => ?_)
  refine l_putF (j := 3) (C := RX3) (Tt := TX3) (N := 8) (ty := (.array .int)) tyX3 hk rfl (by decide) inT_X3 fl_RX3_15 rfl tyX3_ok nmX3 rfl hin rfl (by decide +kernel) rfl rfl (Nat.le_of_ble_eq_true rfl) dX3_init_19 rfl ?_
  refine w_aload_n 0 dX3_init_22 rfl rfl rfl ?_
  refine w_sipush (512 : Int32) dX3_init_23 ic_sipush_512 rfl ?_
  refine l_newA (N' := 512) 2 14 (512, .inr (.inl dfJ)) rfl rfl (fun _ _ h => h) ac_long (fun _ => rfl) (by decide) (by decide +kernel) (by decide) ⟨Nat.le_of_ble_eq_true rfl, Nat.le_of_ble_eq_true rfl⟩ dX3_init_26 rfl (fun q26 => ?_)
  refine l_putF (j := 4) (C := RX3) (Tt := TX3) (N := 8) (ty := (.array .long)) tyX3 hk rfl (by decide) inT_X3 fl_RX3_18 rfl tyX3_ok nmX3 rfl hin rfl (by decide +kernel) rfl rfl (Nat.le_of_ble_eq_true rfl) dX3_init_28 rfl ?_
  refine w_aload_n 0 dX3_init_31 rfl rfl rfl ?_
  refine w_sipush (512 : Int32) dX3_init_32 ic_sipush_512 rfl ?_
  refine l_newA (N' := 512) 3 15 (512, .inl dfI) rfl rfl (fun _ _ h => h) ac_boolean (fun _ => rfl) (by decide) (by decide +kernel) (by decide) ⟨Nat.le_of_ble_eq_true rfl, Nat.le_of_ble_eq_true rfl⟩ dX3_init_35 rfl (fun q35 => ?_)
  refine l_putF (j := 5) (C := RX3) (Tt := TX3) (N := 8) (ty := (.array .boolean)) tyX3 hk rfl (by decide) inT_X3 fl_RX3_22 rfl tyX3_ok nmX3 rfl hin rfl (by decide +kernel) rfl rfl (Nat.le_of_ble_eq_true rfl) dX3_init_37 rfl ?_
  refine w_aload_n 0 dX3_init_40 rfl rfl rfl ?_
  refine w_sipush (512 : Int32) dX3_init_41 ic_sipush_512 rfl ?_
  refine l_newA (N' := 512) 1 13 (512, .inl dfI) rfl rfl (fun _ _ h => h) ac_int (fun _ => rfl) (by decide) (by decide +kernel) (by decide) ⟨Nat.le_of_ble_eq_true rfl, Nat.le_of_ble_eq_true rfl⟩ dX3_init_44 rfl (fun q44 => ?_)
  refine l_putF (j := 6) (C := RX3) (Tt := TX3) (N := 8) (ty := (.array .int)) tyX3 hk rfl (by decide) inT_X3 fl_RX3_26 rfl tyX3_ok nmX3 rfl hin rfl (by decide +kernel) rfl rfl (Nat.le_of_ble_eq_true rfl) dX3_init_46 rfl ?_
  refine w_aload_n 0 dX3_init_49 rfl rfl rfl ?_
  refine w_sipush (512 : Int32) dX3_init_50 ic_sipush_512 rfl ?_
  refine l_newA (N' := 512) 1 13 (512, .inl dfI) rfl rfl (fun _ _ h => h) ac_int (fun _ => rfl) (by decide) (by decide +kernel) (by decide) ⟨Nat.le_of_ble_eq_true rfl, Nat.le_of_ble_eq_true rfl⟩ dX3_init_53 rfl (fun q53 => ?_)
  refine l_putF (j := 7) (C := RX3) (Tt := TX3) (N := 8) (ty := (.array .int)) tyX3 hk rfl (by decide) inT_X3 fl_RX3_29 rfl tyX3_ok nmX3 rfl hin rfl (by decide +kernel) rfl rfl (Nat.le_of_ble_eq_true rfl) dX3_init_55 rfl ?_
  refine w_aload_n 0 dX3_init_58 rfl rfl rfl ?_
  refine w_aload_n 1 dX3_init_59 rfl rfl rfl ?_
  refine l_putF (j := 0) (C := RX3) (Tt := TX3) (N := 8) (ty := (.object RX10)) tyX3 hk rfl (by decide) inT_X3 fl_RX3_32 rfl tyX3_ok nmX3 rfl hin rfl (by decide +kernel) rfl rfl (Nat.le_of_ble_eq_true rfl) dX3_init_60 rfl ?_
  refine w_aload_n 0 dX3_init_63 rfl rfl rfl ?_
  refine w_aload_n 2 dX3_init_64 rfl rfl rfl ?_
  refine l_putF (j := 1) (C := RX3) (Tt := TX3) (N := 8) (ty := (.object RX2)) tyX3 hk rfl (by decide) inT_X3 fl_RX3_36 rfl tyX3_ok nmX3 rfl hin rfl (by decide +kernel) rfl rfl (Nat.le_of_ble_eq_true rfl) dX3_init_65 rfl ?_
  exact l_return (fun i => [q8, q17, q26, q35, q44, q53].getD i 0) rfl rfl dX3_init_68
theorem k_X3_init {Γ : CX} {cc : ByteArray} {nL : Nat} {own : String} {ret : Option FieldType} {rm : Room} {ws L : va_W} {k q : Nat} {T : Nat × va_E} {pc pc' idx : Nat} {lv : List (Nat × Value)} {rest : List Value} {r0 : Nat} {r1 : Nat} (hl : Cond.methodLink own idx yX3_init ∈ TB) (hw : (rest.map fun v => v.category).sum ≤ 8) (hR : rX3_init.frames + 1 ≤ rm.frames ∧ 8 + (3 + 11) + rX3_init.locals ≤ rm.locals) (hR2 : xk Γ + rX3_init.cells ≤ rm.cells ∧ xn Γ + rX3_init.slots ≤ rm.slots) (hd : decode cc pc = .ok (.invokespecial idx, 3)) (hp : pc + 3 = pc') (h : ∀ qs : Nat → Nat, WL (bump Γ rX3_init.cells rX3_init.slots) cc nL own ret rm (cf ws k T (L ++ [(q, .inr (2, [.ref r0, .ref r1, .ref (qs 0), .ref (qs 1), .ref (qs 2), .ref (qs 3), .ref (qs 4), .ref (qs 5)]))] ++ [((qs 0), .inl (xy Γ 13, 512, .inl dfI)), ((qs 1), .inl (xy Γ 13, 512, .inl dfI)), ((qs 2), .inl (xy Γ 14, 512, .inr (.inl dfJ))), ((qs 3), .inl (xy Γ 15, 512, .inl dfI)), ((qs 4), .inl (xy Γ 13, 512, .inl dfI)), ((qs 5), .inl (xy Γ 13, 512, .inl dfI))])) pc' lv rest) : WL Γ cc nL own ret rm (cf ws k T (L ++ [(q, .inr (2, [.null, .null, .null, .null, .null, .null, .null, .null]))])) pc lv (.ref r1 :: .ref r0 :: .ref q :: rest) := by
  have hc := c_X3_init (l := xl Γ) (D := xD Γ) (cy := xy Γ) (ad := xd Γ) (ws := cf ws k T (L ++ [(q, .inr (2, [.null, .null, .null, .null, .null, .null, .null, .null]))])) (k := (cf ws k T L).length) (a := q) (r0 := r0) (r1 := r1) (by simp [cf])
  rw [cf_self cf_last] at hc
  simp only [cf_last_set] at hc
  exact l_callI (nn := 2) (As := [.ref r0, .ref r1]) (rest := rest) hc hl mw_X3_init rfl (by decide +kernel) hR hR2 rfl hw hd rfl hp h
def rX5_init : Room := { frames := 1, cells := 4, slots := 12, locals := 20 }
theorem mw_X5_init : Cond.instanceMethod yX5_init ∈ TB ∧ Cond.initialized yX5_init.cls ∈ TB ∧ Cond.code yX5_init cX5_init 1 none ∈ TB := ⟨tb_m (bk_1 (List.mem_of_getElem? (i := 237) (by decide +kernel))) rfl, tb_m (bk_1 (List.mem_of_getElem? (i := 8) (by decide +kernel))) rfl, tb_m (bk_1 (List.mem_of_getElem? (i := 238) (by decide +kernel))) rfl⟩
set_option maxRecDepth 4000 in
theorem c_X5_init {l : Launch} {D : va_G} {cy : Nat → ClassId} {ad : Nat → Nat} {ws : va_W} {k a : Nat} (hk : k < ws.length) : CN l D cy ad yX5_init cX5_init 1 rX5_init [.ref a] (cf ws k (a, .inr (4, [.int 0, .null, .null, .null, .null])) []) (fun qs => cf ws k (a, .inr (4, [.int 0, .ref (qs 0), .ref (qs 1), .ref (qs 2), .ref (qs 3)])) [((qs 0), .inl (cy 13, 3, .inl dfI)), ((qs 1), .inl (cy 13, 3, .inl dfI)), ((qs 2), .inl (cy 13, 3, .inl dfI)), ((qs 3), .inl (cy 13, 3, .inl dfI))]) := by
  refine cn_of (by decide) rfl (Nat.le_of_ble_eq_true rfl) (fun p e s m args below meth c A hin => ?_)
  refine w_aload_n 0 dX5_init_0 rfl rfl rfl ?_
  refine l_obj ml_RX5_1 oi_w (Nat.le_of_ble_eq_true rfl) ⟨Nat.le_of_ble_eq_true rfl, Nat.le_of_ble_eq_true rfl⟩ dX5_init_1 rfl ?_
  refine w_aload_n 0 dX5_init_4 rfl rfl rfl ?_
  refine w_iconst (3 : Int32) dX5_init_5 ic_iconst_3 rfl ?_
  refine l_newA (N' := 3) 1 13 (3, .inl dfI) rfl rfl (fun _ _ h => h) ac_int (fun _ => rfl) (by decide) (by decide +kernel) (by decide) ⟨Nat.le_of_ble_eq_true rfl, Nat.le_of_ble_eq_true rfl⟩ dX5_init_6 rfl (fun q6 => ?_)
  refine l_putF (j := 1) (C := RX5) (Tt := TX5) (N := 5) (ty := (.array .int)) tyX5 hk rfl (by decide) inT_X5 fl_RX5_9 rfl tyX5_ok nmX5 rfl hin rfl (by decide +kernel) rfl rfl (Nat.le_of_ble_eq_true rfl) dX5_init_8 rfl ?_
  refine w_aload_n 0 dX5_init_11 rfl rfl rfl ?_
  refine w_iconst (3 : Int32) dX5_init_12 ic_iconst_3 rfl ?_
  refine l_newA (N' := 3) 1 13 (3, .inl dfI) rfl rfl (fun _ _ h => h) ac_int (fun _ => rfl) (by decide) (by decide +kernel) (by decide) ⟨Nat.le_of_ble_eq_true rfl, Nat.le_of_ble_eq_true rfl⟩ dX5_init_13 rfl (fun q13 => ?_)
  refine l_putF (j := 2) (C := RX5) (Tt := TX5) (N := 5) (ty := (.array .int)) tyX5 hk rfl (by decide) inT_X5 fl_RX5_13 rfl tyX5_ok nmX5 rfl hin rfl (by decide +kernel) rfl rfl (Nat.le_of_ble_eq_true rfl) dX5_init_15 rfl ?_
  refine w_aload_n 0 dX5_init_18 rfl rfl rfl ?_
  refine w_iconst (3 : Int32) dX5_init_19 ic_iconst_3 rfl ?_
  refine l_newA (N' := 3) 1 13 (3, .inl dfI) rfl rfl (fun _ _ h => h) ac_int (fun _ => rfl) (by decide) (by decide +kernel) (by decide) ⟨Nat.le_of_ble_eq_true rfl, Nat.le_of_ble_eq_true rfl⟩ dX5_init_20 rfl (fun q20 => ?_)
  refine l_putF (j := 3) (C := RX5) (Tt := TX5) (N := 5) (ty := (.array .int)) tyX5 hk rfl (by decide) inT_X5 fl_RX5_16 rfl tyX5_ok nmX5 rfl hin rfl (by decide +kernel) rfl rfl (Nat.le_of_ble_eq_true rfl) dX5_init_22 rfl ?_
  refine w_aload_n 0 dX5_init_25 rfl rfl rfl ?_
  refine w_iconst (3 : Int32) dX5_init_26 ic_iconst_3 rfl ?_
  refine l_newA (N' := 3) 1 13 (3, .inl dfI) rfl rfl (fun _ _ h => h) ac_int (fun _ => rfl) (by decide) (by decide +kernel) (by decide) ⟨Nat.le_of_ble_eq_true rfl, Nat.le_of_ble_eq_true rfl⟩ dX5_init_27 rfl (fun q27 => ?_)
  refine l_putF (j := 4) (C := RX5) (Tt := TX5) (N := 5) (ty := (.array .int)) tyX5 hk rfl (by decide) inT_X5 fl_RX5_19 rfl tyX5_ok nmX5 rfl hin rfl (by decide +kernel) rfl rfl (Nat.le_of_ble_eq_true rfl) dX5_init_29 rfl ?_
  exact l_return (fun i => [q6, q13, q20, q27].getD i 0) rfl rfl dX5_init_32
theorem k_X5_init {Γ : CX} {cc : ByteArray} {nL : Nat} {own : String} {ret : Option FieldType} {rm : Room} {ws L : va_W} {k q : Nat} {T : Nat × va_E} {pc pc' idx : Nat} {lv : List (Nat × Value)} {rest : List Value} (hl : SR (xd Γ) (xs Γ) → va_Nw (.methodLinkNest own idx yX5_init RX11) (xs Γ)) (hw : (rest.map fun v => v.category).sum ≤ 8) (hR : rX5_init.frames + 1 ≤ rm.frames ∧ 8 + (1 + 11) + rX5_init.locals ≤ rm.locals) (hR2 : xk Γ + rX5_init.cells ≤ rm.cells ∧ xn Γ + rX5_init.slots ≤ rm.slots) (hd : decode cc pc = .ok (.invokespecial idx, 3)) (hp : pc + 3 = pc') (h : ∀ qs : Nat → Nat, WL (bump Γ rX5_init.cells rX5_init.slots) cc nL own ret rm (cf ws k T (L ++ [(q, .inr (4, [.int 0, .ref (qs 0), .ref (qs 1), .ref (qs 2), .ref (qs 3)]))] ++ [((qs 0), .inl (xy Γ 13, 3, .inl dfI)), ((qs 1), .inl (xy Γ 13, 3, .inl dfI)), ((qs 2), .inl (xy Γ 13, 3, .inl dfI)), ((qs 3), .inl (xy Γ 13, 3, .inl dfI))])) pc' lv rest) : WL Γ cc nL own ret rm (cf ws k T (L ++ [(q, .inr (4, [.int 0, .null, .null, .null, .null]))])) pc lv (.ref q :: rest) := by
  have hc := c_X5_init (l := xl Γ) (D := xD Γ) (cy := xy Γ) (ad := xd Γ) (ws := cf ws k T (L ++ [(q, .inr (4, [.int 0, .null, .null, .null, .null]))])) (k := (cf ws k T L).length) (a := q) (by simp [cf])
  rw [cf_self cf_last] at hc
  simp only [cf_last_set] at hc
  exact l_callN (host := RX11) (nn := 0) (As := []) (rest := rest) hc hl mw_X5_init rfl (by decide +kernel) hR hR2 rfl hw hd rfl hp h
def rX4_init : Room := { frames := 1, cells := 0, slots := 0, locals := 20 }
theorem mw_X4_init : Cond.instanceMethod yX4_init ∈ TB ∧ Cond.initialized yX4_init.cls ∈ TB ∧ Cond.code yX4_init cX4_init 2 none ∈ TB := ⟨tb_m (bk_2 (List.mem_of_getElem? (i := 22) (by decide +kernel))) rfl, tb_m (bk_1 (List.mem_of_getElem? (i := 9) (by decide +kernel))) rfl, tb_m (bk_2 (List.mem_of_getElem? (i := 23) (by decide +kernel))) rfl⟩
set_option maxRecDepth 4000 in
theorem c_X4_init {l : Launch} {D : va_G} {cy : Nat → ClassId} {ad : Nat → Nat} {ws : va_W} {k a : Nat} {r0 : Nat} (hk : k < ws.length) : CN l D cy ad yX4_init cX4_init 2 rX4_init [.ref a, .ref r0] (cf ws k (a, .inr (3, [.null])) []) (fun qs => cf ws k (a, .inr (3, [.ref r0])) []) := by
  refine cn_of (by decide) rfl (Nat.le_of_ble_eq_true rfl) (fun p e s m args below meth c A hin => ?_)
  refine w_aload_n 0 dX4_init_0 rfl rfl rfl ?_
  refine l_obj ml_RX4_3 oi_w (Nat.le_of_ble_eq_true rfl) ⟨Nat.le_of_ble_eq_true rfl, Nat.le_of_ble_eq_true rfl⟩ dX4_init_1 rfl ?_
  refine w_aload_n 0 dX4_init_4 rfl rfl rfl ?_
  refine w_aload_n 1 dX4_init_5 rfl rfl rfl ?_
  refine l_putF (j := 0) (C := RX4) (Tt := TX4) (N := 1) (ty := (.object RX10)) tyX4 hk rfl (by decide) inT_X4 fl_RX4_9 rfl tyX4_ok nmX4 rfl hin rfl (by decide +kernel) rfl rfl (Nat.le_of_ble_eq_true rfl) dX4_init_6 rfl ?_
  exact l_return (fun i => [].getD i 0) rfl rfl dX4_init_9
theorem k_X4_init {Γ : CX} {cc : ByteArray} {nL : Nat} {own : String} {ret : Option FieldType} {rm : Room} {ws L : va_W} {k q : Nat} {T : Nat × va_E} {pc pc' idx : Nat} {lv : List (Nat × Value)} {rest : List Value} {r0 : Nat} (hl : Cond.methodLink own idx yX4_init ∈ TB) (hw : (rest.map fun v => v.category).sum ≤ 8) (hR : rX4_init.frames + 1 ≤ rm.frames ∧ 8 + (2 + 11) + rX4_init.locals ≤ rm.locals) (hR2 : xk Γ + rX4_init.cells ≤ rm.cells ∧ xn Γ + rX4_init.slots ≤ rm.slots) (hd : decode cc pc = .ok (.invokespecial idx, 3)) (hp : pc + 3 = pc') (h : ∀ qs : Nat → Nat, WL (bump Γ rX4_init.cells rX4_init.slots) cc nL own ret rm (cf ws k T (L ++ [(q, .inr (3, [.ref r0]))] ++ [])) pc' lv rest) : WL Γ cc nL own ret rm (cf ws k T (L ++ [(q, .inr (3, [.null]))])) pc lv (.ref r0 :: .ref q :: rest) := by
  have hc := c_X4_init (l := xl Γ) (D := xD Γ) (cy := xy Γ) (ad := xd Γ) (ws := cf ws k T (L ++ [(q, .inr (3, [.null]))])) (k := (cf ws k T L).length) (a := q) (r0 := r0) (by simp [cf])
  rw [cf_self cf_last] at hc
  simp only [cf_last_set] at hc
  exact l_callI (nn := 1) (As := [.ref r0]) (rest := rest) hc hl mw_X4_init rfl (by decide +kernel) hR hR2 rfl hw hd rfl hp h
def rX8_init : Room := { frames := 1, cells := 0, slots := 0, locals := 20 }
theorem mw_X8_init : Cond.instanceMethod yX8_init ∈ TB ∧ Cond.initialized yX8_init.cls ∈ TB ∧ Cond.code yX8_init cX8_init 2 none ∈ TB := ⟨tb_m (bk_2 (List.mem_of_getElem? (i := 32) (by decide +kernel))) rfl, tb_m (bk_1 (List.mem_of_getElem? (i := 10) (by decide +kernel))) rfl, tb_m (bk_2 (List.mem_of_getElem? (i := 33) (by decide +kernel))) rfl⟩
set_option maxRecDepth 4000 in
theorem c_X8_init {l : Launch} {D : va_G} {cy : Nat → ClassId} {ad : Nat → Nat} {ws : va_W} {k a : Nat} {r0 : Nat} (hk : k < ws.length) : CN l D cy ad yX8_init cX8_init 2 rX8_init [.ref a, .ref r0] (cf ws k (a, .inr (7, [.null])) []) (fun qs => cf ws k (a, .inr (7, [.ref r0])) []) := by
  refine cn_of (by decide) rfl (Nat.le_of_ble_eq_true rfl) (fun p e s m args below meth c A hin => ?_)
  refine w_aload_n 0 dX8_init_0 rfl rfl rfl ?_
  refine l_obj ml_RX8_3 oi_w (Nat.le_of_ble_eq_true rfl) ⟨Nat.le_of_ble_eq_true rfl, Nat.le_of_ble_eq_true rfl⟩ dX8_init_1 rfl ?_
  refine w_aload_n 0 dX8_init_4 rfl rfl rfl ?_
  refine w_aload_n 1 dX8_init_5 rfl rfl rfl ?_
  refine l_putF (j := 0) (C := RX8) (Tt := TX8) (N := 1) (ty := (.object RX10)) tyX8 hk rfl (by decide) inT_X8 fl_RX8_9 rfl tyX8_ok nmX8 rfl hin rfl (by decide +kernel) rfl rfl (Nat.le_of_ble_eq_true rfl) dX8_init_6 rfl ?_
  exact l_return (fun i => [].getD i 0) rfl rfl dX8_init_9
theorem k_X8_init {Γ : CX} {cc : ByteArray} {nL : Nat} {own : String} {ret : Option FieldType} {rm : Room} {ws L : va_W} {k q : Nat} {T : Nat × va_E} {pc pc' idx : Nat} {lv : List (Nat × Value)} {rest : List Value} {r0 : Nat} (hl : Cond.methodLink own idx yX8_init ∈ TB) (hw : (rest.map fun v => v.category).sum ≤ 8) (hR : rX8_init.frames + 1 ≤ rm.frames ∧ 8 + (2 + 11) + rX8_init.locals ≤ rm.locals) (hR2 : xk Γ + rX8_init.cells ≤ rm.cells ∧ xn Γ + rX8_init.slots ≤ rm.slots) (hd : decode cc pc = .ok (.invokespecial idx, 3)) (hp : pc + 3 = pc') (h : ∀ qs : Nat → Nat, WL (bump Γ rX8_init.cells rX8_init.slots) cc nL own ret rm (cf ws k T (L ++ [(q, .inr (7, [.ref r0]))] ++ [])) pc' lv rest) : WL Γ cc nL own ret rm (cf ws k T (L ++ [(q, .inr (7, [.null]))])) pc lv (.ref r0 :: .ref q :: rest) := by
  have hc := c_X8_init (l := xl Γ) (D := xD Γ) (cy := xy Γ) (ad := xd Γ) (ws := cf ws k T (L ++ [(q, .inr (7, [.null]))])) (k := (cf ws k T L).length) (a := q) (r0 := r0) (by simp [cf])
  rw [cf_self cf_last] at hc
  simp only [cf_last_set] at hc
  exact l_callI (nn := 1) (As := [.ref r0]) (rest := rest) hc hl mw_X8_init rfl (by decide +kernel) hR hR2 rfl hw hd rfl hp h
def rX0_init : Room := { frames := 1, cells := 1, slots := 8, locals := 20 }
theorem mw_X0_init : Cond.instanceMethod yX0_init ∈ TB ∧ Cond.initialized yX0_init.cls ∈ TB ∧ Cond.code yX0_init cX0_init 2 none ∈ TB := ⟨tb_m (bk_2 (List.mem_of_getElem? (i := 42) (by decide +kernel))) rfl, tb_m (bk_1 (List.mem_of_getElem? (i := 11) (by decide +kernel))) rfl, tb_m (bk_2 (List.mem_of_getElem? (i := 43) (by decide +kernel))) rfl⟩
set_option maxRecDepth 4000 in
theorem c_X0_init {l : Launch} {D : va_G} {cy : Nat → ClassId} {ad : Nat → Nat} {ws : va_W} {k a : Nat} {r0 : Nat} (hk : k < ws.length) : CN l D cy ad yX0_init cX0_init 2 rX0_init [.ref a, .ref r0] (cf ws k (a, .inr (0, [.null, .null])) []) (fun qs => cf ws k (a, .inr (0, [.ref r0, .ref (qs 0)])) [((qs 0), .inl (cy 13, 8, .inl dfI))]) := by
  refine cn_of (by decide) rfl (Nat.le_of_ble_eq_true rfl) (fun p e s m args below meth c A hin => ?_)
  refine w_aload_n 0 dX0_init_0 rfl rfl rfl ?_
  refine l_obj ml_RX0_3 oi_w (Nat.le_of_ble_eq_true rfl) ⟨Nat.le_of_ble_eq_true rfl, Nat.le_of_ble_eq_true rfl⟩ dX0_init_1 rfl ?_
  refine w_aload_n 0 dX0_init_4 rfl rfl rfl ?_
  refine w_bipush (8 : Int32) dX0_init_5 ic_bipush_8 rfl ?_
  refine l_newA (N' := 8) 1 13 (8, .inl dfI) rfl rfl (fun _ _ h => h) ac_int (fun _ => rfl) (by decide) (by decide +kernel) (by decide) ⟨Nat.le_of_ble_eq_true rfl, Nat.le_of_ble_eq_true rfl⟩ dX0_init_7 rfl (fun q7 => ?_)
  refine l_putF (j := 1) (C := RX0) (Tt := TX0) (N := 2) (ty := (.array .int)) tyX0 hk rfl (by decide) inT_X0 fl_RX0_9 rfl tyX0_ok nmX0 rfl hin rfl (by decide +kernel) rfl rfl (Nat.le_of_ble_eq_true rfl) dX0_init_9 rfl ?_
  refine w_aload_n 0 dX0_init_12 rfl rfl rfl ?_
  refine w_aload_n 1 dX0_init_13 rfl rfl rfl ?_
  refine l_putF (j := 0) (C := RX0) (Tt := TX0) (N := 2) (ty := (.object RX10)) tyX0 hk rfl (by decide) inT_X0 fl_RX0_15 rfl tyX0_ok nmX0 rfl hin rfl (by decide +kernel) rfl rfl (Nat.le_of_ble_eq_true rfl) dX0_init_14 rfl ?_
  exact l_return (fun i => [q7].getD i 0) rfl rfl dX0_init_17
theorem k_X0_init {Γ : CX} {cc : ByteArray} {nL : Nat} {own : String} {ret : Option FieldType} {rm : Room} {ws L : va_W} {k q : Nat} {T : Nat × va_E} {pc pc' idx : Nat} {lv : List (Nat × Value)} {rest : List Value} {r0 : Nat} (hl : Cond.methodLink own idx yX0_init ∈ TB) (hw : (rest.map fun v => v.category).sum ≤ 8) (hR : rX0_init.frames + 1 ≤ rm.frames ∧ 8 + (2 + 11) + rX0_init.locals ≤ rm.locals) (hR2 : xk Γ + rX0_init.cells ≤ rm.cells ∧ xn Γ + rX0_init.slots ≤ rm.slots) (hd : decode cc pc = .ok (.invokespecial idx, 3)) (hp : pc + 3 = pc') (h : ∀ qs : Nat → Nat, WL (bump Γ rX0_init.cells rX0_init.slots) cc nL own ret rm (cf ws k T (L ++ [(q, .inr (0, [.ref r0, .ref (qs 0)]))] ++ [((qs 0), .inl (xy Γ 13, 8, .inl dfI))])) pc' lv rest) : WL Γ cc nL own ret rm (cf ws k T (L ++ [(q, .inr (0, [.null, .null]))])) pc lv (.ref r0 :: .ref q :: rest) := by
  have hc := c_X0_init (l := xl Γ) (D := xD Γ) (cy := xy Γ) (ad := xd Γ) (ws := cf ws k T (L ++ [(q, .inr (0, [.null, .null]))])) (k := (cf ws k T L).length) (a := q) (r0 := r0) (by simp [cf])
  rw [cf_self cf_last] at hc
  simp only [cf_last_set] at hc
  exact l_callI (nn := 1) (As := [.ref r0]) (rest := rest) hc hl mw_X0_init rfl (by decide +kernel) hR hR2 rfl hw hd rfl hp h
def rX7_init : Room := { frames := 1, cells := 4, slots := 252, locals := 20 }
theorem mw_X7_init : Cond.instanceMethod yX7_init ∈ TB ∧ Cond.initialized yX7_init.cls ∈ TB ∧ Cond.code yX7_init cX7_init 1 none ∈ TB := ⟨tb_m (bk_2 (List.mem_of_getElem? (i := 55) (by decide +kernel))) rfl, tb_m (bk_1 (List.mem_of_getElem? (i := 12) (by decide +kernel))) rfl, tb_m (bk_2 (List.mem_of_getElem? (i := 56) (by decide +kernel))) rfl⟩
set_option maxRecDepth 4000 in
theorem c_X7_init {l : Launch} {D : va_G} {cy : Nat → ClassId} {ad : Nat → Nat} {ws : va_W} {k a : Nat} (hk : k < ws.length) : CN l D cy ad yX7_init cX7_init 1 rX7_init [.ref a] (cf ws k (a, .inr (6, [.null, .null, .null, .null])) []) (fun qs => cf ws k (a, .inr (6, [.ref (qs 0), .ref (qs 1), .ref (qs 2), .ref (qs 3)])) [((qs 0), .inl (cy 15, 4, .inl dfI)), ((qs 1), .inl (cy 13, 4, .inl dfI)), ((qs 2), .inl (cy 13, 4, .inl dfI)), ((qs 3), .inl (cy 14, 240, .inr (.inl dfJ)))]) := by
  refine cn_of (by decide) rfl (Nat.le_of_ble_eq_true rfl) (fun p e s m args below meth c A hin => ?_)
  refine w_aload_n 0 dX7_init_0 rfl rfl rfl ?_
  refine l_obj ml_RX7_3 oi_w (Nat.le_of_ble_eq_true rfl) ⟨Nat.le_of_ble_eq_true rfl, Nat.le_of_ble_eq_true rfl⟩ dX7_init_1 rfl ?_
  refine w_aload_n 0 dX7_init_4 rfl rfl rfl ?_
  refine w_iconst (4 : Int32) dX7_init_5 ic_iconst_4 rfl ?_
  refine l_newA (N' := 4) 3 15 (4, .inl dfI) rfl rfl (fun _ _ h => h) ac_boolean (fun _ => rfl) (by decide) (by decide +kernel) (by decide) ⟨Nat.le_of_ble_eq_true rfl, Nat.le_of_ble_eq_true rfl⟩ dX7_init_6 rfl (fun q6 => ?_)
  refine l_putF (j := 0) (C := RX7) (Tt := TX7) (N := 4) (ty := (.array .boolean)) tyX7 hk rfl (by decide) inT_X7 fl_RX7_11 rfl tyX7_ok nmX7 rfl hin rfl (by decide +kernel) rfl rfl (Nat.le_of_ble_eq_true rfl) dX7_init_8 rfl ?_
  refine w_aload_n 0 dX7_init_11 rfl rfl rfl ?_
  refine w_iconst (4 : Int32) dX7_init_12 ic_iconst_4 rfl ?_
  refine l_newA (N' := 4) 1 13 (4, .inl dfI) rfl rfl (fun _ _ h => h) ac_int (fun _ => rfl) (by decide) (by decide +kernel) (by decide) ⟨Nat.le_of_ble_eq_true rfl, Nat.le_of_ble_eq_true rfl⟩ dX7_init_13 rfl (fun q13 => ?_)
  refine l_putF (j := 1) (C := RX7) (Tt := TX7) (N := 4) (ty := (.array .int)) tyX7 hk rfl (by decide) inT_X7 fl_RX7_15 rfl tyX7_ok nmX7 rfl hin rfl (by decide +kernel) rfl rfl (Nat.le_of_ble_eq_true rfl) dX7_init_15 rfl ?_
  refine w_aload_n 0 dX7_init_18 rfl rfl rfl ?_
  refine w_iconst (4 : Int32) dX7_init_19 ic_iconst_4 rfl ?_
  refine l_newA (N' := 4) 1 13 (4, .inl dfI) rfl rfl (fun _ _ h => h) ac_int (fun _ => rfl) (by decide) (by decide +kernel) (by decide) ⟨Nat.le_of_ble_eq_true rfl, Nat.le_of_ble_eq_true rfl⟩ dX7_init_20 rfl (fun q20 => ?_)
  refine l_putF (j := 2) (C := RX7) (Tt := TX7) (N := 4) (ty := (.array .int)) tyX7 hk rfl (by decide) inT_X7 fl_RX7_19 rfl tyX7_ok nmX7 rfl hin rfl (by decide +kernel) rfl rfl (Nat.le_of_ble_eq_true rfl) dX7_init_22 rfl ?_
  refine w_aload_n 0 dX7_init_25 rfl rfl rfl ?_
  refine w_sipush (240 : Int32) dX7_init_26 ic_sipush_240 rfl ?_
  refine l_newA (N' := 240) 2 14 (240, .inr (.inl dfJ)) rfl rfl (fun _ _ h => h) ac_long (fun _ => rfl) (by decide) (by decide +kernel) (by decide) ⟨Nat.le_of_ble_eq_true rfl, Nat.le_of_ble_eq_true rfl⟩ dX7_init_29 rfl (fun q29 => ?_)
  refine l_putF (j := 3) (C := RX7) (Tt := TX7) (N := 4) (ty := (.array .long)) tyX7 hk rfl (by decide) inT_X7 fl_RX7_22 rfl tyX7_ok nmX7 rfl hin rfl (by decide +kernel) rfl rfl (Nat.le_of_ble_eq_true rfl) dX7_init_31 rfl ?_
  exact l_return (fun i => [q6, q13, q20, q29].getD i 0) rfl rfl dX7_init_34
theorem k_X7_init {Γ : CX} {cc : ByteArray} {nL : Nat} {own : String} {ret : Option FieldType} {rm : Room} {ws L : va_W} {k q : Nat} {T : Nat × va_E} {pc pc' idx : Nat} {lv : List (Nat × Value)} {rest : List Value} (hl : SR (xd Γ) (xs Γ) → va_Nw (.methodLinkNest own idx yX7_init RX11) (xs Γ)) (hw : (rest.map fun v => v.category).sum ≤ 8) (hR : rX7_init.frames + 1 ≤ rm.frames ∧ 8 + (1 + 11) + rX7_init.locals ≤ rm.locals) (hR2 : xk Γ + rX7_init.cells ≤ rm.cells ∧ xn Γ + rX7_init.slots ≤ rm.slots) (hd : decode cc pc = .ok (.invokespecial idx, 3)) (hp : pc + 3 = pc') (h : ∀ qs : Nat → Nat, WL (bump Γ rX7_init.cells rX7_init.slots) cc nL own ret rm (cf ws k T (L ++ [(q, .inr (6, [.ref (qs 0), .ref (qs 1), .ref (qs 2), .ref (qs 3)]))] ++ [((qs 0), .inl (xy Γ 15, 4, .inl dfI)), ((qs 1), .inl (xy Γ 13, 4, .inl dfI)), ((qs 2), .inl (xy Γ 13, 4, .inl dfI)), ((qs 3), .inl (xy Γ 14, 240, .inr (.inl dfJ)))])) pc' lv rest) : WL Γ cc nL own ret rm (cf ws k T (L ++ [(q, .inr (6, [.null, .null, .null, .null]))])) pc lv (.ref q :: rest) := by
  have hc := c_X7_init (l := xl Γ) (D := xD Γ) (cy := xy Γ) (ad := xd Γ) (ws := cf ws k T (L ++ [(q, .inr (6, [.null, .null, .null, .null]))])) (k := (cf ws k T L).length) (a := q) (by simp [cf])
  rw [cf_self cf_last] at hc
  simp only [cf_last_set] at hc
  exact l_callN (host := RX11) (nn := 0) (As := []) (rest := rest) hc hl mw_X7_init rfl (by decide +kernel) hR hR2 rfl hw hd rfl hp h
def rX11_init : Room := { frames := 3, cells := 57, slots := 6830, locals := 65 }
theorem mw_X11_init : Cond.instanceMethod yX11_init ∈ TB ∧ Cond.initialized yX11_init.cls ∈ TB ∧ Cond.code yX11_init cX11_init 1 none ∈ TB := ⟨tb_m (bk_1 (List.mem_of_getElem? (i := 25) (by decide +kernel))) rfl, tb_m (bk_1 (List.mem_of_getElem? (i := 1) (by decide +kernel))) rfl, tb_m (bk_1 (List.mem_of_getElem? (i := 26) (by decide +kernel))) rfl⟩
set_option maxRecDepth 4000 in
theorem c_X11_init {l : Launch} {D : va_G} {cy : Nat → ClassId} {ad : Nat → Nat} {ws : va_W} {k a : Nat} (hk : k < ws.length) : CN l D cy ad yX11_init cX11_init 1 rX11_init [.ref a] (cf ws k (a, .inr (10, [.null, .null, .null, .null, .null, .null, .null, .null, .null, .null, .null])) []) (fun qs => cf ws k (a, .inr (10, [.ref (qs 0), .ref (qs 14), .ref (qs 28), .ref (qs 30), .ref (qs 35), .ref (qs 42), .ref (qs 47), .ref (qs 48), .ref (qs 49), .ref (qs 51), .ref (qs 56)])) [((qs 0), .inr (9, [.int 0, .int 0, .int 0, .int 0, .int 0, .ref (qs 1), .ref (qs 2), .ref (qs 4), .ref (qs 6), .ref (qs 8), .ref (qs 10), .ref (qs 12)])), ((qs 1), .inl (cy 13, 2, .inl dfI)), ((qs 2), .inr (8, [.int (6 : Int32), .int (9 : Int32), .ref (qs 3), .int 0])), ((qs 3), .inl (cy 13, 54, .inl dfI)), ((qs 4), .inr (8, [.int (2 : Int32), .int (4 : Int32), .ref (qs 5), .int 0])), ((qs 5), .inl (cy 13, 8, .inl dfI)), ((qs 6), .inr (8, [.int (4 : Int32), .int (8 : Int32), .ref (qs 7), .int 0])), ((qs 7), .inl (cy 13, 32, .inl dfI)), ((qs 8), .inr (8, [.int (2 : Int32), .int (4 : Int32), .ref (qs 9), .int 0])), ((qs 9), .inl (cy 13, 8, .inl dfI)), ((qs 10), .inr (8, [.int (1 : Int32), .int (5 : Int32), .ref (qs 11), .int 0])), ((qs 11), .inl (cy 13, 5, .inl dfI)), ((qs 12), .inr (8, [.int (3 : Int32), .int (60 : Int32), .ref (qs 13), .int 0])), ((qs 13), .inl (cy 13, 180, .inl dfI)), ((qs 14), .inr (9, [.int 0, .int 0, .int 0, .int 0, .int 0, .ref (qs 15), .ref (qs 16), .ref (qs 18), .ref (qs 20), .ref (qs 22), .ref (qs 24), .ref (qs 26)])), ((qs 15), .inl (cy 13, 2, .inl dfI)), ((qs 16), .inr (8, [.int (6 : Int32), .int (9 : Int32), .ref (qs 17), .int 0])), ((qs 17), .inl (cy 13, 54, .inl dfI)), ((qs 18), .inr (8, [.int (2 : Int32), .int (4 : Int32), .ref (qs 19), .int 0])), ((qs 19), .inl (cy 13, 8, .inl dfI)), ((qs 20), .inr (8, [.int (4 : Int32), .int (8 : Int32), .ref (qs 21), .int 0])), ((qs 21), .inl (cy 13, 32, .inl dfI)), ((qs 22), .inr (8, [.int (2 : Int32), .int (4 : Int32), .ref (qs 23), .int 0])), ((qs 23), .inl (cy 13, 8, .inl dfI)), ((qs 24), .inr (8, [.int (1 : Int32), .int (5 : Int32), .ref (qs 25), .int 0])), ((qs 25), .inl (cy 13, 5, .inl dfI)), ((qs 26), .inr (8, [.int (3 : Int32), .int (60 : Int32), .ref (qs 27), .int 0])), ((qs 27), .inl (cy 13, 180, .inl dfI)), ((qs 28), .inr (5, [.ref (qs 29), .int 0, .int 0, .int (-1 : Int32), .ref (qs 14), .int 0, .int 0, .int 0, .int 0])), ((qs 29), .inl (cy 12, 1200, .inl dfI)), ((qs 30), .inr (1, [.ref (qs 0), .ref (qs 31), .ref (qs 32), .ref (qs 33), .ref (qs 34), .int 0])), ((qs 31), .inl (cy 13, 61, .inl dfI)), ((qs 32), .inl (cy 13, 512, .inl dfI)), ((qs 33), .inl (cy 13, 512, .inl dfI)), ((qs 34), .inl (cy 13, 512, .inl dfI)), ((qs 35), .inr (2, [.ref (qs 0), .ref (qs 30), .ref (qs 36), .ref (qs 37), .ref (qs 38), .ref (qs 39), .ref (qs 40), .ref (qs 41)])), ((qs 36), .inl (cy 13, 512, .inl dfI)), ((qs 37), .inl (cy 13, 512, .inl dfI)), ((qs 38), .inl (cy 14, 512, .inr (.inl dfJ))), ((qs 39), .inl (cy 15, 512, .inl dfI)), ((qs 40), .inl (cy 13, 512, .inl dfI)), ((qs 41), .inl (cy 13, 512, .inl dfI)), ((qs 42), .inr (4, [.int 0, .ref (qs 43), .ref (qs 44), .ref (qs 45), .ref (qs 46)])), ((qs 43), .inl (cy 13, 3, .inl dfI)), ((qs 44), .inl (cy 13, 3, .inl dfI)), ((qs 45), .inl (cy 13, 3, .inl dfI)), ((qs 46), .inl (cy 13, 3, .inl dfI)), ((qs 47), .inr (3, [.ref (qs 0)])), ((qs 48), .inr (7, [.ref (qs 0)])), ((qs 49), .inr (0, [.ref (qs 0), .ref (qs 50)])), ((qs 50), .inl (cy 13, 8, .inl dfI)), ((qs 51), .inr (6, [.ref (qs 52), .ref (qs 53), .ref (qs 54), .ref (qs 55)])), ((qs 52), .inl (cy 15, 4, .inl dfI)), ((qs 53), .inl (cy 13, 4, .inl dfI)), ((qs 54), .inl (cy 13, 4, .inl dfI)), ((qs 55), .inl (cy 14, 240, .inr (.inl dfJ))), ((qs 56), .inl (cy 16, 3, .inr (.inr (.inr (.inr (fun _ => none))))))]) := by
  refine cn_of (by decide) rfl (Nat.le_of_ble_eq_true rfl) (fun p e s m args below meth c A hin => ?_)
  refine w_aload_n 0 dX11_init_0 rfl rfl rfl ?_
  refine l_obj ml_RX11_1 oi_w (Nat.le_of_ble_eq_true rfl) ⟨Nat.le_of_ble_eq_true rfl, Nat.le_of_ble_eq_true rfl⟩ dX11_init_1 rfl ?_
  refine w_aload_n 0 dX11_init_4 rfl rfl rfl ?_
  refine l_new (ci := 9) [.int 0, .int 0, .int 0, .int 0, .int 0, .null, .null, .null, .null, .null, .null, .null] tyX10 rfl inT_X10 tyX10_ok ⟨kl_RX11_7, is_X10⟩ df_X10 ⟨Nat.le_of_ble_eq_true rfl, Nat.le_of_ble_eq_true rfl⟩ dX11_init_5 rfl (fun q5 => ?_)
  refine w_dup dX11_init_8 rfl rfl ?_
  refine k_X10_init (fun h => h.2.1) (Nat.le_of_ble_eq_true rfl) ⟨Nat.le_of_ble_eq_true rfl, Nat.le_of_ble_eq_true rfl⟩ ⟨Nat.le_of_ble_eq_true rfl, Nat.le_of_ble_eq_true rfl⟩ dX11_init_9 rfl (fun u9 => ?_)
  refine l_putF (j := 0) (C := RX11) (Tt := TX11) (N := 11) (ty := (.object RX10)) tyX11 hk rfl (by decide) inT_X11 fl_RX11_10 rfl tyX11_ok nmX11 rfl hin rfl (by decide +kernel) rfl rfl (Nat.le_of_ble_eq_true rfl) dX11_init_12 rfl ?_
  refine w_aload_n 0 dX11_init_15 rfl rfl rfl ?_
  refine l_new (ci := 9) [.int 0, .int 0, .int 0, .int 0, .int 0, .null, .null, .null, .null, .null, .null, .null] tyX10 rfl inT_X10 tyX10_ok ⟨kl_RX11_7, is_X10⟩ df_X10 ⟨Nat.le_of_ble_eq_true rfl, Nat.le_of_ble_eq_true rfl⟩ dX11_init_16 rfl (fun q16 => ?_)
  refine w_dup dX11_init_19 rfl rfl ?_
  refine k_X10_init (fun h => h.2.1) (Nat.le_of_ble_eq_true rfl) ⟨Nat.le_of_ble_eq_true rfl, Nat.le_of_ble_eq_true rfl⟩ ⟨Nat.le_of_ble_eq_true rfl, Nat.le_of_ble_eq_true rfl⟩ dX11_init_20 rfl (fun u20 => ?_)
  refine l_putF (j := 1) (C := RX11) (Tt := TX11) (N := 11) (ty := (.object RX10)) tyX11 hk rfl (by decide) inT_X11 fl_RX11_16 rfl tyX11_ok nmX11 rfl hin rfl (by decide +kernel) rfl rfl (Nat.le_of_ble_eq_true rfl) dX11_init_23 rfl ?_
  refine w_aload_n 0 dX11_init_26 rfl rfl rfl ?_
  refine l_new (ci := 5) [.null, .int 0, .int 0, .int 0, .null, .int 0, .int 0, .int 0, .int 0] tyX6 rfl inT_X6 tyX6_ok ⟨kl_RX11_19, is_X6⟩ df_X6 ⟨Nat.le_of_ble_eq_true rfl, Nat.le_of_ble_eq_true rfl⟩ dX11_init_27 rfl (fun q27 => ?_)
  refine w_dup dX11_init_30 rfl rfl ?_
  refine w_aload_n 0 dX11_init_31 rfl rfl rfl ?_
  refine l_get (j := 1) (C := RX11) (Tt := TX11) (N := 11) hk rfl (by decide) rfl inT_X11 fl_RX11_16 rfl dX11_init_32 rfl ?_
  refine k_X6_init ml_RX11_21 (Nat.le_of_ble_eq_true rfl) ⟨Nat.le_of_ble_eq_true rfl, Nat.le_of_ble_eq_true rfl⟩ ⟨Nat.le_of_ble_eq_true rfl, Nat.le_of_ble_eq_true rfl⟩ dX11_init_35 rfl (fun u35 => ?_)
  refine l_putF (j := 2) (C := RX11) (Tt := TX11) (N := 11) (ty := (.object RX6)) tyX11 hk rfl (by decide) inT_X11 fl_RX11_24 rfl tyX11_ok nmX11 rfl hin rfl (by decide +kernel) rfl rfl (Nat.le_of_ble_eq_true rfl) dX11_init_38 rfl ?_
  refine w_aload_n 0 dX11_init_41 rfl rfl rfl ?_
  refine l_new (ci := 1) [.null, .null, .null, .null, .null, .int 0] tyX2 rfl inT_X2 tyX2_ok ⟨kl_RX11_28, is_X2⟩ df_X2 ⟨Nat.le_of_ble_eq_true rfl, Nat.le_of_ble_eq_true rfl⟩ dX11_init_42 rfl (fun q42 => ?_)
  refine w_dup dX11_init_45 rfl rfl ?_
  refine w_aload_n 0 dX11_init_46 rfl rfl rfl ?_
  refine l_get (j := 0) (C := RX11) (Tt := TX11) (N := 11) hk rfl (by decide) rfl inT_X11 fl_RX11_10 rfl dX11_init_47 rfl ?_
  refine k_X2_init ml_RX11_30 (Nat.le_of_ble_eq_true rfl) ⟨Nat.le_of_ble_eq_true rfl, Nat.le_of_ble_eq_true rfl⟩ ⟨Nat.le_of_ble_eq_true rfl, Nat.le_of_ble_eq_true rfl⟩ dX11_init_50 rfl (fun u50 => ?_)
  refine l_putF (j := 3) (C := RX11) (Tt := TX11) (N := 11) (ty := (.object RX2)) tyX11 hk rfl (by decide) inT_X11 fl_RX11_31 rfl tyX11_ok nmX11 rfl hin rfl (by decide +kernel) rfl rfl (Nat.le_of_ble_eq_true rfl) dX11_init_53 rfl ?_
  refine w_aload_n 0 dX11_init_56 rfl rfl rfl ?_
  refine l_new (ci := 2) [.null, .null, .null, .null, .null, .null, .null, .null] tyX3 rfl inT_X3 tyX3_ok ⟨kl_RX11_35, is_X3⟩ df_X3 ⟨Nat.le_of_ble_eq_true rfl, Nat.le_of_ble_eq_true rfl⟩ dX11_init_57 rfl (fun q57 => ?_)
  refine w_dup dX11_init_60 rfl rfl ?_
  refine w_aload_n 0 dX11_init_61 rfl rfl rfl ?_
  refine l_get (j := 0) (C := RX11) (Tt := TX11) (N := 11) hk rfl (by decide) rfl inT_X11 fl_RX11_10 rfl dX11_init_62 rfl ?_
  refine w_aload_n 0 dX11_init_65 rfl rfl rfl ?_
  refine l_get (j := 3) (C := RX11) (Tt := TX11) (N := 11) hk rfl (by decide) rfl inT_X11 fl_RX11_31 rfl dX11_init_66 rfl ?_
  refine k_X3_init ml_RX11_37 (Nat.le_of_ble_eq_true rfl) ⟨Nat.le_of_ble_eq_true rfl, Nat.le_of_ble_eq_true rfl⟩ ⟨Nat.le_of_ble_eq_true rfl, Nat.le_of_ble_eq_true rfl⟩ dX11_init_69 rfl (fun u69 => ?_)
  refine l_putF (j := 4) (C := RX11) (Tt := TX11) (N := 11) (ty := (.object RX3)) tyX11 hk rfl (by decide) inT_X11 fl_RX11_40 rfl tyX11_ok nmX11 rfl hin rfl (by decide +kernel) rfl rfl (Nat.le_of_ble_eq_true rfl) dX11_init_72 rfl ?_
  refine w_aload_n 0 dX11_init_75 rfl rfl rfl ?_
  refine l_new (ci := 4) [.int 0, .null, .null, .null, .null] tyX5 rfl inT_X5 tyX5_ok ⟨kl_RX11_44, is_X5⟩ df_X5 ⟨Nat.le_of_ble_eq_true rfl, Nat.le_of_ble_eq_true rfl⟩ dX11_init_76 rfl (fun q76 => ?_)
  refine w_dup dX11_init_79 rfl rfl ?_
  refine k_X5_init (fun h => h.2.2.1) (Nat.le_of_ble_eq_true rfl) ⟨Nat.le_of_ble_eq_true rfl, Nat.le_of_ble_eq_true rfl⟩ ⟨Nat.le_of_ble_eq_true rfl, Nat.le_of_ble_eq_true rfl⟩ dX11_init_80 rfl (fun u80 => ?_)
  refine l_putF (j := 5) (C := RX11) (Tt := TX11) (N := 11) (ty := (.object RX5)) tyX11 hk rfl (by decide) inT_X11 fl_RX11_47 rfl tyX11_ok nmX11 rfl hin rfl (by decide +kernel) rfl rfl (Nat.le_of_ble_eq_true rfl) dX11_init_83 rfl ?_
  refine w_aload_n 0 dX11_init_86 rfl rfl rfl ?_
  refine l_new (ci := 3) [.null] tyX4 rfl inT_X4 tyX4_ok ⟨kl_RX11_51, is_X4⟩ df_X4 ⟨Nat.le_of_ble_eq_true rfl, Nat.le_of_ble_eq_true rfl⟩ dX11_init_87 rfl (fun q87 => ?_)
  refine w_dup dX11_init_90 rfl rfl ?_
  refine w_aload_n 0 dX11_init_91 rfl rfl rfl ?_
  refine l_get (j := 0) (C := RX11) (Tt := TX11) (N := 11) hk rfl (by decide) rfl inT_X11 fl_RX11_10 rfl dX11_init_92 rfl ?_
  refine k_X4_init ml_RX11_53 (Nat.le_of_ble_eq_true rfl) ⟨Nat.le_of_ble_eq_true rfl, Nat.le_of_ble_eq_true rfl⟩ ⟨Nat.le_of_ble_eq_true rfl, Nat.le_of_ble_eq_true rfl⟩ dX11_init_95 rfl (fun u95 => ?_)
  refine l_putF (j := 6) (C := RX11) (Tt := TX11) (N := 11) (ty := (.object RX4)) tyX11 hk rfl (by decide) inT_X11 fl_RX11_54 rfl tyX11_ok nmX11 rfl hin rfl (by decide +kernel) rfl rfl (Nat.le_of_ble_eq_true rfl) dX11_init_98 rfl ?_
  refine w_aload_n 0 dX11_init_101 rfl rfl rfl ?_
  refine l_new (ci := 7) [.null] tyX8 rfl inT_X8 tyX8_ok ⟨kl_RX11_58, is_X8⟩ df_X8 ⟨Nat.le_of_ble_eq_true rfl, Nat.le_of_ble_eq_true rfl⟩ dX11_init_102 rfl (fun q102 => ?_)
  refine w_dup dX11_init_105 rfl rfl ?_
  refine w_aload_n 0 dX11_init_106 rfl rfl rfl ?_
  refine l_get (j := 0) (C := RX11) (Tt := TX11) (N := 11) hk rfl (by decide) rfl inT_X11 fl_RX11_10 rfl dX11_init_107 rfl ?_
  refine k_X8_init ml_RX11_60 (Nat.le_of_ble_eq_true rfl) ⟨Nat.le_of_ble_eq_true rfl, Nat.le_of_ble_eq_true rfl⟩ ⟨Nat.le_of_ble_eq_true rfl, Nat.le_of_ble_eq_true rfl⟩ dX11_init_110 rfl (fun u110 => ?_)
  refine l_putF (j := 7) (C := RX11) (Tt := TX11) (N := 11) (ty := (.object RX8)) tyX11 hk rfl (by decide) inT_X11 fl_RX11_61 rfl tyX11_ok nmX11 rfl hin rfl (by decide +kernel) rfl rfl (Nat.le_of_ble_eq_true rfl) dX11_init_113 rfl ?_
  refine w_aload_n 0 dX11_init_116 rfl rfl rfl ?_
  refine l_new (ci := 0) [.null, .null] tyX0 rfl inT_X0 tyX0_ok ⟨kl_RX11_65, is_X0⟩ df_X0 ⟨Nat.le_of_ble_eq_true rfl, Nat.le_of_ble_eq_true rfl⟩ dX11_init_117 rfl (fun q117 => ?_)
  refine w_dup dX11_init_120 rfl rfl ?_
  refine w_aload_n 0 dX11_init_121 rfl rfl rfl ?_
  refine l_get (j := 0) (C := RX11) (Tt := TX11) (N := 11) hk rfl (by decide) rfl inT_X11 fl_RX11_10 rfl dX11_init_122 rfl ?_
  refine k_X0_init ml_RX11_67 (Nat.le_of_ble_eq_true rfl) ⟨Nat.le_of_ble_eq_true rfl, Nat.le_of_ble_eq_true rfl⟩ ⟨Nat.le_of_ble_eq_true rfl, Nat.le_of_ble_eq_true rfl⟩ dX11_init_125 rfl (fun u125 => ?_)
  refine l_putF (j := 8) (C := RX11) (Tt := TX11) (N := 11) (ty := (.object RX0)) tyX11 hk rfl (by decide) inT_X11 fl_RX11_68 rfl tyX11_ok nmX11 rfl hin rfl (by decide +kernel) rfl rfl (Nat.le_of_ble_eq_true rfl) dX11_init_128 rfl ?_
  refine w_aload_n 0 dX11_init_131 rfl rfl rfl ?_
  refine l_new (ci := 6) [.null, .null, .null, .null] tyX7 rfl inT_X7 tyX7_ok ⟨kl_RX11_72, is_X7⟩ df_X7 ⟨Nat.le_of_ble_eq_true rfl, Nat.le_of_ble_eq_true rfl⟩ dX11_init_132 rfl (fun q132 => ?_)
  refine w_dup dX11_init_135 rfl rfl ?_
  refine k_X7_init (fun h => h.2.2.2.1) (Nat.le_of_ble_eq_true rfl) ⟨Nat.le_of_ble_eq_true rfl, Nat.le_of_ble_eq_true rfl⟩ ⟨Nat.le_of_ble_eq_true rfl, Nat.le_of_ble_eq_true rfl⟩ dX11_init_136 rfl (fun u136 => ?_)
  refine l_putF (j := 9) (C := RX11) (Tt := TX11) (N := 11) (ty := (.object RX7)) tyX11 hk rfl (by decide) inT_X11 fl_RX11_75 rfl tyX11_ok nmX11 rfl hin rfl (by decide +kernel) rfl rfl (Nat.le_of_ble_eq_true rfl) dX11_init_139 rfl ?_
  refine w_aload_n 0 dX11_init_142 rfl rfl rfl ?_
  refine w_iconst (3 : Int32) dX11_init_143 ic_iconst_3 rfl ?_
  refine l_newQ (N' := 3) kl_RX11_7 (by decide) (by decide +kernel) (by decide) ⟨Nat.le_of_ble_eq_true rfl, Nat.le_of_ble_eq_true rfl⟩ dX11_init_144 rfl (fun q144 => ?_)
  refine l_putF (j := 10) (C := RX11) (Tt := TX11) (N := 11) (ty := (.array (.object RX10))) tyX11 hk rfl (by decide) inT_X11 fl_RX11_79 rfl tyX11_ok nmX11 rfl hin rfl (by decide +kernel) rfl rfl (Nat.le_of_ble_eq_true rfl) dX11_init_147 rfl ?_
  exact l_return (fun i => [q5, (u9 0), (u9 1), (u9 2), (u9 3), (u9 4), (u9 5), (u9 6), (u9 7), (u9 8), (u9 9), (u9 10), (u9 11), (u9 12), q16, (u20 0), (u20 1), (u20 2), (u20 3), (u20 4), (u20 5), (u20 6), (u20 7), (u20 8), (u20 9), (u20 10), (u20 11), (u20 12), q27, (u35 0), q42, (u50 0), (u50 1), (u50 2), (u50 3), q57, (u69 0), (u69 1), (u69 2), (u69 3), (u69 4), (u69 5), q76, (u80 0), (u80 1), (u80 2), (u80 3), q87, q102, q117, (u125 0), q132, (u136 0), (u136 1), (u136 2), (u136 3), q144].getD i 0) rfl rfl dX11_init_150
theorem k_X11_init {Γ : CX} {cc : ByteArray} {nL : Nat} {own : String} {ret : Option FieldType} {rm : Room} {ws L : va_W} {k q : Nat} {T : Nat × va_E} {pc pc' idx : Nat} {lv : List (Nat × Value)} {rest : List Value} (hl : Cond.methodLink own idx yX11_init ∈ TB) (hw : (rest.map fun v => v.category).sum ≤ 8) (hR : rX11_init.frames + 1 ≤ rm.frames ∧ 8 + (1 + 11) + rX11_init.locals ≤ rm.locals) (hR2 : xk Γ + rX11_init.cells ≤ rm.cells ∧ xn Γ + rX11_init.slots ≤ rm.slots) (hd : decode cc pc = .ok (.invokespecial idx, 3)) (hp : pc + 3 = pc') (h : ∀ qs : Nat → Nat, WL (bump Γ rX11_init.cells rX11_init.slots) cc nL own ret rm (cf ws k T (L ++ [(q, .inr (10, [.ref (qs 0), .ref (qs 14), .ref (qs 28), .ref (qs 30), .ref (qs 35), .ref (qs 42), .ref (qs 47), .ref (qs 48), .ref (qs 49), .ref (qs 51), .ref (qs 56)]))] ++ [((qs 0), .inr (9, [.int 0, .int 0, .int 0, .int 0, .int 0, .ref (qs 1), .ref (qs 2), .ref (qs 4), .ref (qs 6), .ref (qs 8), .ref (qs 10), .ref (qs 12)])), ((qs 1), .inl (xy Γ 13, 2, .inl dfI)), ((qs 2), .inr (8, [.int (6 : Int32), .int (9 : Int32), .ref (qs 3), .int 0])), ((qs 3), .inl (xy Γ 13, 54, .inl dfI)), ((qs 4), .inr (8, [.int (2 : Int32), .int (4 : Int32), .ref (qs 5), .int 0])), ((qs 5), .inl (xy Γ 13, 8, .inl dfI)), ((qs 6), .inr (8, [.int (4 : Int32), .int (8 : Int32), .ref (qs 7), .int 0])), ((qs 7), .inl (xy Γ 13, 32, .inl dfI)), ((qs 8), .inr (8, [.int (2 : Int32), .int (4 : Int32), .ref (qs 9), .int 0])), ((qs 9), .inl (xy Γ 13, 8, .inl dfI)), ((qs 10), .inr (8, [.int (1 : Int32), .int (5 : Int32), .ref (qs 11), .int 0])), ((qs 11), .inl (xy Γ 13, 5, .inl dfI)), ((qs 12), .inr (8, [.int (3 : Int32), .int (60 : Int32), .ref (qs 13), .int 0])), ((qs 13), .inl (xy Γ 13, 180, .inl dfI)), ((qs 14), .inr (9, [.int 0, .int 0, .int 0, .int 0, .int 0, .ref (qs 15), .ref (qs 16), .ref (qs 18), .ref (qs 20), .ref (qs 22), .ref (qs 24), .ref (qs 26)])), ((qs 15), .inl (xy Γ 13, 2, .inl dfI)), ((qs 16), .inr (8, [.int (6 : Int32), .int (9 : Int32), .ref (qs 17), .int 0])), ((qs 17), .inl (xy Γ 13, 54, .inl dfI)), ((qs 18), .inr (8, [.int (2 : Int32), .int (4 : Int32), .ref (qs 19), .int 0])), ((qs 19), .inl (xy Γ 13, 8, .inl dfI)), ((qs 20), .inr (8, [.int (4 : Int32), .int (8 : Int32), .ref (qs 21), .int 0])), ((qs 21), .inl (xy Γ 13, 32, .inl dfI)), ((qs 22), .inr (8, [.int (2 : Int32), .int (4 : Int32), .ref (qs 23), .int 0])), ((qs 23), .inl (xy Γ 13, 8, .inl dfI)), ((qs 24), .inr (8, [.int (1 : Int32), .int (5 : Int32), .ref (qs 25), .int 0])), ((qs 25), .inl (xy Γ 13, 5, .inl dfI)), ((qs 26), .inr (8, [.int (3 : Int32), .int (60 : Int32), .ref (qs 27), .int 0])), ((qs 27), .inl (xy Γ 13, 180, .inl dfI)), ((qs 28), .inr (5, [.ref (qs 29), .int 0, .int 0, .int (-1 : Int32), .ref (qs 14), .int 0, .int 0, .int 0, .int 0])), ((qs 29), .inl (xy Γ 12, 1200, .inl dfI)), ((qs 30), .inr (1, [.ref (qs 0), .ref (qs 31), .ref (qs 32), .ref (qs 33), .ref (qs 34), .int 0])), ((qs 31), .inl (xy Γ 13, 61, .inl dfI)), ((qs 32), .inl (xy Γ 13, 512, .inl dfI)), ((qs 33), .inl (xy Γ 13, 512, .inl dfI)), ((qs 34), .inl (xy Γ 13, 512, .inl dfI)), ((qs 35), .inr (2, [.ref (qs 0), .ref (qs 30), .ref (qs 36), .ref (qs 37), .ref (qs 38), .ref (qs 39), .ref (qs 40), .ref (qs 41)])), ((qs 36), .inl (xy Γ 13, 512, .inl dfI)), ((qs 37), .inl (xy Γ 13, 512, .inl dfI)), ((qs 38), .inl (xy Γ 14, 512, .inr (.inl dfJ))), ((qs 39), .inl (xy Γ 15, 512, .inl dfI)), ((qs 40), .inl (xy Γ 13, 512, .inl dfI)), ((qs 41), .inl (xy Γ 13, 512, .inl dfI)), ((qs 42), .inr (4, [.int 0, .ref (qs 43), .ref (qs 44), .ref (qs 45), .ref (qs 46)])), ((qs 43), .inl (xy Γ 13, 3, .inl dfI)), ((qs 44), .inl (xy Γ 13, 3, .inl dfI)), ((qs 45), .inl (xy Γ 13, 3, .inl dfI)), ((qs 46), .inl (xy Γ 13, 3, .inl dfI)), ((qs 47), .inr (3, [.ref (qs 0)])), ((qs 48), .inr (7, [.ref (qs 0)])), ((qs 49), .inr (0, [.ref (qs 0), .ref (qs 50)])), ((qs 50), .inl (xy Γ 13, 8, .inl dfI)), ((qs 51), .inr (6, [.ref (qs 52), .ref (qs 53), .ref (qs 54), .ref (qs 55)])), ((qs 52), .inl (xy Γ 15, 4, .inl dfI)), ((qs 53), .inl (xy Γ 13, 4, .inl dfI)), ((qs 54), .inl (xy Γ 13, 4, .inl dfI)), ((qs 55), .inl (xy Γ 14, 240, .inr (.inl dfJ))), ((qs 56), .inl (xy Γ 16, 3, .inr (.inr (.inr (.inr (fun _ => none))))))])) pc' lv rest) : WL Γ cc nL own ret rm (cf ws k T (L ++ [(q, .inr (10, [.null, .null, .null, .null, .null, .null, .null, .null, .null, .null, .null]))])) pc lv (.ref q :: rest) := by
  have hc := c_X11_init (l := xl Γ) (D := xD Γ) (cy := xy Γ) (ad := xd Γ) (ws := cf ws k T (L ++ [(q, .inr (10, [.null, .null, .null, .null, .null, .null, .null, .null, .null, .null, .null]))])) (k := (cf ws k T L).length) (a := q) (by simp [cf])
  rw [cf_self cf_last] at hc
  simp only [cf_last_set] at hc
  exact l_callI (nn := 0) (As := []) (rest := rest) hc hl mw_X11_init rfl (by decide +kernel) hR hR2 rfl hw hd rfl hp h
def rX12_init : Room := { frames := 1, cells := 16, slots := 3810, locals := 20 }
theorem mw_X12_init : Cond.instanceMethod yX12_init ∈ TB ∧ Cond.initialized yX12_init.cls ∈ TB ∧ Cond.code yX12_init cX12_init 1 none ∈ TB := ⟨tb_m (bk_6 (List.mem_of_getElem? (i := 125) (by decide +kernel))) rfl, tb_m (bk_1 (List.mem_of_getElem? (i := 13) (by decide +kernel))) rfl, tb_m (bk_6 (List.mem_of_getElem? (i := 126) (by decide +kernel))) rfl⟩
set_option maxRecDepth 4000 in
theorem c_X12_init {l : Launch} {D : va_G} {cy : Nat → ClassId} {ad : Nat → Nat} {ws : va_W} {k a : Nat} (hk : k < ws.length) : CN l D cy ad yX12_init cX12_init 1 rX12_init [.ref a] (cf ws k (a, .inr (11, [.int 0, .null, .null, .null, .null, .int 0, .null, .int 0, .int 0, .int 0, .int 0, .int 0, .int 0, .int 0, .null, .null, .int 0, .null, .int 0, .int 0, .int 0, .null, .int 0, .null, .null, .null, .int 0, .int 0, .null, .null, .null, .null])) []) (fun qs => cf ws k (a, .inr (11, [.int 0, .ref (qs 0), .ref (qs 1), .ref (qs 2), .ref (qs 3), .int 0, .ref (qs 4), .int 0, .int 0, .int 0, .int 0, .int 0, .int 0, .int (-1 : Int32), .ref (qs 5), .ref (qs 6), .int 0, .ref (qs 7), .int 0, .int 0, .int 0, .ref (qs 8), .int 0, .ref (qs 9), .ref (qs 10), .ref (qs 11), .int 0, .int 0, .ref (qs 12), .ref (qs 13), .ref (qs 14), .ref (qs 15)])) [((qs 0), .inl (cy 13, 240, .inl dfI)), ((qs 1), .inl (cy 13, 720, .inl dfI)), ((qs 2), .inl (cy 15, 3, .inl dfI)), ((qs 3), .inl (cy 12, 1200, .inl dfI)), ((qs 4), .inl (cy 13, 5, .inl dfI)), ((qs 5), .inl (cy 13, 240, .inl dfI)), ((qs 6), .inl (cy 13, 61, .inl dfI)), ((qs 7), .inl (cy 13, 512, .inl dfI)), ((qs 8), .inl (cy 13, 512, .inl dfI)), ((qs 9), .inl (cy 13, 3, .inl dfI)), ((qs 10), .inl (cy 13, 3, .inl dfI)), ((qs 11), .inl (cy 13, 3, .inl dfI)), ((qs 12), .inl (cy 13, 4, .inl (upd (upd (upd (upd dfI (0 : Int32).toNatClampNeg (-1 : Int32)) (1 : Int32).toNatClampNeg (-1 : Int32)) (2 : Int32).toNatClampNeg (-1 : Int32)) (3 : Int32).toNatClampNeg (-1 : Int32)))), ((qs 13), .inl (cy 13, 4, .inl dfI)), ((qs 14), .inl (cy 14, 240, .inr (.inl dfJ))), ((qs 15), .inl (cy 14, 60, .inr (.inl dfJ)))]) := by
  refine cn_of (by decide) rfl (Nat.le_of_ble_eq_true rfl) (fun p e s m args below meth c A hin => ?_)
  refine w_aload_n 0 dX12_init_0 rfl rfl rfl ?_
  refine l_obj ml_RX12_3 oi_w (Nat.le_of_ble_eq_true rfl) ⟨Nat.le_of_ble_eq_true rfl, Nat.le_of_ble_eq_true rfl⟩ dX12_init_1 rfl ?_
  refine w_aload_n 0 dX12_init_4 rfl rfl rfl ?_
  refine w_sipush (240 : Int32) dX12_init_5 ic_sipush_240 rfl ?_
  refine l_newA (N' := 240) 1 13 (240, .inl dfI) rfl rfl (fun _ _ h => h) ac_int (fun _ => rfl) (by decide) (by decide +kernel) (by decide) ⟨Nat.le_of_ble_eq_true rfl, Nat.le_of_ble_eq_true rfl⟩ dX12_init_8 rfl (fun q8 => ?_)
  refine l_putF (j := 1) (C := RX12) (Tt := TX12) (N := 32) (ty := (.array .int)) tyX12 hk rfl (by decide) inT_X12 fl_RX12_9 rfl tyX12_ok nmX12 rfl hin rfl (by decide +kernel) rfl rfl (Nat.le_of_ble_eq_true rfl) dX12_init_10 rfl ?_
  refine w_aload_n 0 dX12_init_13 rfl rfl rfl ?_
  refine w_sipush (720 : Int32) dX12_init_14 ic_sipush_720 rfl ?_
  refine l_newA (N' := 720) 1 13 (720, .inl dfI) rfl rfl (fun _ _ h => h) ac_int (fun _ => rfl) (by decide) (by decide +kernel) (by decide) ⟨Nat.le_of_ble_eq_true rfl, Nat.le_of_ble_eq_true rfl⟩ dX12_init_17 rfl (fun q17 => ?_)
  refine l_putF (j := 2) (C := RX12) (Tt := TX12) (N := 32) (ty := (.array .int)) tyX12 hk rfl (by decide) inT_X12 fl_RX12_13 rfl tyX12_ok nmX12 rfl hin rfl (by decide +kernel) rfl rfl (Nat.le_of_ble_eq_true rfl) dX12_init_19 rfl ?_
  refine w_aload_n 0 dX12_init_22 rfl rfl rfl ?_
  refine w_iconst (3 : Int32) dX12_init_23 ic_iconst_3 rfl ?_
  refine l_newA (N' := 3) 3 15 (3, .inl dfI) rfl rfl (fun _ _ h => h) ac_boolean (fun _ => rfl) (by decide) (by decide +kernel) (by decide) ⟨Nat.le_of_ble_eq_true rfl, Nat.le_of_ble_eq_true rfl⟩ dX12_init_24 rfl (fun q24 => ?_)
  refine l_putF (j := 3) (C := RX12) (Tt := TX12) (N := 32) (ty := (.array .boolean)) tyX12 hk rfl (by decide) inT_X12 fl_RX12_16 rfl tyX12_ok nmX12 rfl hin rfl (by decide +kernel) rfl rfl (Nat.le_of_ble_eq_true rfl) dX12_init_26 rfl ?_
  refine w_aload_n 0 dX12_init_29 rfl rfl rfl ?_
  refine w_sipush (1200 : Int32) dX12_init_30 ic_sipush_1200 rfl ?_
  refine l_newA (N' := 1200) 0 12 (1200, .inl dfI) rfl rfl (fun _ _ h => h) ac_byte (fun _ => rfl) (by decide) (by decide +kernel) (by decide) ⟨Nat.le_of_ble_eq_true rfl, Nat.le_of_ble_eq_true rfl⟩ dX12_init_33 rfl (fun q33 => ?_)
  refine l_putF (j := 4) (C := RX12) (Tt := TX12) (N := 32) (ty := (.array .byte)) tyX12 hk rfl (by decide) inT_X12 fl_RX12_20 rfl tyX12_ok nmX12 rfl hin rfl (by decide +kernel) rfl rfl (Nat.le_of_ble_eq_true rfl) dX12_init_35 rfl ?_
  refine w_aload_n 0 dX12_init_38 rfl rfl rfl ?_
  refine w_iconst (5 : Int32) dX12_init_39 ic_iconst_5 rfl ?_
  refine l_newA (N' := 5) 1 13 (5, .inl dfI) rfl rfl (fun _ _ h => h) ac_int (fun _ => rfl) (by decide) (by decide +kernel) (by decide) ⟨Nat.le_of_ble_eq_true rfl, Nat.le_of_ble_eq_true rfl⟩ dX12_init_40 rfl (fun q40 => ?_)
  refine l_putF (j := 6) (C := RX12) (Tt := TX12) (N := 32) (ty := (.array .int)) tyX12 hk rfl (by decide) inT_X12 fl_RX12_24 rfl tyX12_ok nmX12 rfl hin rfl (by decide +kernel) rfl rfl (Nat.le_of_ble_eq_true rfl) dX12_init_42 rfl ?_
  refine w_aload_n 0 dX12_init_45 rfl rfl rfl ?_
  refine w_iconst (-1 : Int32) dX12_init_46 ic_iconst_m1 rfl ?_
  refine l_put (j := 13) (C := RX12) (Tt := TX12) (N := 32) (ty := .int) tyX12 hk rfl (by decide) inT_X12 fl_RX12_27 rfl tyX12_ok nmX12 rfl (by decide +kernel) rfl rfl (Nat.le_of_ble_eq_true rfl) dX12_init_47 rfl ?_
  refine w_aload_n 0 dX12_init_50 rfl rfl rfl ?_
  refine w_sipush (240 : Int32) dX12_init_51 ic_sipush_240 rfl ?_
  refine l_newA (N' := 240) 1 13 (240, .inl dfI) rfl rfl (fun _ _ h => h) ac_int (fun _ => rfl) (by decide) (by decide +kernel) (by decide) ⟨Nat.le_of_ble_eq_true rfl, Nat.le_of_ble_eq_true rfl⟩ dX12_init_54 rfl (fun q54 => ?_)
  refine l_putF (j := 14) (C := RX12) (Tt := TX12) (N := 32) (ty := (.array .int)) tyX12 hk rfl (by decide) inT_X12 fl_RX12_31 rfl tyX12_ok nmX12 rfl hin rfl (by decide +kernel) rfl rfl (Nat.le_of_ble_eq_true rfl) dX12_init_56 rfl ?_
  refine w_aload_n 0 dX12_init_59 rfl rfl rfl ?_
  refine w_bipush (61 : Int32) dX12_init_60 ic_bipush_61 rfl ?_
  refine l_newA (N' := 61) 1 13 (61, .inl dfI) rfl rfl (fun _ _ h => h) ac_int (fun _ => rfl) (by decide) (by decide +kernel) (by decide) ⟨Nat.le_of_ble_eq_true rfl, Nat.le_of_ble_eq_true rfl⟩ dX12_init_62 rfl (fun q62 => ?_)
  refine l_putF (j := 15) (C := RX12) (Tt := TX12) (N := 32) (ty := (.array .int)) tyX12 hk rfl (by decide) inT_X12 fl_RX12_34 rfl tyX12_ok nmX12 rfl hin rfl (by decide +kernel) rfl rfl (Nat.le_of_ble_eq_true rfl) dX12_init_64 rfl ?_
  refine w_aload_n 0 dX12_init_67 rfl rfl rfl ?_
  refine w_sipush (512 : Int32) dX12_init_68 ic_sipush_512 rfl ?_
  refine l_newA (N' := 512) 1 13 (512, .inl dfI) rfl rfl (fun _ _ h => h) ac_int (fun _ => rfl) (by decide) (by decide +kernel) (by decide) ⟨Nat.le_of_ble_eq_true rfl, Nat.le_of_ble_eq_true rfl⟩ dX12_init_71 rfl (fun q71 => ?_)
  refine l_putF (j := 17) (C := RX12) (Tt := TX12) (N := 32) (ty := (.array .int)) tyX12 hk rfl (by decide) inT_X12 fl_RX12_37 rfl tyX12_ok nmX12 rfl hin rfl (by decide +kernel) rfl rfl (Nat.le_of_ble_eq_true rfl) dX12_init_73 rfl ?_
  refine w_aload_n 0 dX12_init_76 rfl rfl rfl ?_
  refine w_sipush (512 : Int32) dX12_init_77 ic_sipush_512 rfl ?_
  refine l_newA (N' := 512) 1 13 (512, .inl dfI) rfl rfl (fun _ _ h => h) ac_int (fun _ => rfl) (by decide) (by decide +kernel) (by decide) ⟨Nat.le_of_ble_eq_true rfl, Nat.le_of_ble_eq_true rfl⟩ dX12_init_80 rfl (fun q80 => ?_)
  refine l_putF (j := 21) (C := RX12) (Tt := TX12) (N := 32) (ty := (.array .int)) tyX12 hk rfl (by decide) inT_X12 fl_RX12_40 rfl tyX12_ok nmX12 rfl hin rfl (by decide +kernel) rfl rfl (Nat.le_of_ble_eq_true rfl) dX12_init_82 rfl ?_
  refine w_aload_n 0 dX12_init_85 rfl rfl rfl ?_
  refine w_iconst (3 : Int32) dX12_init_86 ic_iconst_3 rfl ?_
  refine l_newA (N' := 3) 1 13 (3, .inl dfI) rfl rfl (fun _ _ h => h) ac_int (fun _ => rfl) (by decide) (by decide +kernel) (by decide) ⟨Nat.le_of_ble_eq_true rfl, Nat.le_of_ble_eq_true rfl⟩ dX12_init_87 rfl (fun q87 => ?_)
  refine l_putF (j := 23) (C := RX12) (Tt := TX12) (N := 32) (ty := (.array .int)) tyX12 hk rfl (by decide) inT_X12 fl_RX12_43 rfl tyX12_ok nmX12 rfl hin rfl (by decide +kernel) rfl rfl (Nat.le_of_ble_eq_true rfl) dX12_init_89 rfl ?_
  refine w_aload_n 0 dX12_init_92 rfl rfl rfl ?_
  refine w_iconst (3 : Int32) dX12_init_93 ic_iconst_3 rfl ?_
  refine l_newA (N' := 3) 1 13 (3, .inl dfI) rfl rfl (fun _ _ h => h) ac_int (fun _ => rfl) (by decide) (by decide +kernel) (by decide) ⟨Nat.le_of_ble_eq_true rfl, Nat.le_of_ble_eq_true rfl⟩ dX12_init_94 rfl (fun q94 => ?_)
  refine l_putF (j := 24) (C := RX12) (Tt := TX12) (N := 32) (ty := (.array .int)) tyX12 hk rfl (by decide) inT_X12 fl_RX12_46 rfl tyX12_ok nmX12 rfl hin rfl (by decide +kernel) rfl rfl (Nat.le_of_ble_eq_true rfl) dX12_init_96 rfl ?_
  refine w_aload_n 0 dX12_init_99 rfl rfl rfl ?_
  refine w_iconst (3 : Int32) dX12_init_100 ic_iconst_3 rfl ?_
  refine l_newA (N' := 3) 1 13 (3, .inl dfI) rfl rfl (fun _ _ h => h) ac_int (fun _ => rfl) (by decide) (by decide +kernel) (by decide) ⟨Nat.le_of_ble_eq_true rfl, Nat.le_of_ble_eq_true rfl⟩ dX12_init_101 rfl (fun q101 => ?_)
  refine l_putF (j := 25) (C := RX12) (Tt := TX12) (N := 32) (ty := (.array .int)) tyX12 hk rfl (by decide) inT_X12 fl_RX12_49 rfl tyX12_ok nmX12 rfl hin rfl (by decide +kernel) rfl rfl (Nat.le_of_ble_eq_true rfl) dX12_init_103 rfl ?_
  refine w_aload_n 0 dX12_init_106 rfl rfl rfl ?_
  refine w_iconst (4 : Int32) dX12_init_107 ic_iconst_4 rfl ?_
  refine l_newA (N' := 4) 1 13 (4, .inl dfI) rfl rfl (fun _ _ h => h) ac_int (fun _ => rfl) (by decide) (by decide +kernel) (by decide) ⟨Nat.le_of_ble_eq_true rfl, Nat.le_of_ble_eq_true rfl⟩ dX12_init_108 rfl (fun q108 => ?_)
  refine w_dup dX12_init_110 rfl rfl ?_
  refine w_iconst (0 : Int32) dX12_init_111 ic_iconst_0 rfl ?_
  refine w_iconst (-1 : Int32) dX12_init_112 ic_iconst_m1 rfl ?_
  refine l_iast rfl dX12_init_113 rfl ?_
  refine w_dup dX12_init_114 rfl rfl ?_
  refine w_iconst (1 : Int32) dX12_init_115 ic_iconst_1 rfl ?_
  refine w_iconst (-1 : Int32) dX12_init_116 ic_iconst_m1 rfl ?_
  refine l_iast rfl dX12_init_117 rfl ?_
  refine w_dup dX12_init_118 rfl rfl ?_
  refine w_iconst (2 : Int32) dX12_init_119 ic_iconst_2 rfl ?_
  refine w_iconst (-1 : Int32) dX12_init_120 ic_iconst_m1 rfl ?_
  refine l_iast rfl dX12_init_121 rfl ?_
  refine w_dup dX12_init_122 rfl rfl ?_
  refine w_iconst (3 : Int32) dX12_init_123 ic_iconst_3 rfl ?_
  refine w_iconst (-1 : Int32) dX12_init_124 ic_iconst_m1 rfl ?_
  refine l_iast rfl dX12_init_125 rfl ?_
  refine l_putF (j := 28) (C := RX12) (Tt := TX12) (N := 32) (ty := (.array .int)) tyX12 hk rfl (by decide) inT_X12 fl_RX12_52 rfl tyX12_ok nmX12 rfl hin rfl (by decide +kernel) rfl rfl (Nat.le_of_ble_eq_true rfl) dX12_init_126 rfl ?_
  refine w_aload_n 0 dX12_init_129 rfl rfl rfl ?_
  refine w_iconst (4 : Int32) dX12_init_130 ic_iconst_4 rfl ?_
  refine l_newA (N' := 4) 1 13 (4, .inl dfI) rfl rfl (fun _ _ h => h) ac_int (fun _ => rfl) (by decide) (by decide +kernel) (by decide) ⟨Nat.le_of_ble_eq_true rfl, Nat.le_of_ble_eq_true rfl⟩ dX12_init_131 rfl (fun q131 => ?_)
  refine l_putF (j := 29) (C := RX12) (Tt := TX12) (N := 32) (ty := (.array .int)) tyX12 hk rfl (by decide) inT_X12 fl_RX12_55 rfl tyX12_ok nmX12 rfl hin rfl (by decide +kernel) rfl rfl (Nat.le_of_ble_eq_true rfl) dX12_init_133 rfl ?_
  refine w_aload_n 0 dX12_init_136 rfl rfl rfl ?_
  refine w_sipush (240 : Int32) dX12_init_137 ic_sipush_240 rfl ?_
  refine l_newA (N' := 240) 2 14 (240, .inr (.inl dfJ)) rfl rfl (fun _ _ h => h) ac_long (fun _ => rfl) (by decide) (by decide +kernel) (by decide) ⟨Nat.le_of_ble_eq_true rfl, Nat.le_of_ble_eq_true rfl⟩ dX12_init_140 rfl (fun q140 => ?_)
  refine l_putF (j := 30) (C := RX12) (Tt := TX12) (N := 32) (ty := (.array .long)) tyX12 hk rfl (by decide) inT_X12 fl_RX12_58 rfl tyX12_ok nmX12 rfl hin rfl (by decide +kernel) rfl rfl (Nat.le_of_ble_eq_true rfl) dX12_init_142 rfl ?_
  refine w_aload_n 0 dX12_init_145 rfl rfl rfl ?_
  refine w_bipush (60 : Int32) dX12_init_146 ic_bipush_60 rfl ?_
  refine l_newA (N' := 60) 2 14 (60, .inr (.inl dfJ)) rfl rfl (fun _ _ h => h) ac_long (fun _ => rfl) (by decide) (by decide +kernel) (by decide) ⟨Nat.le_of_ble_eq_true rfl, Nat.le_of_ble_eq_true rfl⟩ dX12_init_148 rfl (fun q148 => ?_)
  refine l_putF (j := 31) (C := RX12) (Tt := TX12) (N := 32) (ty := (.array .long)) tyX12 hk rfl (by decide) inT_X12 fl_RX12_62 rfl tyX12_ok nmX12 rfl hin rfl (by decide +kernel) rfl rfl (Nat.le_of_ble_eq_true rfl) dX12_init_150 rfl ?_
  exact l_return (fun i => [q8, q17, q24, q33, q40, q54, q62, q71, q80, q87, q94, q101, q108, q131, q140, q148].getD i 0) rfl rfl dX12_init_153
theorem k_X12_init {Γ : CX} {cc : ByteArray} {nL : Nat} {own : String} {ret : Option FieldType} {rm : Room} {ws L : va_W} {k q : Nat} {T : Nat × va_E} {pc pc' idx : Nat} {lv : List (Nat × Value)} {rest : List Value} (hl : Cond.methodLink own idx yX12_init ∈ TB) (hw : (rest.map fun v => v.category).sum ≤ 8) (hR : rX12_init.frames + 1 ≤ rm.frames ∧ 8 + (1 + 11) + rX12_init.locals ≤ rm.locals) (hR2 : xk Γ + rX12_init.cells ≤ rm.cells ∧ xn Γ + rX12_init.slots ≤ rm.slots) (hd : decode cc pc = .ok (.invokespecial idx, 3)) (hp : pc + 3 = pc') (h : ∀ qs : Nat → Nat, WL (bump Γ rX12_init.cells rX12_init.slots) cc nL own ret rm (cf ws k T (L ++ [(q, .inr (11, [.int 0, .ref (qs 0), .ref (qs 1), .ref (qs 2), .ref (qs 3), .int 0, .ref (qs 4), .int 0, .int 0, .int 0, .int 0, .int 0, .int 0, .int (-1 : Int32), .ref (qs 5), .ref (qs 6), .int 0, .ref (qs 7), .int 0, .int 0, .int 0, .ref (qs 8), .int 0, .ref (qs 9), .ref (qs 10), .ref (qs 11), .int 0, .int 0, .ref (qs 12), .ref (qs 13), .ref (qs 14), .ref (qs 15)]))] ++ [((qs 0), .inl (xy Γ 13, 240, .inl dfI)), ((qs 1), .inl (xy Γ 13, 720, .inl dfI)), ((qs 2), .inl (xy Γ 15, 3, .inl dfI)), ((qs 3), .inl (xy Γ 12, 1200, .inl dfI)), ((qs 4), .inl (xy Γ 13, 5, .inl dfI)), ((qs 5), .inl (xy Γ 13, 240, .inl dfI)), ((qs 6), .inl (xy Γ 13, 61, .inl dfI)), ((qs 7), .inl (xy Γ 13, 512, .inl dfI)), ((qs 8), .inl (xy Γ 13, 512, .inl dfI)), ((qs 9), .inl (xy Γ 13, 3, .inl dfI)), ((qs 10), .inl (xy Γ 13, 3, .inl dfI)), ((qs 11), .inl (xy Γ 13, 3, .inl dfI)), ((qs 12), .inl (xy Γ 13, 4, .inl (upd (upd (upd (upd dfI (0 : Int32).toNatClampNeg (-1 : Int32)) (1 : Int32).toNatClampNeg (-1 : Int32)) (2 : Int32).toNatClampNeg (-1 : Int32)) (3 : Int32).toNatClampNeg (-1 : Int32)))), ((qs 13), .inl (xy Γ 13, 4, .inl dfI)), ((qs 14), .inl (xy Γ 14, 240, .inr (.inl dfJ))), ((qs 15), .inl (xy Γ 14, 60, .inr (.inl dfJ)))])) pc' lv rest) : WL Γ cc nL own ret rm (cf ws k T (L ++ [(q, .inr (11, [.int 0, .null, .null, .null, .null, .int 0, .null, .int 0, .int 0, .int 0, .int 0, .int 0, .int 0, .int 0, .null, .null, .int 0, .null, .int 0, .int 0, .int 0, .null, .int 0, .null, .null, .null, .int 0, .int 0, .null, .null, .null, .null]))])) pc lv (.ref q :: rest) := by
  have hc := c_X12_init (l := xl Γ) (D := xD Γ) (cy := xy Γ) (ad := xd Γ) (ws := cf ws k T (L ++ [(q, .inr (11, [.int 0, .null, .null, .null, .null, .int 0, .null, .int 0, .int 0, .int 0, .int 0, .int 0, .int 0, .int 0, .null, .null, .int 0, .null, .int 0, .int 0, .int 0, .null, .int 0, .null, .null, .null, .int 0, .int 0, .null, .null, .null, .null]))])) (k := (cf ws k T L).length) (a := q) (by simp [cf])
  rw [cf_self cf_last] at hc
  simp only [cf_last_set] at hc
  exact l_callI (nn := 0) (As := []) (rest := rest) hc hl mw_X12_init rfl (by decide +kernel) hR hR2 rfl hw hd rfl hp h
