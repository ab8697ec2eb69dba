theorem w_G {Γ Γ' : CX} {cc : ByteArray} {nL : Nat} {own : String} {ret : Option FieldType} {rm : Room} {ws : va_W} {pc : Nat} {lv : List (Nat × Value)} {st : List Value} (e : Γ = Γ') (h : WL Γ' cc nL own ret rm ws pc lv st) : WL Γ cc nL own ret rm ws pc lv st := by
  subst e
  exact h
theorem w_W {Γ : CX} {cc : ByteArray} {nL : Nat} {own : String} {ret : Option FieldType} {rm : Room} {ws ws' : va_W} {pc : Nat} {lv : List (Nat × Value)} {st : List Value} (e : ws = ws') (h : WL Γ cc nL own ret rm ws' pc lv st) : WL Γ cc nL own ret rm ws pc lv st := by
  subst e
  exact h
/-! ===== constructors ===== -/
theorem ic_bipush_61 : (Int8.ofInt (61)).toInt32 = (61 : Int32) := by decide
theorem ic_sipush_720 : (Int16.ofInt (720)).toInt32 = (720 : Int32) := by decide
theorem ml_RX11_1 : Cond.methodLink RX11 1 objectInit ∈ TB := tb_m (bk_1 (List.mem_of_getElem? (i := 27) rfl)) rfl
set_option maxRecDepth 8000 in
theorem ml_RX11_21 : Cond.methodLink RX11 21 yX6_init ∈ TB := tb_m (bk_1 (List.mem_of_getElem? (i := 140) rfl)) rfl
set_option maxRecDepth 8000 in
theorem ml_RX11_30 : Cond.methodLink RX11 30 yX2_init ∈ TB := tb_m (bk_1 (List.mem_of_getElem? (i := 178) rfl)) rfl
set_option maxRecDepth 8000 in
theorem ml_RX11_37 : Cond.methodLink RX11 37 yX3_init ∈ TB := tb_m (bk_1 (List.mem_of_getElem? (i := 203) rfl)) rfl
theorem ml_RX11_53 : Cond.methodLink RX11 53 yX4_init ∈ TB := tb_m (bk_2 (List.mem_of_getElem? (i := 21) rfl)) rfl
theorem ml_RX11_60 : Cond.methodLink RX11 60 yX8_init ∈ TB := tb_m (bk_2 (List.mem_of_getElem? (i := 31) rfl)) rfl
theorem ml_RX11_67 : Cond.methodLink RX11 67 yX0_init ∈ TB := tb_m (bk_2 (List.mem_of_getElem? (i := 41) rfl)) rfl
theorem ml_RX0_3 : Cond.methodLink RX0 3 objectInit ∈ TB := tb_m (bk_2 (List.mem_of_getElem? (i := 44) rfl)) rfl
set_option maxRecDepth 8000 in
theorem ml_RX2_3 : Cond.methodLink RX2 3 objectInit ∈ TB := tb_m (bk_1 (List.mem_of_getElem? (i := 181) rfl)) rfl
set_option maxRecDepth 8000 in
theorem ml_RX3_3 : Cond.methodLink RX3 3 objectInit ∈ TB := tb_m (bk_1 (List.mem_of_getElem? (i := 206) rfl)) rfl
theorem ml_RX4_3 : Cond.methodLink RX4 3 objectInit ∈ TB := tb_m (bk_2 (List.mem_of_getElem? (i := 24) rfl)) rfl
set_option maxRecDepth 8000 in
theorem ml_RX5_1 : Cond.methodLink RX5 1 objectInit ∈ TB := tb_m (bk_1 (List.mem_of_getElem? (i := 239) rfl)) rfl
set_option maxRecDepth 8000 in
theorem ml_RX6_3 : Cond.methodLink RX6 3 objectInit ∈ TB := tb_m (bk_1 (List.mem_of_getElem? (i := 143) rfl)) rfl
theorem ml_RX7_3 : Cond.methodLink RX7 3 objectInit ∈ TB := tb_m (bk_2 (List.mem_of_getElem? (i := 57) rfl)) rfl
theorem ml_RX8_3 : Cond.methodLink RX8 3 objectInit ∈ TB := tb_m (bk_2 (List.mem_of_getElem? (i := 34) rfl)) rfl
theorem ml_RX9_3 : Cond.methodLink RX9 3 objectInit ∈ TB := tb_m (bk_1 (List.mem_of_getElem? (i := 41) rfl)) rfl
theorem ml_RX9_9 : Cond.methodLink RX9 9 yJ9_max_7cf53 ∈ TB := tb_m (bk_1 (List.mem_of_getElem? (i := 42) rfl)) rfl
theorem ml_RX10_3 : Cond.methodLink RX10 3 objectInit ∈ TB := tb_m (bk_1 (List.mem_of_getElem? (i := 35) rfl)) rfl
theorem ml_RX10_17 : Cond.methodLink RX10 17 yX9_init ∈ TB := tb_m (bk_1 (List.mem_of_getElem? (i := 38) rfl)) rfl
set_option maxRecDepth 8000 in
theorem ml_RX12_3 : Cond.methodLink RX12 3 objectInit ∈ TB := tb_m (bk_6 (List.mem_of_getElem? (i := 127) rfl)) rfl
theorem fl_RX11_79 : Cond.fieldLink RX11 79 RX11 "images" "[LWarByHours$War;" ∈ TB := tb_m (bk_2 (List.mem_of_getElem? (i := 82) rfl)) rfl
theorem kl_RX11_7 : Cond.classLink RX11 7 RX10 ∈ TB := tb_m (bk_1 (List.mem_of_getElem? (i := 30) rfl)) rfl
set_option maxRecDepth 8000 in
theorem kl_RX11_19 : Cond.classLink RX11 19 RX6 ∈ TB := tb_m (bk_1 (List.mem_of_getElem? (i := 138) rfl)) rfl
set_option maxRecDepth 8000 in
theorem kl_RX11_28 : Cond.classLink RX11 28 RX2 ∈ TB := tb_m (bk_1 (List.mem_of_getElem? (i := 176) rfl)) rfl
set_option maxRecDepth 8000 in
theorem kl_RX11_35 : Cond.classLink RX11 35 RX3 ∈ TB := tb_m (bk_1 (List.mem_of_getElem? (i := 201) rfl)) rfl
set_option maxRecDepth 8000 in
theorem kl_RX11_44 : Cond.classLink RX11 44 RX5 ∈ TB := tb_m (bk_1 (List.mem_of_getElem? (i := 234) rfl)) rfl
theorem kl_RX11_51 : Cond.classLink RX11 51 RX4 ∈ TB := tb_m (bk_2 (List.mem_of_getElem? (i := 19) rfl)) rfl
theorem kl_RX11_58 : Cond.classLink RX11 58 RX8 ∈ TB := tb_m (bk_2 (List.mem_of_getElem? (i := 29) rfl)) rfl
theorem kl_RX11_65 : Cond.classLink RX11 65 RX0 ∈ TB := tb_m (bk_2 (List.mem_of_getElem? (i := 39) rfl)) rfl
theorem kl_RX11_72 : Cond.classLink RX11 72 RX7 ∈ TB := tb_m (bk_2 (List.mem_of_getElem? (i := 52) rfl)) rfl
theorem kl_RX10_15 : Cond.classLink RX10 15 RX9 ∈ TB := tb_m (bk_1 (List.mem_of_getElem? (i := 36) rfl)) rfl
theorem is_X11 : Cond.instantiable RX11 11 ∈ TB ∧ Cond.initialized RX11 ∈ TB := ⟨tb_m (bk_1 (List.mem_of_getElem? (i := 23) rfl)) rfl, tb_m (bk_1 (List.mem_of_getElem? (i := 1) rfl)) rfl⟩
theorem df_X11 : ∀ j, j < 11 → defaultValue (tyX11 j) = vp_V [.null, .null, .null, .null, .null, .null, .null, .null, .null, .null, .null] j := by decide +kernel
theorem is_X0 : Cond.instantiable RX0 2 ∈ TB ∧ Cond.initialized RX0 ∈ TB := ⟨tb_m (bk_2 (List.mem_of_getElem? (i := 40) rfl)) rfl, tb_m (bk_1 (List.mem_of_getElem? (i := 11) rfl)) rfl⟩
theorem df_X0 : ∀ j, j < 2 → defaultValue (tyX0 j) = vp_V [.null, .null] j := by decide +kernel
set_option maxRecDepth 8000 in
theorem is_X2 : Cond.instantiable RX2 6 ∈ TB ∧ Cond.initialized RX2 ∈ TB := ⟨tb_m (bk_1 (List.mem_of_getElem? (i := 177) rfl)) rfl, tb_m (bk_1 (List.mem_of_getElem? (i := 6) rfl)) rfl⟩
theorem df_X2 : ∀ j, j < 6 → defaultValue (tyX2 j) = vp_V [.null, .null, .null, .null, .null, .int 0] j := by decide +kernel
set_option maxRecDepth 8000 in
theorem is_X3 : Cond.instantiable RX3 8 ∈ TB ∧ Cond.initialized RX3 ∈ TB := ⟨tb_m (bk_1 (List.mem_of_getElem? (i := 202) rfl)) rfl, tb_m (bk_1 (List.mem_of_getElem? (i := 7) rfl)) rfl⟩
theorem df_X3 : ∀ j, j < 8 → defaultValue (tyX3 j) = vp_V [.null, .null, .null, .null, .null, .null, .null, .null] j := by decide +kernel
theorem is_X4 : Cond.instantiable RX4 1 ∈ TB ∧ Cond.initialized RX4 ∈ TB := ⟨tb_m (bk_2 (List.mem_of_getElem? (i := 20) rfl)) rfl, tb_m (bk_1 (List.mem_of_getElem? (i := 9) rfl)) rfl⟩
theorem df_X4 : ∀ j, j < 1 → defaultValue (tyX4 j) = vp_V [.null] j := by decide +kernel
set_option maxRecDepth 8000 in
theorem is_X5 : Cond.instantiable RX5 5 ∈ TB ∧ Cond.initialized RX5 ∈ TB := ⟨tb_m (bk_1 (List.mem_of_getElem? (i := 235) rfl)) rfl, tb_m (bk_1 (List.mem_of_getElem? (i := 8) rfl)) rfl⟩
theorem df_X5 : ∀ j, j < 5 → defaultValue (tyX5 j) = vp_V [.int 0, .null, .null, .null, .null] j := by decide +kernel
set_option maxRecDepth 8000 in
theorem is_X6 : Cond.instantiable RX6 9 ∈ TB ∧ Cond.initialized RX6 ∈ TB := ⟨tb_m (bk_1 (List.mem_of_getElem? (i := 139) rfl)) rfl, tb_m (bk_1 (List.mem_of_getElem? (i := 5) rfl)) rfl⟩
theorem df_X6 : ∀ j, j < 9 → defaultValue (tyX6 j) = vp_V [.null, .int 0, .int 0, .int 0, .null, .int 0, .int 0, .int 0, .int 0] j := by decide +kernel
theorem is_X7 : Cond.instantiable RX7 4 ∈ TB ∧ Cond.initialized RX7 ∈ TB := ⟨tb_m (bk_2 (List.mem_of_getElem? (i := 53) rfl)) rfl, tb_m (bk_1 (List.mem_of_getElem? (i := 12) rfl)) rfl⟩
theorem df_X7 : ∀ j, j < 4 → defaultValue (tyX7 j) = vp_V [.null, .null, .null, .null] j := by decide +kernel
theorem is_X8 : Cond.instantiable RX8 1 ∈ TB ∧ Cond.initialized RX8 ∈ TB := ⟨tb_m (bk_2 (List.mem_of_getElem? (i := 30) rfl)) rfl, tb_m (bk_1 (List.mem_of_getElem? (i := 10) rfl)) rfl⟩
theorem df_X8 : ∀ j, j < 1 → defaultValue (tyX8 j) = vp_V [.null] j := by decide +kernel
theorem is_X9 : Cond.instantiable RX9 4 ∈ TB ∧ Cond.initialized RX9 ∈ TB := ⟨tb_m (bk_1 (List.mem_of_getElem? (i := 37) rfl)) rfl, tb_m (bk_1 (List.mem_of_getElem? (i := 3) rfl)) rfl⟩
theorem df_X9 : ∀ j, j < 4 → defaultValue (tyX9 j) = vp_V [.int 0, .int 0, .null, .int 0] j := by decide +kernel
theorem is_X10 : Cond.instantiable RX10 12 ∈ TB ∧ Cond.initialized RX10 ∈ TB := ⟨tb_m (bk_1 (List.mem_of_getElem? (i := 31) rfl)) rfl, tb_m (bk_1 (List.mem_of_getElem? (i := 2) rfl)) rfl⟩
theorem df_X10 : ∀ j, j < 12 → defaultValue (tyX10 j) = vp_V [.int 0, .int 0, .int 0, .int 0, .int 0, .null, .null, .null, .null, .null, .null, .null] j := by decide +kernel
set_option maxRecDepth 8000 in
theorem is_X12 : Cond.instantiable RX12 32 ∈ TB ∧ Cond.initialized RX12 ∈ TB := ⟨tb_m (bk_6 (List.mem_of_getElem? (i := 123) rfl)) rfl, tb_m (bk_1 (List.mem_of_getElem? (i := 13) rfl)) rfl⟩
theorem df_X12 : ∀ j, j < 32 → defaultValue (tyX12 j) = vp_V [.int 0, .null, .null, .null, .null, .int 0, .null, .int 0, .int 0, .int 0, .int 0, .int 0, .int 0, .int 0, .null, .null, .int 0, .null, .int 0, .int 0, .int 0, .null, .int 0, .null, .null, .null, .int 0, .int 0, .null, .null, .null, .null] j := by decide +kernel
theorem ac_int : Cond.arrayClass .int ∈ TB := tb_m (bk_1 (List.mem_of_getElem? (i := 67) rfl)) rfl
set_option maxRecDepth 8000 in
theorem ac_byte : Cond.arrayClass .byte ∈ TB := tb_m (bk_1 (List.mem_of_getElem? (i := 175) rfl)) rfl
set_option maxRecDepth 8000 in
theorem ac_long : Cond.arrayClass .long ∈ TB := tb_m (bk_1 (List.mem_of_getElem? (i := 232) rfl)) rfl
set_option maxRecDepth 8000 in
theorem ac_boolean : Cond.arrayClass .boolean ∈ TB := tb_m (bk_1 (List.mem_of_getElem? (i := 233) rfl)) rfl
theorem oi_w : Cond.instanceMethod objectInit ∈ TB ∧ Cond.code objectInit ⟨#[0xb1]⟩ 1 none ∈ TB := ⟨tb_m (bk_1 (List.mem_of_getElem? (i := 28) rfl)) rfl, tb_m (bk_1 (List.mem_of_getElem? (i := 29) rfl)) rfl⟩
def rX9_init_9_6 : Room := { frames := 1, cells := 1, slots := 54, locals := 23 }
theorem mw_X9_init : Cond.instanceMethod yX9_init ∈ TB ∧ Cond.initialized yX9_init.cls ∈ TB ∧ Cond.code yX9_init cX9_init 3 none ∈ TB := ⟨tb_m (bk_1 (List.mem_of_getElem? (i := 39) rfl)) rfl, tb_m (bk_1 (List.mem_of_getElem? (i := 3) rfl)) rfl, tb_m (bk_1 (List.mem_of_getElem? (i := 40) rfl)) rfl⟩
set_option maxHeartbeats 4000000 in
set_option maxRecDepth 40000 in
theorem c_X9_init_9_6 {l : Launch} {D : va_G} {cy : Nat → ClassId} {ad : Nat → Nat} {ws : va_W} {k a : Nat} (hk : k < ws.length) : CN l D cy ad yX9_init cX9_init 3 rX9_init_9_6 [.ref a, .int (9 : Int32), .int (6 : Int32)] (cf ws k (a, .inr (8, [.int 0, .int 0, .null, .int 0])) []) (fun qs => cf ws k (a, .inr (8, [.int (6 : Int32), .int (9 : Int32), .ref (qs 0), .int 0])) [((qs 0), .inl (cy 13, 54, .inl dfI))]) := by
  refine cn_of (by decide) rfl (Nat.le_of_ble_eq_true rfl) (fun p e s m args below meth c A hin => ?_)
  refine w_aload_n 0 dX9_init_0 rfl rfl rfl ?_
  refine l_obj ml_RX9_3 oi_w (Nat.le_of_ble_eq_true rfl) ⟨Nat.le_of_ble_eq_true rfl, Nat.le_of_ble_eq_true rfl⟩ dX9_init_1 rfl ?_
  refine w_aload_n 0 dX9_init_4 rfl rfl rfl ?_
  refine w_iconst (0 : Int32) dX9_init_5 ic_iconst_0 rfl ?_
  refine w_iload_n 1 dX9_init_6 rfl rfl rfl ?_
  refine w_mmax ml_RX9_9 (Nat.le_of_ble_eq_true rfl) ⟨Nat.le_of_ble_eq_true rfl, Nat.le_of_ble_eq_true rfl⟩ dX9_init_7 rfl ?_
  refine w_nmI (fun y ey => ?_)
  have ey : y = (9 : Int32) := ey.trans (by decide)
  subst ey
  refine l_putF (j := 1) (C := RX9) (Tt := TX9) (N := 4) (ty := .int) tyX9 hk rfl (by decide) inT_X9 fl_RX9_15 rfl tyX9_ok nmX9 rfl hin rfl (by decide +kernel) rfl rfl (Nat.le_of_ble_eq_true rfl) dX9_init_10 rfl ?_
  refine w_W (ws' := cf ws k (a, .inr (8, [.int 0, .int (9 : Int32), .null, .int 0])) []) rfl ?_
  refine w_aload_n 0 dX9_init_13 rfl rfl rfl ?_
  refine w_iconst (0 : Int32) dX9_init_14 ic_iconst_0 rfl ?_
  refine w_iload_n 2 dX9_init_15 rfl rfl rfl ?_
  refine w_mmax ml_RX9_9 (Nat.le_of_ble_eq_true rfl) ⟨Nat.le_of_ble_eq_true rfl, Nat.le_of_ble_eq_true rfl⟩ dX9_init_16 rfl ?_
  refine w_nmI (fun y ey => ?_)
  have ey : y = (6 : Int32) := ey.trans (by decide)
  subst ey
  refine l_putF (j := 0) (C := RX9) (Tt := TX9) (N := 4) (ty := .int) tyX9 hk rfl (by decide) inT_X9 fl_RX9_21 rfl tyX9_ok nmX9 rfl hin rfl (by decide +kernel) rfl rfl (Nat.le_of_ble_eq_true rfl) dX9_init_19 rfl ?_
  refine w_W (ws' := cf ws k (a, .inr (8, [.int (6 : Int32), .int (9 : Int32), .null, .int 0])) []) rfl ?_
  refine w_aload_n 0 dX9_init_22 rfl rfl rfl ?_
  refine w_aload_n 0 dX9_init_23 rfl rfl rfl ?_
  refine l_get (j := 1) (C := RX9) (Tt := TX9) (N := 4) hk rfl (by decide) rfl inT_X9 fl_RX9_15 rfl dX9_init_24 rfl ?_
  refine w_aload_n 0 dX9_init_27 rfl rfl rfl ?_
  refine l_get (j := 0) (C := RX9) (Tt := TX9) (N := 4) hk rfl (by decide) rfl inT_X9 fl_RX9_21 rfl dX9_init_28 rfl ?_
  refine w_imul dX9_init_31 rfl ?_
  refine w_nmI (fun y ey => ?_)
  have ey : y = (54 : Int32) := ey.trans (by decide)
  subst ey
  refine l_newI 54 ac_int (by decide) (by decide +kernel) (by decide) ⟨Nat.le_of_ble_eq_true rfl, Nat.le_of_ble_eq_true rfl⟩ dX9_init_32 rfl (fun q32 => ?_)
  refine w_G (Γ' := (p, l, e, rX9_init_9_6, s, m, args, below, meth, c, D, cy, ad, A, 1, 54, _)) rfl ?_
  refine l_putF (j := 2) (C := RX9) (Tt := TX9) (N := 4) (ty := (.array .int)) tyX9 hk rfl (by decide) inT_X9 fl_RX9_24 rfl tyX9_ok nmX9 rfl hin rfl (by decide +kernel) rfl rfl (Nat.le_of_ble_eq_true rfl) dX9_init_34 rfl ?_
  refine w_W (ws' := cf ws k (a, .inr (8, [.int (6 : Int32), .int (9 : Int32), .ref q32, .int 0])) [(q32, .inl (cy 13, 54, .inl dfI))]) rfl ?_
  exact l_return (fun i => [q32].getD i 0) rfl rfl dX9_init_37
theorem k_X9_init_9_6 {Γ : CX} {cc : ByteArray} {nL : Nat} {own : String} {ret : Option FieldType} {rm : Room} {ws L : va_W} {k q : Nat} {T : Nat × va_E} {pc pc' idx : Nat} {lv : List (Nat × Value)} {rest : List Value} (hl : Cond.methodLink own idx yX9_init ∈ TB) (hw : (rest.map fun v => v.category).sum ≤ 8) (hR : rX9_init_9_6.frames + 1 ≤ rm.frames ∧ 8 + (3 + 11) + rX9_init_9_6.locals ≤ rm.locals) (hR2 : xk Γ + rX9_init_9_6.cells ≤ rm.cells ∧ xn Γ + rX9_init_9_6.slots ≤ rm.slots) (hd : decode cc pc = .ok (.invokespecial idx, 3)) (hp : pc + 3 = pc') (h : ∀ qs : Nat → Nat, WL (bump Γ rX9_init_9_6.cells rX9_init_9_6.slots) cc nL own ret rm (cf ws k T (L ++ [(q, .inr (8, [.int (6 : Int32), .int (9 : Int32), .ref (qs 0), .int 0]))] ++ [((qs 0), .inl (xy Γ 13, 54, .inl dfI))])) pc' lv rest) : WL Γ cc nL own ret rm (cf ws k T (L ++ [(q, .inr (8, [.int 0, .int 0, .null, .int 0]))])) pc lv (.int (6 : Int32) :: .int (9 : Int32) :: .ref q :: rest) := by
  have hc := c_X9_init_9_6 (l := xl Γ) (D := xD Γ) (cy := xy Γ) (ad := xd Γ) (ws := cf ws k T (L ++ [(q, .inr (8, [.int 0, .int 0, .null, .int 0]))])) (k := (cf ws k T L).length) (a := q) (by simp [cf])
  rw [cf_self cf_last] at hc
  simp only [cf_last_set] at hc
  exact l_callI (nn := 2) (As := [.int (9 : Int32), .int (6 : Int32)]) (rest := rest) hc hl mw_X9_init rfl (by decide +kernel) hR hR2 rfl hw hd rfl hp h
def rX9_init_4_2 : Room := { frames := 1, cells := 1, slots := 8, locals := 23 }
set_option maxHeartbeats 4000000 in
set_option maxRecDepth 40000 in
theorem c_X9_init_4_2 {l : Launch} {D : va_G} {cy : Nat → ClassId} {ad : Nat → Nat} {ws : va_W} {k a : Nat} (hk : k < ws.length) : CN l D cy ad yX9_init cX9_init 3 rX9_init_4_2 [.ref a, .int (4 : Int32), .int (2 : Int32)] (cf ws k (a, .inr (8, [.int 0, .int 0, .null, .int 0])) []) (fun qs => cf ws k (a, .inr (8, [.int (2 : Int32), .int (4 : Int32), .ref (qs 0), .int 0])) [((qs 0), .inl (cy 13, 8, .inl dfI))]) := by
  refine cn_of (by decide) rfl (Nat.le_of_ble_eq_true rfl) (fun p e s m args below meth c A hin => ?_)
  refine w_aload_n 0 dX9_init_0 rfl rfl rfl ?_
  refine l_obj ml_RX9_3 oi_w (Nat.le_of_ble_eq_true rfl) ⟨Nat.le_of_ble_eq_true rfl, Nat.le_of_ble_eq_true rfl⟩ dX9_init_1 rfl ?_
  refine w_aload_n 0 dX9_init_4 rfl rfl rfl ?_
  refine w_iconst (0 : Int32) dX9_init_5 ic_iconst_0 rfl ?_
  refine w_iload_n 1 dX9_init_6 rfl rfl rfl ?_
  refine w_mmax ml_RX9_9 (Nat.le_of_ble_eq_true rfl) ⟨Nat.le_of_ble_eq_true rfl, Nat.le_of_ble_eq_true rfl⟩ dX9_init_7 rfl ?_
  refine w_nmI (fun y ey => ?_)
  have ey : y = (4 : Int32) := ey.trans (by decide)
  subst ey
  refine l_putF (j := 1) (C := RX9) (Tt := TX9) (N := 4) (ty := .int) tyX9 hk rfl (by decide) inT_X9 fl_RX9_15 rfl tyX9_ok nmX9 rfl hin rfl (by decide +kernel) rfl rfl (Nat.le_of_ble_eq_true rfl) dX9_init_10 rfl ?_
  refine w_W (ws' := cf ws k (a, .inr (8, [.int 0, .int (4 : Int32), .null, .int 0])) []) rfl ?_
  refine w_aload_n 0 dX9_init_13 rfl rfl rfl ?_
  refine w_iconst (0 : Int32) dX9_init_14 ic_iconst_0 rfl ?_
  refine w_iload_n 2 dX9_init_15 rfl rfl rfl ?_
  refine w_mmax ml_RX9_9 (Nat.le_of_ble_eq_true rfl) ⟨Nat.le_of_ble_eq_true rfl, Nat.le_of_ble_eq_true rfl⟩ dX9_init_16 rfl ?_
  refine w_nmI (fun y ey => ?_)
  have ey : y = (2 : Int32) := ey.trans (by decide)
  subst ey
  refine l_putF (j := 0) (C := RX9) (Tt := TX9) (N := 4) (ty := .int) tyX9 hk rfl (by decide) inT_X9 fl_RX9_21 rfl tyX9_ok nmX9 rfl hin rfl (by decide +kernel) rfl rfl (Nat.le_of_ble_eq_true rfl) dX9_init_19 rfl ?_
  refine w_W (ws' := cf ws k (a, .inr (8, [.int (2 : Int32), .int (4 : Int32), .null, .int 0])) []) rfl ?_
  refine w_aload_n 0 dX9_init_22 rfl rfl rfl ?_
  refine w_aload_n 0 dX9_init_23 rfl rfl rfl ?_
  refine l_get (j := 1) (C := RX9) (Tt := TX9) (N := 4) hk rfl (by decide) rfl inT_X9 fl_RX9_15 rfl dX9_init_24 rfl ?_
  refine w_aload_n 0 dX9_init_27 rfl rfl rfl ?_
  refine l_get (j := 0) (C := RX9) (Tt := TX9) (N := 4) hk rfl (by decide) rfl inT_X9 fl_RX9_21 rfl dX9_init_28 rfl ?_
  refine w_imul dX9_init_31 rfl ?_
  refine w_nmI (fun y ey => ?_)
  have ey : y = (8 : Int32) := ey.trans (by decide)
  subst ey
  refine l_newI 8 ac_int (by decide) (by decide +kernel) (by decide) ⟨Nat.le_of_ble_eq_true rfl, Nat.le_of_ble_eq_true rfl⟩ dX9_init_32 rfl (fun q32 => ?_)
  refine w_G (Γ' := (p, l, e, rX9_init_4_2, s, m, args, below, meth, c, D, cy, ad, A, 1, 8, _)) rfl ?_
  refine l_putF (j := 2) (C := RX9) (Tt := TX9) (N := 4) (ty := (.array .int)) tyX9 hk rfl (by decide) inT_X9 fl_RX9_24 rfl tyX9_ok nmX9 rfl hin rfl (by decide +kernel) rfl rfl (Nat.le_of_ble_eq_true rfl) dX9_init_34 rfl ?_
  refine w_W (ws' := cf ws k (a, .inr (8, [.int (2 : Int32), .int (4 : Int32), .ref q32, .int 0])) [(q32, .inl (cy 13, 8, .inl dfI))]) rfl ?_
  exact l_return (fun i => [q32].getD i 0) rfl rfl dX9_init_37
theorem k_X9_init_4_2 {Γ : CX} {cc : ByteArray} {nL : Nat} {own : String} {ret : Option FieldType} {rm : Room} {ws L : va_W} {k q : Nat} {T : Nat × va_E} {pc pc' idx : Nat} {lv : List (Nat × Value)} {rest : List Value} (hl : Cond.methodLink own idx yX9_init ∈ TB) (hw : (rest.map fun v => v.category).sum ≤ 8) (hR : rX9_init_4_2.frames + 1 ≤ rm.frames ∧ 8 + (3 + 11) + rX9_init_4_2.locals ≤ rm.locals) (hR2 : xk Γ + rX9_init_4_2.cells ≤ rm.cells ∧ xn Γ + rX9_init_4_2.slots ≤ rm.slots) (hd : decode cc pc = .ok (.invokespecial idx, 3)) (hp : pc + 3 = pc') (h : ∀ qs : Nat → Nat, WL (bump Γ rX9_init_4_2.cells rX9_init_4_2.slots) cc nL own ret rm (cf ws k T (L ++ [(q, .inr (8, [.int (2 : Int32), .int (4 : Int32), .ref (qs 0), .int 0]))] ++ [((qs 0), .inl (xy Γ 13, 8, .inl dfI))])) pc' lv rest) : WL Γ cc nL own ret rm (cf ws k T (L ++ [(q, .inr (8, [.int 0, .int 0, .null, .int 0]))])) pc lv (.int (2 : Int32) :: .int (4 : Int32) :: .ref q :: rest) := by
  have hc := c_X9_init_4_2 (l := xl Γ) (D := xD Γ) (cy := xy Γ) (ad := xd Γ) (ws := cf ws k T (L ++ [(q, .inr (8, [.int 0, .int 0, .null, .int 0]))])) (k := (cf ws k T L).length) (a := q) (by simp [cf])
  rw [cf_self cf_last] at hc
  simp only [cf_last_set] at hc
  exact l_callI (nn := 2) (As := [.int (4 : Int32), .int (2 : Int32)]) (rest := rest) hc hl mw_X9_init rfl (by decide +kernel) hR hR2 rfl hw hd rfl hp h
def rX9_init_8_4 : Room := { frames := 1, cells := 1, slots := 32, locals := 23 }
set_option maxHeartbeats 4000000 in
set_option maxRecDepth 40000 in
theorem c_X9_init_8_4 {l : Launch} {D : va_G} {cy : Nat → ClassId} {ad : Nat → Nat} {ws : va_W} {k a : Nat} (hk : k < ws.length) : CN l D cy ad yX9_init cX9_init 3 rX9_init_8_4 [.ref a, .int (8 : Int32), .int (4 : Int32)] (cf ws k (a, .inr (8, [.int 0, .int 0, .null, .int 0])) []) (fun qs => cf ws k (a, .inr (8, [.int (4 : Int32), .int (8 : Int32), .ref (qs 0), .int 0])) [((qs 0), .inl (cy 13, 32, .inl dfI))]) := by
  refine cn_of (by decide) rfl (Nat.le_of_ble_eq_true rfl) (fun p e s m args below meth c A hin => ?_)
  refine w_aload_n 0 dX9_init_0 rfl rfl rfl ?_
  refine l_obj ml_RX9_3 oi_w (Nat.le_of_ble_eq_true rfl) ⟨Nat.le_of_ble_eq_true rfl, Nat.le_of_ble_eq_true rfl⟩ dX9_init_1 rfl ?_
  refine w_aload_n 0 dX9_init_4 rfl rfl rfl ?_
  refine w_iconst (0 : Int32) dX9_init_5 ic_iconst_0 rfl ?_
  refine w_iload_n 1 dX9_init_6 rfl rfl rfl ?_
  refine w_mmax ml_RX9_9 (Nat.le_of_ble_eq_true rfl) ⟨Nat.le_of_ble_eq_true rfl, Nat.le_of_ble_eq_true rfl⟩ dX9_init_7 rfl ?_
  refine w_nmI (fun y ey => ?_)
  have ey : y = (8 : Int32) := ey.trans (by decide)
  subst ey
  refine l_putF (j := 1) (C := RX9) (Tt := TX9) (N := 4) (ty := .int) tyX9 hk rfl (by decide) inT_X9 fl_RX9_15 rfl tyX9_ok nmX9 rfl hin rfl (by decide +kernel) rfl rfl (Nat.le_of_ble_eq_true rfl) dX9_init_10 rfl ?_
  refine w_W (ws' := cf ws k (a, .inr (8, [.int 0, .int (8 : Int32), .null, .int 0])) []) rfl ?_
  refine w_aload_n 0 dX9_init_13 rfl rfl rfl ?_
  refine w_iconst (0 : Int32) dX9_init_14 ic_iconst_0 rfl ?_
  refine w_iload_n 2 dX9_init_15 rfl rfl rfl ?_
  refine w_mmax ml_RX9_9 (Nat.le_of_ble_eq_true rfl) ⟨Nat.le_of_ble_eq_true rfl, Nat.le_of_ble_eq_true rfl⟩ dX9_init_16 rfl ?_
  refine w_nmI (fun y ey => ?_)
  have ey : y = (4 : Int32) := ey.trans (by decide)
  subst ey
  refine l_putF (j := 0) (C := RX9) (Tt := TX9) (N := 4) (ty := .int) tyX9 hk rfl (by decide) inT_X9 fl_RX9_21 rfl tyX9_ok nmX9 rfl hin rfl (by decide +kernel) rfl rfl (Nat.le_of_ble_eq_true rfl) dX9_init_19 rfl ?_
  refine w_W (ws' := cf ws k (a, .inr (8, [.int (4 : Int32), .int (8 : Int32), .null, .int 0])) []) rfl ?_
  refine w_aload_n 0 dX9_init_22 rfl rfl rfl ?_
  refine w_aload_n 0 dX9_init_23 rfl rfl rfl ?_
  refine l_get (j := 1) (C := RX9) (Tt := TX9) (N := 4) hk rfl (by decide) rfl inT_X9 fl_RX9_15 rfl dX9_init_24 rfl ?_
  refine w_aload_n 0 dX9_init_27 rfl rfl rfl ?_
  refine l_get (j := 0) (C := RX9) (Tt := TX9) (N := 4) hk rfl (by decide) rfl inT_X9 fl_RX9_21 rfl dX9_init_28 rfl ?_
  refine w_imul dX9_init_31 rfl ?_
  refine w_nmI (fun y ey => ?_)
  have ey : y = (32 : Int32) := ey.trans (by decide)
  subst ey
  refine l_newI 32 ac_int (by decide) (by decide +kernel) (by decide) ⟨Nat.le_of_ble_eq_true rfl, Nat.le_of_ble_eq_true rfl⟩ dX9_init_32 rfl (fun q32 => ?_)
  refine w_G (Γ' := (p, l, e, rX9_init_8_4, s, m, args, below, meth, c, D, cy, ad, A, 1, 32, _)) rfl ?_
  refine l_putF (j := 2) (C := RX9) (Tt := TX9) (N := 4) (ty := (.array .int)) tyX9 hk rfl (by decide) inT_X9 fl_RX9_24 rfl tyX9_ok nmX9 rfl hin rfl (by decide +kernel) rfl rfl (Nat.le_of_ble_eq_true rfl) dX9_init_34 rfl ?_
  refine w_W (ws' := cf ws k (a, .inr (8, [.int (4 : Int32), .int (8 : Int32), .ref q32, .int 0])) [(q32, .inl (cy 13, 32, .inl dfI))]) rfl ?_
  exact l_return (fun i => [q32].getD i 0) rfl rfl dX9_init_37
theorem k_X9_init_8_4 {Γ : CX} {cc : ByteArray} {nL : Nat} {own : String} {ret : Option FieldType} {rm : Room} {ws L : va_W} {k q : Nat} {T : Nat × va_E} {pc pc' idx : Nat} {lv : List (Nat × Value)} {rest : List Value} (hl : Cond.methodLink own idx yX9_init ∈ TB) (hw : (rest.map fun v => v.category).sum ≤ 8) (hR : rX9_init_8_4.frames + 1 ≤ rm.frames ∧ 8 + (3 + 11) + rX9_init_8_4.locals ≤ rm.locals) (hR2 : xk Γ + rX9_init_8_4.cells ≤ rm.cells ∧ xn Γ + rX9_init_8_4.slots ≤ rm.slots) (hd : decode cc pc = .ok (.invokespecial idx, 3)) (hp : pc + 3 = pc') (h : ∀ qs : Nat → Nat, WL (bump Γ rX9_init_8_4.cells rX9_init_8_4.slots) cc nL own ret rm (cf ws k T (L ++ [(q, .inr (8, [.int (4 : Int32), .int (8 : Int32), .ref (qs 0), .int 0]))] ++ [((qs 0), .inl (xy Γ 13, 32, .inl dfI))])) pc' lv rest) : WL Γ cc nL own ret rm (cf ws k T (L ++ [(q, .inr (8, [.int 0, .int 0, .null, .int 0]))])) pc lv (.int (4 : Int32) :: .int (8 : Int32) :: .ref q :: rest) := by
  have hc := c_X9_init_8_4 (l := xl Γ) (D := xD Γ) (cy := xy Γ) (ad := xd Γ) (ws := cf ws k T (L ++ [(q, .inr (8, [.int 0, .int 0, .null, .int 0]))])) (k := (cf ws k T L).length) (a := q) (by simp [cf])
  rw [cf_self cf_last] at hc
  simp only [cf_last_set] at hc
  exact l_callI (nn := 2) (As := [.int (8 : Int32), .int (4 : Int32)]) (rest := rest) hc hl mw_X9_init rfl (by decide +kernel) hR hR2 rfl hw hd rfl hp h
def rX9_init_5_1 : Room := { frames := 1, cells := 1, slots := 5, locals := 23 }
set_option maxHeartbeats 4000000 in
set_option maxRecDepth 40000 in
theorem c_X9_init_5_1 {l : Launch} {D : va_G} {cy : Nat → ClassId} {ad : Nat → Nat} {ws : va_W} {k a : Nat} (hk : k < ws.length) : CN l D cy ad yX9_init cX9_init 3 rX9_init_5_1 [.ref a, .int (5 : Int32), .int (1 : Int32)] (cf ws k (a, .inr (8, [.int 0, .int 0, .null, .int 0])) []) (fun qs => cf ws k (a, .inr (8, [.int (1 : Int32), .int (5 : Int32), .ref (qs 0), .int 0])) [((qs 0), .inl (cy 13, 5, .inl dfI))]) := by
  refine cn_of (by decide) rfl (Nat.le_of_ble_eq_true rfl) (fun p e s m args below meth c A hin => ?_)
  refine w_aload_n 0 dX9_init_0 rfl rfl rfl ?_
  refine l_obj ml_RX9_3 oi_w (Nat.le_of_ble_eq_true rfl) ⟨Nat.le_of_ble_eq_true rfl, Nat.le_of_ble_eq_true rfl⟩ dX9_init_1 rfl ?_
  refine w_aload_n 0 dX9_init_4 rfl rfl rfl ?_
  refine w_iconst (0 : Int32) dX9_init_5 ic_iconst_0 rfl ?_
  refine w_iload_n 1 dX9_init_6 rfl rfl rfl ?_
  refine w_mmax ml_RX9_9 (Nat.le_of_ble_eq_true rfl) ⟨Nat.le_of_ble_eq_true rfl, Nat.le_of_ble_eq_true rfl⟩ dX9_init_7 rfl ?_
  refine w_nmI (fun y ey => ?_)
  have ey : y = (5 : Int32) := ey.trans (by decide)
  subst ey
  refine l_putF (j := 1) (C := RX9) (Tt := TX9) (N := 4) (ty := .int) tyX9 hk rfl (by decide) inT_X9 fl_RX9_15 rfl tyX9_ok nmX9 rfl hin rfl (by decide +kernel) rfl rfl (Nat.le_of_ble_eq_true rfl) dX9_init_10 rfl ?_
  refine w_W (ws' := cf ws k (a, .inr (8, [.int 0, .int (5 : Int32), .null, .int 0])) []) rfl ?_
  refine w_aload_n 0 dX9_init_13 rfl rfl rfl ?_
  refine w_iconst (0 : Int32) dX9_init_14 ic_iconst_0 rfl ?_
  refine w_iload_n 2 dX9_init_15 rfl rfl rfl ?_
  refine w_mmax ml_RX9_9 (Nat.le_of_ble_eq_true rfl) ⟨Nat.le_of_ble_eq_true rfl, Nat.le_of_ble_eq_true rfl⟩ dX9_init_16 rfl ?_
  refine w_nmI (fun y ey => ?_)
  have ey : y = (1 : Int32) := ey.trans (by decide)
  subst ey
  refine l_putF (j := 0) (C := RX9) (Tt := TX9) (N := 4) (ty := .int) tyX9 hk rfl (by decide) inT_X9 fl_RX9_21 rfl tyX9_ok nmX9 rfl hin rfl (by decide +kernel) rfl rfl (Nat.le_of_ble_eq_true rfl) dX9_init_19 rfl ?_
  refine w_W (ws' := cf ws k (a, .inr (8, [.int (1 : Int32), .int (5 : Int32), .null, .int 0])) []) rfl ?_
  refine w_aload_n 0 dX9_init_22 rfl rfl rfl ?_
  refine w_aload_n 0 dX9_init_23 rfl rfl rfl ?_
  refine l_get (j := 1) (C := RX9) (Tt := TX9) (N := 4) hk rfl (by decide) rfl inT_X9 fl_RX9_15 rfl dX9_init_24 rfl ?_
  refine w_aload_n 0 dX9_init_27 rfl rfl rfl ?_
  refine l_get (j := 0) (C := RX9) (Tt := TX9) (N := 4) hk rfl (by decide) rfl inT_X9 fl_RX9_21 rfl dX9_init_28 rfl ?_
  refine w_imul dX9_init_31 rfl ?_
  refine w_nmI (fun y ey => ?_)
  have ey : y = (5 : Int32) := ey.trans (by decide)
  subst ey
  refine l_newI 5 ac_int (by decide) (by decide +kernel) (by decide) ⟨Nat.le_of_ble_eq_true rfl, Nat.le_of_ble_eq_true rfl⟩ dX9_init_32 rfl (fun q32 => ?_)
  refine w_G (Γ' := (p, l, e, rX9_init_5_1, s, m, args, below, meth, c, D, cy, ad, A, 1, 5, _)) rfl ?_
  refine l_putF (j := 2) (C := RX9) (Tt := TX9) (N := 4) (ty := (.array .int)) tyX9 hk rfl (by decide) inT_X9 fl_RX9_24 rfl tyX9_ok nmX9 rfl hin rfl (by decide +kernel) rfl rfl (Nat.le_of_ble_eq_true rfl) dX9_init_34 rfl ?_
  refine w_W (ws' := cf ws k (a, .inr (8, [.int (1 : Int32), .int (5 : Int32), .ref q32, .int 0])) [(q32, .inl (cy 13, 5, .inl dfI))]) rfl ?_
  exact l_return (fun i => [q32].getD i 0) rfl rfl dX9_init_37
theorem k_X9_init_5_1 {Γ : CX} {cc : ByteArray} {nL : Nat} {own : String} {ret : Option FieldType} {rm : Room} {ws L : va_W} {k q : Nat} {T : Nat × va_E} {pc pc' idx : Nat} {lv : List (Nat × Value)} {rest : List Value} (hl : Cond.methodLink own idx yX9_init ∈ TB) (hw : (rest.map fun v => v.category).sum ≤ 8) (hR : rX9_init_5_1.frames + 1 ≤ rm.frames ∧ 8 + (3 + 11) + rX9_init_5_1.locals ≤ rm.locals) (hR2 : xk Γ + rX9_init_5_1.cells ≤ rm.cells ∧ xn Γ + rX9_init_5_1.slots ≤ rm.slots) (hd : decode cc pc = .ok (.invokespecial idx, 3)) (hp : pc + 3 = pc') (h : ∀ qs : Nat → Nat, WL (bump Γ rX9_init_5_1.cells rX9_init_5_1.slots) cc nL own ret rm (cf ws k T (L ++ [(q, .inr (8, [.int (1 : Int32), .int (5 : Int32), .ref (qs 0), .int 0]))] ++ [((qs 0), .inl (xy Γ 13, 5, .inl dfI))])) pc' lv rest) : WL Γ cc nL own ret rm (cf ws k T (L ++ [(q, .inr (8, [.int 0, .int 0, .null, .int 0]))])) pc lv (.int (1 : Int32) :: .int (5 : Int32) :: .ref q :: rest) := by
  have hc := c_X9_init_5_1 (l := xl Γ) (D := xD Γ) (cy := xy Γ) (ad := xd Γ) (ws := cf ws k T (L ++ [(q, .inr (8, [.int 0, .int 0, .null, .int 0]))])) (k := (cf ws k T L).length) (a := q) (by simp [cf])
  rw [cf_self cf_last] at hc
  simp only [cf_last_set] at hc
  exact l_callI (nn := 2) (As := [.int (5 : Int32), .int (1 : Int32)]) (rest := rest) hc hl mw_X9_init rfl (by decide +kernel) hR hR2 rfl hw hd rfl hp h
def rX9_init_60_3 : Room := { frames := 1, cells := 1, slots := 180, locals := 23 }
set_option maxHeartbeats 4000000 in
set_option maxRecDepth 40000 in
theorem c_X9_init_60_3 {l : Launch} {D : va_G} {cy : Nat → ClassId} {ad : Nat → Nat} {ws : va_W} {k a : Nat} (hk : k < ws.length) : CN l D cy ad yX9_init cX9_init 3 rX9_init_60_3 [.ref a, .int (60 : Int32), .int (3 : Int32)] (cf ws k (a, .inr (8, [.int 0, .int 0, .null, .int 0])) []) (fun qs => cf ws k (a, .inr (8, [.int (3 : Int32), .int (60 : Int32), .ref (qs 0), .int 0])) [((qs 0), .inl (cy 13, 180, .inl dfI))]) := by
  refine cn_of (by decide) rfl (Nat.le_of_ble_eq_true rfl) (fun p e s m args below meth c A hin => ?_)
  refine w_aload_n 0 dX9_init_0 rfl rfl rfl ?_
  refine l_obj ml_RX9_3 oi_w (Nat.le_of_ble_eq_true rfl) ⟨Nat.le_of_ble_eq_true rfl, Nat.le_of_ble_eq_true rfl⟩ dX9_init_1 rfl ?_
  refine w_aload_n 0 dX9_init_4 rfl rfl rfl ?_
  refine w_iconst (0 : Int32) dX9_init_5 ic_iconst_0 rfl ?_
  refine w_iload_n 1 dX9_init_6 rfl rfl rfl ?_
  refine w_mmax ml_RX9_9 (Nat.le_of_ble_eq_true rfl) ⟨Nat.le_of_ble_eq_true rfl, Nat.le_of_ble_eq_true rfl⟩ dX9_init_7 rfl ?_
  refine w_nmI (fun y ey => ?_)
  have ey : y = (60 : Int32) := ey.trans (by decide)
  subst ey
  refine l_putF (j := 1) (C := RX9) (Tt := TX9) (N := 4) (ty := .int) tyX9 hk rfl (by decide) inT_X9 fl_RX9_15 rfl tyX9_ok nmX9 rfl hin rfl (by decide +kernel) rfl rfl (Nat.le_of_ble_eq_true rfl) dX9_init_10 rfl ?_
  refine w_W (ws' := cf ws k (a, .inr (8, [.int 0, .int (60 : Int32), .null, .int 0])) []) rfl ?_
  refine w_aload_n 0 dX9_init_13 rfl rfl rfl ?_
  refine w_iconst (0 : Int32) dX9_init_14 ic_iconst_0 rfl ?_
  refine w_iload_n 2 dX9_init_15 rfl rfl rfl ?_
  refine w_mmax ml_RX9_9 (Nat.le_of_ble_eq_true rfl) ⟨Nat.le_of_ble_eq_true rfl, Nat.le_of_ble_eq_true rfl⟩ dX9_init_16 rfl ?_
  refine w_nmI (fun y ey => ?_)
  have ey : y = (3 : Int32) := ey.trans (by decide)
  subst ey
  refine l_putF (j := 0) (C := RX9) (Tt := TX9) (N := 4) (ty := .int) tyX9 hk rfl (by decide) inT_X9 fl_RX9_21 rfl tyX9_ok nmX9 rfl hin rfl (by decide +kernel) rfl rfl (Nat.le_of_ble_eq_true rfl) dX9_init_19 rfl ?_
  refine w_W (ws' := cf ws k (a, .inr (8, [.int (3 : Int32), .int (60 : Int32), .null, .int 0])) []) rfl ?_
  refine w_aload_n 0 dX9_init_22 rfl rfl rfl ?_
  refine w_aload_n 0 dX9_init_23 rfl rfl rfl ?_
  refine l_get (j := 1) (C := RX9) (Tt := TX9) (N := 4) hk rfl (by decide) rfl inT_X9 fl_RX9_15 rfl dX9_init_24 rfl ?_
  refine w_aload_n 0 dX9_init_27 rfl rfl rfl ?_
  refine l_get (j := 0) (C := RX9) (Tt := TX9) (N := 4) hk rfl (by decide) rfl inT_X9 fl_RX9_21 rfl dX9_init_28 rfl ?_
  refine w_imul dX9_init_31 rfl ?_
  refine w_nmI (fun y ey => ?_)
  have ey : y = (180 : Int32) := ey.trans (by decide)
  subst ey
  refine l_newI 180 ac_int (by decide) (by decide +kernel) (by decide) ⟨Nat.le_of_ble_eq_true rfl, Nat.le_of_ble_eq_true rfl⟩ dX9_init_32 rfl (fun q32 => ?_)
  refine w_G (Γ' := (p, l, e, rX9_init_60_3, s, m, args, below, meth, c, D, cy, ad, A, 1, 180, _)) rfl ?_
  refine l_putF (j := 2) (C := RX9) (Tt := TX9) (N := 4) (ty := (.array .int)) tyX9 hk rfl (by decide) inT_X9 fl_RX9_24 rfl tyX9_ok nmX9 rfl hin rfl (by decide +kernel) rfl rfl (Nat.le_of_ble_eq_true rfl) dX9_init_34 rfl ?_
  refine w_W (ws' := cf ws k (a, .inr (8, [.int (3 : Int32), .int (60 : Int32), .ref q32, .int 0])) [(q32, .inl (cy 13, 180, .inl dfI))]) rfl ?_
  exact l_return (fun i => [q32].getD i 0) rfl rfl dX9_init_37
theorem k_X9_init_60_3 {Γ : CX} {cc : ByteArray} {nL : Nat} {own : String} {ret : Option FieldType} {rm : Room} {ws L : va_W} {k q : Nat} {T : Nat × va_E} {pc pc' idx : Nat} {lv : List (Nat × Value)} {rest : List Value} (hl : Cond.methodLink own idx yX9_init ∈ TB) (hw : (rest.map fun v => v.category).sum ≤ 8) (hR : rX9_init_60_3.frames + 1 ≤ rm.frames ∧ 8 + (3 + 11) + rX9_init_60_3.locals ≤ rm.locals) (hR2 : xk Γ + rX9_init_60_3.cells ≤ rm.cells ∧ xn Γ + rX9_init_60_3.slots ≤ rm.slots) (hd : decode cc pc = .ok (.invokespecial idx, 3)) (hp : pc + 3 = pc') (h : ∀ qs : Nat → Nat, WL (bump Γ rX9_init_60_3.cells rX9_init_60_3.slots) cc nL own ret rm (cf ws k T (L ++ [(q, .inr (8, [.int (3 : Int32), .int (60 : Int32), .ref (qs 0), .int 0]))] ++ [((qs 0), .inl (xy Γ 13, 180, .inl dfI))])) pc' lv rest) : WL Γ cc nL own ret rm (cf ws k T (L ++ [(q, .inr (8, [.int 0, .int 0, .null, .int 0]))])) pc lv (.int (3 : Int32) :: .int (60 : Int32) :: .ref q :: rest) := by
  have hc := c_X9_init_60_3 (l := xl Γ) (D := xD Γ) (cy := xy Γ) (ad := xd Γ) (ws := cf ws k T (L ++ [(q, .inr (8, [.int 0, .int 0, .null, .int 0]))])) (k := (cf ws k T L).length) (a := q) (by simp [cf])
  rw [cf_self cf_last] at hc
  simp only [cf_last_set] at hc
  exact l_callI (nn := 2) (As := [.int (60 : Int32), .int (3 : Int32)]) (rest := rest) hc hl mw_X9_init rfl (by decide +kernel) hR hR2 rfl hw hd rfl hp h
