/-! ===== constants, words, fields of the methods below ===== -/
theorem bk_1 {w : Cond} (h : w ∈ tables_1_1) : w ∈ lw_tbl := List.mem_append_right _ (show w ∈ tables_1 from List.mem_append_left _ h)
theorem bk_2 {w : Cond} (h : w ∈ tables_1_2) : w ∈ lw_tbl := List.mem_append_right _ (show w ∈ tables_1 from List.mem_append_right _ (List.mem_append_left _ h))
theorem bk_3 {w : Cond} (h : w ∈ tables_1_3) : w ∈ lw_tbl := List.mem_append_right _ (show w ∈ tables_1 from List.mem_append_right _ (List.mem_append_right _ (List.mem_append_left _ h)))
theorem bk_4 {w : Cond} (h : w ∈ tables_1_4) : w ∈ lw_tbl := List.mem_append_right _ (show w ∈ tables_1 from List.mem_append_right _ (List.mem_append_right _ (List.mem_append_right _ (List.mem_append_left _ h))))
theorem bk_5 {w : Cond} (h : w ∈ tables_1_5) : w ∈ lw_tbl := List.mem_append_right _ (show w ∈ tables_1 from List.mem_append_right _ (List.mem_append_right _ (List.mem_append_right _ (List.mem_append_right _ (List.mem_append_left _ h)))))
theorem bk_6 {w : Cond} (h : w ∈ tables_1_6) : w ∈ lw_tbl := List.mem_append_right _ (show w ∈ tables_1 from List.mem_append_right _ (List.mem_append_right _ (List.mem_append_right _ (List.mem_append_right _ (List.mem_append_right _ (List.mem_append_left _ h))))))
theorem bk_7 {w : Cond} (h : w ∈ tables_1_7) : w ∈ lw_tbl := List.mem_append_right _ (show w ∈ tables_1 from List.mem_append_right _ (List.mem_append_right _ (List.mem_append_right _ (List.mem_append_right _ (List.mem_append_right _ (List.mem_append_right _ (List.mem_append_left _ h)))))))
theorem bk_8 {w : Cond} (h : w ∈ tables_1_8) : w ∈ lw_tbl := List.mem_append_right _ (show w ∈ tables_1 from List.mem_append_right _ (List.mem_append_right _ (List.mem_append_right _ (List.mem_append_right _ (List.mem_append_right _ (List.mem_append_right _ (List.mem_append_right _ (List.mem_append_left _ h))))))))
theorem bk_9 {w : Cond} (h : w ∈ tables_1_9) : w ∈ lw_tbl := List.mem_append_right _ (show w ∈ tables_1 from List.mem_append_right _ (List.mem_append_right _ (List.mem_append_right _ (List.mem_append_right _ (List.mem_append_right _ (List.mem_append_right _ (List.mem_append_right _ (List.mem_append_right _ (h)))))))))
theorem mm_copy : Cond.native arraycopyName ∈ TB ∧ Cond.static arraycopyName ∈ TB ∧ Cond.initialized "java/lang/System" ∈ TB := ⟨tb_m (bk_3 (List.mem_of_getElem? (i := 71) rfl)) rfl, tb_m (bk_3 (List.mem_of_getElem? (i := 70) rfl)) rfl, tb_m (bk_1 (List.mem_of_getElem? (i := 18) rfl)) rfl⟩
theorem w_copyI {Γ : CX} {cc : ByteArray} {nL : Nat} {own : String} {ret : Option FieldType} {rm : Room} {σ : St} {pc pc' idx i j : Nat} {lv : List (Nat × Value)} {rest : List Value} {sp dp n : Int32} (hi : i < nA σ) (hj : j < nA σ) (hki : kd i = 13) (hkj : kd j = 13) (hl : Cond.methodLink own idx arraycopyName ∈ TB) (hc : cpok sp dp n (ln i) (ln j) = true) (hw : (rest.map fun v => v.category).sum ≤ 8) (hR : 1 ≤ rm.frames ∧ 60 ≤ rm.locals) (hd : decode cc pc = .ok (.invokestatic idx, 3)) (hp : pc + 3 = pc') (h : WW Γ cc nL own ret rm (sR σ j (va_cpy (gr σ i) (gr σ j) sp.toNatClampNeg dp.toNatClampNeg n.toNatClampNeg)) pc' lv rest) : WW Γ cc nL own ret rm σ pc lv (.int n :: .int dp :: .ref (xd Γ j) :: .int sp :: .ref (xd Γ i) :: rest) := by
  subst hp
  intro X H locs ls hP hD hS hls
  have X0 := X
  obtain ⟨hx, hb, hml, hown, hts, hK, -, -, hkc, hks, -, hRm, -⟩ := X
  rw [← hRm] at hR
  obtain ⟨c1, c2, c3, c4, c5⟩ := cpok_of hc
  have hn : nativeFrameWords "java/lang/System" "arraycopy" 5 + 11 ≤ 52 := by decide +kernel
  refine va_copyi hx hb (hml.trans hls.1.symm) hown (hts _ hl) (hts _ mm_copy.1) (hts _ mm_copy.2.1) (hts _ mm_copy.2.2) hK hP hD hS i j 1 1 (c0 := xy Γ 13) (c1 := xy Γ 13) (n0 := ln i) (n1 := ln j) (f := gr σ i) (g := gr σ j) (by rw [wd_at hi]; simp [cel, hki]) (by rw [wd_at hj]; simp [cel, hkj]) rfl rfl rfl c1 c2 c3 c4 c5 (fun _ _ => rfl) hR.1 (by omega) hd (fun H1 locs1 hP1 hD1 hS1 => ?_)
  have e : (Wd (xy Γ) (xd Γ) σ).set j (xd Γ j, cel (xy Γ) (xd Γ) (sR σ j (va_cpy (gr σ i) (gr σ j) sp.toNatClampNeg dp.toNatClampNeg n.toNatClampNeg)) j) = Wd (xy Γ) (xd Γ) (sR σ j (va_cpy (gr σ i) (gr σ j) sp.toNatClampNeg dp.toNatClampNeg n.toNatClampNeg)) := wd_set rfl rfl (fun _ hq => cel_sR hq)
  rw [show cel (xy Γ) (xd Γ) (sR σ j (va_cpy (gr σ i) (gr σ j) sp.toNatClampNeg dp.toNatClampNeg n.toNatClampNeg)) j = .inl (xy Γ 13, ln j, .inl (va_cpy (gr σ i) (gr σ j) sp.toNatClampNeg dp.toNatClampNeg n.toNatClampNeg)) from by simp [cel, hkj, gr_sR]] at e
  rw [e] at hP1 hD1
  exact h X0 H1 locs1 ls hP1 hD1 hS1 hls
theorem w_copyJ {Γ : CX} {cc : ByteArray} {nL : Nat} {own : String} {ret : Option FieldType} {rm : Room} {σ : St} {pc pc' idx i j : Nat} {lv : List (Nat × Value)} {rest : List Value} {sp dp n : Int32} (hi : i < nA σ) (hj : j < nA σ) (hki : kd i = 14) (hkj : kd j = 14) (hl : Cond.methodLink own idx arraycopyName ∈ TB) (hc : cpok sp dp n (ln i) (ln j) = true) (hw : (rest.map fun v => v.category).sum ≤ 8) (hR : 1 ≤ rm.frames ∧ 60 ≤ rm.locals) (hd : decode cc pc = .ok (.invokestatic idx, 3)) (hp : pc + 3 = pc') (h : WW Γ cc nL own ret rm (sJ σ j (va_cpy (gj σ i) (gj σ j) sp.toNatClampNeg dp.toNatClampNeg n.toNatClampNeg)) pc' lv rest) : WW Γ cc nL own ret rm σ pc lv (.int n :: .int dp :: .ref (xd Γ j) :: .int sp :: .ref (xd Γ i) :: rest) := by
  subst hp
  intro X H locs ls hP hD hS hls
  have X0 := X
  obtain ⟨hx, hb, hml, hown, hts, hK, -, -, hkc, hks, -, hRm, -⟩ := X
  rw [← hRm] at hR
  obtain ⟨c1, c2, c3, c4, c5⟩ := cpok_of hc
  have hn : nativeFrameWords "java/lang/System" "arraycopy" 5 + 11 ≤ 52 := by decide +kernel
  refine va_copyl hx hb (hml.trans hls.1.symm) hown (hts _ hl) (hts _ mm_copy.1) (hts _ mm_copy.2.1) (hts _ mm_copy.2.2) hK hP hD hS i j 2 2 (c0 := xy Γ 14) (c1 := xy Γ 14) (n0 := ln i) (n1 := ln j) (f := gj σ i) (g := gj σ j) (by rw [wd_at hi]; simp [cel, hki]) (by rw [wd_at hj]; simp [cel, hkj]) rfl rfl rfl c1 c2 c3 c4 c5 (fun _ _ => rfl) hR.1 (by omega) hd (fun H1 locs1 hP1 hD1 hS1 => ?_)
  have e : (Wd (xy Γ) (xd Γ) σ).set j (xd Γ j, cel (xy Γ) (xd Γ) (sJ σ j (va_cpy (gj σ i) (gj σ j) sp.toNatClampNeg dp.toNatClampNeg n.toNatClampNeg)) j) = Wd (xy Γ) (xd Γ) (sJ σ j (va_cpy (gj σ i) (gj σ j) sp.toNatClampNeg dp.toNatClampNeg n.toNatClampNeg)) := wd_set rfl rfl (fun _ hq => cel_sJ hq)
  rw [show cel (xy Γ) (xd Γ) (sJ σ j (va_cpy (gj σ i) (gj σ j) sp.toNatClampNeg dp.toNatClampNeg n.toNatClampNeg)) j = .inl (xy Γ 14, ln j, .inr (.inl (va_cpy (gj σ i) (gj σ j) sp.toNatClampNeg dp.toNatClampNeg n.toNatClampNeg))) from by simp [cel, hkj, gj_sJ]] at e
  rw [e] at hP1 hD1
  exact h X0 H1 locs1 ls hP1 hD1 hS1 hls
theorem mm_mmax : Cond.static Lib.Math.max.name ∈ TB ∧ Cond.initialized "java/lang/Math" ∈ TB ∧ Cond.code Lib.Math.max.name Lib.Math.max.code 2 (some .int) ∈ TB := ⟨tb_m (bk_1 (List.mem_of_getElem? (i := 43) rfl)) rfl, tb_m (bk_1 (List.mem_of_getElem? (i := 4) rfl)) rfl, tb_m (bk_1 (List.mem_of_getElem? (i := 44) rfl)) rfl⟩
theorem w_mmax {Γ : CX} {cc : ByteArray} {nL : Nat} {own : String} {ret : Option FieldType} {rm : Room} {ws : va_W} {pc pc' idx : Nat} {lv : List (Nat × Value)} {rest : List Value} {x y : Int32} (hl : Cond.methodLink own idx Lib.Math.max.name ∈ TB) (hw : (rest.map fun v => v.category).sum ≤ 8) (hR : 1 ≤ rm.frames ∧ 23 ≤ rm.locals) (hd : decode cc pc = .ok (.invokestatic idx, 3)) (hp : pc + 3 = pc') (h : WL Γ cc nL own ret rm ws pc' lv (.int (if x < y then y else x) :: rest)) : WL Γ cc nL own ret rm ws pc lv (.int y :: .int x :: rest) := by
  subst hp
  intro X H locs ls hP hD hS hls
  have X0 := X
  obtain ⟨hx, hb, hml, hown, hts, hK, -, -, hkc, hks, -, hRm, -⟩ := X
  rw [← hRm] at hR
  exact va_mmax hx hb (hml.trans hls.1.symm) hown (hts _ hl) (hts _ mm_mmax.1) (hts _ mm_mmax.2.1) (hts _ mm_mmax.2.2) hR.1 (by omega) hkc hks hd (h X0 H locs ls hP hD hS hls)
set_option maxRecDepth 8000 in
theorem mm_mmin : Cond.static Lib.Math.min.name ∈ TB ∧ Cond.initialized "java/lang/Math" ∈ TB ∧ Cond.code Lib.Math.min.name Lib.Math.min.code 2 (some .int) ∈ TB := ⟨tb_m (bk_2 (List.mem_of_getElem? (i := 147) rfl)) rfl, tb_m (bk_1 (List.mem_of_getElem? (i := 4) rfl)) rfl, tb_m (bk_2 (List.mem_of_getElem? (i := 148) rfl)) rfl⟩
theorem w_mmin {Γ : CX} {cc : ByteArray} {nL : Nat} {own : String} {ret : Option FieldType} {rm : Room} {ws : va_W} {pc pc' idx : Nat} {lv : List (Nat × Value)} {rest : List Value} {x y : Int32} (hl : Cond.methodLink own idx Lib.Math.min.name ∈ TB) (hw : (rest.map fun v => v.category).sum ≤ 8) (hR : 1 ≤ rm.frames ∧ 23 ≤ rm.locals) (hd : decode cc pc = .ok (.invokestatic idx, 3)) (hp : pc + 3 = pc') (h : WL Γ cc nL own ret rm ws pc' lv (.int (if y < x then y else x) :: rest)) : WL Γ cc nL own ret rm ws pc lv (.int y :: .int x :: rest) := by
  subst hp
  intro X H locs ls hP hD hS hls
  have X0 := X
  obtain ⟨hx, hb, hml, hown, hts, hK, -, -, hkc, hks, -, hRm, -⟩ := X
  rw [← hRm] at hR
  exact va_mmin hx hb (hml.trans hls.1.symm) hown (hts _ hl) (hts _ mm_mmin.1) (hts _ mm_mmin.2.1) (hts _ mm_mmin.2.2) hR.1 (by omega) hkc hks hd (h X0 H locs ls hP hD hS hls)
set_option maxRecDepth 8000 in
theorem mm_mabs : Cond.static Lib.Math.abs.name ∈ TB ∧ Cond.initialized "java/lang/Math" ∈ TB ∧ Cond.code Lib.Math.abs.name Lib.Math.abs.code 1 (some .int) ∈ TB := ⟨tb_m (bk_5 (List.mem_of_getElem? (i := 126) rfl)) rfl, tb_m (bk_1 (List.mem_of_getElem? (i := 4) rfl)) rfl, tb_m (bk_5 (List.mem_of_getElem? (i := 127) rfl)) rfl⟩
theorem w_mabs {Γ : CX} {cc : ByteArray} {nL : Nat} {own : String} {ret : Option FieldType} {rm : Room} {ws : va_W} {pc pc' idx : Nat} {lv : List (Nat × Value)} {rest : List Value} {x : Int32} (hl : Cond.methodLink own idx Lib.Math.abs.name ∈ TB) (hw : (rest.map fun v => v.category).sum ≤ 8) (hR : 1 ≤ rm.frames ∧ 23 ≤ rm.locals) (hd : decode cc pc = .ok (.invokestatic idx, 3)) (hp : pc + 3 = pc') (h : WL Γ cc nL own ret rm ws pc' lv (.int (if 0 ≤ x then x else 0 - x) :: rest)) : WL Γ cc nL own ret rm ws pc lv (.int x :: rest) := by
  subst hp
  intro X H locs ls hP hD hS hls
  have X0 := X
  obtain ⟨hx, hb, hml, hown, hts, hK, -, -, hkc, hks, -, hRm, -⟩ := X
  rw [← hRm] at hR
  exact va_mabs hx hb (hml.trans hls.1.symm) hown (hts _ hl) (hts _ mm_mabs.1) (hts _ mm_mabs.2.1) (hts _ mm_mabs.2.2) hR.1 (by omega) hkc hks hd (h X0 H locs ls hP hD hS hls)
theorem mm_mmaxL : Cond.static Lib.MathLoose.max_long.x ∈ TB ∧ Cond.initialized "java/lang/Math" ∈ TB ∧ Cond.code Lib.MathLoose.max_long.x Lib.MathLoose.max_long.code 4 (some .long) ∈ TB := ⟨tb_m (bk_4 (List.mem_of_getElem? (i := 103) rfl)) rfl, tb_m (bk_1 (List.mem_of_getElem? (i := 4) rfl)) rfl, tb_m (bk_4 (List.mem_of_getElem? (i := 104) rfl)) rfl⟩
theorem w_mmaxL {Γ : CX} {cc : ByteArray} {nL : Nat} {own : String} {ret : Option FieldType} {rm : Room} {ws : va_W} {pc pc' idx : Nat} {lv : List (Nat × Value)} {rest : List Value} {x y : Int64} (hl : Cond.methodLink own idx Lib.MathLoose.max_long.x ∈ TB) (hw : (rest.map fun v => v.category).sum ≤ 8) (hR : 1 ≤ rm.frames ∧ 23 ≤ rm.locals) (hd : decode cc pc = .ok (.invokestatic idx, 3)) (hp : pc + 3 = pc') (h : WL Γ cc nL own ret rm ws pc' lv (.long (if y < x then x else y) :: rest)) : WL Γ cc nL own ret rm ws pc lv (.long y :: .long x :: rest) := by
  subst hp
  intro X H locs ls hP hD hS hls
  have X0 := X
  obtain ⟨hx, hb, hml, hown, hts, hK, -, -, hkc, hks, -, hRm, -⟩ := X
  rw [← hRm] at hR
  exact va_mmax_long hx hb (hml.trans hls.1.symm) hown (hts _ hl) (hts _ mm_mmaxL.1) (hts _ mm_mmaxL.2.1) (hts _ mm_mmaxL.2.2) hR.1 (by omega) hkc hks hd (h X0 H locs ls hP hD hS hls)
theorem ic_bipush_m8 : (Int8.ofInt (-8)).toInt32 = (-8 : Int32) := by decide
theorem ic_bipush_m7 : (Int8.ofInt (-7)).toInt32 = (-7 : Int32) := by decide
theorem ic_bipush_m6 : (Int8.ofInt (-6)).toInt32 = (-6 : Int32) := by decide
theorem ic_bipush_m5 : (Int8.ofInt (-5)).toInt32 = (-5 : Int32) := by decide
theorem ic_bipush_m4 : (Int8.ofInt (-4)).toInt32 = (-4 : Int32) := by decide
theorem ic_bipush_m3 : (Int8.ofInt (-3)).toInt32 = (-3 : Int32) := by decide
theorem ic_bipush_m2 : (Int8.ofInt (-2)).toInt32 = (-2 : Int32) := by decide
theorem ic_bipush_6 : (Int8.ofInt 6).toInt32 = (6 : Int32) := by decide
theorem ic_bipush_7 : (Int8.ofInt 7).toInt32 = (7 : Int32) := by decide
theorem ic_bipush_8 : (Int8.ofInt 8).toInt32 = (8 : Int32) := by decide
theorem ic_bipush_9 : (Int8.ofInt 9).toInt32 = (9 : Int32) := by decide
theorem ic_bipush_10 : (Int8.ofInt 10).toInt32 = (10 : Int32) := by decide
theorem ic_bipush_11 : (Int8.ofInt 11).toInt32 = (11 : Int32) := by decide
theorem ic_bipush_12 : (Int8.ofInt 12).toInt32 = (12 : Int32) := by decide
theorem ic_bipush_13 : (Int8.ofInt 13).toInt32 = (13 : Int32) := by decide
theorem ic_bipush_16 : (Int8.ofInt 16).toInt32 = (16 : Int32) := by decide
theorem ic_bipush_20 : (Int8.ofInt 20).toInt32 = (20 : Int32) := by decide
theorem ic_bipush_24 : (Int8.ofInt 24).toInt32 = (24 : Int32) := by decide
theorem ic_bipush_30 : (Int8.ofInt 30).toInt32 = (30 : Int32) := by decide
theorem ic_bipush_32 : (Int8.ofInt 32).toInt32 = (32 : Int32) := by decide
theorem ic_bipush_48 : (Int8.ofInt 48).toInt32 = (48 : Int32) := by decide
theorem ic_bipush_57 : (Int8.ofInt 57).toInt32 = (57 : Int32) := by decide
theorem ic_bipush_59 : (Int8.ofInt 59).toInt32 = (59 : Int32) := by decide
theorem ic_bipush_60 : (Int8.ofInt 60).toInt32 = (60 : Int32) := by decide
theorem ic_bipush_63 : (Int8.ofInt 63).toInt32 = (63 : Int32) := by decide
theorem ic_bipush_64 : (Int8.ofInt 64).toInt32 = (64 : Int32) := by decide
theorem ic_bipush_67 : (Int8.ofInt 67).toInt32 = (67 : Int32) := by decide
theorem ic_bipush_75 : (Int8.ofInt 75).toInt32 = (75 : Int32) := by decide
theorem ic_bipush_97 : (Int8.ofInt 97).toInt32 = (97 : Int32) := by decide
theorem ic_bipush_99 : (Int8.ofInt 99).toInt32 = (99 : Int32) := by decide
theorem ic_bipush_100 : (Int8.ofInt 100).toInt32 = (100 : Int32) := by decide
theorem ic_bipush_107 : (Int8.ofInt 107).toInt32 = (107 : Int32) := by decide
theorem ic_bipush_115 : (Int8.ofInt 115).toInt32 = (115 : Int32) := by decide
theorem ic_bipush_120 : (Int8.ofInt 120).toInt32 = (120 : Int32) := by decide
theorem ic_bipush_122 : (Int8.ofInt 122).toInt32 = (122 : Int32) := by decide
theorem ic_iconst_m8 : Int32.ofInt (-8) = (-8 : Int32) := by decide
theorem ic_iconst_m1 : Int32.ofInt (-1) = (-1 : Int32) := by decide
theorem ic_iconst_0 : Int32.ofInt 0 = (0 : Int32) := by decide
theorem ic_iconst_1 : Int32.ofInt 1 = (1 : Int32) := by decide
theorem ic_iconst_2 : Int32.ofInt 2 = (2 : Int32) := by decide
theorem ic_iconst_3 : Int32.ofInt 3 = (3 : Int32) := by decide
theorem ic_iconst_4 : Int32.ofInt 4 = (4 : Int32) := by decide
theorem ic_iconst_5 : Int32.ofInt 5 = (5 : Int32) := by decide
theorem ic_sipush_m1000 : (Int16.ofInt (-1000)).toInt32 = (-1000 : Int32) := by decide
theorem ic_sipush_200 : (Int16.ofInt 200).toInt32 = (200 : Int32) := by decide
theorem ic_sipush_240 : (Int16.ofInt 240).toInt32 = (240 : Int32) := by decide
theorem ic_sipush_255 : (Int16.ofInt 255).toInt32 = (255 : Int32) := by decide
theorem ic_sipush_512 : (Int16.ofInt 512).toInt32 = (512 : Int32) := by decide
theorem ic_sipush_999 : (Int16.ofInt 999).toInt32 = (999 : Int32) := by decide
theorem ic_sipush_1200 : (Int16.ofInt 1200).toInt32 = (1200 : Int32) := by decide
theorem ic_sipush_10000 : (Int16.ofInt 10000).toInt32 = (10000 : Int32) := by decide
theorem cn_RX11_390 : Cond.constant RX11 390 (2000000000) ∈ TB := tb_m (bk_6 (List.mem_of_getElem? (i := 49) rfl)) rfl
set_option maxRecDepth 8000 in
theorem cn_RX1_47 : Cond.constant RX1 47 (1000000) ∈ TB := tb_m (bk_5 (List.mem_of_getElem? (i := 233) rfl)) rfl
set_option maxRecDepth 8000 in
theorem cn_RX3_104 : Cond.constant RX3 104 (1000000) ∈ TB := tb_m (bk_4 (List.mem_of_getElem? (i := 145) rfl)) rfl
theorem cn_RX3_114 : Cond.constant RX3 114 (-1000000) ∈ TB := tb_m (bk_5 (List.mem_of_getElem? (i := 2) rfl)) rfl
set_option maxRecDepth 8000 in
theorem cn_RX6_210 : Cond.constant RX6 210 (100000) ∈ TB := tb_m (bk_2 (List.mem_of_getElem? (i := 153) rfl)) rfl
theorem cn_RX12_119 : Cond.constant RX12 119 (99999) ∈ TB := tb_m (bk_7 (List.mem_of_getElem? (i := 24) rfl)) rfl
theorem cn_RX12_280 : Cond.constant RX12 280 (1000000) ∈ TB := tb_m (bk_8 (List.mem_of_getElem? (i := 2) rfl)) rfl
set_option maxRecDepth 8000 in
theorem cn_RX12_372 : Cond.constant RX12 372 (-1000000) ∈ TB := tb_m (bk_8 (List.mem_of_getElem? (i := 157) rfl)) rfl
theorem cn_RJ6_265 : Cond.constant RJ6 265 (1431655765) ∈ TB := tb_m (bk_4 (List.mem_of_getElem? (i := 26) rfl)) rfl
theorem cn_RJ6_266 : Cond.constant RJ6 266 (858993459) ∈ TB := tb_m (bk_4 (List.mem_of_getElem? (i := 27) rfl)) rfl
theorem cn_RJ6_267 : Cond.constant RJ6 267 (252645135) ∈ TB := tb_m (bk_4 (List.mem_of_getElem? (i := 28) rfl)) rfl
theorem cl_RX11_196 : Cond.constantLong RX11 196 (-2) ∈ TB := tb_m (bk_4 (List.mem_of_getElem? (i := 65) rfl)) rfl
theorem cl_RX1_59 : Cond.constantLong RX1 59 (1103515245) ∈ TB := tb_m (bk_6 (List.mem_of_getElem? (i := 56) rfl)) rfl
theorem cl_RX1_61 : Cond.constantLong RX1 61 (12345) ∈ TB := tb_m (bk_6 (List.mem_of_getElem? (i := 57) rfl)) rfl
theorem cl_RX1_63 : Cond.constantLong RX1 63 (2147483648) ∈ TB := tb_m (bk_6 (List.mem_of_getElem? (i := 58) rfl)) rfl
theorem cl_RX1_65 : Cond.constantLong RX1 65 (65536) ∈ TB := tb_m (bk_6 (List.mem_of_getElem? (i := 62) rfl)) rfl
theorem cl_RX1_67 : Cond.constantLong RX1 67 (100) ∈ TB := tb_m (bk_6 (List.mem_of_getElem? (i := 63) rfl)) rfl
set_option maxRecDepth 8000 in
theorem cl_RX3_144 : Cond.constantLong RX3 144 (100) ∈ TB := tb_m (bk_4 (List.mem_of_getElem? (i := 138) rfl)) rfl
set_option maxRecDepth 8000 in
theorem cl_RX12_68 : Cond.constantLong RX12 68 (2) ∈ TB := tb_m (bk_6 (List.mem_of_getElem? (i := 228) rfl)) rfl
theorem cl_RX12_108 : Cond.constantLong RX12 108 (97) ∈ TB := tb_m (bk_7 (List.mem_of_getElem? (i := 20) rfl)) rfl
theorem cl_RX12_110 : Cond.constantLong RX12 110 (122) ∈ TB := tb_m (bk_7 (List.mem_of_getElem? (i := 21) rfl)) rfl
theorem cl_RX12_112 : Cond.constantLong RX12 112 (48) ∈ TB := tb_m (bk_7 (List.mem_of_getElem? (i := 22) rfl)) rfl
theorem cl_RX12_114 : Cond.constantLong RX12 114 (57) ∈ TB := tb_m (bk_7 (List.mem_of_getElem? (i := 23) rfl)) rfl
theorem cl_RX12_234 : Cond.constantLong RX12 234 (5) ∈ TB := tb_m (bk_7 (List.mem_of_getElem? (i := 117) rfl)) rfl
set_option maxRecDepth 8000 in
theorem cl_RX12_242 : Cond.constantLong RX12 242 (3) ∈ TB := tb_m (bk_7 (List.mem_of_getElem? (i := 146) rfl)) rfl
set_option maxRecDepth 8000 in
theorem cl_RX12_261 : Cond.constantLong RX12 261 (99) ∈ TB := tb_m (bk_7 (List.mem_of_getElem? (i := 162) rfl)) rfl
set_option maxRecDepth 8000 in
theorem cl_RX12_275 : Cond.constantLong RX12 275 (-2) ∈ TB := tb_m (bk_7 (List.mem_of_getElem? (i := 233) rfl)) rfl
theorem cl_RX12_291 : Cond.constantLong RX12 291 (100) ∈ TB := tb_m (bk_8 (List.mem_of_getElem? (i := 30) rfl)) rfl
set_option maxRecDepth 8000 in
theorem cl_RX12_354 : Cond.constantLong RX12 354 (999) ∈ TB := tb_m (bk_8 (List.mem_of_getElem? (i := 132) rfl)) rfl
set_option maxRecDepth 8000 in
theorem cl_RX12_385 : Cond.constantLong RX12 385 (9) ∈ TB := tb_m (bk_8 (List.mem_of_getElem? (i := 170) rfl)) rfl
set_option maxRecDepth 8000 in
theorem cl_RX12_399 : Cond.constantLong RX12 399 (59) ∈ TB := tb_m (bk_8 (List.mem_of_getElem? (i := 198) rfl)) rfl
theorem cl_RX12_454 : Cond.constantLong RX12 454 (1103515245) ∈ TB := tb_m (bk_9 (List.mem_of_getElem? (i := 109) rfl)) rfl
theorem cl_RX12_456 : Cond.constantLong RX12 456 (12345) ∈ TB := tb_m (bk_9 (List.mem_of_getElem? (i := 110) rfl)) rfl
theorem cl_RX12_458 : Cond.constantLong RX12 458 (2147483648) ∈ TB := tb_m (bk_9 (List.mem_of_getElem? (i := 111) rfl)) rfl
theorem cl_RX12_460 : Cond.constantLong RX12 460 (65536) ∈ TB := tb_m (bk_9 (List.mem_of_getElem? (i := 112) rfl)) rfl
theorem cl_RX12_462 : Cond.constantLong RX12 462 (2000000000) ∈ TB := tb_m (bk_9 (List.mem_of_getElem? (i := 104) rfl)) rfl
theorem cl_RX12_471 : Cond.constantLong RX12 471 (20) ∈ TB := tb_m (bk_9 (List.mem_of_getElem? (i := 117) rfl)) rfl
theorem ml_RX11_83 : Cond.methodLink RX11 83 yX6_hasRoom ∈ TB := tb_m (bk_2 (List.mem_of_getElem? (i := 110) rfl)) rfl
theorem ml_RX11_87 : Cond.methodLink RX11 87 yX6_take ∈ TB := tb_m (bk_2 (List.mem_of_getElem? (i := 114) rfl)) rfl
set_option maxRecDepth 8000 in
theorem ml_RX11_95 : Cond.methodLink RX11 95 yX6_cut ∈ TB := tb_m (bk_2 (List.mem_of_getElem? (i := 122) rfl)) rfl
set_option maxRecDepth 8000 in
theorem ml_RX11_98 : Cond.methodLink RX11 98 yX6_read ∈ TB := tb_m (bk_2 (List.mem_of_getElem? (i := 130) rfl)) rfl
theorem ml_RX11_104 : Cond.methodLink RX11 104 yX10_become ∈ TB := tb_m (bk_3 (List.mem_of_getElem? (i := 60) rfl)) rfl
theorem ml_RX11_107 : Cond.methodLink RX11 107 yX2_forget ∈ TB := tb_m (bk_3 (List.mem_of_getElem? (i := 72) rfl)) rfl
theorem ml_RX11_120 : Cond.methodLink RX11 120 yX9_cell ∈ TB := tb_m (bk_3 (List.mem_of_getElem? (i := 84) rfl)) rfl
theorem ml_RX11_126 : Cond.methodLink RX11 126 yX10_hasSide ∈ TB := tb_m (bk_3 (List.mem_of_getElem? (i := 89) rfl)) rfl
theorem ml_RX11_129 : Cond.methodLink RX11 129 yX10_needOf ∈ TB := tb_m (bk_3 (List.mem_of_getElem? (i := 97) rfl)) rfl
theorem ml_RX11_133 : Cond.methodLink RX11 133 yX10_isTold ∈ TB := tb_m (bk_3 (List.mem_of_getElem? (i := 105) rfl)) rfl
theorem ml_RX11_140 : Cond.methodLink RX11 140 yX10_isTea ∈ TB := tb_m (bk_3 (List.mem_of_getElem? (i := 106) rfl)) rfl
set_option maxRecDepth 8000 in
theorem ml_RX11_152 : Cond.methodLink RX11 152 yX11_isMinute ∈ TB := tb_m (bk_3 (List.mem_of_getElem? (i := 127) rfl)) rfl
set_option maxRecDepth 8000 in
theorem ml_RX11_155 : Cond.methodLink RX11 155 yX10_hasSet ∈ TB := tb_m (bk_3 (List.mem_of_getElem? (i := 130) rfl)) rfl
set_option maxRecDepth 8000 in
theorem ml_RX11_158 : Cond.methodLink RX11 158 yX10_menThere ∈ TB := tb_m (bk_3 (List.mem_of_getElem? (i := 139) rfl)) rfl
set_option maxRecDepth 8000 in
theorem ml_RX11_162 : Cond.methodLink RX11 162 yX2_follow ∈ TB := tb_m (bk_3 (List.mem_of_getElem? (i := 154) rfl)) rfl
set_option maxRecDepth 8000 in
theorem ml_RX11_165 : Cond.methodLink RX11 165 yX2_frontBehind ∈ TB := tb_m (bk_3 (List.mem_of_getElem? (i := 167) rfl)) rfl
set_option maxRecDepth 8000 in
theorem ml_RX11_168 : Cond.methodLink RX11 168 yX10_lateSides ∈ TB := tb_m (bk_3 (List.mem_of_getElem? (i := 175) rfl)) rfl
set_option maxRecDepth 8000 in
theorem ml_RX11_171 : Cond.methodLink RX11 171 yX2_winnerBy ∈ TB := tb_m (bk_3 (List.mem_of_getElem? (i := 184) rfl)) rfl
set_option maxRecDepth 8000 in
theorem ml_RX11_174 : Cond.methodLink RX11 174 yX2_peakOf ∈ TB := tb_m (bk_3 (List.mem_of_getElem? (i := 198) rfl)) rfl
set_option maxRecDepth 8000 in
theorem ml_RX11_177 : Cond.methodLink RX11 177 yX2_countSwings ∈ TB := tb_m (bk_3 (List.mem_of_getElem? (i := 209) rfl)) rfl
set_option maxRecDepth 8000 in
theorem ml_RX11_181 : Cond.methodLink RX11 181 yX2_worstSet ∈ TB := tb_m (bk_3 (List.mem_of_getElem? (i := 217) rfl)) rfl
theorem ml_RX11_184 : Cond.methodLink RX11 184 yX2_goodAtEnd ∈ TB := tb_m (bk_4 (List.mem_of_getElem? (i := 29) rfl)) rfl
theorem ml_RX11_187 : Cond.methodLink RX11 187 yX2_countWays ∈ TB := tb_m (bk_4 (List.mem_of_getElem? (i := 38) rfl)) rfl
theorem ml_RX11_190 : Cond.methodLink RX11 190 yX2_idleTrains ∈ TB := tb_m (bk_4 (List.mem_of_getElem? (i := 50) rfl)) rfl
theorem ml_RX11_193 : Cond.methodLink RX11 193 yX11_isPart ∈ TB := tb_m (bk_4 (List.mem_of_getElem? (i := 62) rfl)) rfl
theorem ml_RX11_198 : Cond.methodLink RX11 198 yX3_enoughParts ∈ TB := tb_m (bk_4 (List.mem_of_getElem? (i := 66) rfl)) rfl
theorem ml_RX11_202 : Cond.methodLink RX11 202 yX10_trainsOf ∈ TB := tb_m (bk_4 (List.mem_of_getElem? (i := 88) rfl)) rfl
theorem ml_RX11_205 : Cond.methodLink RX11 205 yJ6_bitCount_0f7a4 ∈ TB := tb_m (bk_4 (List.mem_of_getElem? (i := 89) rfl)) rfl
theorem ml_RX11_210 : Cond.methodLink RX11 210 yX1_hundreds ∈ TB := tb_m (bk_4 (List.mem_of_getElem? (i := 90) rfl)) rfl
theorem ml_RX11_215 : Cond.methodLink RX11 215 yX1_lowest ∈ TB := tb_m (bk_4 (List.mem_of_getElem? (i := 96) rfl)) rfl
theorem ml_RX11_219 : Cond.methodLink RX11 219 yX2_winningParts ∈ TB := tb_m (bk_4 (List.mem_of_getElem? (i := 109) rfl)) rfl
set_option maxRecDepth 8000 in
theorem ml_RX11_225 : Cond.methodLink RX11 225 yX3_sentSet ∈ TB := tb_m (bk_4 (List.mem_of_getElem? (i := 122) rfl)) rfl
set_option maxRecDepth 8000 in
theorem ml_RX11_228 : Cond.methodLink RX11 228 yX10_priceOf ∈ TB := tb_m (bk_4 (List.mem_of_getElem? (i := 146) rfl)) rfl
set_option maxRecDepth 8000 in
theorem ml_RX11_231 : Cond.methodLink RX11 231 yX3_fewestSent ∈ TB := tb_m (bk_4 (List.mem_of_getElem? (i := 158) rfl)) rfl
set_option maxRecDepth 8000 in
theorem ml_RX11_234 : Cond.methodLink RX11 234 yX11_isRisk ∈ TB := tb_m (bk_4 (List.mem_of_getElem? (i := 166) rfl)) rfl
set_option maxRecDepth 8000 in
theorem ml_RX11_238 : Cond.methodLink RX11 238 yX3_riskedSet ∈ TB := tb_m (bk_4 (List.mem_of_getElem? (i := 173) rfl)) rfl
set_option maxRecDepth 8000 in
theorem ml_RX11_241 : Cond.methodLink RX11 241 yX3_bribedSet ∈ TB := tb_m (bk_4 (List.mem_of_getElem? (i := 182) rfl)) rfl
set_option maxRecDepth 8000 in
theorem ml_RX11_244 : Cond.methodLink RX11 244 yX3_guardedTrain ∈ TB := tb_m (bk_4 (List.mem_of_getElem? (i := 199) rfl)) rfl
set_option maxRecDepth 8000 in
theorem ml_RX11_247 : Cond.methodLink RX11 247 yX11_isPurse ∈ TB := tb_m (bk_4 (List.mem_of_getElem? (i := 216) rfl)) rfl
set_option maxRecDepth 8000 in
theorem ml_RX11_250 : Cond.methodLink RX11 250 yX3_spoiledSet ∈ TB := tb_m (bk_4 (List.mem_of_getElem? (i := 220) rfl)) rfl
set_option maxRecDepth 8000 in
theorem ml_RX11_253 : Cond.methodLink RX11 253 yX3_answeredGood ∈ TB := tb_m (bk_4 (List.mem_of_getElem? (i := 234) rfl)) rfl
theorem ml_RX11_256 : Cond.methodLink RX11 256 yX3_countRests ∈ TB := tb_m (bk_5 (List.mem_of_getElem? (i := 14) rfl)) rfl
theorem ml_RX11_259 : Cond.methodLink RX11 259 yX10_comingIn ∈ TB := tb_m (bk_5 (List.mem_of_getElem? (i := 26) rfl)) rfl
theorem ml_RX11_262 : Cond.methodLink RX11 262 yX10_leadIn ∈ TB := tb_m (bk_5 (List.mem_of_getElem? (i := 31) rfl)) rfl
theorem ml_RX11_265 : Cond.methodLink RX11 265 yX11_isHost ∈ TB := tb_m (bk_5 (List.mem_of_getElem? (i := 36) rfl)) rfl
theorem ml_RX11_268 : Cond.methodLink RX11 268 yX5_settle ∈ TB := tb_m (bk_5 (List.mem_of_getElem? (i := 39) rfl)) rfl
theorem ml_RX11_275 : Cond.methodLink RX11 275 yX11_isPlace ∈ TB := tb_m (bk_5 (List.mem_of_getElem? (i := 55) rfl)) rfl
theorem ml_RX11_285 : Cond.methodLink RX11 285 yX11_isPeaceMinute ∈ TB := tb_m (bk_5 (List.mem_of_getElem? (i := 66) rfl)) rfl
theorem ml_RX11_288 : Cond.methodLink RX11 288 yX4_countReadings ∈ TB := tb_m (bk_5 (List.mem_of_getElem? (i := 70) rfl)) rfl
theorem ml_RX11_291 : Cond.methodLink RX11 291 yX4_loopholeMinutes ∈ TB := tb_m (bk_5 (List.mem_of_getElem? (i := 88) rfl)) rfl
theorem ml_RX11_295 : Cond.methodLink RX11 295 yX4_closingBounds ∈ TB := tb_m (bk_5 (List.mem_of_getElem? (i := 96) rfl)) rfl
theorem ml_RX11_298 : Cond.methodLink RX11 298 yX4_firstSafeMinute ∈ TB := tb_m (bk_5 (List.mem_of_getElem? (i := 109) rfl)) rfl
theorem ml_RX11_301 : Cond.methodLink RX11 301 yX2_treatyEnds ∈ TB := tb_m (bk_5 (List.mem_of_getElem? (i := 117) rfl)) rfl
set_option maxRecDepth 8000 in
theorem ml_RX11_304 : Cond.methodLink RX11 304 yX2_farthestFrom ∈ TB := tb_m (bk_5 (List.mem_of_getElem? (i := 133) rfl)) rfl
set_option maxRecDepth 8000 in
theorem ml_RX11_307 : Cond.methodLink RX11 307 yX8_fitting ∈ TB := tb_m (bk_5 (List.mem_of_getElem? (i := 138) rfl)) rfl
set_option maxRecDepth 8000 in
theorem ml_RX11_310 : Cond.methodLink RX11 310 yX8_trainToWatch ∈ TB := tb_m (bk_5 (List.mem_of_getElem? (i := 151) rfl)) rfl
set_option maxRecDepth 8000 in
theorem ml_RX11_313 : Cond.methodLink RX11 313 yX8_leftAtWorst ∈ TB := tb_m (bk_5 (List.mem_of_getElem? (i := 167) rfl)) rfl
set_option maxRecDepth 8000 in
theorem ml_RX11_316 : Cond.methodLink RX11 316 yX8_knownToAll ∈ TB := tb_m (bk_5 (List.mem_of_getElem? (i := 172) rfl)) rfl
set_option maxRecDepth 8000 in
theorem ml_RX11_319 : Cond.methodLink RX11 319 yX8_knownToSome ∈ TB := tb_m (bk_5 (List.mem_of_getElem? (i := 177) rfl)) rfl
set_option maxRecDepth 8000 in
theorem ml_RX11_322 : Cond.methodLink RX11 322 yX0_bestSet ∈ TB := tb_m (bk_5 (List.mem_of_getElem? (i := 185) rfl)) rfl
set_option maxRecDepth 8000 in
theorem ml_RX11_326 : Cond.methodLink RX11 326 yX0_worthOf ∈ TB := tb_m (bk_5 (List.mem_of_getElem? (i := 203) rfl)) rfl
set_option maxRecDepth 8000 in
theorem ml_RX11_332 : Cond.methodLink RX11 332 yX1_dryParts ∈ TB := tb_m (bk_5 (List.mem_of_getElem? (i := 220) rfl)) rfl
set_option maxRecDepth 8000 in
theorem ml_RX11_336 : Cond.methodLink RX11 336 yX11_isPercent ∈ TB := tb_m (bk_4 (List.mem_of_getElem? (i := 170) rfl)) rfl
set_option maxRecDepth 8000 in
theorem ml_RX11_339 : Cond.methodLink RX11 339 yX1_wednesdaysToInsist ∈ TB := tb_m (bk_5 (List.mem_of_getElem? (i := 230) rfl)) rfl
set_option maxRecDepth 8000 in
theorem ml_RX11_342 : Cond.methodLink RX11 342 yX10_hasTrain ∈ TB := tb_m (bk_5 (List.mem_of_getElem? (i := 238) rfl)) rfl
theorem ml_RX11_345 : Cond.methodLink RX11 345 yX10_mostTold ∈ TB := tb_m (bk_6 (List.mem_of_getElem? (i := 2) rfl)) rfl
theorem ml_RX11_348 : Cond.methodLink RX11 348 yX10_change ∈ TB := tb_m (bk_6 (List.mem_of_getElem? (i := 7) rfl)) rfl
theorem ml_RX11_351 : Cond.methodLink RX11 351 yX10_takeBack ∈ TB := tb_m (bk_6 (List.mem_of_getElem? (i := 33) rfl)) rfl
theorem ml_RX11_354 : Cond.methodLink RX11 354 yX11_isSeed ∈ TB := tb_m (bk_6 (List.mem_of_getElem? (i := 45) rfl)) rfl
theorem ml_RX11_357 : Cond.methodLink RX11 357 yX1_drawnDelays ∈ TB := tb_m (bk_6 (List.mem_of_getElem? (i := 50) rfl)) rfl
theorem ml_RX11_373 : Cond.methodLink RX11 373 yX7_countRows ∈ TB := tb_m (bk_6 (List.mem_of_getElem? (i := 72) rfl)) rfl
theorem ml_RX11_379 : Cond.methodLink RX11 379 yX7_lay ∈ TB := tb_m (bk_6 (List.mem_of_getElem? (i := 91) rfl)) rfl
theorem ml_RX11_382 : Cond.methodLink RX11 382 yX7_put ∈ TB := tb_m (bk_6 (List.mem_of_getElem? (i := 102) rfl)) rfl
theorem ml_RX11_386 : Cond.methodLink RX11 386 yX7_copy ∈ TB := tb_m (bk_6 (List.mem_of_getElem? (i := 113) rfl)) rfl
set_option maxRecDepth 8000 in
theorem ml_RX0_19 : Cond.methodLink RX0 19 yX0_sortByMinute ∈ TB := tb_m (bk_5 (List.mem_of_getElem? (i := 189) rfl)) rfl
set_option maxRecDepth 8000 in
theorem ml_RX0_34 : Cond.methodLink RX0 34 yX0_worthOf ∈ TB := tb_m (bk_5 (List.mem_of_getElem? (i := 194) rfl)) rfl
set_option maxRecDepth 8000 in
theorem ml_RX0_38 : Cond.methodLink RX0 38 yX0_canStand ∈ TB := tb_m (bk_5 (List.mem_of_getElem? (i := 199) rfl)) rfl
set_option maxRecDepth 8000 in
theorem ml_RX0_42 : Cond.methodLink RX0 42 yX10_isIn ∈ TB := tb_m (bk_5 (List.mem_of_getElem? (i := 198) rfl)) rfl
set_option maxRecDepth 8000 in
theorem ml_RX0_46 : Cond.methodLink RX0 46 yX9_cell ∈ TB := tb_m (bk_5 (List.mem_of_getElem? (i := 193) rfl)) rfl
theorem ml_RX1_9 : Cond.methodLink RX1 9 yX1_commonDivisor ∈ TB := tb_m (bk_4 (List.mem_of_getElem? (i := 99) rfl)) rfl
theorem ml_RX1_15 : Cond.methodLink RX1 15 yJ9_max_f86c9 ∈ TB := tb_m (bk_4 (List.mem_of_getElem? (i := 102) rfl)) rfl
theorem ml_RX1_20 : Cond.methodLink RX1 20 yX1_power ∈ TB := tb_m (bk_4 (List.mem_of_getElem? (i := 93) rfl)) rfl
theorem ml_RX1_36 : Cond.methodLink RX1 36 yX9_cell ∈ TB := tb_m (bk_4 (List.mem_of_getElem? (i := 116) rfl)) rfl
theorem ml_RX1_40 : Cond.methodLink RX1 40 yX10_isIn ∈ TB := tb_m (bk_4 (List.mem_of_getElem? (i := 117) rfl)) rfl
set_option maxRecDepth 8000 in
theorem ml_RX1_44 : Cond.methodLink RX1 44 yX1_choices ∈ TB := tb_m (bk_5 (List.mem_of_getElem? (i := 223) rfl)) rfl
theorem ml_RX1_48 : Cond.methodLink RX1 48 yX1_next ∈ TB := tb_m (bk_6 (List.mem_of_getElem? (i := 53) rfl)) rfl
theorem ml_RX1_52 : Cond.methodLink RX1 52 yX1_draw ∈ TB := tb_m (bk_6 (List.mem_of_getElem? (i := 59) rfl)) rfl
set_option maxRecDepth 8000 in
theorem ml_RX2_38 : Cond.methodLink RX2 38 yX10_isTea ∈ TB := tb_m (bk_3 (List.mem_of_getElem? (i := 158) rfl)) rfl
set_option maxRecDepth 8000 in
theorem ml_RX2_42 : Cond.methodLink RX2 42 yX10_leadIn ∈ TB := tb_m (bk_3 (List.mem_of_getElem? (i := 159) rfl)) rfl
set_option maxRecDepth 8000 in
theorem ml_RX2_46 : Cond.methodLink RX2 46 yX2_signOf ∈ TB := tb_m (bk_3 (List.mem_of_getElem? (i := 164) rfl)) rfl
set_option maxRecDepth 8000 in
theorem ml_RX2_50 : Cond.methodLink RX2 50 yX2_follow ∈ TB := tb_m (bk_3 (List.mem_of_getElem? (i := 188) rfl)) rfl
set_option maxRecDepth 8000 in
theorem ml_RX2_54 : Cond.methodLink RX2 54 yX10_lateSides ∈ TB := tb_m (bk_3 (List.mem_of_getElem? (i := 189) rfl)) rfl
set_option maxRecDepth 8000 in
theorem ml_RX2_57 : Cond.methodLink RX2 57 yX2_frontBehind ∈ TB := tb_m (bk_3 (List.mem_of_getElem? (i := 190) rfl)) rfl
set_option maxRecDepth 8000 in
theorem ml_RX2_60 : Cond.methodLink RX2 60 yX2_winner ∈ TB := tb_m (bk_3 (List.mem_of_getElem? (i := 191) rfl)) rfl
set_option maxRecDepth 8000 in
theorem ml_RX2_63 : Cond.methodLink RX2 63 yX2_good ∈ TB := tb_m (bk_3 (List.mem_of_getElem? (i := 202) rfl)) rfl
set_option maxRecDepth 8000 in
theorem ml_RX2_66 : Cond.methodLink RX2 66 yJ9_abs_0f7a4 ∈ TB := tb_m (bk_5 (List.mem_of_getElem? (i := 125) rfl)) rfl
set_option maxRecDepth 8000 in
theorem ml_RX2_71 : Cond.methodLink RX2 71 yJ9_max_7cf53 ∈ TB := tb_m (bk_5 (List.mem_of_getElem? (i := 128) rfl)) rfl
set_option maxRecDepth 8000 in
theorem ml_RX2_74 : Cond.methodLink RX2 74 yX2_farthestFrom ∈ TB := tb_m (bk_5 (List.mem_of_getElem? (i := 121) rfl)) rfl
set_option maxRecDepth 8000 in
theorem ml_RX2_80 : Cond.methodLink RX2 80 yX2_reckon ∈ TB := tb_m (bk_3 (List.mem_of_getElem? (i := 221) rfl)) rfl
set_option maxRecDepth 8000 in
theorem ml_RX2_83 : Cond.methodLink RX2 83 yX10_sets ∈ TB := tb_m (bk_3 (List.mem_of_getElem? (i := 236) rfl)) rfl
theorem ml_RX2_87 : Cond.methodLink RX2 87 yX2_goodAtEnd ∈ TB := tb_m (bk_4 (List.mem_of_getElem? (i := 19) rfl)) rfl
theorem ml_RX2_90 : Cond.methodLink RX2 90 yJ6_bitCount_0f7a4 ∈ TB := tb_m (bk_4 (List.mem_of_getElem? (i := 23) rfl)) rfl
theorem ml_RX2_95 : Cond.methodLink RX2 95 yX2_reckonedWinner ∈ TB := tb_m (bk_4 (List.mem_of_getElem? (i := 42) rfl)) rfl
theorem ml_RX2_107 : Cond.methodLink RX2 107 yX2_isIdle ∈ TB := tb_m (bk_4 (List.mem_of_getElem? (i := 54) rfl)) rfl
theorem ml_RX2_110 : Cond.methodLink RX2 110 yX1_delayParts ∈ TB := tb_m (bk_4 (List.mem_of_getElem? (i := 113) rfl)) rfl
set_option maxRecDepth 8000 in
theorem ml_RX2_116 : Cond.methodLink RX2 116 yJ7_fill_53178 ∈ TB := tb_m (bk_3 (List.mem_of_getElem? (i := 225) rfl)) rfl
set_option maxRecDepth 8000 in
theorem ml_RX2_122 : Cond.methodLink RX2 122 yX2_isArrival ∈ TB := tb_m (bk_3 (List.mem_of_getElem? (i := 228) rfl)) rfl
set_option maxRecDepth 8000 in
theorem ml_RX2_125 : Cond.methodLink RX2 125 yX2_moveEnds ∈ TB := tb_m (bk_3 (List.mem_of_getElem? (i := 237) rfl)) rfl
theorem ml_RX2_128 : Cond.methodLink RX2 128 yX2_takeMen ∈ TB := tb_m (bk_4 (List.mem_of_getElem? (i := 1) rfl)) rfl
theorem ml_RX2_132 : Cond.methodLink RX2 132 yX2_findWinners ∈ TB := tb_m (bk_4 (List.mem_of_getElem? (i := 14) rfl)) rfl
set_option maxRecDepth 8000 in
theorem ml_RX2_135 : Cond.methodLink RX2 135 yX10_comingIn ∈ TB := tb_m (bk_3 (List.mem_of_getElem? (i := 232) rfl)) rfl
theorem ml_RX2_138 : Cond.methodLink RX2 138 yX10_menThere ∈ TB := tb_m (bk_4 (List.mem_of_getElem? (i := 5) rfl)) rfl
theorem ml_RX2_142 : Cond.methodLink RX2 142 yX9_cell ∈ TB := tb_m (bk_4 (List.mem_of_getElem? (i := 6) rfl)) rfl
theorem ml_RX2_145 : Cond.methodLink RX2 145 yX10_menLost ∈ TB := tb_m (bk_4 (List.mem_of_getElem? (i := 7) rfl)) rfl
theorem ml_RX2_148 : Cond.methodLink RX2 148 yX10_spread ∈ TB := tb_m (bk_4 (List.mem_of_getElem? (i := 11) rfl)) rfl
theorem ml_RX2_155 : Cond.methodLink RX2 155 yX10_needOf ∈ TB := tb_m (bk_4 (List.mem_of_getElem? (i := 18) rfl)) rfl
theorem ml_RX3_40 : Cond.methodLink RX3 40 yX3_takeParts ∈ TB := tb_m (bk_4 (List.mem_of_getElem? (i := 70) rfl)) rfl
theorem ml_RX3_44 : Cond.methodLink RX3 44 yX10_trainsOf ∈ TB := tb_m (bk_4 (List.mem_of_getElem? (i := 84) rfl)) rfl
set_option maxRecDepth 8000 in
theorem ml_RX3_50 : Cond.methodLink RX3 50 yX3_riskedSet ∈ TB := tb_m (bk_4 (List.mem_of_getElem? (i := 126) rfl)) rfl
set_option maxRecDepth 8000 in
theorem ml_RX3_54 : Cond.methodLink RX3 54 yX3_fitByChance ∈ TB := tb_m (bk_4 (List.mem_of_getElem? (i := 134) rfl)) rfl
theorem ml_RX3_58 : Cond.methodLink RX3 58 yX10_sets ∈ TB := tb_m (bk_4 (List.mem_of_getElem? (i := 77) rfl)) rfl
set_option maxRecDepth 8000 in
theorem ml_RX3_62 : Cond.methodLink RX3 62 yJ6_bitCount_0f7a4 ∈ TB := tb_m (bk_4 (List.mem_of_getElem? (i := 139) rfl)) rfl
set_option maxRecDepth 8000 in
theorem ml_RX3_67 : Cond.methodLink RX3 67 yX3_takePrices ∈ TB := tb_m (bk_4 (List.mem_of_getElem? (i := 130) rfl)) rfl
set_option maxRecDepth 8000 in
theorem ml_RX3_70 : Cond.methodLink RX3 70 yX3_cheapest ∈ TB := tb_m (bk_4 (List.mem_of_getElem? (i := 141) rfl)) rfl
set_option maxRecDepth 8000 in
theorem ml_RX3_73 : Cond.methodLink RX3 73 yX3_fitByDelays ∈ TB := tb_m (bk_4 (List.mem_of_getElem? (i := 186) rfl)) rfl
set_option maxRecDepth 8000 in
theorem ml_RX3_76 : Cond.methodLink RX3 76 yX3_orPriceless ∈ TB := tb_m (bk_4 (List.mem_of_getElem? (i := 203) rfl)) rfl
set_option maxRecDepth 8000 in
theorem ml_RX3_89 : Cond.methodLink RX3 89 yX10_isIn ∈ TB := tb_m (bk_4 (List.mem_of_getElem? (i := 207) rfl)) rfl
set_option maxRecDepth 8000 in
theorem ml_RX3_93 : Cond.methodLink RX3 93 yX2_reckon ∈ TB := tb_m (bk_4 (List.mem_of_getElem? (i := 224) rfl)) rfl
set_option maxRecDepth 8000 in
theorem ml_RX3_98 : Cond.methodLink RX3 98 yX2_goodAtEnd ∈ TB := tb_m (bk_4 (List.mem_of_getElem? (i := 225) rfl)) rfl
set_option maxRecDepth 8000 in
theorem ml_RX3_101 : Cond.methodLink RX3 101 yX3_meetAnswers ∈ TB := tb_m (bk_4 (List.mem_of_getElem? (i := 238) rfl)) rfl
theorem ml_RX3_105 : Cond.methodLink RX3 105 yJ9_min_7cf53 ∈ TB := tb_m (bk_5 (List.mem_of_getElem? (i := 9) rfl)) rfl
theorem ml_RX3_110 : Cond.methodLink RX3 110 yX3_isBought ∈ TB := tb_m (bk_5 (List.mem_of_getElem? (i := 4) rfl)) rfl
theorem ml_RX3_115 : Cond.methodLink RX3 115 yJ7_fill_53178 ∈ TB := tb_m (bk_5 (List.mem_of_getElem? (i := 3) rfl)) rfl
theorem ml_RX3_121 : Cond.methodLink RX3 121 yJ9_max_7cf53 ∈ TB := tb_m (bk_5 (List.mem_of_getElem? (i := 8) rfl)) rfl
theorem ml_RX3_124 : Cond.methodLink RX3 124 yX9_cell ∈ TB := tb_m (bk_4 (List.mem_of_getElem? (i := 74) rfl)) rfl
theorem ml_RX3_127 : Cond.methodLink RX3 127 yX10_spread ∈ TB := tb_m (bk_4 (List.mem_of_getElem? (i := 76) rfl)) rfl
set_option maxRecDepth 8000 in
theorem ml_RX3_134 : Cond.methodLink RX3 134 yX10_menThere ∈ TB := tb_m (bk_4 (List.mem_of_getElem? (i := 190) rfl)) rfl
theorem ml_RX3_138 : Cond.methodLink RX3 138 yX10_menLost ∈ TB := tb_m (bk_4 (List.mem_of_getElem? (i := 83) rfl)) rfl
theorem ml_RX3_141 : Cond.methodLink RX3 141 yX10_needOf ∈ TB := tb_m (bk_4 (List.mem_of_getElem? (i := 78) rfl)) rfl
set_option maxRecDepth 8000 in
theorem ml_RX3_146 : Cond.methodLink RX3 146 yX1_hundreds ∈ TB := tb_m (bk_4 (List.mem_of_getElem? (i := 140) rfl)) rfl
theorem ml_RX3_152 : Cond.methodLink RX3 152 yX10_arrival ∈ TB := tb_m (bk_4 (List.mem_of_getElem? (i := 75) rfl)) rfl
theorem ml_RX3_155 : Cond.methodLink RX3 155 yX3_mayBeLate ∈ TB := tb_m (bk_4 (List.mem_of_getElem? (i := 79) rfl)) rfl
theorem ml_RX4_15 : Cond.methodLink RX4 15 yX4_allReadings ∈ TB := tb_m (bk_5 (List.mem_of_getElem? (i := 74) rfl)) rfl
theorem ml_RX4_19 : Cond.methodLink RX4 19 yX4_isHeld ∈ TB := tb_m (bk_5 (List.mem_of_getElem? (i := 78) rfl)) rfl
theorem ml_RX4_35 : Cond.methodLink RX4 35 yJ6_bitCount_0f7a4 ∈ TB := tb_m (bk_5 (List.mem_of_getElem? (i := 100) rfl)) rfl
theorem ml_RX4_41 : Cond.methodLink RX4 41 yX9_cell ∈ TB := tb_m (bk_5 (List.mem_of_getElem? (i := 82) rfl)) rfl
theorem ml_RX4_45 : Cond.methodLink RX4 45 yX10_isIn ∈ TB := tb_m (bk_5 (List.mem_of_getElem? (i := 83) rfl)) rfl
theorem ml_RX5_26 : Cond.methodLink RX5 26 yX5_put ∈ TB := tb_m (bk_5 (List.mem_of_getElem? (i := 43) rfl)) rfl
theorem ml_RX5_30 : Cond.methodLink RX5 30 yX5_meet ∈ TB := tb_m (bk_5 (List.mem_of_getElem? (i := 46) rfl)) rfl
theorem ml_RX5_34 : Cond.methodLink RX5 34 yX2_signOf ∈ TB := tb_m (bk_5 (List.mem_of_getElem? (i := 50) rfl)) rfl
set_option maxRecDepth 8000 in
theorem ml_RX6_26 : Cond.methodLink RX6 26 yX10_clear ∈ TB := tb_m (bk_2 (List.mem_of_getElem? (i := 134) rfl)) rfl
set_option maxRecDepth 8000 in
theorem ml_RX6_37 : Cond.methodLink RX6 37 yX6_advance ∈ TB := tb_m (bk_2 (List.mem_of_getElem? (i := 138) rfl)) rfl
set_option maxRecDepth 8000 in
theorem ml_RX6_43 : Cond.methodLink RX6 43 yX6_readLine ∈ TB := tb_m (bk_2 (List.mem_of_getElem? (i := 154) rfl)) rfl
theorem ml_RX6_46 : Cond.methodLink RX6 46 yX6_sign ∈ TB := tb_m (bk_3 (List.mem_of_getElem? (i := 56) rfl)) rfl
set_option maxRecDepth 8000 in
theorem ml_RX6_52 : Cond.methodLink RX6 52 yX6_readWar ∈ TB := tb_m (bk_2 (List.mem_of_getElem? (i := 158) rfl)) rfl
set_option maxRecDepth 8000 in
theorem ml_RX6_57 : Cond.methodLink RX6 57 yX6_sees ∈ TB := tb_m (bk_2 (List.mem_of_getElem? (i := 167) rfl)) rfl
set_option maxRecDepth 8000 in
theorem ml_RX6_61 : Cond.methodLink RX6 61 yX6_readNeed ∈ TB := tb_m (bk_2 (List.mem_of_getElem? (i := 232) rfl)) rfl
theorem ml_RX6_66 : Cond.methodLink RX6 66 yX6_readTrain ∈ TB := tb_m (bk_3 (List.mem_of_getElem? (i := 1) rfl)) rfl
theorem ml_RX6_75 : Cond.methodLink RX6 75 yX6_readSpan ∈ TB := tb_m (bk_3 (List.mem_of_getElem? (i := 32) rfl)) rfl
theorem ml_RX6_81 : Cond.methodLink RX6 81 yX6_readAsk ∈ TB := tb_m (bk_3 (List.mem_of_getElem? (i := 42) rfl)) rfl
theorem ml_RX6_91 : Cond.methodLink RX6 91 yX6_readSpy ∈ TB := tb_m (bk_3 (List.mem_of_getElem? (i := 51) rfl)) rfl
set_option maxRecDepth 8000 in
theorem ml_RX6_94 : Cond.methodLink RX6 94 yX6_blame ∈ TB := tb_m (bk_2 (List.mem_of_getElem? (i := 219) rfl)) rfl
set_option maxRecDepth 8000 in
theorem ml_RX6_99 : Cond.methodLink RX6 99 yX6_word ∈ TB := tb_m (bk_2 (List.mem_of_getElem? (i := 163) rfl)) rfl
set_option maxRecDepth 8000 in
theorem ml_RX6_105 : Cond.methodLink RX6 105 yX6_number ∈ TB := tb_m (bk_2 (List.mem_of_getElem? (i := 224) rfl)) rfl
set_option maxRecDepth 8000 in
theorem ml_RX6_124 : Cond.methodLink RX6 124 yX10_setNeed ∈ TB := tb_m (bk_2 (List.mem_of_getElem? (i := 236) rfl)) rfl
theorem ml_RX6_131 : Cond.methodLink RX6 131 yX6_begin ∈ TB := tb_m (bk_3 (List.mem_of_getElem? (i := 5) rfl)) rfl
theorem ml_RX6_134 : Cond.methodLink RX6 134 yX6_cell ∈ TB := tb_m (bk_3 (List.mem_of_getElem? (i := 18) rfl)) rfl
theorem ml_RX6_154 : Cond.methodLink RX6 154 yX9_cell ∈ TB := tb_m (bk_3 (List.mem_of_getElem? (i := 37) rfl)) rfl
theorem ml_RX6_172 : Cond.methodLink RX6 172 yX9_set ∈ TB := tb_m (bk_3 (List.mem_of_getElem? (i := 22) rfl)) rfl
theorem ml_RX6_176 : Cond.methodLink RX6 176 yX9_isFull ∈ TB := tb_m (bk_3 (List.mem_of_getElem? (i := 9) rfl)) rfl
theorem ml_RX6_180 : Cond.methodLink RX6 180 yX9_add ∈ TB := tb_m (bk_3 (List.mem_of_getElem? (i := 13) rfl)) rfl
set_option maxRecDepth 8000 in
theorem ml_RX6_189 : Cond.methodLink RX6 189 yJ0_length_8abf5 ∈ TB := tb_m (bk_2 (List.mem_of_getElem? (i := 171) rfl)) rfl
set_option maxRecDepth 8000 in
theorem ml_RX6_194 : Cond.methodLink RX6 194 yX6_byteAt ∈ TB := tb_m (bk_2 (List.mem_of_getElem? (i := 149) rfl)) rfl
set_option maxRecDepth 8000 in
theorem ml_RX6_198 : Cond.methodLink RX6 198 yJ0_charAt_5068e ∈ TB := tb_m (bk_2 (List.mem_of_getElem? (i := 181) rfl)) rfl
set_option maxRecDepth 8000 in
theorem ml_RX6_202 : Cond.methodLink RX6 202 yX6_kindAt ∈ TB := tb_m (bk_2 (List.mem_of_getElem? (i := 142) rfl)) rfl
set_option maxRecDepth 8000 in
theorem ml_RX6_205 : Cond.methodLink RX6 205 yJ9_min_7cf53 ∈ TB := tb_m (bk_2 (List.mem_of_getElem? (i := 146) rfl)) rfl
theorem ml_RX7_26 : Cond.methodLink RX7 26 yX7_isSlot ∈ TB := tb_m (bk_6 (List.mem_of_getElem? (i := 95) rfl)) rfl
theorem ml_RX7_30 : Cond.methodLink RX7 30 yX7_cutTo ∈ TB := tb_m (bk_6 (List.mem_of_getElem? (i := 106) rfl)) rfl
theorem ml_RX7_34 : Cond.methodLink RX7 34 yX7_isWithin ∈ TB := tb_m (bk_6 (List.mem_of_getElem? (i := 117) rfl)) rfl
set_option maxRecDepth 8000 in
theorem ml_RX7_38 : Cond.methodLink RX7 38 arraycopyName ∈ TB := tb_m (bk_6 (List.mem_of_getElem? (i := 121) rfl)) rfl
set_option maxRecDepth 8000 in
theorem ml_RX8_27 : Cond.methodLink RX8 27 yX8_knownTo ∈ TB := tb_m (bk_5 (List.mem_of_getElem? (i := 142) rfl)) rfl
set_option maxRecDepth 8000 in
theorem ml_RX8_31 : Cond.methodLink RX8 31 yX8_fitting ∈ TB := tb_m (bk_5 (List.mem_of_getElem? (i := 155) rfl)) rfl
set_option maxRecDepth 8000 in
theorem ml_RX8_34 : Cond.methodLink RX8 34 yJ6_bitCount_0f7a4 ∈ TB := tb_m (bk_5 (List.mem_of_getElem? (i := 156) rfl)) rfl
set_option maxRecDepth 8000 in
theorem ml_RX8_42 : Cond.methodLink RX8 42 yX8_leftAtWorst ∈ TB := tb_m (bk_5 (List.mem_of_getElem? (i := 157) rfl)) rfl
set_option maxRecDepth 8000 in
theorem ml_RX8_46 : Cond.methodLink RX8 46 yX10_isIn ∈ TB := tb_m (bk_5 (List.mem_of_getElem? (i := 162) rfl)) rfl
set_option maxRecDepth 8000 in
theorem ml_RX8_50 : Cond.methodLink RX8 50 yJ9_max_7cf53 ∈ TB := tb_m (bk_5 (List.mem_of_getElem? (i := 161) rfl)) rfl
set_option maxRecDepth 8000 in
theorem ml_RX8_55 : Cond.methodLink RX8 55 yX10_sets ∈ TB := tb_m (bk_5 (List.mem_of_getElem? (i := 176) rfl)) rfl
set_option maxRecDepth 8000 in
theorem ml_RX8_59 : Cond.methodLink RX8 59 yX9_cell ∈ TB := tb_m (bk_5 (List.mem_of_getElem? (i := 146) rfl)) rfl
theorem ml_RX9_31 : Cond.methodLink RX9 31 yX9_isFull ∈ TB := tb_m (bk_3 (List.mem_of_getElem? (i := 17) rfl)) rfl
theorem ml_RX9_35 : Cond.methodLink RX9 35 yJ9_min_7cf53 ∈ TB := tb_m (bk_3 (List.mem_of_getElem? (i := 68) rfl)) rfl
theorem ml_RX9_38 : Cond.methodLink RX9 38 arraycopyName ∈ TB := tb_m (bk_3 (List.mem_of_getElem? (i := 69) rfl)) rfl
theorem ml_RX10_61 : Cond.methodLink RX10 61 yX9_become ∈ TB := tb_m (bk_3 (List.mem_of_getElem? (i := 64) rfl)) rfl
theorem ml_RX10_65 : Cond.methodLink RX10 65 yX10_isTold ∈ TB := tb_m (bk_3 (List.mem_of_getElem? (i := 93) rfl)) rfl
set_option maxRecDepth 8000 in
theorem ml_RX10_69 : Cond.methodLink RX10 69 yX10_sets ∈ TB := tb_m (bk_3 (List.mem_of_getElem? (i := 134) rfl)) rfl
set_option maxRecDepth 8000 in
theorem ml_RX10_73 : Cond.methodLink RX10 73 yJ9_min_7cf53 ∈ TB := tb_m (bk_3 (List.mem_of_getElem? (i := 138) rfl)) rfl
theorem ml_RX10_79 : Cond.methodLink RX10 79 yX9_cell ∈ TB := tb_m (bk_3 (List.mem_of_getElem? (i := 110) rfl)) rfl
set_option maxRecDepth 8000 in
theorem ml_RX10_82 : Cond.methodLink RX10 82 yX10_isIn ∈ TB := tb_m (bk_3 (List.mem_of_getElem? (i := 147) rfl)) rfl
set_option maxRecDepth 8000 in
theorem ml_RX10_86 : Cond.methodLink RX10 86 yX10_arrival ∈ TB := tb_m (bk_3 (List.mem_of_getElem? (i := 143) rfl)) rfl
set_option maxRecDepth 8000 in
theorem ml_RX10_89 : Cond.methodLink RX10 89 yX10_menThere ∈ TB := tb_m (bk_3 (List.mem_of_getElem? (i := 163) rfl)) rfl
set_option maxRecDepth 8000 in
theorem ml_RX10_93 : Cond.methodLink RX10 93 yX10_needOf ∈ TB := tb_m (bk_3 (List.mem_of_getElem? (i := 179) rfl)) rfl
theorem ml_RX10_97 : Cond.methodLink RX10 97 yX9_isFull ∈ TB := tb_m (bk_6 (List.mem_of_getElem? (i := 11) rfl)) rfl
theorem ml_RX10_100 : Cond.methodLink RX10 100 yX10_toldNumber ∈ TB := tb_m (bk_6 (List.mem_of_getElem? (i := 12) rfl)) rfl
theorem ml_RX10_103 : Cond.methodLink RX10 103 yX9_add ∈ TB := tb_m (bk_6 (List.mem_of_getElem? (i := 18) rfl)) rfl
theorem ml_RX10_106 : Cond.methodLink RX10 106 yX9_set ∈ TB := tb_m (bk_6 (List.mem_of_getElem? (i := 19) rfl)) rfl
theorem ml_RX10_110 : Cond.methodLink RX10 110 yX10_setToldNumber ∈ TB := tb_m (bk_6 (List.mem_of_getElem? (i := 20) rfl)) rfl
theorem ml_RX10_113 : Cond.methodLink RX10 113 yX9_drop ∈ TB := tb_m (bk_6 (List.mem_of_getElem? (i := 37) rfl)) rfl
theorem ml_RX10_119 : Cond.methodLink RX10 119 yX10_setNeed ∈ TB := tb_m (bk_6 (List.mem_of_getElem? (i := 24) rfl)) rfl
set_option maxRecDepth 8000 in
theorem ml_RX12_70 : Cond.methodLink RX12 70 yX12_in ∈ TB := tb_m (bk_6 (List.mem_of_getElem? (i := 229) rfl)) rfl
set_option maxRecDepth 8000 in
theorem ml_RX12_74 : Cond.methodLink RX12 74 yX12_isWar ∈ TB := tb_m (bk_7 (List.mem_of_getElem? (i := 130) rfl)) rfl
set_option maxRecDepth 8000 in
theorem ml_RX12_78 : Cond.methodLink RX12 78 yX12_allTrains ∈ TB := tb_m (bk_7 (List.mem_of_getElem? (i := 167) rfl)) rfl
theorem ml_RX12_82 : Cond.methodLink RX12 82 yX12_of ∈ TB := tb_m (bk_7 (List.mem_of_getElem? (i := 118) rfl)) rfl
set_option maxRecDepth 8000 in
theorem ml_RX12_86 : Cond.methodLink RX12 86 yX12_bit ∈ TB := tb_m (bk_7 (List.mem_of_getElem? (i := 179) rfl)) rfl
theorem ml_RX12_98 : Cond.methodLink RX12 98 yX12_see ∈ TB := tb_m (bk_7 (List.mem_of_getElem? (i := 16) rfl)) rfl
theorem ml_RX12_120 : Cond.methodLink RX12 120 yJ9_min_7cf53 ∈ TB := tb_m (bk_7 (List.mem_of_getElem? (i := 25) rfl)) rfl
theorem ml_RX12_128 : Cond.methodLink RX12 128 yX12_good ∈ TB := tb_m (bk_7 (List.mem_of_getElem? (i := 26) rfl)) rfl
theorem ml_RX12_131 : Cond.methodLink RX12 131 yJ0_length_8abf5 ∈ TB := tb_m (bk_7 (List.mem_of_getElem? (i := 51) rfl)) rfl
theorem ml_RX12_136 : Cond.methodLink RX12 136 yJ0_charAt_5068e ∈ TB := tb_m (bk_7 (List.mem_of_getElem? (i := 52) rfl)) rfl
theorem ml_RX12_140 : Cond.methodLink RX12 140 yX12_is ∈ TB := tb_m (bk_7 (List.mem_of_getElem? (i := 47) rfl)) rfl
theorem ml_RX12_144 : Cond.methodLink RX12 144 yX12_advance ∈ TB := tb_m (bk_7 (List.mem_of_getElem? (i := 12) rfl)) rfl
theorem ml_RX12_147 : Cond.methodLink RX12 147 yX12_takes ∈ TB := tb_m (bk_7 (List.mem_of_getElem? (i := 43) rfl)) rfl
theorem ml_RX12_150 : Cond.methodLink RX12 150 yX12_errs ∈ TB := tb_m (bk_7 (List.mem_of_getElem? (i := 53) rfl)) rfl
theorem ml_RX12_154 : Cond.methodLink RX12 154 yX12_needs ∈ TB := tb_m (bk_7 (List.mem_of_getElem? (i := 39) rfl)) rfl
theorem ml_RX12_158 : Cond.methodLink RX12 158 yX12_number ∈ TB := tb_m (bk_7 (List.mem_of_getElem? (i := 62) rfl)) rfl
theorem ml_RX12_165 : Cond.methodLink RX12 165 yX12_told ∈ TB := tb_m (bk_7 (List.mem_of_getElem? (i := 58) rfl)) rfl
theorem ml_RX12_206 : Cond.methodLink RX12 206 yX12_readNeed ∈ TB := tb_m (bk_7 (List.mem_of_getElem? (i := 79) rfl)) rfl
theorem ml_RX12_209 : Cond.methodLink RX12 209 yX12_readTrain ∈ TB := tb_m (bk_7 (List.mem_of_getElem? (i := 83) rfl)) rfl
theorem ml_RX12_212 : Cond.methodLink RX12 212 yX12_readBounds ∈ TB := tb_m (bk_7 (List.mem_of_getElem? (i := 92) rfl)) rfl
theorem ml_RX12_215 : Cond.methodLink RX12 215 yX12_readAsk ∈ TB := tb_m (bk_7 (List.mem_of_getElem? (i := 97) rfl)) rfl
theorem ml_RX12_218 : Cond.methodLink RX12 218 yX12_readSpy ∈ TB := tb_m (bk_7 (List.mem_of_getElem? (i := 104) rfl)) rfl
theorem ml_RX12_221 : Cond.methodLink RX12 221 yX12_readFirst ∈ TB := tb_m (bk_7 (List.mem_of_getElem? (i := 34) rfl)) rfl
theorem ml_RX12_224 : Cond.methodLink RX12 224 yX12_readNext ∈ TB := tb_m (bk_7 (List.mem_of_getElem? (i := 69) rfl)) rfl
theorem ml_RX12_227 : Cond.methodLink RX12 227 yX12_readLine ∈ TB := tb_m (bk_7 (List.mem_of_getElem? (i := 30) rfl)) rfl
theorem ml_RX12_230 : Cond.methodLink RX12 230 yX12_isTrain ∈ TB := tb_m (bk_7 (List.mem_of_getElem? (i := 113) rfl)) rfl
set_option maxRecDepth 8000 in
theorem ml_RX12_236 : Cond.methodLink RX12 236 yX12_isSide ∈ TB := tb_m (bk_7 (List.mem_of_getElem? (i := 126) rfl)) rfl
set_option maxRecDepth 8000 in
theorem ml_RX12_239 : Cond.methodLink RX12 239 yX12_isTea ∈ TB := tb_m (bk_7 (List.mem_of_getElem? (i := 138) rfl)) rfl
set_option maxRecDepth 8000 in
theorem ml_RX12_244 : Cond.methodLink RX12 244 yX12_comesAt ∈ TB := tb_m (bk_7 (List.mem_of_getElem? (i := 175) rfl)) rfl
set_option maxRecDepth 8000 in
theorem ml_RX12_247 : Cond.methodLink RX12 247 yX12_menOf ∈ TB := tb_m (bk_7 (List.mem_of_getElem? (i := 171) rfl)) rfl
set_option maxRecDepth 8000 in
theorem ml_RX12_251 : Cond.methodLink RX12 251 yX12_frontOf ∈ TB := tb_m (bk_7 (List.mem_of_getElem? (i := 186) rfl)) rfl
set_option maxRecDepth 8000 in
theorem ml_RX12_254 : Cond.methodLink RX12 254 yX12_isLate ∈ TB := tb_m (bk_7 (List.mem_of_getElem? (i := 194) rfl)) rfl
set_option maxRecDepth 8000 in
theorem ml_RX12_258 : Cond.methodLink RX12 258 yX12_lastFront ∈ TB := tb_m (bk_7 (List.mem_of_getElem? (i := 206) rfl)) rfl
set_option maxRecDepth 8000 in
theorem ml_RX12_263 : Cond.methodLink RX12 263 yX12_isAny ∈ TB := tb_m (bk_7 (List.mem_of_getElem? (i := 159) rfl)) rfl
set_option maxRecDepth 8000 in
theorem ml_RX12_266 : Cond.methodLink RX12 266 yX12_areTrains ∈ TB := tb_m (bk_7 (List.mem_of_getElem? (i := 163) rfl)) rfl
set_option maxRecDepth 8000 in
theorem ml_RX12_269 : Cond.methodLink RX12 269 yX12_winner ∈ TB := tb_m (bk_7 (List.mem_of_getElem? (i := 202) rfl)) rfl
set_option maxRecDepth 8000 in
theorem ml_RX12_272 : Cond.methodLink RX12 272 yX12_goodBy ∈ TB := tb_m (bk_7 (List.mem_of_getElem? (i := 214) rfl)) rfl
theorem ml_RX12_281 : Cond.methodLink RX12 281 yX12_bits ∈ TB := tb_m (bk_8 (List.mem_of_getElem? (i := 3) rfl)) rfl
set_option maxRecDepth 8000 in
theorem ml_RX12_284 : Cond.methodLink RX12 284 yX12_worstOf ∈ TB := tb_m (bk_7 (List.mem_of_getElem? (i := 238) rfl)) rfl
theorem ml_RX12_287 : Cond.methodLink RX12 287 yX12_divisor ∈ TB := tb_m (bk_8 (List.mem_of_getElem? (i := 34) rfl)) rfl
theorem ml_RX12_293 : Cond.methodLink RX12 293 yX12_oftenOf ∈ TB := tb_m (bk_8 (List.mem_of_getElem? (i := 22) rfl)) rfl
theorem ml_RX12_297 : Cond.methodLink RX12 297 yX12_allOften ∈ TB := tb_m (bk_8 (List.mem_of_getElem? (i := 26) rfl)) rfl
theorem ml_RX12_301 : Cond.methodLink RX12 301 yX12_part ∈ TB := tb_m (bk_8 (List.mem_of_getElem? (i := 31) rfl)) rfl
theorem ml_RX12_305 : Cond.methodLink RX12 305 yX12_menSent ∈ TB := tb_m (bk_8 (List.mem_of_getElem? (i := 57) rfl)) rfl
theorem ml_RX12_314 : Cond.methodLink RX12 314 yX12_trainsOf ∈ TB := tb_m (bk_8 (List.mem_of_getElem? (i := 49) rfl)) rfl
theorem ml_RX12_317 : Cond.methodLink RX12 317 yX12_isSurely ∈ TB := tb_m (bk_8 (List.mem_of_getElem? (i := 53) rfl)) rfl
theorem ml_RX12_320 : Cond.methodLink RX12 320 yX12_priceOf ∈ TB := tb_m (bk_8 (List.mem_of_getElem? (i := 61) rfl)) rfl
theorem ml_RX12_323 : Cond.methodLink RX12 323 yX12_take ∈ TB := tb_m (bk_8 (List.mem_of_getElem? (i := 65) rfl)) rfl
theorem ml_RX12_327 : Cond.methodLink RX12 327 yX12_findSend ∈ TB := tb_m (bk_8 (List.mem_of_getElem? (i := 45) rfl)) rfl
theorem ml_RX12_331 : Cond.methodLink RX12 331 yX12_orNone ∈ TB := tb_m (bk_8 (List.mem_of_getElem? (i := 69) rfl)) rfl
theorem ml_RX12_334 : Cond.methodLink RX12 334 yX12_enoughBy ∈ TB := tb_m (bk_8 (List.mem_of_getElem? (i := 89) rfl)) rfl
theorem ml_RX12_338 : Cond.methodLink RX12 338 yX12_isOften ∈ TB := tb_m (bk_8 (List.mem_of_getElem? (i := 93) rfl)) rfl
theorem ml_RX12_342 : Cond.methodLink RX12 342 yX12_findRisk ∈ TB := tb_m (bk_8 (List.mem_of_getElem? (i := 85) rfl)) rfl
theorem ml_RX12_345 : Cond.methodLink RX12 345 yX12_findBribe ∈ TB := tb_m (bk_8 (List.mem_of_getElem? (i := 105) rfl)) rfl
theorem ml_RX12_351 : Cond.methodLink RX12 351 yX12_guardOf ∈ TB := tb_m (bk_8 (List.mem_of_getElem? (i := 117) rfl)) rfl
set_option maxRecDepth 8000 in
theorem ml_RX12_356 : Cond.methodLink RX12 356 yX12_fillFronts ∈ TB := tb_m (bk_8 (List.mem_of_getElem? (i := 137) rfl)) rfl
set_option maxRecDepth 8000 in
theorem ml_RX12_359 : Cond.methodLink RX12 359 yX12_isBought ∈ TB := tb_m (bk_8 (List.mem_of_getElem? (i := 141) rfl)) rfl
set_option maxRecDepth 8000 in
theorem ml_RX12_366 : Cond.methodLink RX12 366 yX12_isPrice ∈ TB := tb_m (bk_8 (List.mem_of_getElem? (i := 129) rfl)) rfl
set_option maxRecDepth 8000 in
theorem ml_RX12_369 : Cond.methodLink RX12 369 yX12_spoilOf ∈ TB := tb_m (bk_8 (List.mem_of_getElem? (i := 133) rfl)) rfl
set_option maxRecDepth 8000 in
theorem ml_RX12_373 : Cond.methodLink RX12 373 yJ9_max_7cf53 ∈ TB := tb_m (bk_8 (List.mem_of_getElem? (i := 158) rfl)) rfl
set_option maxRecDepth 8000 in
theorem ml_RX12_376 : Cond.methodLink RX12 376 yX12_bestGood ∈ TB := tb_m (bk_8 (List.mem_of_getElem? (i := 153) rfl)) rfl
set_option maxRecDepth 8000 in
theorem ml_RX12_379 : Cond.methodLink RX12 379 yX12_valueOf ∈ TB := tb_m (bk_8 (List.mem_of_getElem? (i := 179) rfl)) rfl
set_option maxRecDepth 8000 in
theorem ml_RX12_382 : Cond.methodLink RX12 382 yX12_heldBy ∈ TB := tb_m (bk_8 (List.mem_of_getElem? (i := 175) rfl)) rfl
set_option maxRecDepth 8000 in
theorem ml_RX12_387 : Cond.methodLink RX12 387 yX12_areMen ∈ TB := tb_m (bk_8 (List.mem_of_getElem? (i := 167) rfl)) rfl
set_option maxRecDepth 8000 in
theorem ml_RX12_390 : Cond.methodLink RX12 390 yX12_holdOf ∈ TB := tb_m (bk_8 (List.mem_of_getElem? (i := 171) rfl)) rfl
set_option maxRecDepth 8000 in
theorem ml_RX12_393 : Cond.methodLink RX12 393 yX12_allReadings ∈ TB := tb_m (bk_8 (List.mem_of_getElem? (i := 203) rfl)) rfl
set_option maxRecDepth 8000 in
theorem ml_RX12_396 : Cond.methodLink RX12 396 yX12_holdsBy ∈ TB := tb_m (bk_8 (List.mem_of_getElem? (i := 207) rfl)) rfl
set_option maxRecDepth 8000 in
theorem ml_RX12_401 : Cond.methodLink RX12 401 yX12_isSigned ∈ TB := tb_m (bk_8 (List.mem_of_getElem? (i := 194) rfl)) rfl
set_option maxRecDepth 8000 in
theorem ml_RX12_404 : Cond.methodLink RX12 404 yX12_readingsOf ∈ TB := tb_m (bk_8 (List.mem_of_getElem? (i := 199) rfl)) rfl
set_option maxRecDepth 8000 in
theorem ml_RX12_407 : Cond.methodLink RX12 407 yX12_closedOf ∈ TB := tb_m (bk_8 (List.mem_of_getElem? (i := 219) rfl)) rfl
set_option maxRecDepth 8000 in
theorem ml_RX12_410 : Cond.methodLink RX12 410 yJ9_abs_0f7a4 ∈ TB := tb_m (bk_8 (List.mem_of_getElem? (i := 239) rfl)) rfl
set_option maxRecDepth 8000 in
theorem ml_RX12_413 : Cond.methodLink RX12 413 yX12_isTreaty ∈ TB := tb_m (bk_8 (List.mem_of_getElem? (i := 235) rfl)) rfl
theorem ml_RX12_416 : Cond.methodLink RX12 416 yX12_spiesBy ∈ TB := tb_m (bk_9 (List.mem_of_getElem? (i := 8) rfl)) rfl
theorem ml_RX12_422 : Cond.methodLink RX12 422 yX12_knowing ∈ TB := tb_m (bk_9 (List.mem_of_getElem? (i := 20) rfl)) rfl
theorem ml_RX12_425 : Cond.methodLink RX12 425 yX12_watchOf ∈ TB := tb_m (bk_9 (List.mem_of_getElem? (i := 16) rfl)) rfl
theorem ml_RX12_428 : Cond.methodLink RX12 428 yX12_ofAsk ∈ TB := tb_m (bk_9 (List.mem_of_getElem? (i := 40) rfl)) rfl
theorem ml_RX12_431 : Cond.methodLink RX12 431 yX12_nextAsk ∈ TB := tb_m (bk_9 (List.mem_of_getElem? (i := 48) rfl)) rfl
theorem ml_RX12_434 : Cond.methodLink RX12 434 yX12_endOf ∈ TB := tb_m (bk_9 (List.mem_of_getElem? (i := 52) rfl)) rfl
theorem ml_RX12_437 : Cond.methodLink RX12 437 yX12_canGrant ∈ TB := tb_m (bk_9 (List.mem_of_getElem? (i := 44) rfl)) rfl
theorem ml_RX12_444 : Cond.methodLink RX12 444 yX12_grantOf ∈ TB := tb_m (bk_9 (List.mem_of_getElem? (i := 36) rfl)) rfl
theorem ml_RX12_448 : Cond.methodLink RX12 448 yX12_change ∈ TB := tb_m (bk_9 (List.mem_of_getElem? (i := 84) rfl)) rfl
theorem ml_RX12_451 : Cond.methodLink RX12 451 yX12_changed ∈ TB := tb_m (bk_9 (List.mem_of_getElem? (i := 80) rfl)) rfl
theorem ml_RX12_464 : Cond.methodLink RX12 464 yX12_isSeed ∈ TB := tb_m (bk_9 (List.mem_of_getElem? (i := 100) rfl)) rfl
theorem ml_RX12_467 : Cond.methodLink RX12 467 yX12_drawnDelays ∈ TB := tb_m (bk_9 (List.mem_of_getElem? (i := 105) rfl)) rfl
set_option maxRecDepth 8000 in
theorem ml_RX12_473 : Cond.methodLink RX12 473 yX12_isSlot ∈ TB := tb_m (bk_9 (List.mem_of_getElem? (i := 126) rfl)) rfl
set_option maxRecDepth 8000 in
theorem ml_RX12_476 : Cond.methodLink RX12 476 yX12_cut ∈ TB := tb_m (bk_9 (List.mem_of_getElem? (i := 133) rfl)) rfl
set_option maxRecDepth 8000 in
theorem ml_RJ0_335 : Cond.methodLink RJ0 335 yJ0_coder_7d493 ∈ TB := tb_m (bk_2 (List.mem_of_getElem? (i := 175) rfl)) rfl
set_option maxRecDepth 8000 in
theorem ml_RJ0_492 : Cond.methodLink RJ0 492 yJ0_isLatin1_aae02 ∈ TB := tb_m (bk_2 (List.mem_of_getElem? (i := 185) rfl)) rfl
set_option maxRecDepth 8000 in
theorem ml_RJ0_495 : Cond.methodLink RJ0 495 yJ1_charAt_3b067 ∈ TB := tb_m (bk_2 (List.mem_of_getElem? (i := 189) rfl)) rfl
set_option maxRecDepth 8000 in
theorem ml_RJ0_1059 : Cond.methodLink RJ0 1059 yJ3_checkIndex_8e157 ∈ TB := tb_m (bk_2 (List.mem_of_getElem? (i := 197) rfl)) rfl
set_option maxRecDepth 8000 in
theorem ml_RJ1_9 : Cond.methodLink RJ1 9 yJ0_checkIndex_df160 ∈ TB := tb_m (bk_2 (List.mem_of_getElem? (i := 192) rfl)) rfl
theorem fl_RX11_10 : Cond.fieldLink RX11 10 RX11 "told" "LWarByHours$War;" ∈ TB := tb_m (bk_2 (List.mem_of_getElem? (i := 72) rfl)) rfl
theorem fl_RX11_16 : Cond.fieldLink RX11 16 RX11 "draft" "LWarByHours$War;" ∈ TB := tb_m (bk_2 (List.mem_of_getElem? (i := 73) rfl)) rfl
theorem fl_RX11_24 : Cond.fieldLink RX11 24 RX11 "reader" "LWarByHours$Reader;" ∈ TB := tb_m (bk_2 (List.mem_of_getElem? (i := 74) rfl)) rfl
theorem fl_RX11_31 : Cond.fieldLink RX11 31 RX11 "course" "LWarByHours$Course;" ∈ TB := tb_m (bk_2 (List.mem_of_getElem? (i := 75) rfl)) rfl
theorem fl_RX11_40 : Cond.fieldLink RX11 40 RX11 "fares" "LWarByHours$Fares;" ∈ TB := tb_m (bk_2 (List.mem_of_getElem? (i := 76) rfl)) rfl
theorem fl_RX11_47 : Cond.fieldLink RX11 47 RX11 "places" "LWarByHours$Places;" ∈ TB := tb_m (bk_2 (List.mem_of_getElem? (i := 77) rfl)) rfl
theorem fl_RX11_54 : Cond.fieldLink RX11 54 RX11 "pacts" "LWarByHours$Peace;" ∈ TB := tb_m (bk_2 (List.mem_of_getElem? (i := 78) rfl)) rfl
theorem fl_RX11_61 : Cond.fieldLink RX11 61 RX11 "suspects" "LWarByHours$Suspects;" ∈ TB := tb_m (bk_2 (List.mem_of_getElem? (i := 79) rfl)) rfl
theorem fl_RX11_68 : Cond.fieldLink RX11 68 RX11 "turns" "LWarByHours$Cannon;" ∈ TB := tb_m (bk_2 (List.mem_of_getElem? (i := 80) rfl)) rfl
theorem fl_RX11_75 : Cond.fieldLink RX11 75 RX11 "slots" "LWarByHours$Slots;" ∈ TB := tb_m (bk_2 (List.mem_of_getElem? (i := 81) rfl)) rfl
set_option maxRecDepth 8000 in
theorem fl_RX11_91 : Cond.fieldLink RX11 91 RX6 "length" "I" ∈ TB := tb_m (bk_1 (List.mem_of_getElem? (i := 146) rfl)) rfl
set_option maxRecDepth 8000 in
theorem fl_RX11_101 : Cond.fieldLink RX11 101 RX6 "fault" "I" ∈ TB := tb_m (bk_1 (List.mem_of_getElem? (i := 147) rfl)) rfl
theorem fl_RX11_110 : Cond.fieldLink RX11 110 RX10 "lines" "I" ∈ TB := tb_m (bk_1 (List.mem_of_getElem? (i := 68) rfl)) rfl
set_option maxRecDepth 8000 in
theorem fl_RX11_113 : Cond.fieldLink RX11 113 RX6 "place" "I" ∈ TB := tb_m (bk_1 (List.mem_of_getElem? (i := 150) rfl)) rfl
theorem fl_RX11_116 : Cond.fieldLink RX11 116 RX10 "trains" "LWarByHours$Table;" ∈ TB := tb_m (bk_1 (List.mem_of_getElem? (i := 92) rfl)) rfl
theorem fl_RX11_137 : Cond.fieldLink RX11 137 RX10 "minutes" "I" ∈ TB := tb_m (bk_1 (List.mem_of_getElem? (i := 74) rfl)) rfl
theorem fl_RX11_143 : Cond.fieldLink RX11 143 RX10 "asks" "LWarByHours$Table;" ∈ TB := tb_m (bk_1 (List.mem_of_getElem? (i := 101) rfl)) rfl
theorem fl_RX11_146 : Cond.fieldLink RX11 146 RX10 "rules" "LWarByHours$Table;" ∈ TB := tb_m (bk_1 (List.mem_of_getElem? (i := 106) rfl)) rfl
theorem fl_RX11_149 : Cond.fieldLink RX11 149 RX10 "spies" "LWarByHours$Table;" ∈ TB := tb_m (bk_1 (List.mem_of_getElem? (i := 109) rfl)) rfl
theorem fl_RX11_222 : Cond.fieldLink RX11 222 RX9 "size" "I" ∈ TB := tb_m (bk_1 (List.mem_of_getElem? (i := 57) rfl)) rfl
theorem fl_RX11_272 : Cond.fieldLink RX11 272 RX5 "value" "I" ∈ TB := tb_m (bk_2 (List.mem_of_getElem? (i := 1) rfl)) rfl
theorem fl_RX11_278 : Cond.fieldLink RX11 278 RX5 "way" "[I" ∈ TB := tb_m (bk_2 (List.mem_of_getElem? (i := 3) rfl)) rfl
theorem fl_RX11_282 : Cond.fieldLink RX11 282 RX5 "countered" "[I" ∈ TB := tb_m (bk_2 (List.mem_of_getElem? (i := 5) rfl)) rfl
theorem fl_RX11_329 : Cond.fieldLink RX11 329 RX10 "rain" "I" ∈ TB := tb_m (bk_1 (List.mem_of_getElem? (i := 87) rfl)) rfl
theorem fl_RX11_361 : Cond.fieldLink RX11 361 RX10 "lateMinute" "I" ∈ TB := tb_m (bk_1 (List.mem_of_getElem? (i := 79) rfl)) rfl
theorem fl_RX11_364 : Cond.fieldLink RX11 364 RX10 "peace" "I" ∈ TB := tb_m (bk_1 (List.mem_of_getElem? (i := 83) rfl)) rfl
theorem fl_RX11_367 : Cond.fieldLink RX11 367 RX10 "teas" "LWarByHours$Table;" ∈ TB := tb_m (bk_1 (List.mem_of_getElem? (i := 98) rfl)) rfl
theorem fl_RX11_370 : Cond.fieldLink RX11 370 RX10 "changes" "LWarByHours$Table;" ∈ TB := tb_m (bk_1 (List.mem_of_getElem? (i := 112) rfl)) rfl
theorem fl_RX0_9 : Cond.fieldLink RX0 9 RX0 "order" "[I" ∈ TB := tb_m (bk_2 (List.mem_of_getElem? (i := 46) rfl)) rfl
theorem fl_RX0_15 : Cond.fieldLink RX0 15 RX0 "war" "LWarByHours$War;" ∈ TB := tb_m (bk_2 (List.mem_of_getElem? (i := 45) rfl)) rfl
theorem fl_RX0_22 : Cond.fieldLink RX0 22 RX10 "asks" "LWarByHours$Table;" ∈ TB := tb_m (bk_1 (List.mem_of_getElem? (i := 100) rfl)) rfl
theorem fl_RX0_28 : Cond.fieldLink RX0 28 RX9 "size" "I" ∈ TB := tb_m (bk_1 (List.mem_of_getElem? (i := 50) rfl)) rfl
theorem fl_RX1_24 : Cond.fieldLink RX1 24 RX10 "trains" "LWarByHours$Table;" ∈ TB := tb_m (bk_1 (List.mem_of_getElem? (i := 91) rfl)) rfl
theorem fl_RX1_30 : Cond.fieldLink RX1 30 RX9 "size" "I" ∈ TB := tb_m (bk_1 (List.mem_of_getElem? (i := 51) rfl)) rfl
theorem fl_RX1_56 : Cond.fieldLink RX1 56 RX10 "rain" "I" ∈ TB := tb_m (bk_1 (List.mem_of_getElem? (i := 85) rfl)) rfl
set_option maxRecDepth 8000 in
theorem fl_RX2_9 : Cond.fieldLink RX2 9 RX2 "fronts" "[I" ∈ TB := tb_m (bk_1 (List.mem_of_getElem? (i := 183) rfl)) rfl
set_option maxRecDepth 8000 in
theorem fl_RX2_15 : Cond.fieldLink RX2 15 RX2 "men" "[I" ∈ TB := tb_m (bk_1 (List.mem_of_getElem? (i := 184) rfl)) rfl
set_option maxRecDepth 8000 in
theorem fl_RX2_18 : Cond.fieldLink RX2 18 RX2 "ends" "[I" ∈ TB := tb_m (bk_1 (List.mem_of_getElem? (i := 185) rfl)) rfl
set_option maxRecDepth 8000 in
theorem fl_RX2_21 : Cond.fieldLink RX2 21 RX2 "winners" "[I" ∈ TB := tb_m (bk_1 (List.mem_of_getElem? (i := 186) rfl)) rfl
set_option maxRecDepth 8000 in
theorem fl_RX2_24 : Cond.fieldLink RX2 24 RX2 "war" "LWarByHours$War;" ∈ TB := tb_m (bk_1 (List.mem_of_getElem? (i := 182) rfl)) rfl
set_option maxRecDepth 8000 in
theorem fl_RX2_28 : Cond.fieldLink RX2 28 RX2 "reckoned" "Z" ∈ TB := tb_m (bk_1 (List.mem_of_getElem? (i := 187) rfl)) rfl
theorem fl_RX2_32 : Cond.fieldLink RX2 32 RX10 "minutes" "I" ∈ TB := tb_m (bk_1 (List.mem_of_getElem? (i := 71) rfl)) rfl
theorem fl_RX2_77 : Cond.fieldLink RX2 77 RX10 "peace" "I" ∈ TB := tb_m (bk_1 (List.mem_of_getElem? (i := 82) rfl)) rfl
theorem fl_RX2_98 : Cond.fieldLink RX2 98 RX10 "trains" "LWarByHours$Table;" ∈ TB := tb_m (bk_1 (List.mem_of_getElem? (i := 95) rfl)) rfl
theorem fl_RX2_102 : Cond.fieldLink RX2 102 RX9 "size" "I" ∈ TB := tb_m (bk_1 (List.mem_of_getElem? (i := 56) rfl)) rfl
theorem fl_RX2_152 : Cond.fieldLink RX2 152 RX10 "lateMinute" "I" ∈ TB := tb_m (bk_1 (List.mem_of_getElem? (i := 78) rfl)) rfl
set_option maxRecDepth 8000 in
theorem fl_RX3_9 : Cond.fieldLink RX3 9 RX3 "prices" "[I" ∈ TB := tb_m (bk_1 (List.mem_of_getElem? (i := 209) rfl)) rfl
set_option maxRecDepth 8000 in
theorem fl_RX3_15 : Cond.fieldLink RX3 15 RX3 "men" "[I" ∈ TB := tb_m (bk_1 (List.mem_of_getElem? (i := 210) rfl)) rfl
set_option maxRecDepth 8000 in
theorem fl_RX3_18 : Cond.fieldLink RX3 18 RX3 "parts" "[J" ∈ TB := tb_m (bk_1 (List.mem_of_getElem? (i := 211) rfl)) rfl
set_option maxRecDepth 8000 in
theorem fl_RX3_22 : Cond.fieldLink RX3 22 RX3 "fits" "[Z" ∈ TB := tb_m (bk_1 (List.mem_of_getElem? (i := 212) rfl)) rfl
set_option maxRecDepth 8000 in
theorem fl_RX3_26 : Cond.fieldLink RX3 26 RX3 "best" "[I" ∈ TB := tb_m (bk_1 (List.mem_of_getElem? (i := 213) rfl)) rfl
set_option maxRecDepth 8000 in
theorem fl_RX3_29 : Cond.fieldLink RX3 29 RX3 "least" "[I" ∈ TB := tb_m (bk_1 (List.mem_of_getElem? (i := 214) rfl)) rfl
set_option maxRecDepth 8000 in
theorem fl_RX3_32 : Cond.fieldLink RX3 32 RX3 "war" "LWarByHours$War;" ∈ TB := tb_m (bk_1 (List.mem_of_getElem? (i := 207) rfl)) rfl
set_option maxRecDepth 8000 in
theorem fl_RX3_36 : Cond.fieldLink RX3 36 RX3 "course" "LWarByHours$Course;" ∈ TB := tb_m (bk_1 (List.mem_of_getElem? (i := 208) rfl)) rfl
theorem fl_RX3_79 : Cond.fieldLink RX3 79 RX10 "trains" "LWarByHours$Table;" ∈ TB := tb_m (bk_1 (List.mem_of_getElem? (i := 93) rfl)) rfl
theorem fl_RX3_83 : Cond.fieldLink RX3 83 RX9 "size" "I" ∈ TB := tb_m (bk_1 (List.mem_of_getElem? (i := 54) rfl)) rfl
theorem fl_RX3_131 : Cond.fieldLink RX3 131 RX10 "lateMinute" "I" ∈ TB := tb_m (bk_1 (List.mem_of_getElem? (i := 77) rfl)) rfl
theorem fl_RX4_9 : Cond.fieldLink RX4 9 RX4 "war" "LWarByHours$War;" ∈ TB := tb_m (bk_2 (List.mem_of_getElem? (i := 25) rfl)) rfl
theorem fl_RX4_23 : Cond.fieldLink RX4 23 RX10 "rules" "LWarByHours$Table;" ∈ TB := tb_m (bk_1 (List.mem_of_getElem? (i := 104) rfl)) rfl
theorem fl_RX4_29 : Cond.fieldLink RX4 29 RX9 "size" "I" ∈ TB := tb_m (bk_1 (List.mem_of_getElem? (i := 52) rfl)) rfl
theorem fl_RX5_9 : Cond.fieldLink RX5 9 RX5 "way" "[I" ∈ TB := tb_m (bk_2 (List.mem_of_getElem? (i := 2) rfl)) rfl
theorem fl_RX5_13 : Cond.fieldLink RX5 13 RX5 "countered" "[I" ∈ TB := tb_m (bk_2 (List.mem_of_getElem? (i := 4) rfl)) rfl
theorem fl_RX5_16 : Cond.fieldLink RX5 16 RX5 "tried" "[I" ∈ TB := tb_m (bk_2 (List.mem_of_getElem? (i := 6) rfl)) rfl
theorem fl_RX5_19 : Cond.fieldLink RX5 19 RX5 "against" "[I" ∈ TB := tb_m (bk_2 (List.mem_of_getElem? (i := 7) rfl)) rfl
theorem fl_RX5_22 : Cond.fieldLink RX5 22 RX5 "value" "I" ∈ TB := tb_m (bk_2 (List.mem_of_getElem? (i := 0) rfl)) rfl
set_option maxRecDepth 8000 in
theorem fl_RX6_9 : Cond.fieldLink RX6 9 RX6 "tape" "[B" ∈ TB := tb_m (bk_1 (List.mem_of_getElem? (i := 144) rfl)) rfl
set_option maxRecDepth 8000 in
theorem fl_RX6_15 : Cond.fieldLink RX6 15 RX6 "place" "I" ∈ TB := tb_m (bk_1 (List.mem_of_getElem? (i := 149) rfl)) rfl
set_option maxRecDepth 8000 in
theorem fl_RX6_19 : Cond.fieldLink RX6 19 RX6 "war" "LWarByHours$War;" ∈ TB := tb_m (bk_1 (List.mem_of_getElem? (i := 151) rfl)) rfl
set_option maxRecDepth 8000 in
theorem fl_RX6_23 : Cond.fieldLink RX6 23 RX6 "length" "I" ∈ TB := tb_m (bk_1 (List.mem_of_getElem? (i := 145) rfl)) rfl
set_option maxRecDepth 8000 in
theorem fl_RX6_31 : Cond.fieldLink RX6 31 RX6 "fault" "I" ∈ TB := tb_m (bk_1 (List.mem_of_getElem? (i := 148) rfl)) rfl
set_option maxRecDepth 8000 in
theorem fl_RX6_34 : Cond.fieldLink RX6 34 RX6 "to" "I" ∈ TB := tb_m (bk_1 (List.mem_of_getElem? (i := 153) rfl)) rfl
set_option maxRecDepth 8000 in
theorem fl_RX6_40 : Cond.fieldLink RX6 40 RX6 "kind" "I" ∈ TB := tb_m (bk_1 (List.mem_of_getElem? (i := 154) rfl)) rfl
theorem fl_RX6_49 : Cond.fieldLink RX6 49 RX10 "lines" "I" ∈ TB := tb_m (bk_1 (List.mem_of_getElem? (i := 70) rfl)) rfl
theorem fl_RX6_71 : Cond.fieldLink RX6 71 RX10 "teas" "LWarByHours$Table;" ∈ TB := tb_m (bk_1 (List.mem_of_getElem? (i := 97) rfl)) rfl
theorem fl_RX6_86 : Cond.fieldLink RX6 86 RX10 "rules" "LWarByHours$Table;" ∈ TB := tb_m (bk_1 (List.mem_of_getElem? (i := 105) rfl)) rfl
theorem fl_RX6_109 : Cond.fieldLink RX6 109 RX10 "minutes" "I" ∈ TB := tb_m (bk_1 (List.mem_of_getElem? (i := 73) rfl)) rfl
theorem fl_RX6_113 : Cond.fieldLink RX6 113 RX10 "lateMinute" "I" ∈ TB := tb_m (bk_1 (List.mem_of_getElem? (i := 76) rfl)) rfl
theorem fl_RX6_118 : Cond.fieldLink RX6 118 RX10 "peace" "I" ∈ TB := tb_m (bk_1 (List.mem_of_getElem? (i := 81) rfl)) rfl
theorem fl_RX6_122 : Cond.fieldLink RX6 122 RX10 "rain" "I" ∈ TB := tb_m (bk_1 (List.mem_of_getElem? (i := 86) rfl)) rfl
theorem fl_RX6_128 : Cond.fieldLink RX6 128 RX10 "trains" "LWarByHours$Table;" ∈ TB := tb_m (bk_1 (List.mem_of_getElem? (i := 94) rfl)) rfl
theorem fl_RX6_149 : Cond.fieldLink RX6 149 RX9 "size" "I" ∈ TB := tb_m (bk_1 (List.mem_of_getElem? (i := 55) rfl)) rfl
theorem fl_RX6_156 : Cond.fieldLink RX6 156 RX10 "asks" "LWarByHours$Table;" ∈ TB := tb_m (bk_1 (List.mem_of_getElem? (i := 102) rfl)) rfl
theorem fl_RX6_167 : Cond.fieldLink RX6 167 RX10 "spies" "LWarByHours$Table;" ∈ TB := tb_m (bk_1 (List.mem_of_getElem? (i := 110) rfl)) rfl
set_option maxRecDepth 8000 in
theorem fl_RX6_183 : Cond.fieldLink RX6 183 RX6 "value" "I" ∈ TB := tb_m (bk_1 (List.mem_of_getElem? (i := 155) rfl)) rfl
set_option maxRecDepth 8000 in
theorem fl_RX6_186 : Cond.fieldLink RX6 186 RX6 "from" "I" ∈ TB := tb_m (bk_1 (List.mem_of_getElem? (i := 152) rfl)) rfl
theorem fl_RX7_11 : Cond.fieldLink RX7 11 RX7 "has" "[Z" ∈ TB := tb_m (bk_2 (List.mem_of_getElem? (i := 58) rfl)) rfl
theorem fl_RX7_15 : Cond.fieldLink RX7 15 RX7 "widths" "[I" ∈ TB := tb_m (bk_2 (List.mem_of_getElem? (i := 59) rfl)) rfl
theorem fl_RX7_19 : Cond.fieldLink RX7 19 RX7 "sizes" "[I" ∈ TB := tb_m (bk_2 (List.mem_of_getElem? (i := 60) rfl)) rfl
theorem fl_RX7_22 : Cond.fieldLink RX7 22 RX7 "numbers" "[J" ∈ TB := tb_m (bk_2 (List.mem_of_getElem? (i := 61) rfl)) rfl
theorem fl_RX8_9 : Cond.fieldLink RX8 9 RX8 "war" "LWarByHours$War;" ∈ TB := tb_m (bk_2 (List.mem_of_getElem? (i := 35) rfl)) rfl
theorem fl_RX8_15 : Cond.fieldLink RX8 15 RX10 "spies" "LWarByHours$Table;" ∈ TB := tb_m (bk_1 (List.mem_of_getElem? (i := 108) rfl)) rfl
theorem fl_RX8_21 : Cond.fieldLink RX8 21 RX9 "size" "I" ∈ TB := tb_m (bk_1 (List.mem_of_getElem? (i := 49) rfl)) rfl
theorem fl_RX8_39 : Cond.fieldLink RX8 39 RX10 "trains" "LWarByHours$Table;" ∈ TB := tb_m (bk_1 (List.mem_of_getElem? (i := 90) rfl)) rfl
theorem fl_RX9_15 : Cond.fieldLink RX9 15 RX9 "room" "I" ∈ TB := tb_m (bk_1 (List.mem_of_getElem? (i := 46) rfl)) rfl
theorem fl_RX9_21 : Cond.fieldLink RX9 21 RX9 "width" "I" ∈ TB := tb_m (bk_1 (List.mem_of_getElem? (i := 45) rfl)) rfl
theorem fl_RX9_24 : Cond.fieldLink RX9 24 RX9 "cells" "[I" ∈ TB := tb_m (bk_1 (List.mem_of_getElem? (i := 47) rfl)) rfl
theorem fl_RX9_28 : Cond.fieldLink RX9 28 RX9 "size" "I" ∈ TB := tb_m (bk_1 (List.mem_of_getElem? (i := 48) rfl)) rfl
theorem fl_RX10_9 : Cond.fieldLink RX10 9 RX10 "need" "[I" ∈ TB := tb_m (bk_1 (List.mem_of_getElem? (i := 88) rfl)) rfl
theorem fl_RX10_20 : Cond.fieldLink RX10 20 RX10 "trains" "LWarByHours$Table;" ∈ TB := tb_m (bk_1 (List.mem_of_getElem? (i := 89) rfl)) rfl
theorem fl_RX10_24 : Cond.fieldLink RX10 24 RX10 "teas" "LWarByHours$Table;" ∈ TB := tb_m (bk_1 (List.mem_of_getElem? (i := 96) rfl)) rfl
theorem fl_RX10_27 : Cond.fieldLink RX10 27 RX10 "asks" "LWarByHours$Table;" ∈ TB := tb_m (bk_1 (List.mem_of_getElem? (i := 99) rfl)) rfl
theorem fl_RX10_30 : Cond.fieldLink RX10 30 RX10 "rules" "LWarByHours$Table;" ∈ TB := tb_m (bk_1 (List.mem_of_getElem? (i := 103) rfl)) rfl
theorem fl_RX10_33 : Cond.fieldLink RX10 33 RX10 "spies" "LWarByHours$Table;" ∈ TB := tb_m (bk_1 (List.mem_of_getElem? (i := 107) rfl)) rfl
theorem fl_RX10_36 : Cond.fieldLink RX10 36 RX10 "changes" "LWarByHours$Table;" ∈ TB := tb_m (bk_1 (List.mem_of_getElem? (i := 111) rfl)) rfl
theorem fl_RX10_39 : Cond.fieldLink RX10 39 RX10 "MOST_TOLD" "[I" ∈ TB := tb_m (bk_6 (List.mem_of_getElem? (i := 5) rfl)) rfl
theorem fl_RX10_42 : Cond.fieldLink RX10 42 RX10 "lines" "I" ∈ TB := tb_m (bk_1 (List.mem_of_getElem? (i := 69) rfl)) rfl
theorem fl_RX10_46 : Cond.fieldLink RX10 46 RX10 "minutes" "I" ∈ TB := tb_m (bk_1 (List.mem_of_getElem? (i := 72) rfl)) rfl
theorem fl_RX10_49 : Cond.fieldLink RX10 49 RX10 "lateMinute" "I" ∈ TB := tb_m (bk_1 (List.mem_of_getElem? (i := 75) rfl)) rfl
theorem fl_RX10_52 : Cond.fieldLink RX10 52 RX10 "peace" "I" ∈ TB := tb_m (bk_1 (List.mem_of_getElem? (i := 80) rfl)) rfl
theorem fl_RX10_55 : Cond.fieldLink RX10 55 RX10 "rain" "I" ∈ TB := tb_m (bk_1 (List.mem_of_getElem? (i := 84) rfl)) rfl
theorem fl_RX10_58 : Cond.fieldLink RX10 58 RX9 "size" "I" ∈ TB := tb_m (bk_1 (List.mem_of_getElem? (i := 53) rfl)) rfl
theorem fl_RX10_116 : Cond.fieldLink RX10 116 RX10 "TOLD_COLUMN" "[I" ∈ TB := tb_m (bk_6 (List.mem_of_getElem? (i := 16) rfl)) rfl
set_option maxRecDepth 8000 in
theorem fl_RX12_9 : Cond.fieldLink RX12 9 RX12 "world" "[I" ∈ TB := tb_m (bk_6 (List.mem_of_getElem? (i := 128) rfl)) rfl
set_option maxRecDepth 8000 in
theorem fl_RX12_13 : Cond.fieldLink RX12 13 RX12 "images" "[I" ∈ TB := tb_m (bk_6 (List.mem_of_getElem? (i := 129) rfl)) rfl
set_option maxRecDepth 8000 in
theorem fl_RX12_16 : Cond.fieldLink RX12 16 RX12 "hasImage" "[Z" ∈ TB := tb_m (bk_6 (List.mem_of_getElem? (i := 130) rfl)) rfl
set_option maxRecDepth 8000 in
theorem fl_RX12_20 : Cond.fieldLink RX12 20 RX12 "tape" "[B" ∈ TB := tb_m (bk_6 (List.mem_of_getElem? (i := 131) rfl)) rfl
set_option maxRecDepth 8000 in
theorem fl_RX12_24 : Cond.fieldLink RX12 24 RX12 "five" "[I" ∈ TB := tb_m (bk_6 (List.mem_of_getElem? (i := 133) rfl)) rfl
set_option maxRecDepth 8000 in
theorem fl_RX12_27 : Cond.fieldLink RX12 27 RX12 "faultPlace" "I" ∈ TB := tb_m (bk_6 (List.mem_of_getElem? (i := 140) rfl)) rfl
set_option maxRecDepth 8000 in
theorem fl_RX12_31 : Cond.fieldLink RX12 31 RX12 "fresh" "[I" ∈ TB := tb_m (bk_6 (List.mem_of_getElem? (i := 141) rfl)) rfl
set_option maxRecDepth 8000 in
theorem fl_RX12_34 : Cond.fieldLink RX12 34 RX12 "front" "[I" ∈ TB := tb_m (bk_6 (List.mem_of_getElem? (i := 142) rfl)) rfl
set_option maxRecDepth 8000 in
theorem fl_RX12_37 : Cond.fieldLink RX12 37 RX12 "winners" "[I" ∈ TB := tb_m (bk_6 (List.mem_of_getElem? (i := 144) rfl)) rfl
set_option maxRecDepth 8000 in
theorem fl_RX12_40 : Cond.fieldLink RX12 40 RX12 "fronts" "[I" ∈ TB := tb_m (bk_6 (List.mem_of_getElem? (i := 148) rfl)) rfl
set_option maxRecDepth 8000 in
theorem fl_RX12_43 : Cond.fieldLink RX12 43 RX12 "put" "[I" ∈ TB := tb_m (bk_6 (List.mem_of_getElem? (i := 150) rfl)) rfl
set_option maxRecDepth 8000 in
theorem fl_RX12_46 : Cond.fieldLink RX12 46 RX12 "firstPut" "[I" ∈ TB := tb_m (bk_6 (List.mem_of_getElem? (i := 151) rfl)) rfl
set_option maxRecDepth 8000 in
theorem fl_RX12_49 : Cond.fieldLink RX12 49 RX12 "firstReply" "[I" ∈ TB := tb_m (bk_6 (List.mem_of_getElem? (i := 152) rfl)) rfl
set_option maxRecDepth 8000 in
theorem fl_RX12_52 : Cond.fieldLink RX12 52 RX12 "many" "[I" ∈ TB := tb_m (bk_6 (List.mem_of_getElem? (i := 155) rfl)) rfl
set_option maxRecDepth 8000 in
theorem fl_RX12_55 : Cond.fieldLink RX12 55 RX12 "width" "[I" ∈ TB := tb_m (bk_6 (List.mem_of_getElem? (i := 156) rfl)) rfl
set_option maxRecDepth 8000 in
theorem fl_RX12_58 : Cond.fieldLink RX12 58 RX12 "numbers" "[J" ∈ TB := tb_m (bk_6 (List.mem_of_getElem? (i := 157) rfl)) rfl
set_option maxRecDepth 8000 in
theorem fl_RX12_62 : Cond.fieldLink RX12 62 RX12 "moving" "[J" ∈ TB := tb_m (bk_6 (List.mem_of_getElem? (i := 158) rfl)) rfl
set_option maxRecDepth 8000 in
theorem fl_RX12_89 : Cond.fieldLink RX12 89 RX12 "taped" "I" ∈ TB := tb_m (bk_6 (List.mem_of_getElem? (i := 132) rfl)) rfl
set_option maxRecDepth 8000 in
theorem fl_RX12_92 : Cond.fieldLink RX12 92 RX12 "size" "I" ∈ TB := tb_m (bk_6 (List.mem_of_getElem? (i := 134) rfl)) rfl
set_option maxRecDepth 8000 in
theorem fl_RX12_95 : Cond.fieldLink RX12 95 RX12 "at" "I" ∈ TB := tb_m (bk_6 (List.mem_of_getElem? (i := 135) rfl)) rfl
set_option maxRecDepth 8000 in
theorem fl_RX12_102 : Cond.fieldLink RX12 102 RX12 "from" "I" ∈ TB := tb_m (bk_6 (List.mem_of_getElem? (i := 136) rfl)) rfl
set_option maxRecDepth 8000 in
theorem fl_RX12_105 : Cond.fieldLink RX12 105 RX12 "token" "I" ∈ TB := tb_m (bk_6 (List.mem_of_getElem? (i := 137) rfl)) rfl
set_option maxRecDepth 8000 in
theorem fl_RX12_116 : Cond.fieldLink RX12 116 RX12 "value" "I" ∈ TB := tb_m (bk_6 (List.mem_of_getElem? (i := 138) rfl)) rfl
set_option maxRecDepth 8000 in
theorem fl_RX12_125 : Cond.fieldLink RX12 125 RX12 "faultKind" "I" ∈ TB := tb_m (bk_6 (List.mem_of_getElem? (i := 139) rfl)) rfl
set_option maxRecDepth 8000 in
theorem fl_RX12_277 : Cond.fieldLink RX12 277 RX12 "worstSet" "I" ∈ TB := tb_m (bk_6 (List.mem_of_getElem? (i := 143) rfl)) rfl
set_option maxRecDepth 8000 in
theorem fl_RX12_308 : Cond.fieldLink RX12 308 RX12 "leastSet" "I" ∈ TB := tb_m (bk_6 (List.mem_of_getElem? (i := 146) rfl)) rfl
set_option maxRecDepth 8000 in
theorem fl_RX12_311 : Cond.fieldLink RX12 311 RX12 "leastPrice" "I" ∈ TB := tb_m (bk_6 (List.mem_of_getElem? (i := 145) rfl)) rfl
set_option maxRecDepth 8000 in
theorem fl_RX12_348 : Cond.fieldLink RX12 348 RX12 "guardPrice" "I" ∈ TB := tb_m (bk_6 (List.mem_of_getElem? (i := 147) rfl)) rfl
set_option maxRecDepth 8000 in
theorem fl_RX12_363 : Cond.fieldLink RX12 363 RX12 "spoiltSet" "I" ∈ TB := tb_m (bk_6 (List.mem_of_getElem? (i := 149) rfl)) rfl
set_option maxRecDepth 8000 in
theorem fl_RX12_419 : Cond.fieldLink RX12 419 RX12 "watchWorst" "I" ∈ TB := tb_m (bk_6 (List.mem_of_getElem? (i := 153) rfl)) rfl
set_option maxRecDepth 8000 in
theorem fl_RX12_441 : Cond.fieldLink RX12 441 RX12 "grantSet" "I" ∈ TB := tb_m (bk_6 (List.mem_of_getElem? (i := 154) rfl)) rfl
set_option maxRecDepth 8000 in
theorem fl_RJ0_9 : Cond.fieldLink RJ0 9 RJ0 "value" "[B" ∈ TB := tb_m (bk_9 (List.mem_of_getElem? (i := 141) rfl)) rfl
set_option maxRecDepth 8000 in
theorem fl_RJ0_15 : Cond.fieldLink RJ0 15 RJ0 "coder" "B" ∈ TB := tb_m (bk_9 (List.mem_of_getElem? (i := 142) rfl)) rfl
set_option maxRecDepth 8000 in
theorem fl_RJ0_38 : Cond.fieldLink RJ0 38 RJ0 "COMPACT_STRINGS" "Z" ∈ TB := tb_m (bk_2 (List.mem_of_getElem? (i := 179) rfl)) rfl
set_option maxRecDepth 8000 in
theorem fl_RJ0_1053 : Cond.fieldLink RJ0 1053 RJ3 "SIOOBE_FORMATTER" "Ljava/util/function/BiFunction;" ∈ TB := tb_m (bk_2 (List.mem_of_getElem? (i := 195) rfl)) rfl
theorem inT_X11 : ∀ w ∈ u_ws RX11 TX11 11, w ∈ TB := tb_in [437, 439, 441, 443, 445, 447, 449, 451, 453, 455, 457] (by decide +kernel) (by decide +kernel)
theorem cel_0 {cy : Nat → ClassId} {ad : Nat → Nat} {σ : St} : cel cy ad σ 0 = .inr (10, [.ref (ad 1), .ref (ad 15), .ref (ad 29), .ref (ad 31), .ref (ad 36), .ref (ad 43), .ref (ad 48), .ref (ad 49), .ref (ad 50), .ref (ad 52), .ref (ad 57)]) := rfl
theorem inT_X0 : ∀ w ∈ u_ws RX0 TX0 2, w ∈ TB := tb_in [401, 403] (by decide +kernel) (by decide +kernel)
theorem cel_50 {cy : Nat → ClassId} {ad : Nat → Nat} {σ : St} : cel cy ad σ 50 = .inr (0, [.ref (ad 1), .ref (ad 51)]) := rfl
theorem inT_X2 : ∀ w ∈ u_ws RX2 TX2 6, w ∈ TB := tb_in [302, 304, 306, 308, 310, 312] (by decide +kernel) (by decide +kernel)
theorem cel_31 {cy : Nat → ClassId} {ad : Nat → Nat} {σ : St} : cel cy ad σ 31 = .inr (1, [.ref (ad 1), .ref (ad 32), .ref (ad 33), .ref (ad 34), .ref (ad 35), .int (gf σ 31 5)]) := rfl
theorem inT_X3 : ∀ w ∈ u_ws RX3 TX3 8, w ∈ TB := tb_in [329, 331, 333, 335, 337, 339, 341, 343] (by decide +kernel) (by decide +kernel)
theorem cel_36 {cy : Nat → ClassId} {ad : Nat → Nat} {σ : St} : cel cy ad σ 36 = .inr (2, [.ref (ad 1), .ref (ad 31), .ref (ad 37), .ref (ad 38), .ref (ad 39), .ref (ad 40), .ref (ad 41), .ref (ad 42)]) := rfl
theorem inT_X4 : ∀ w ∈ u_ws RX4 TX4 1, w ∈ TB := tb_in [380] (by decide +kernel) (by decide +kernel)
theorem cel_48 {cy : Nat → ClassId} {ad : Nat → Nat} {σ : St} : cel cy ad σ 48 = .inr (3, [.ref (ad 1)]) := rfl
theorem inT_X5 : ∀ w ∈ u_ws RX5 TX5 5, w ∈ TB := tb_in [362, 364, 366, 368, 370] (by decide +kernel) (by decide +kernel)
theorem cel_43 {cy : Nat → ClassId} {ad : Nat → Nat} {σ : St} : cel cy ad σ 43 = .inr (4, [.int (gf σ 43 0), .ref (ad 44), .ref (ad 45), .ref (ad 46), .ref (ad 47)]) := rfl
theorem inT_X6 : ∀ w ∈ u_ws RX6 TX6 9, w ∈ TB := tb_in [270, 272, 274, 276, 278, 280, 282, 284, 286] (by decide +kernel) (by decide +kernel)
theorem cel_29 {cy : Nat → ClassId} {ad : Nat → Nat} {σ : St} : cel cy ad σ 29 = .inr (5, [.ref (ad 30), .int (gf σ 29 1), .int (gf σ 29 2), .int (gf σ 29 3), .ref (ad 15), .int (gf σ 29 5), .int (gf σ 29 6), .int (gf σ 29 7), .int (gf σ 29 8)]) := rfl
theorem inT_X7 : ∀ w ∈ u_ws RX7 TX7 4, w ∈ TB := tb_in [416, 418, 420, 422] (by decide +kernel) (by decide +kernel)
theorem cel_52 {cy : Nat → ClassId} {ad : Nat → Nat} {σ : St} : cel cy ad σ 52 = .inr (6, [.ref (ad 53), .ref (ad 54), .ref (ad 55), .ref (ad 56)]) := rfl
theorem inT_X8 : ∀ w ∈ u_ws RX8 TX8 1, w ∈ TB := tb_in [390] (by decide +kernel) (by decide +kernel)
theorem cel_49 {cy : Nat → ClassId} {ad : Nat → Nat} {σ : St} : cel cy ad σ 49 = .inr (7, [.ref (ad 1)]) := rfl
theorem inT_X9 : ∀ w ∈ u_ws RX9 TX9 4, w ∈ TB := tb_in [172, 174, 176, 178] (by decide +kernel) (by decide +kernel)
theorem inT_X10 : ∀ w ∈ u_ws RX10 TX10 12, w ∈ TB := tb_in [227, 229, 231, 233, 235, 237, 239, 241, 243, 245, 247, 249] (by decide +kernel) (by decide +kernel)
theorem inT_X12 : ∀ w ∈ u_ws RX12 TX12 32, w ∈ TB := tb_in [1473, 1475, 1477, 1479, 1481, 1483, 1485, 1487, 1489, 1491, 1493, 1495, 1497, 1499, 1501, 1503, 1505, 1507, 1509, 1511, 1513, 1515, 1517, 1519, 1521, 1523, 1525, 1527, 1529, 1531, 1533, 1535] (by decide +kernel) (by decide +kernel)
theorem cel_58 {cy : Nat → ClassId} {ad : Nat → Nat} {σ : St} : cel cy ad σ 58 = .inr (11, [.int (gf σ 58 0), .ref (ad 59), .ref (ad 60), .ref (ad 61), .ref (ad 62), .int (gf σ 58 5), .ref (ad 63), .int (gf σ 58 7), .int (gf σ 58 8), .int (gf σ 58 9), .int (gf σ 58 10), .int (gf σ 58 11), .int (gf σ 58 12), .int (gf σ 58 13), .ref (ad 64), .ref (ad 65), .int (gf σ 58 16), .ref (ad 66), .int (gf σ 58 18), .int (gf σ 58 19), .int (gf σ 58 20), .ref (ad 67), .int (gf σ 58 22), .ref (ad 68), .ref (ad 69), .ref (ad 70), .int (gf σ 58 26), .int (gf σ 58 27), .ref (ad 71), .ref (ad 72), .ref (ad 73), .ref (ad 74)]) := rfl
theorem gf_RX11_10 {Γ : CX} {cc : ByteArray} {nL : Nat} {ret : Option FieldType} {rm : Room} {σ : St} {pc pc' : Nat} {lv : List (Nat × Value)} {st : List Value} (hd : decode cc pc = .ok (.getfield 10, 3)) (hp : pc + 3 = pc') (h : WW Γ cc nL RX11 ret rm σ pc' lv (.ref (xd Γ 1) :: st)) : WW Γ cc nL RX11 ret rm σ pc lv (.ref (xd Γ 0) :: st) :=
  w_get (k := 0) (C := RX11) (T := TX11) (N := 11) (lt_lit (by decide)) cel_0 rfl (by decide) rfl inT_X11 fl_RX11_10 rfl hd hp h
theorem gf_RX11_16 {Γ : CX} {cc : ByteArray} {nL : Nat} {ret : Option FieldType} {rm : Room} {σ : St} {pc pc' : Nat} {lv : List (Nat × Value)} {st : List Value} (hd : decode cc pc = .ok (.getfield 16, 3)) (hp : pc + 3 = pc') (h : WW Γ cc nL RX11 ret rm σ pc' lv (.ref (xd Γ 15) :: st)) : WW Γ cc nL RX11 ret rm σ pc lv (.ref (xd Γ 0) :: st) :=
  w_get (k := 1) (C := RX11) (T := TX11) (N := 11) (lt_lit (by decide)) cel_0 rfl (by decide) rfl inT_X11 fl_RX11_16 rfl hd hp h
theorem gf_RX11_24 {Γ : CX} {cc : ByteArray} {nL : Nat} {ret : Option FieldType} {rm : Room} {σ : St} {pc pc' : Nat} {lv : List (Nat × Value)} {st : List Value} (hd : decode cc pc = .ok (.getfield 24, 3)) (hp : pc + 3 = pc') (h : WW Γ cc nL RX11 ret rm σ pc' lv (.ref (xd Γ 29) :: st)) : WW Γ cc nL RX11 ret rm σ pc lv (.ref (xd Γ 0) :: st) :=
  w_get (k := 2) (C := RX11) (T := TX11) (N := 11) (lt_lit (by decide)) cel_0 rfl (by decide) rfl inT_X11 fl_RX11_24 rfl hd hp h
theorem gf_RX11_31 {Γ : CX} {cc : ByteArray} {nL : Nat} {ret : Option FieldType} {rm : Room} {σ : St} {pc pc' : Nat} {lv : List (Nat × Value)} {st : List Value} (hd : decode cc pc = .ok (.getfield 31, 3)) (hp : pc + 3 = pc') (h : WW Γ cc nL RX11 ret rm σ pc' lv (.ref (xd Γ 31) :: st)) : WW Γ cc nL RX11 ret rm σ pc lv (.ref (xd Γ 0) :: st) :=
  w_get (k := 3) (C := RX11) (T := TX11) (N := 11) (lt_lit (by decide)) cel_0 rfl (by decide) rfl inT_X11 fl_RX11_31 rfl hd hp h
theorem gf_RX11_40 {Γ : CX} {cc : ByteArray} {nL : Nat} {ret : Option FieldType} {rm : Room} {σ : St} {pc pc' : Nat} {lv : List (Nat × Value)} {st : List Value} (hd : decode cc pc = .ok (.getfield 40, 3)) (hp : pc + 3 = pc') (h : WW Γ cc nL RX11 ret rm σ pc' lv (.ref (xd Γ 36) :: st)) : WW Γ cc nL RX11 ret rm σ pc lv (.ref (xd Γ 0) :: st) :=
  w_get (k := 4) (C := RX11) (T := TX11) (N := 11) (lt_lit (by decide)) cel_0 rfl (by decide) rfl inT_X11 fl_RX11_40 rfl hd hp h
theorem gf_RX11_47 {Γ : CX} {cc : ByteArray} {nL : Nat} {ret : Option FieldType} {rm : Room} {σ : St} {pc pc' : Nat} {lv : List (Nat × Value)} {st : List Value} (hd : decode cc pc = .ok (.getfield 47, 3)) (hp : pc + 3 = pc') (h : WW Γ cc nL RX11 ret rm σ pc' lv (.ref (xd Γ 43) :: st)) : WW Γ cc nL RX11 ret rm σ pc lv (.ref (xd Γ 0) :: st) :=
  w_get (k := 5) (C := RX11) (T := TX11) (N := 11) (lt_lit (by decide)) cel_0 rfl (by decide) rfl inT_X11 fl_RX11_47 rfl hd hp h
theorem gf_RX11_54 {Γ : CX} {cc : ByteArray} {nL : Nat} {ret : Option FieldType} {rm : Room} {σ : St} {pc pc' : Nat} {lv : List (Nat × Value)} {st : List Value} (hd : decode cc pc = .ok (.getfield 54, 3)) (hp : pc + 3 = pc') (h : WW Γ cc nL RX11 ret rm σ pc' lv (.ref (xd Γ 48) :: st)) : WW Γ cc nL RX11 ret rm σ pc lv (.ref (xd Γ 0) :: st) :=
  w_get (k := 6) (C := RX11) (T := TX11) (N := 11) (lt_lit (by decide)) cel_0 rfl (by decide) rfl inT_X11 fl_RX11_54 rfl hd hp h
theorem gf_RX11_61 {Γ : CX} {cc : ByteArray} {nL : Nat} {ret : Option FieldType} {rm : Room} {σ : St} {pc pc' : Nat} {lv : List (Nat × Value)} {st : List Value} (hd : decode cc pc = .ok (.getfield 61, 3)) (hp : pc + 3 = pc') (h : WW Γ cc nL RX11 ret rm σ pc' lv (.ref (xd Γ 49) :: st)) : WW Γ cc nL RX11 ret rm σ pc lv (.ref (xd Γ 0) :: st) :=
  w_get (k := 7) (C := RX11) (T := TX11) (N := 11) (lt_lit (by decide)) cel_0 rfl (by decide) rfl inT_X11 fl_RX11_61 rfl hd hp h
theorem gf_RX11_68 {Γ : CX} {cc : ByteArray} {nL : Nat} {ret : Option FieldType} {rm : Room} {σ : St} {pc pc' : Nat} {lv : List (Nat × Value)} {st : List Value} (hd : decode cc pc = .ok (.getfield 68, 3)) (hp : pc + 3 = pc') (h : WW Γ cc nL RX11 ret rm σ pc' lv (.ref (xd Γ 50) :: st)) : WW Γ cc nL RX11 ret rm σ pc lv (.ref (xd Γ 0) :: st) :=
  w_get (k := 8) (C := RX11) (T := TX11) (N := 11) (lt_lit (by decide)) cel_0 rfl (by decide) rfl inT_X11 fl_RX11_68 rfl hd hp h
theorem gf_RX11_75 {Γ : CX} {cc : ByteArray} {nL : Nat} {ret : Option FieldType} {rm : Room} {σ : St} {pc pc' : Nat} {lv : List (Nat × Value)} {st : List Value} (hd : decode cc pc = .ok (.getfield 75, 3)) (hp : pc + 3 = pc') (h : WW Γ cc nL RX11 ret rm σ pc' lv (.ref (xd Γ 52) :: st)) : WW Γ cc nL RX11 ret rm σ pc lv (.ref (xd Γ 0) :: st) :=
  w_get (k := 9) (C := RX11) (T := TX11) (N := 11) (lt_lit (by decide)) cel_0 rfl (by decide) rfl inT_X11 fl_RX11_75 rfl hd hp h
theorem gf_RX11_91 {Γ : CX} {cc : ByteArray} {nL : Nat} {ret : Option FieldType} {rm : Room} {σ : St} {pc pc' : Nat} {lv : List (Nat × Value)} {st : List Value} (hd : decode cc pc = .ok (.getfield 91, 3)) (hp : pc + 3 = pc') (h : WW Γ cc nL RX11 ret rm σ pc' lv (.int (gf σ 29 1) :: st)) : WW Γ cc nL RX11 ret rm σ pc lv (.ref (xd Γ 29) :: st) :=
  w_get (k := 1) (C := RX6) (T := TX6) (N := 9) (lt_lit (by decide)) cel_29 rfl (by decide) rfl inT_X6 fl_RX11_91 rfl hd hp h
theorem gf_RX11_101 {Γ : CX} {cc : ByteArray} {nL : Nat} {ret : Option FieldType} {rm : Room} {σ : St} {pc pc' : Nat} {lv : List (Nat × Value)} {st : List Value} (hd : decode cc pc = .ok (.getfield 101, 3)) (hp : pc + 3 = pc') (h : WW Γ cc nL RX11 ret rm σ pc' lv (.int (gf σ 29 2) :: st)) : WW Γ cc nL RX11 ret rm σ pc lv (.ref (xd Γ 29) :: st) :=
  w_get (k := 2) (C := RX6) (T := TX6) (N := 9) (lt_lit (by decide)) cel_29 rfl (by decide) rfl inT_X6 fl_RX11_101 rfl hd hp h
theorem gf_RX11_110 {Γ : CX} {cc : ByteArray} {nL : Nat} {ret : Option FieldType} {rm : Room} {σ : St} {pc pc' : Nat} {lv : List (Nat × Value)} {st : List Value} {i : Nat} (hT : isW σ i = true) (hd : decode cc pc = .ok (.getfield 110, 3)) (hp : pc + 3 = pc') (h : WW Γ cc nL RX11 ret rm σ pc' lv (.int (gf σ i 0) :: st)) : WW Γ cc nL RX11 ret rm σ pc lv (.ref (xd Γ i) :: st) :=
  w_get (k := 0) (C := RX10) (T := TX10) (N := 12) (isW_lt hT 0 (by decide)) (cel_W hT) rfl (by decide) rfl inT_X10 fl_RX11_110 rfl hd hp h
theorem gf_RX11_113 {Γ : CX} {cc : ByteArray} {nL : Nat} {ret : Option FieldType} {rm : Room} {σ : St} {pc pc' : Nat} {lv : List (Nat × Value)} {st : List Value} (hd : decode cc pc = .ok (.getfield 113, 3)) (hp : pc + 3 = pc') (h : WW Γ cc nL RX11 ret rm σ pc' lv (.int (gf σ 29 3) :: st)) : WW Γ cc nL RX11 ret rm σ pc lv (.ref (xd Γ 29) :: st) :=
  w_get (k := 3) (C := RX6) (T := TX6) (N := 9) (lt_lit (by decide)) cel_29 rfl (by decide) rfl inT_X6 fl_RX11_113 rfl hd hp h
theorem gf_RX11_116 {Γ : CX} {cc : ByteArray} {nL : Nat} {ret : Option FieldType} {rm : Room} {σ : St} {pc pc' : Nat} {lv : List (Nat × Value)} {st : List Value} {i : Nat} (hT : isW σ i = true) (hd : decode cc pc = .ok (.getfield 116, 3)) (hp : pc + 3 = pc') (h : WW Γ cc nL RX11 ret rm σ pc' lv (.ref (xd Γ (i + 2)) :: st)) : WW Γ cc nL RX11 ret rm σ pc lv (.ref (xd Γ i) :: st) :=
  w_get (k := 6) (C := RX10) (T := TX10) (N := 12) (isW_lt hT 0 (by decide)) (cel_W hT) rfl (by decide) rfl inT_X10 fl_RX11_116 rfl hd hp h
theorem gf_RX11_137 {Γ : CX} {cc : ByteArray} {nL : Nat} {ret : Option FieldType} {rm : Room} {σ : St} {pc pc' : Nat} {lv : List (Nat × Value)} {st : List Value} {i : Nat} (hT : isW σ i = true) (hd : decode cc pc = .ok (.getfield 137, 3)) (hp : pc + 3 = pc') (h : WW Γ cc nL RX11 ret rm σ pc' lv (.int (gf σ i 1) :: st)) : WW Γ cc nL RX11 ret rm σ pc lv (.ref (xd Γ i) :: st) :=
  w_get (k := 1) (C := RX10) (T := TX10) (N := 12) (isW_lt hT 0 (by decide)) (cel_W hT) rfl (by decide) rfl inT_X10 fl_RX11_137 rfl hd hp h
theorem gf_RX11_143 {Γ : CX} {cc : ByteArray} {nL : Nat} {ret : Option FieldType} {rm : Room} {σ : St} {pc pc' : Nat} {lv : List (Nat × Value)} {st : List Value} {i : Nat} (hT : isW σ i = true) (hd : decode cc pc = .ok (.getfield 143, 3)) (hp : pc + 3 = pc') (h : WW Γ cc nL RX11 ret rm σ pc' lv (.ref (xd Γ (i + 6)) :: st)) : WW Γ cc nL RX11 ret rm σ pc lv (.ref (xd Γ i) :: st) :=
  w_get (k := 8) (C := RX10) (T := TX10) (N := 12) (isW_lt hT 0 (by decide)) (cel_W hT) rfl (by decide) rfl inT_X10 fl_RX11_143 rfl hd hp h
theorem gf_RX11_146 {Γ : CX} {cc : ByteArray} {nL : Nat} {ret : Option FieldType} {rm : Room} {σ : St} {pc pc' : Nat} {lv : List (Nat × Value)} {st : List Value} {i : Nat} (hT : isW σ i = true) (hd : decode cc pc = .ok (.getfield 146, 3)) (hp : pc + 3 = pc') (h : WW Γ cc nL RX11 ret rm σ pc' lv (.ref (xd Γ (i + 8)) :: st)) : WW Γ cc nL RX11 ret rm σ pc lv (.ref (xd Γ i) :: st) :=
  w_get (k := 9) (C := RX10) (T := TX10) (N := 12) (isW_lt hT 0 (by decide)) (cel_W hT) rfl (by decide) rfl inT_X10 fl_RX11_146 rfl hd hp h
theorem gf_RX11_149 {Γ : CX} {cc : ByteArray} {nL : Nat} {ret : Option FieldType} {rm : Room} {σ : St} {pc pc' : Nat} {lv : List (Nat × Value)} {st : List Value} {i : Nat} (hT : isW σ i = true) (hd : decode cc pc = .ok (.getfield 149, 3)) (hp : pc + 3 = pc') (h : WW Γ cc nL RX11 ret rm σ pc' lv (.ref (xd Γ (i + 10)) :: st)) : WW Γ cc nL RX11 ret rm σ pc lv (.ref (xd Γ i) :: st) :=
  w_get (k := 10) (C := RX10) (T := TX10) (N := 12) (isW_lt hT 0 (by decide)) (cel_W hT) rfl (by decide) rfl inT_X10 fl_RX11_149 rfl hd hp h
theorem gf_RX11_222 {Γ : CX} {cc : ByteArray} {nL : Nat} {ret : Option FieldType} {rm : Room} {σ : St} {pc pc' : Nat} {lv : List (Nat × Value)} {st : List Value} {i : Nat} (hT : isT σ i = true) (hd : decode cc pc = .ok (.getfield 222, 3)) (hp : pc + 3 = pc') (h : WW Γ cc nL RX11 ret rm σ pc' lv (.int (gf σ i 3) :: st)) : WW Γ cc nL RX11 ret rm σ pc lv (.ref (xd Γ i) :: st) :=
  w_get (k := 3) (C := RX9) (T := TX9) (N := 4) (isT_lt0 hT) (cel_T hT) rfl (by decide) rfl inT_X9 fl_RX11_222 rfl hd hp h
theorem gf_RX11_272 {Γ : CX} {cc : ByteArray} {nL : Nat} {ret : Option FieldType} {rm : Room} {σ : St} {pc pc' : Nat} {lv : List (Nat × Value)} {st : List Value} (hd : decode cc pc = .ok (.getfield 272, 3)) (hp : pc + 3 = pc') (h : WW Γ cc nL RX11 ret rm σ pc' lv (.int (gf σ 43 0) :: st)) : WW Γ cc nL RX11 ret rm σ pc lv (.ref (xd Γ 43) :: st) :=
  w_get (k := 0) (C := RX5) (T := TX5) (N := 5) (lt_lit (by decide)) cel_43 rfl (by decide) rfl inT_X5 fl_RX11_272 rfl hd hp h
theorem gf_RX11_278 {Γ : CX} {cc : ByteArray} {nL : Nat} {ret : Option FieldType} {rm : Room} {σ : St} {pc pc' : Nat} {lv : List (Nat × Value)} {st : List Value} (hd : decode cc pc = .ok (.getfield 278, 3)) (hp : pc + 3 = pc') (h : WW Γ cc nL RX11 ret rm σ pc' lv (.ref (xd Γ 44) :: st)) : WW Γ cc nL RX11 ret rm σ pc lv (.ref (xd Γ 43) :: st) :=
  w_get (k := 1) (C := RX5) (T := TX5) (N := 5) (lt_lit (by decide)) cel_43 rfl (by decide) rfl inT_X5 fl_RX11_278 rfl hd hp h
theorem gf_RX11_282 {Γ : CX} {cc : ByteArray} {nL : Nat} {ret : Option FieldType} {rm : Room} {σ : St} {pc pc' : Nat} {lv : List (Nat × Value)} {st : List Value} (hd : decode cc pc = .ok (.getfield 282, 3)) (hp : pc + 3 = pc') (h : WW Γ cc nL RX11 ret rm σ pc' lv (.ref (xd Γ 45) :: st)) : WW Γ cc nL RX11 ret rm σ pc lv (.ref (xd Γ 43) :: st) :=
  w_get (k := 2) (C := RX5) (T := TX5) (N := 5) (lt_lit (by decide)) cel_43 rfl (by decide) rfl inT_X5 fl_RX11_282 rfl hd hp h
theorem gf_RX11_329 {Γ : CX} {cc : ByteArray} {nL : Nat} {ret : Option FieldType} {rm : Room} {σ : St} {pc pc' : Nat} {lv : List (Nat × Value)} {st : List Value} {i : Nat} (hT : isW σ i = true) (hd : decode cc pc = .ok (.getfield 329, 3)) (hp : pc + 3 = pc') (h : WW Γ cc nL RX11 ret rm σ pc' lv (.int (gf σ i 4) :: st)) : WW Γ cc nL RX11 ret rm σ pc lv (.ref (xd Γ i) :: st) :=
  w_get (k := 4) (C := RX10) (T := TX10) (N := 12) (isW_lt hT 0 (by decide)) (cel_W hT) rfl (by decide) rfl inT_X10 fl_RX11_329 rfl hd hp h
theorem gf_RX11_361 {Γ : CX} {cc : ByteArray} {nL : Nat} {ret : Option FieldType} {rm : Room} {σ : St} {pc pc' : Nat} {lv : List (Nat × Value)} {st : List Value} {i : Nat} (hT : isW σ i = true) (hd : decode cc pc = .ok (.getfield 361, 3)) (hp : pc + 3 = pc') (h : WW Γ cc nL RX11 ret rm σ pc' lv (.int (gf σ i 2) :: st)) : WW Γ cc nL RX11 ret rm σ pc lv (.ref (xd Γ i) :: st) :=
  w_get (k := 2) (C := RX10) (T := TX10) (N := 12) (isW_lt hT 0 (by decide)) (cel_W hT) rfl (by decide) rfl inT_X10 fl_RX11_361 rfl hd hp h
theorem gf_RX11_364 {Γ : CX} {cc : ByteArray} {nL : Nat} {ret : Option FieldType} {rm : Room} {σ : St} {pc pc' : Nat} {lv : List (Nat × Value)} {st : List Value} {i : Nat} (hT : isW σ i = true) (hd : decode cc pc = .ok (.getfield 364, 3)) (hp : pc + 3 = pc') (h : WW Γ cc nL RX11 ret rm σ pc' lv (.int (gf σ i 3) :: st)) : WW Γ cc nL RX11 ret rm σ pc lv (.ref (xd Γ i) :: st) :=
  w_get (k := 3) (C := RX10) (T := TX10) (N := 12) (isW_lt hT 0 (by decide)) (cel_W hT) rfl (by decide) rfl inT_X10 fl_RX11_364 rfl hd hp h
theorem gf_RX11_367 {Γ : CX} {cc : ByteArray} {nL : Nat} {ret : Option FieldType} {rm : Room} {σ : St} {pc pc' : Nat} {lv : List (Nat × Value)} {st : List Value} {i : Nat} (hT : isW σ i = true) (hd : decode cc pc = .ok (.getfield 367, 3)) (hp : pc + 3 = pc') (h : WW Γ cc nL RX11 ret rm σ pc' lv (.ref (xd Γ (i + 4)) :: st)) : WW Γ cc nL RX11 ret rm σ pc lv (.ref (xd Γ i) :: st) :=
  w_get (k := 7) (C := RX10) (T := TX10) (N := 12) (isW_lt hT 0 (by decide)) (cel_W hT) rfl (by decide) rfl inT_X10 fl_RX11_367 rfl hd hp h
theorem gf_RX11_370 {Γ : CX} {cc : ByteArray} {nL : Nat} {ret : Option FieldType} {rm : Room} {σ : St} {pc pc' : Nat} {lv : List (Nat × Value)} {st : List Value} {i : Nat} (hT : isW σ i = true) (hd : decode cc pc = .ok (.getfield 370, 3)) (hp : pc + 3 = pc') (h : WW Γ cc nL RX11 ret rm σ pc' lv (.ref (xd Γ (i + 12)) :: st)) : WW Γ cc nL RX11 ret rm σ pc lv (.ref (xd Γ i) :: st) :=
  w_get (k := 11) (C := RX10) (T := TX10) (N := 12) (isW_lt hT 0 (by decide)) (cel_W hT) rfl (by decide) rfl inT_X10 fl_RX11_370 rfl hd hp h
theorem gf_RX0_9 {Γ : CX} {cc : ByteArray} {nL : Nat} {ret : Option FieldType} {rm : Room} {σ : St} {pc pc' : Nat} {lv : List (Nat × Value)} {st : List Value} (hd : decode cc pc = .ok (.getfield 9, 3)) (hp : pc + 3 = pc') (h : WW Γ cc nL RX0 ret rm σ pc' lv (.ref (xd Γ 51) :: st)) : WW Γ cc nL RX0 ret rm σ pc lv (.ref (xd Γ 50) :: st) :=
  w_get (k := 1) (C := RX0) (T := TX0) (N := 2) (lt_lit (by decide)) cel_50 rfl (by decide) rfl inT_X0 fl_RX0_9 rfl hd hp h
theorem gf_RX0_15 {Γ : CX} {cc : ByteArray} {nL : Nat} {ret : Option FieldType} {rm : Room} {σ : St} {pc pc' : Nat} {lv : List (Nat × Value)} {st : List Value} (hd : decode cc pc = .ok (.getfield 15, 3)) (hp : pc + 3 = pc') (h : WW Γ cc nL RX0 ret rm σ pc' lv (.ref (xd Γ 1) :: st)) : WW Γ cc nL RX0 ret rm σ pc lv (.ref (xd Γ 50) :: st) :=
  w_get (k := 0) (C := RX0) (T := TX0) (N := 2) (lt_lit (by decide)) cel_50 rfl (by decide) rfl inT_X0 fl_RX0_15 rfl hd hp h
theorem gf_RX0_22 {Γ : CX} {cc : ByteArray} {nL : Nat} {ret : Option FieldType} {rm : Room} {σ : St} {pc pc' : Nat} {lv : List (Nat × Value)} {st : List Value} {i : Nat} (hT : isW σ i = true) (hd : decode cc pc = .ok (.getfield 22, 3)) (hp : pc + 3 = pc') (h : WW Γ cc nL RX0 ret rm σ pc' lv (.ref (xd Γ (i + 6)) :: st)) : WW Γ cc nL RX0 ret rm σ pc lv (.ref (xd Γ i) :: st) :=
  w_get (k := 8) (C := RX10) (T := TX10) (N := 12) (isW_lt hT 0 (by decide)) (cel_W hT) rfl (by decide) rfl inT_X10 fl_RX0_22 rfl hd hp h
theorem gf_RX0_28 {Γ : CX} {cc : ByteArray} {nL : Nat} {ret : Option FieldType} {rm : Room} {σ : St} {pc pc' : Nat} {lv : List (Nat × Value)} {st : List Value} {i : Nat} (hT : isT σ i = true) (hd : decode cc pc = .ok (.getfield 28, 3)) (hp : pc + 3 = pc') (h : WW Γ cc nL RX0 ret rm σ pc' lv (.int (gf σ i 3) :: st)) : WW Γ cc nL RX0 ret rm σ pc lv (.ref (xd Γ i) :: st) :=
  w_get (k := 3) (C := RX9) (T := TX9) (N := 4) (isT_lt0 hT) (cel_T hT) rfl (by decide) rfl inT_X9 fl_RX0_28 rfl hd hp h
theorem gf_RX1_24 {Γ : CX} {cc : ByteArray} {nL : Nat} {ret : Option FieldType} {rm : Room} {σ : St} {pc pc' : Nat} {lv : List (Nat × Value)} {st : List Value} {i : Nat} (hT : isW σ i = true) (hd : decode cc pc = .ok (.getfield 24, 3)) (hp : pc + 3 = pc') (h : WW Γ cc nL RX1 ret rm σ pc' lv (.ref (xd Γ (i + 2)) :: st)) : WW Γ cc nL RX1 ret rm σ pc lv (.ref (xd Γ i) :: st) :=
  w_get (k := 6) (C := RX10) (T := TX10) (N := 12) (isW_lt hT 0 (by decide)) (cel_W hT) rfl (by decide) rfl inT_X10 fl_RX1_24 rfl hd hp h
theorem gf_RX1_30 {Γ : CX} {cc : ByteArray} {nL : Nat} {ret : Option FieldType} {rm : Room} {σ : St} {pc pc' : Nat} {lv : List (Nat × Value)} {st : List Value} {i : Nat} (hT : isT σ i = true) (hd : decode cc pc = .ok (.getfield 30, 3)) (hp : pc + 3 = pc') (h : WW Γ cc nL RX1 ret rm σ pc' lv (.int (gf σ i 3) :: st)) : WW Γ cc nL RX1 ret rm σ pc lv (.ref (xd Γ i) :: st) :=
  w_get (k := 3) (C := RX9) (T := TX9) (N := 4) (isT_lt0 hT) (cel_T hT) rfl (by decide) rfl inT_X9 fl_RX1_30 rfl hd hp h
theorem gf_RX1_56 {Γ : CX} {cc : ByteArray} {nL : Nat} {ret : Option FieldType} {rm : Room} {σ : St} {pc pc' : Nat} {lv : List (Nat × Value)} {st : List Value} {i : Nat} (hT : isW σ i = true) (hd : decode cc pc = .ok (.getfield 56, 3)) (hp : pc + 3 = pc') (h : WW Γ cc nL RX1 ret rm σ pc' lv (.int (gf σ i 4) :: st)) : WW Γ cc nL RX1 ret rm σ pc lv (.ref (xd Γ i) :: st) :=
  w_get (k := 4) (C := RX10) (T := TX10) (N := 12) (isW_lt hT 0 (by decide)) (cel_W hT) rfl (by decide) rfl inT_X10 fl_RX1_56 rfl hd hp h
theorem gf_RX2_9 {Γ : CX} {cc : ByteArray} {nL : Nat} {ret : Option FieldType} {rm : Room} {σ : St} {pc pc' : Nat} {lv : List (Nat × Value)} {st : List Value} (hd : decode cc pc = .ok (.getfield 9, 3)) (hp : pc + 3 = pc') (h : WW Γ cc nL RX2 ret rm σ pc' lv (.ref (xd Γ 32) :: st)) : WW Γ cc nL RX2 ret rm σ pc lv (.ref (xd Γ 31) :: st) :=
  w_get (k := 1) (C := RX2) (T := TX2) (N := 6) (lt_lit (by decide)) cel_31 rfl (by decide) rfl inT_X2 fl_RX2_9 rfl hd hp h
theorem gf_RX2_15 {Γ : CX} {cc : ByteArray} {nL : Nat} {ret : Option FieldType} {rm : Room} {σ : St} {pc pc' : Nat} {lv : List (Nat × Value)} {st : List Value} (hd : decode cc pc = .ok (.getfield 15, 3)) (hp : pc + 3 = pc') (h : WW Γ cc nL RX2 ret rm σ pc' lv (.ref (xd Γ 33) :: st)) : WW Γ cc nL RX2 ret rm σ pc lv (.ref (xd Γ 31) :: st) :=
  w_get (k := 2) (C := RX2) (T := TX2) (N := 6) (lt_lit (by decide)) cel_31 rfl (by decide) rfl inT_X2 fl_RX2_15 rfl hd hp h
theorem gf_RX2_18 {Γ : CX} {cc : ByteArray} {nL : Nat} {ret : Option FieldType} {rm : Room} {σ : St} {pc pc' : Nat} {lv : List (Nat × Value)} {st : List Value} (hd : decode cc pc = .ok (.getfield 18, 3)) (hp : pc + 3 = pc') (h : WW Γ cc nL RX2 ret rm σ pc' lv (.ref (xd Γ 34) :: st)) : WW Γ cc nL RX2 ret rm σ pc lv (.ref (xd Γ 31) :: st) :=
  w_get (k := 3) (C := RX2) (T := TX2) (N := 6) (lt_lit (by decide)) cel_31 rfl (by decide) rfl inT_X2 fl_RX2_18 rfl hd hp h
theorem gf_RX2_21 {Γ : CX} {cc : ByteArray} {nL : Nat} {ret : Option FieldType} {rm : Room} {σ : St} {pc pc' : Nat} {lv : List (Nat × Value)} {st : List Value} (hd : decode cc pc = .ok (.getfield 21, 3)) (hp : pc + 3 = pc') (h : WW Γ cc nL RX2 ret rm σ pc' lv (.ref (xd Γ 35) :: st)) : WW Γ cc nL RX2 ret rm σ pc lv (.ref (xd Γ 31) :: st) :=
  w_get (k := 4) (C := RX2) (T := TX2) (N := 6) (lt_lit (by decide)) cel_31 rfl (by decide) rfl inT_X2 fl_RX2_21 rfl hd hp h
theorem gf_RX2_24 {Γ : CX} {cc : ByteArray} {nL : Nat} {ret : Option FieldType} {rm : Room} {σ : St} {pc pc' : Nat} {lv : List (Nat × Value)} {st : List Value} (hd : decode cc pc = .ok (.getfield 24, 3)) (hp : pc + 3 = pc') (h : WW Γ cc nL RX2 ret rm σ pc' lv (.ref (xd Γ 1) :: st)) : WW Γ cc nL RX2 ret rm σ pc lv (.ref (xd Γ 31) :: st) :=
  w_get (k := 0) (C := RX2) (T := TX2) (N := 6) (lt_lit (by decide)) cel_31 rfl (by decide) rfl inT_X2 fl_RX2_24 rfl hd hp h
theorem gf_RX2_28 {Γ : CX} {cc : ByteArray} {nL : Nat} {ret : Option FieldType} {rm : Room} {σ : St} {pc pc' : Nat} {lv : List (Nat × Value)} {st : List Value} (hd : decode cc pc = .ok (.getfield 28, 3)) (hp : pc + 3 = pc') (h : WW Γ cc nL RX2 ret rm σ pc' lv (.int (gf σ 31 5) :: st)) : WW Γ cc nL RX2 ret rm σ pc lv (.ref (xd Γ 31) :: st) :=
  w_get (k := 5) (C := RX2) (T := TX2) (N := 6) (lt_lit (by decide)) cel_31 rfl (by decide) rfl inT_X2 fl_RX2_28 rfl hd hp h
theorem gf_RX2_32 {Γ : CX} {cc : ByteArray} {nL : Nat} {ret : Option FieldType} {rm : Room} {σ : St} {pc pc' : Nat} {lv : List (Nat × Value)} {st : List Value} {i : Nat} (hT : isW σ i = true) (hd : decode cc pc = .ok (.getfield 32, 3)) (hp : pc + 3 = pc') (h : WW Γ cc nL RX2 ret rm σ pc' lv (.int (gf σ i 1) :: st)) : WW Γ cc nL RX2 ret rm σ pc lv (.ref (xd Γ i) :: st) :=
  w_get (k := 1) (C := RX10) (T := TX10) (N := 12) (isW_lt hT 0 (by decide)) (cel_W hT) rfl (by decide) rfl inT_X10 fl_RX2_32 rfl hd hp h
theorem gf_RX2_77 {Γ : CX} {cc : ByteArray} {nL : Nat} {ret : Option FieldType} {rm : Room} {σ : St} {pc pc' : Nat} {lv : List (Nat × Value)} {st : List Value} {i : Nat} (hT : isW σ i = true) (hd : decode cc pc = .ok (.getfield 77, 3)) (hp : pc + 3 = pc') (h : WW Γ cc nL RX2 ret rm σ pc' lv (.int (gf σ i 3) :: st)) : WW Γ cc nL RX2 ret rm σ pc lv (.ref (xd Γ i) :: st) :=
  w_get (k := 3) (C := RX10) (T := TX10) (N := 12) (isW_lt hT 0 (by decide)) (cel_W hT) rfl (by decide) rfl inT_X10 fl_RX2_77 rfl hd hp h
theorem gf_RX2_98 {Γ : CX} {cc : ByteArray} {nL : Nat} {ret : Option FieldType} {rm : Room} {σ : St} {pc pc' : Nat} {lv : List (Nat × Value)} {st : List Value} {i : Nat} (hT : isW σ i = true) (hd : decode cc pc = .ok (.getfield 98, 3)) (hp : pc + 3 = pc') (h : WW Γ cc nL RX2 ret rm σ pc' lv (.ref (xd Γ (i + 2)) :: st)) : WW Γ cc nL RX2 ret rm σ pc lv (.ref (xd Γ i) :: st) :=
  w_get (k := 6) (C := RX10) (T := TX10) (N := 12) (isW_lt hT 0 (by decide)) (cel_W hT) rfl (by decide) rfl inT_X10 fl_RX2_98 rfl hd hp h
theorem gf_RX2_102 {Γ : CX} {cc : ByteArray} {nL : Nat} {ret : Option FieldType} {rm : Room} {σ : St} {pc pc' : Nat} {lv : List (Nat × Value)} {st : List Value} {i : Nat} (hT : isT σ i = true) (hd : decode cc pc = .ok (.getfield 102, 3)) (hp : pc + 3 = pc') (h : WW Γ cc nL RX2 ret rm σ pc' lv (.int (gf σ i 3) :: st)) : WW Γ cc nL RX2 ret rm σ pc lv (.ref (xd Γ i) :: st) :=
  w_get (k := 3) (C := RX9) (T := TX9) (N := 4) (isT_lt0 hT) (cel_T hT) rfl (by decide) rfl inT_X9 fl_RX2_102 rfl hd hp h
theorem gf_RX2_152 {Γ : CX} {cc : ByteArray} {nL : Nat} {ret : Option FieldType} {rm : Room} {σ : St} {pc pc' : Nat} {lv : List (Nat × Value)} {st : List Value} {i : Nat} (hT : isW σ i = true) (hd : decode cc pc = .ok (.getfield 152, 3)) (hp : pc + 3 = pc') (h : WW Γ cc nL RX2 ret rm σ pc' lv (.int (gf σ i 2) :: st)) : WW Γ cc nL RX2 ret rm σ pc lv (.ref (xd Γ i) :: st) :=
  w_get (k := 2) (C := RX10) (T := TX10) (N := 12) (isW_lt hT 0 (by decide)) (cel_W hT) rfl (by decide) rfl inT_X10 fl_RX2_152 rfl hd hp h
theorem gf_RX3_9 {Γ : CX} {cc : ByteArray} {nL : Nat} {ret : Option FieldType} {rm : Room} {σ : St} {pc pc' : Nat} {lv : List (Nat × Value)} {st : List Value} (hd : decode cc pc = .ok (.getfield 9, 3)) (hp : pc + 3 = pc') (h : WW Γ cc nL RX3 ret rm σ pc' lv (.ref (xd Γ 37) :: st)) : WW Γ cc nL RX3 ret rm σ pc lv (.ref (xd Γ 36) :: st) :=
  w_get (k := 2) (C := RX3) (T := TX3) (N := 8) (lt_lit (by decide)) cel_36 rfl (by decide) rfl inT_X3 fl_RX3_9 rfl hd hp h
theorem gf_RX3_15 {Γ : CX} {cc : ByteArray} {nL : Nat} {ret : Option FieldType} {rm : Room} {σ : St} {pc pc' : Nat} {lv : List (Nat × Value)} {st : List Value} (hd : decode cc pc = .ok (.getfield 15, 3)) (hp : pc + 3 = pc') (h : WW Γ cc nL RX3 ret rm σ pc' lv (.ref (xd Γ 38) :: st)) : WW Γ cc nL RX3 ret rm σ pc lv (.ref (xd Γ 36) :: st) :=
  w_get (k := 3) (C := RX3) (T := TX3) (N := 8) (lt_lit (by decide)) cel_36 rfl (by decide) rfl inT_X3 fl_RX3_15 rfl hd hp h
theorem gf_RX3_18 {Γ : CX} {cc : ByteArray} {nL : Nat} {ret : Option FieldType} {rm : Room} {σ : St} {pc pc' : Nat} {lv : List (Nat × Value)} {st : List Value} (hd : decode cc pc = .ok (.getfield 18, 3)) (hp : pc + 3 = pc') (h : WW Γ cc nL RX3 ret rm σ pc' lv (.ref (xd Γ 39) :: st)) : WW Γ cc nL RX3 ret rm σ pc lv (.ref (xd Γ 36) :: st) :=
  w_get (k := 4) (C := RX3) (T := TX3) (N := 8) (lt_lit (by decide)) cel_36 rfl (by decide) rfl inT_X3 fl_RX3_18 rfl hd hp h
theorem gf_RX3_22 {Γ : CX} {cc : ByteArray} {nL : Nat} {ret : Option FieldType} {rm : Room} {σ : St} {pc pc' : Nat} {lv : List (Nat × Value)} {st : List Value} (hd : decode cc pc = .ok (.getfield 22, 3)) (hp : pc + 3 = pc') (h : WW Γ cc nL RX3 ret rm σ pc' lv (.ref (xd Γ 40) :: st)) : WW Γ cc nL RX3 ret rm σ pc lv (.ref (xd Γ 36) :: st) :=
  w_get (k := 5) (C := RX3) (T := TX3) (N := 8) (lt_lit (by decide)) cel_36 rfl (by decide) rfl inT_X3 fl_RX3_22 rfl hd hp h
theorem gf_RX3_26 {Γ : CX} {cc : ByteArray} {nL : Nat} {ret : Option FieldType} {rm : Room} {σ : St} {pc pc' : Nat} {lv : List (Nat × Value)} {st : List Value} (hd : decode cc pc = .ok (.getfield 26, 3)) (hp : pc + 3 = pc') (h : WW Γ cc nL RX3 ret rm σ pc' lv (.ref (xd Γ 41) :: st)) : WW Γ cc nL RX3 ret rm σ pc lv (.ref (xd Γ 36) :: st) :=
  w_get (k := 6) (C := RX3) (T := TX3) (N := 8) (lt_lit (by decide)) cel_36 rfl (by decide) rfl inT_X3 fl_RX3_26 rfl hd hp h
theorem gf_RX3_29 {Γ : CX} {cc : ByteArray} {nL : Nat} {ret : Option FieldType} {rm : Room} {σ : St} {pc pc' : Nat} {lv : List (Nat × Value)} {st : List Value} (hd : decode cc pc = .ok (.getfield 29, 3)) (hp : pc + 3 = pc') (h : WW Γ cc nL RX3 ret rm σ pc' lv (.ref (xd Γ 42) :: st)) : WW Γ cc nL RX3 ret rm σ pc lv (.ref (xd Γ 36) :: st) :=
  w_get (k := 7) (C := RX3) (T := TX3) (N := 8) (lt_lit (by decide)) cel_36 rfl (by decide) rfl inT_X3 fl_RX3_29 rfl hd hp h
theorem gf_RX3_32 {Γ : CX} {cc : ByteArray} {nL : Nat} {ret : Option FieldType} {rm : Room} {σ : St} {pc pc' : Nat} {lv : List (Nat × Value)} {st : List Value} (hd : decode cc pc = .ok (.getfield 32, 3)) (hp : pc + 3 = pc') (h : WW Γ cc nL RX3 ret rm σ pc' lv (.ref (xd Γ 1) :: st)) : WW Γ cc nL RX3 ret rm σ pc lv (.ref (xd Γ 36) :: st) :=
  w_get (k := 0) (C := RX3) (T := TX3) (N := 8) (lt_lit (by decide)) cel_36 rfl (by decide) rfl inT_X3 fl_RX3_32 rfl hd hp h
theorem gf_RX3_36 {Γ : CX} {cc : ByteArray} {nL : Nat} {ret : Option FieldType} {rm : Room} {σ : St} {pc pc' : Nat} {lv : List (Nat × Value)} {st : List Value} (hd : decode cc pc = .ok (.getfield 36, 3)) (hp : pc + 3 = pc') (h : WW Γ cc nL RX3 ret rm σ pc' lv (.ref (xd Γ 31) :: st)) : WW Γ cc nL RX3 ret rm σ pc lv (.ref (xd Γ 36) :: st) :=
  w_get (k := 1) (C := RX3) (T := TX3) (N := 8) (lt_lit (by decide)) cel_36 rfl (by decide) rfl inT_X3 fl_RX3_36 rfl hd hp h
theorem gf_RX3_79 {Γ : CX} {cc : ByteArray} {nL : Nat} {ret : Option FieldType} {rm : Room} {σ : St} {pc pc' : Nat} {lv : List (Nat × Value)} {st : List Value} {i : Nat} (hT : isW σ i = true) (hd : decode cc pc = .ok (.getfield 79, 3)) (hp : pc + 3 = pc') (h : WW Γ cc nL RX3 ret rm σ pc' lv (.ref (xd Γ (i + 2)) :: st)) : WW Γ cc nL RX3 ret rm σ pc lv (.ref (xd Γ i) :: st) :=
  w_get (k := 6) (C := RX10) (T := TX10) (N := 12) (isW_lt hT 0 (by decide)) (cel_W hT) rfl (by decide) rfl inT_X10 fl_RX3_79 rfl hd hp h
theorem gf_RX3_83 {Γ : CX} {cc : ByteArray} {nL : Nat} {ret : Option FieldType} {rm : Room} {σ : St} {pc pc' : Nat} {lv : List (Nat × Value)} {st : List Value} {i : Nat} (hT : isT σ i = true) (hd : decode cc pc = .ok (.getfield 83, 3)) (hp : pc + 3 = pc') (h : WW Γ cc nL RX3 ret rm σ pc' lv (.int (gf σ i 3) :: st)) : WW Γ cc nL RX3 ret rm σ pc lv (.ref (xd Γ i) :: st) :=
  w_get (k := 3) (C := RX9) (T := TX9) (N := 4) (isT_lt0 hT) (cel_T hT) rfl (by decide) rfl inT_X9 fl_RX3_83 rfl hd hp h
theorem gf_RX3_131 {Γ : CX} {cc : ByteArray} {nL : Nat} {ret : Option FieldType} {rm : Room} {σ : St} {pc pc' : Nat} {lv : List (Nat × Value)} {st : List Value} {i : Nat} (hT : isW σ i = true) (hd : decode cc pc = .ok (.getfield 131, 3)) (hp : pc + 3 = pc') (h : WW Γ cc nL RX3 ret rm σ pc' lv (.int (gf σ i 2) :: st)) : WW Γ cc nL RX3 ret rm σ pc lv (.ref (xd Γ i) :: st) :=
  w_get (k := 2) (C := RX10) (T := TX10) (N := 12) (isW_lt hT 0 (by decide)) (cel_W hT) rfl (by decide) rfl inT_X10 fl_RX3_131 rfl hd hp h
theorem gf_RX4_9 {Γ : CX} {cc : ByteArray} {nL : Nat} {ret : Option FieldType} {rm : Room} {σ : St} {pc pc' : Nat} {lv : List (Nat × Value)} {st : List Value} (hd : decode cc pc = .ok (.getfield 9, 3)) (hp : pc + 3 = pc') (h : WW Γ cc nL RX4 ret rm σ pc' lv (.ref (xd Γ 1) :: st)) : WW Γ cc nL RX4 ret rm σ pc lv (.ref (xd Γ 48) :: st) :=
  w_get (k := 0) (C := RX4) (T := TX4) (N := 1) (lt_lit (by decide)) cel_48 rfl (by decide) rfl inT_X4 fl_RX4_9 rfl hd hp h
theorem gf_RX4_23 {Γ : CX} {cc : ByteArray} {nL : Nat} {ret : Option FieldType} {rm : Room} {σ : St} {pc pc' : Nat} {lv : List (Nat × Value)} {st : List Value} {i : Nat} (hT : isW σ i = true) (hd : decode cc pc = .ok (.getfield 23, 3)) (hp : pc + 3 = pc') (h : WW Γ cc nL RX4 ret rm σ pc' lv (.ref (xd Γ (i + 8)) :: st)) : WW Γ cc nL RX4 ret rm σ pc lv (.ref (xd Γ i) :: st) :=
  w_get (k := 9) (C := RX10) (T := TX10) (N := 12) (isW_lt hT 0 (by decide)) (cel_W hT) rfl (by decide) rfl inT_X10 fl_RX4_23 rfl hd hp h
theorem gf_RX4_29 {Γ : CX} {cc : ByteArray} {nL : Nat} {ret : Option FieldType} {rm : Room} {σ : St} {pc pc' : Nat} {lv : List (Nat × Value)} {st : List Value} {i : Nat} (hT : isT σ i = true) (hd : decode cc pc = .ok (.getfield 29, 3)) (hp : pc + 3 = pc') (h : WW Γ cc nL RX4 ret rm σ pc' lv (.int (gf σ i 3) :: st)) : WW Γ cc nL RX4 ret rm σ pc lv (.ref (xd Γ i) :: st) :=
  w_get (k := 3) (C := RX9) (T := TX9) (N := 4) (isT_lt0 hT) (cel_T hT) rfl (by decide) rfl inT_X9 fl_RX4_29 rfl hd hp h
theorem gf_RX5_9 {Γ : CX} {cc : ByteArray} {nL : Nat} {ret : Option FieldType} {rm : Room} {σ : St} {pc pc' : Nat} {lv : List (Nat × Value)} {st : List Value} (hd : decode cc pc = .ok (.getfield 9, 3)) (hp : pc + 3 = pc') (h : WW Γ cc nL RX5 ret rm σ pc' lv (.ref (xd Γ 44) :: st)) : WW Γ cc nL RX5 ret rm σ pc lv (.ref (xd Γ 43) :: st) :=
  w_get (k := 1) (C := RX5) (T := TX5) (N := 5) (lt_lit (by decide)) cel_43 rfl (by decide) rfl inT_X5 fl_RX5_9 rfl hd hp h
theorem gf_RX5_13 {Γ : CX} {cc : ByteArray} {nL : Nat} {ret : Option FieldType} {rm : Room} {σ : St} {pc pc' : Nat} {lv : List (Nat × Value)} {st : List Value} (hd : decode cc pc = .ok (.getfield 13, 3)) (hp : pc + 3 = pc') (h : WW Γ cc nL RX5 ret rm σ pc' lv (.ref (xd Γ 45) :: st)) : WW Γ cc nL RX5 ret rm σ pc lv (.ref (xd Γ 43) :: st) :=
  w_get (k := 2) (C := RX5) (T := TX5) (N := 5) (lt_lit (by decide)) cel_43 rfl (by decide) rfl inT_X5 fl_RX5_13 rfl hd hp h
theorem gf_RX5_16 {Γ : CX} {cc : ByteArray} {nL : Nat} {ret : Option FieldType} {rm : Room} {σ : St} {pc pc' : Nat} {lv : List (Nat × Value)} {st : List Value} (hd : decode cc pc = .ok (.getfield 16, 3)) (hp : pc + 3 = pc') (h : WW Γ cc nL RX5 ret rm σ pc' lv (.ref (xd Γ 46) :: st)) : WW Γ cc nL RX5 ret rm σ pc lv (.ref (xd Γ 43) :: st) :=
  w_get (k := 3) (C := RX5) (T := TX5) (N := 5) (lt_lit (by decide)) cel_43 rfl (by decide) rfl inT_X5 fl_RX5_16 rfl hd hp h
theorem gf_RX5_19 {Γ : CX} {cc : ByteArray} {nL : Nat} {ret : Option FieldType} {rm : Room} {σ : St} {pc pc' : Nat} {lv : List (Nat × Value)} {st : List Value} (hd : decode cc pc = .ok (.getfield 19, 3)) (hp : pc + 3 = pc') (h : WW Γ cc nL RX5 ret rm σ pc' lv (.ref (xd Γ 47) :: st)) : WW Γ cc nL RX5 ret rm σ pc lv (.ref (xd Γ 43) :: st) :=
  w_get (k := 4) (C := RX5) (T := TX5) (N := 5) (lt_lit (by decide)) cel_43 rfl (by decide) rfl inT_X5 fl_RX5_19 rfl hd hp h
theorem gf_RX5_22 {Γ : CX} {cc : ByteArray} {nL : Nat} {ret : Option FieldType} {rm : Room} {σ : St} {pc pc' : Nat} {lv : List (Nat × Value)} {st : List Value} (hd : decode cc pc = .ok (.getfield 22, 3)) (hp : pc + 3 = pc') (h : WW Γ cc nL RX5 ret rm σ pc' lv (.int (gf σ 43 0) :: st)) : WW Γ cc nL RX5 ret rm σ pc lv (.ref (xd Γ 43) :: st) :=
  w_get (k := 0) (C := RX5) (T := TX5) (N := 5) (lt_lit (by decide)) cel_43 rfl (by decide) rfl inT_X5 fl_RX5_22 rfl hd hp h
theorem gf_RX6_9 {Γ : CX} {cc : ByteArray} {nL : Nat} {ret : Option FieldType} {rm : Room} {σ : St} {pc pc' : Nat} {lv : List (Nat × Value)} {st : List Value} (hd : decode cc pc = .ok (.getfield 9, 3)) (hp : pc + 3 = pc') (h : WW Γ cc nL RX6 ret rm σ pc' lv (.ref (xd Γ 30) :: st)) : WW Γ cc nL RX6 ret rm σ pc lv (.ref (xd Γ 29) :: st) :=
  w_get (k := 0) (C := RX6) (T := TX6) (N := 9) (lt_lit (by decide)) cel_29 rfl (by decide) rfl inT_X6 fl_RX6_9 rfl hd hp h
theorem gf_RX6_19 {Γ : CX} {cc : ByteArray} {nL : Nat} {ret : Option FieldType} {rm : Room} {σ : St} {pc pc' : Nat} {lv : List (Nat × Value)} {st : List Value} (hd : decode cc pc = .ok (.getfield 19, 3)) (hp : pc + 3 = pc') (h : WW Γ cc nL RX6 ret rm σ pc' lv (.ref (xd Γ 15) :: st)) : WW Γ cc nL RX6 ret rm σ pc lv (.ref (xd Γ 29) :: st) :=
  w_get (k := 4) (C := RX6) (T := TX6) (N := 9) (lt_lit (by decide)) cel_29 rfl (by decide) rfl inT_X6 fl_RX6_19 rfl hd hp h
theorem gf_RX6_23 {Γ : CX} {cc : ByteArray} {nL : Nat} {ret : Option FieldType} {rm : Room} {σ : St} {pc pc' : Nat} {lv : List (Nat × Value)} {st : List Value} (hd : decode cc pc = .ok (.getfield 23, 3)) (hp : pc + 3 = pc') (h : WW Γ cc nL RX6 ret rm σ pc' lv (.int (gf σ 29 1) :: st)) : WW Γ cc nL RX6 ret rm σ pc lv (.ref (xd Γ 29) :: st) :=
  w_get (k := 1) (C := RX6) (T := TX6) (N := 9) (lt_lit (by decide)) cel_29 rfl (by decide) rfl inT_X6 fl_RX6_23 rfl hd hp h
theorem gf_RX6_31 {Γ : CX} {cc : ByteArray} {nL : Nat} {ret : Option FieldType} {rm : Room} {σ : St} {pc pc' : Nat} {lv : List (Nat × Value)} {st : List Value} (hd : decode cc pc = .ok (.getfield 31, 3)) (hp : pc + 3 = pc') (h : WW Γ cc nL RX6 ret rm σ pc' lv (.int (gf σ 29 2) :: st)) : WW Γ cc nL RX6 ret rm σ pc lv (.ref (xd Γ 29) :: st) :=
  w_get (k := 2) (C := RX6) (T := TX6) (N := 9) (lt_lit (by decide)) cel_29 rfl (by decide) rfl inT_X6 fl_RX6_31 rfl hd hp h
theorem gf_RX6_34 {Γ : CX} {cc : ByteArray} {nL : Nat} {ret : Option FieldType} {rm : Room} {σ : St} {pc pc' : Nat} {lv : List (Nat × Value)} {st : List Value} (hd : decode cc pc = .ok (.getfield 34, 3)) (hp : pc + 3 = pc') (h : WW Γ cc nL RX6 ret rm σ pc' lv (.int (gf σ 29 6) :: st)) : WW Γ cc nL RX6 ret rm σ pc lv (.ref (xd Γ 29) :: st) :=
  w_get (k := 6) (C := RX6) (T := TX6) (N := 9) (lt_lit (by decide)) cel_29 rfl (by decide) rfl inT_X6 fl_RX6_34 rfl hd hp h
theorem gf_RX6_40 {Γ : CX} {cc : ByteArray} {nL : Nat} {ret : Option FieldType} {rm : Room} {σ : St} {pc pc' : Nat} {lv : List (Nat × Value)} {st : List Value} (hd : decode cc pc = .ok (.getfield 40, 3)) (hp : pc + 3 = pc') (h : WW Γ cc nL RX6 ret rm σ pc' lv (.int (gf σ 29 7) :: st)) : WW Γ cc nL RX6 ret rm σ pc lv (.ref (xd Γ 29) :: st) :=
  w_get (k := 7) (C := RX6) (T := TX6) (N := 9) (lt_lit (by decide)) cel_29 rfl (by decide) rfl inT_X6 fl_RX6_40 rfl hd hp h
theorem gf_RX6_49 {Γ : CX} {cc : ByteArray} {nL : Nat} {ret : Option FieldType} {rm : Room} {σ : St} {pc pc' : Nat} {lv : List (Nat × Value)} {st : List Value} {i : Nat} (hT : isW σ i = true) (hd : decode cc pc = .ok (.getfield 49, 3)) (hp : pc + 3 = pc') (h : WW Γ cc nL RX6 ret rm σ pc' lv (.int (gf σ i 0) :: st)) : WW Γ cc nL RX6 ret rm σ pc lv (.ref (xd Γ i) :: st) :=
  w_get (k := 0) (C := RX10) (T := TX10) (N := 12) (isW_lt hT 0 (by decide)) (cel_W hT) rfl (by decide) rfl inT_X10 fl_RX6_49 rfl hd hp h
theorem gf_RX6_71 {Γ : CX} {cc : ByteArray} {nL : Nat} {ret : Option FieldType} {rm : Room} {σ : St} {pc pc' : Nat} {lv : List (Nat × Value)} {st : List Value} {i : Nat} (hT : isW σ i = true) (hd : decode cc pc = .ok (.getfield 71, 3)) (hp : pc + 3 = pc') (h : WW Γ cc nL RX6 ret rm σ pc' lv (.ref (xd Γ (i + 4)) :: st)) : WW Γ cc nL RX6 ret rm σ pc lv (.ref (xd Γ i) :: st) :=
  w_get (k := 7) (C := RX10) (T := TX10) (N := 12) (isW_lt hT 0 (by decide)) (cel_W hT) rfl (by decide) rfl inT_X10 fl_RX6_71 rfl hd hp h
theorem gf_RX6_86 {Γ : CX} {cc : ByteArray} {nL : Nat} {ret : Option FieldType} {rm : Room} {σ : St} {pc pc' : Nat} {lv : List (Nat × Value)} {st : List Value} {i : Nat} (hT : isW σ i = true) (hd : decode cc pc = .ok (.getfield 86, 3)) (hp : pc + 3 = pc') (h : WW Γ cc nL RX6 ret rm σ pc' lv (.ref (xd Γ (i + 8)) :: st)) : WW Γ cc nL RX6 ret rm σ pc lv (.ref (xd Γ i) :: st) :=
  w_get (k := 9) (C := RX10) (T := TX10) (N := 12) (isW_lt hT 0 (by decide)) (cel_W hT) rfl (by decide) rfl inT_X10 fl_RX6_86 rfl hd hp h
theorem gf_RX6_109 {Γ : CX} {cc : ByteArray} {nL : Nat} {ret : Option FieldType} {rm : Room} {σ : St} {pc pc' : Nat} {lv : List (Nat × Value)} {st : List Value} {i : Nat} (hT : isW σ i = true) (hd : decode cc pc = .ok (.getfield 109, 3)) (hp : pc + 3 = pc') (h : WW Γ cc nL RX6 ret rm σ pc' lv (.int (gf σ i 1) :: st)) : WW Γ cc nL RX6 ret rm σ pc lv (.ref (xd Γ i) :: st) :=
  w_get (k := 1) (C := RX10) (T := TX10) (N := 12) (isW_lt hT 0 (by decide)) (cel_W hT) rfl (by decide) rfl inT_X10 fl_RX6_109 rfl hd hp h
theorem gf_RX6_128 {Γ : CX} {cc : ByteArray} {nL : Nat} {ret : Option FieldType} {rm : Room} {σ : St} {pc pc' : Nat} {lv : List (Nat × Value)} {st : List Value} {i : Nat} (hT : isW σ i = true) (hd : decode cc pc = .ok (.getfield 128, 3)) (hp : pc + 3 = pc') (h : WW Γ cc nL RX6 ret rm σ pc' lv (.ref (xd Γ (i + 2)) :: st)) : WW Γ cc nL RX6 ret rm σ pc lv (.ref (xd Γ i) :: st) :=
  w_get (k := 6) (C := RX10) (T := TX10) (N := 12) (isW_lt hT 0 (by decide)) (cel_W hT) rfl (by decide) rfl inT_X10 fl_RX6_128 rfl hd hp h
theorem gf_RX6_149 {Γ : CX} {cc : ByteArray} {nL : Nat} {ret : Option FieldType} {rm : Room} {σ : St} {pc pc' : Nat} {lv : List (Nat × Value)} {st : List Value} {i : Nat} (hT : isT σ i = true) (hd : decode cc pc = .ok (.getfield 149, 3)) (hp : pc + 3 = pc') (h : WW Γ cc nL RX6 ret rm σ pc' lv (.int (gf σ i 3) :: st)) : WW Γ cc nL RX6 ret rm σ pc lv (.ref (xd Γ i) :: st) :=
  w_get (k := 3) (C := RX9) (T := TX9) (N := 4) (isT_lt0 hT) (cel_T hT) rfl (by decide) rfl inT_X9 fl_RX6_149 rfl hd hp h
theorem gf_RX6_156 {Γ : CX} {cc : ByteArray} {nL : Nat} {ret : Option FieldType} {rm : Room} {σ : St} {pc pc' : Nat} {lv : List (Nat × Value)} {st : List Value} {i : Nat} (hT : isW σ i = true) (hd : decode cc pc = .ok (.getfield 156, 3)) (hp : pc + 3 = pc') (h : WW Γ cc nL RX6 ret rm σ pc' lv (.ref (xd Γ (i + 6)) :: st)) : WW Γ cc nL RX6 ret rm σ pc lv (.ref (xd Γ i) :: st) :=
  w_get (k := 8) (C := RX10) (T := TX10) (N := 12) (isW_lt hT 0 (by decide)) (cel_W hT) rfl (by decide) rfl inT_X10 fl_RX6_156 rfl hd hp h
theorem gf_RX6_167 {Γ : CX} {cc : ByteArray} {nL : Nat} {ret : Option FieldType} {rm : Room} {σ : St} {pc pc' : Nat} {lv : List (Nat × Value)} {st : List Value} {i : Nat} (hT : isW σ i = true) (hd : decode cc pc = .ok (.getfield 167, 3)) (hp : pc + 3 = pc') (h : WW Γ cc nL RX6 ret rm σ pc' lv (.ref (xd Γ (i + 10)) :: st)) : WW Γ cc nL RX6 ret rm σ pc lv (.ref (xd Γ i) :: st) :=
  w_get (k := 10) (C := RX10) (T := TX10) (N := 12) (isW_lt hT 0 (by decide)) (cel_W hT) rfl (by decide) rfl inT_X10 fl_RX6_167 rfl hd hp h
theorem gf_RX6_183 {Γ : CX} {cc : ByteArray} {nL : Nat} {ret : Option FieldType} {rm : Room} {σ : St} {pc pc' : Nat} {lv : List (Nat × Value)} {st : List Value} (hd : decode cc pc = .ok (.getfield 183, 3)) (hp : pc + 3 = pc') (h : WW Γ cc nL RX6 ret rm σ pc' lv (.int (gf σ 29 8) :: st)) : WW Γ cc nL RX6 ret rm σ pc lv (.ref (xd Γ 29) :: st) :=
  w_get (k := 8) (C := RX6) (T := TX6) (N := 9) (lt_lit (by decide)) cel_29 rfl (by decide) rfl inT_X6 fl_RX6_183 rfl hd hp h
theorem gf_RX6_186 {Γ : CX} {cc : ByteArray} {nL : Nat} {ret : Option FieldType} {rm : Room} {σ : St} {pc pc' : Nat} {lv : List (Nat × Value)} {st : List Value} (hd : decode cc pc = .ok (.getfield 186, 3)) (hp : pc + 3 = pc') (h : WW Γ cc nL RX6 ret rm σ pc' lv (.int (gf σ 29 5) :: st)) : WW Γ cc nL RX6 ret rm σ pc lv (.ref (xd Γ 29) :: st) :=
  w_get (k := 5) (C := RX6) (T := TX6) (N := 9) (lt_lit (by decide)) cel_29 rfl (by decide) rfl inT_X6 fl_RX6_186 rfl hd hp h
theorem gf_RX7_11 {Γ : CX} {cc : ByteArray} {nL : Nat} {ret : Option FieldType} {rm : Room} {σ : St} {pc pc' : Nat} {lv : List (Nat × Value)} {st : List Value} (hd : decode cc pc = .ok (.getfield 11, 3)) (hp : pc + 3 = pc') (h : WW Γ cc nL RX7 ret rm σ pc' lv (.ref (xd Γ 53) :: st)) : WW Γ cc nL RX7 ret rm σ pc lv (.ref (xd Γ 52) :: st) :=
  w_get (k := 0) (C := RX7) (T := TX7) (N := 4) (lt_lit (by decide)) cel_52 rfl (by decide) rfl inT_X7 fl_RX7_11 rfl hd hp h
theorem gf_RX7_15 {Γ : CX} {cc : ByteArray} {nL : Nat} {ret : Option FieldType} {rm : Room} {σ : St} {pc pc' : Nat} {lv : List (Nat × Value)} {st : List Value} (hd : decode cc pc = .ok (.getfield 15, 3)) (hp : pc + 3 = pc') (h : WW Γ cc nL RX7 ret rm σ pc' lv (.ref (xd Γ 54) :: st)) : WW Γ cc nL RX7 ret rm σ pc lv (.ref (xd Γ 52) :: st) :=
  w_get (k := 1) (C := RX7) (T := TX7) (N := 4) (lt_lit (by decide)) cel_52 rfl (by decide) rfl inT_X7 fl_RX7_15 rfl hd hp h
theorem gf_RX7_19 {Γ : CX} {cc : ByteArray} {nL : Nat} {ret : Option FieldType} {rm : Room} {σ : St} {pc pc' : Nat} {lv : List (Nat × Value)} {st : List Value} (hd : decode cc pc = .ok (.getfield 19, 3)) (hp : pc + 3 = pc') (h : WW Γ cc nL RX7 ret rm σ pc' lv (.ref (xd Γ 55) :: st)) : WW Γ cc nL RX7 ret rm σ pc lv (.ref (xd Γ 52) :: st) :=
  w_get (k := 2) (C := RX7) (T := TX7) (N := 4) (lt_lit (by decide)) cel_52 rfl (by decide) rfl inT_X7 fl_RX7_19 rfl hd hp h
theorem gf_RX7_22 {Γ : CX} {cc : ByteArray} {nL : Nat} {ret : Option FieldType} {rm : Room} {σ : St} {pc pc' : Nat} {lv : List (Nat × Value)} {st : List Value} (hd : decode cc pc = .ok (.getfield 22, 3)) (hp : pc + 3 = pc') (h : WW Γ cc nL RX7 ret rm σ pc' lv (.ref (xd Γ 56) :: st)) : WW Γ cc nL RX7 ret rm σ pc lv (.ref (xd Γ 52) :: st) :=
  w_get (k := 3) (C := RX7) (T := TX7) (N := 4) (lt_lit (by decide)) cel_52 rfl (by decide) rfl inT_X7 fl_RX7_22 rfl hd hp h
theorem gf_RX8_9 {Γ : CX} {cc : ByteArray} {nL : Nat} {ret : Option FieldType} {rm : Room} {σ : St} {pc pc' : Nat} {lv : List (Nat × Value)} {st : List Value} (hd : decode cc pc = .ok (.getfield 9, 3)) (hp : pc + 3 = pc') (h : WW Γ cc nL RX8 ret rm σ pc' lv (.ref (xd Γ 1) :: st)) : WW Γ cc nL RX8 ret rm σ pc lv (.ref (xd Γ 49) :: st) :=
  w_get (k := 0) (C := RX8) (T := TX8) (N := 1) (lt_lit (by decide)) cel_49 rfl (by decide) rfl inT_X8 fl_RX8_9 rfl hd hp h
theorem gf_RX8_15 {Γ : CX} {cc : ByteArray} {nL : Nat} {ret : Option FieldType} {rm : Room} {σ : St} {pc pc' : Nat} {lv : List (Nat × Value)} {st : List Value} {i : Nat} (hT : isW σ i = true) (hd : decode cc pc = .ok (.getfield 15, 3)) (hp : pc + 3 = pc') (h : WW Γ cc nL RX8 ret rm σ pc' lv (.ref (xd Γ (i + 10)) :: st)) : WW Γ cc nL RX8 ret rm σ pc lv (.ref (xd Γ i) :: st) :=
  w_get (k := 10) (C := RX10) (T := TX10) (N := 12) (isW_lt hT 0 (by decide)) (cel_W hT) rfl (by decide) rfl inT_X10 fl_RX8_15 rfl hd hp h
theorem gf_RX8_21 {Γ : CX} {cc : ByteArray} {nL : Nat} {ret : Option FieldType} {rm : Room} {σ : St} {pc pc' : Nat} {lv : List (Nat × Value)} {st : List Value} {i : Nat} (hT : isT σ i = true) (hd : decode cc pc = .ok (.getfield 21, 3)) (hp : pc + 3 = pc') (h : WW Γ cc nL RX8 ret rm σ pc' lv (.int (gf σ i 3) :: st)) : WW Γ cc nL RX8 ret rm σ pc lv (.ref (xd Γ i) :: st) :=
  w_get (k := 3) (C := RX9) (T := TX9) (N := 4) (isT_lt0 hT) (cel_T hT) rfl (by decide) rfl inT_X9 fl_RX8_21 rfl hd hp h
theorem gf_RX8_39 {Γ : CX} {cc : ByteArray} {nL : Nat} {ret : Option FieldType} {rm : Room} {σ : St} {pc pc' : Nat} {lv : List (Nat × Value)} {st : List Value} {i : Nat} (hT : isW σ i = true) (hd : decode cc pc = .ok (.getfield 39, 3)) (hp : pc + 3 = pc') (h : WW Γ cc nL RX8 ret rm σ pc' lv (.ref (xd Γ (i + 2)) :: st)) : WW Γ cc nL RX8 ret rm σ pc lv (.ref (xd Γ i) :: st) :=
  w_get (k := 6) (C := RX10) (T := TX10) (N := 12) (isW_lt hT 0 (by decide)) (cel_W hT) rfl (by decide) rfl inT_X10 fl_RX8_39 rfl hd hp h
theorem gf_RX9_15 {Γ : CX} {cc : ByteArray} {nL : Nat} {ret : Option FieldType} {rm : Room} {σ : St} {pc pc' : Nat} {lv : List (Nat × Value)} {st : List Value} {i : Nat} (hT : isT σ i = true) (hd : decode cc pc = .ok (.getfield 15, 3)) (hp : pc + 3 = pc') (h : WW Γ cc nL RX9 ret rm σ pc' lv (.int (tm i) :: st)) : WW Γ cc nL RX9 ret rm σ pc lv (.ref (xd Γ i) :: st) :=
  w_get (k := 1) (C := RX9) (T := TX9) (N := 4) (isT_lt0 hT) (cel_T hT) rfl (by decide) rfl inT_X9 fl_RX9_15 rfl hd hp h
theorem gf_RX9_21 {Γ : CX} {cc : ByteArray} {nL : Nat} {ret : Option FieldType} {rm : Room} {σ : St} {pc pc' : Nat} {lv : List (Nat × Value)} {st : List Value} {i : Nat} (hT : isT σ i = true) (hd : decode cc pc = .ok (.getfield 21, 3)) (hp : pc + 3 = pc') (h : WW Γ cc nL RX9 ret rm σ pc' lv (.int (tw i) :: st)) : WW Γ cc nL RX9 ret rm σ pc lv (.ref (xd Γ i) :: st) :=
  w_get (k := 0) (C := RX9) (T := TX9) (N := 4) (isT_lt0 hT) (cel_T hT) rfl (by decide) rfl inT_X9 fl_RX9_21 rfl hd hp h
theorem gf_RX9_24 {Γ : CX} {cc : ByteArray} {nL : Nat} {ret : Option FieldType} {rm : Room} {σ : St} {pc pc' : Nat} {lv : List (Nat × Value)} {st : List Value} {i : Nat} (hT : isT σ i = true) (hd : decode cc pc = .ok (.getfield 24, 3)) (hp : pc + 3 = pc') (h : WW Γ cc nL RX9 ret rm σ pc' lv (.ref (xd Γ (i + 1)) :: st)) : WW Γ cc nL RX9 ret rm σ pc lv (.ref (xd Γ i) :: st) :=
  w_get (k := 2) (C := RX9) (T := TX9) (N := 4) (isT_lt0 hT) (cel_T hT) rfl (by decide) rfl inT_X9 fl_RX9_24 rfl hd hp h
theorem gf_RX9_28 {Γ : CX} {cc : ByteArray} {nL : Nat} {ret : Option FieldType} {rm : Room} {σ : St} {pc pc' : Nat} {lv : List (Nat × Value)} {st : List Value} {i : Nat} (hT : isT σ i = true) (hd : decode cc pc = .ok (.getfield 28, 3)) (hp : pc + 3 = pc') (h : WW Γ cc nL RX9 ret rm σ pc' lv (.int (gf σ i 3) :: st)) : WW Γ cc nL RX9 ret rm σ pc lv (.ref (xd Γ i) :: st) :=
  w_get (k := 3) (C := RX9) (T := TX9) (N := 4) (isT_lt0 hT) (cel_T hT) rfl (by decide) rfl inT_X9 fl_RX9_28 rfl hd hp h
theorem gf_RX10_9 {Γ : CX} {cc : ByteArray} {nL : Nat} {ret : Option FieldType} {rm : Room} {σ : St} {pc pc' : Nat} {lv : List (Nat × Value)} {st : List Value} {i : Nat} (hT : isW σ i = true) (hd : decode cc pc = .ok (.getfield 9, 3)) (hp : pc + 3 = pc') (h : WW Γ cc nL RX10 ret rm σ pc' lv (.ref (xd Γ (i + 1)) :: st)) : WW Γ cc nL RX10 ret rm σ pc lv (.ref (xd Γ i) :: st) :=
  w_get (k := 5) (C := RX10) (T := TX10) (N := 12) (isW_lt hT 0 (by decide)) (cel_W hT) rfl (by decide) rfl inT_X10 fl_RX10_9 rfl hd hp h
theorem gf_RX10_20 {Γ : CX} {cc : ByteArray} {nL : Nat} {ret : Option FieldType} {rm : Room} {σ : St} {pc pc' : Nat} {lv : List (Nat × Value)} {st : List Value} {i : Nat} (hT : isW σ i = true) (hd : decode cc pc = .ok (.getfield 20, 3)) (hp : pc + 3 = pc') (h : WW Γ cc nL RX10 ret rm σ pc' lv (.ref (xd Γ (i + 2)) :: st)) : WW Γ cc nL RX10 ret rm σ pc lv (.ref (xd Γ i) :: st) :=
  w_get (k := 6) (C := RX10) (T := TX10) (N := 12) (isW_lt hT 0 (by decide)) (cel_W hT) rfl (by decide) rfl inT_X10 fl_RX10_20 rfl hd hp h
theorem gf_RX10_24 {Γ : CX} {cc : ByteArray} {nL : Nat} {ret : Option FieldType} {rm : Room} {σ : St} {pc pc' : Nat} {lv : List (Nat × Value)} {st : List Value} {i : Nat} (hT : isW σ i = true) (hd : decode cc pc = .ok (.getfield 24, 3)) (hp : pc + 3 = pc') (h : WW Γ cc nL RX10 ret rm σ pc' lv (.ref (xd Γ (i + 4)) :: st)) : WW Γ cc nL RX10 ret rm σ pc lv (.ref (xd Γ i) :: st) :=
  w_get (k := 7) (C := RX10) (T := TX10) (N := 12) (isW_lt hT 0 (by decide)) (cel_W hT) rfl (by decide) rfl inT_X10 fl_RX10_24 rfl hd hp h
theorem gf_RX10_27 {Γ : CX} {cc : ByteArray} {nL : Nat} {ret : Option FieldType} {rm : Room} {σ : St} {pc pc' : Nat} {lv : List (Nat × Value)} {st : List Value} {i : Nat} (hT : isW σ i = true) (hd : decode cc pc = .ok (.getfield 27, 3)) (hp : pc + 3 = pc') (h : WW Γ cc nL RX10 ret rm σ pc' lv (.ref (xd Γ (i + 6)) :: st)) : WW Γ cc nL RX10 ret rm σ pc lv (.ref (xd Γ i) :: st) :=
  w_get (k := 8) (C := RX10) (T := TX10) (N := 12) (isW_lt hT 0 (by decide)) (cel_W hT) rfl (by decide) rfl inT_X10 fl_RX10_27 rfl hd hp h
theorem gf_RX10_30 {Γ : CX} {cc : ByteArray} {nL : Nat} {ret : Option FieldType} {rm : Room} {σ : St} {pc pc' : Nat} {lv : List (Nat × Value)} {st : List Value} {i : Nat} (hT : isW σ i = true) (hd : decode cc pc = .ok (.getfield 30, 3)) (hp : pc + 3 = pc') (h : WW Γ cc nL RX10 ret rm σ pc' lv (.ref (xd Γ (i + 8)) :: st)) : WW Γ cc nL RX10 ret rm σ pc lv (.ref (xd Γ i) :: st) :=
  w_get (k := 9) (C := RX10) (T := TX10) (N := 12) (isW_lt hT 0 (by decide)) (cel_W hT) rfl (by decide) rfl inT_X10 fl_RX10_30 rfl hd hp h
theorem gf_RX10_33 {Γ : CX} {cc : ByteArray} {nL : Nat} {ret : Option FieldType} {rm : Room} {σ : St} {pc pc' : Nat} {lv : List (Nat × Value)} {st : List Value} {i : Nat} (hT : isW σ i = true) (hd : decode cc pc = .ok (.getfield 33, 3)) (hp : pc + 3 = pc') (h : WW Γ cc nL RX10 ret rm σ pc' lv (.ref (xd Γ (i + 10)) :: st)) : WW Γ cc nL RX10 ret rm σ pc lv (.ref (xd Γ i) :: st) :=
  w_get (k := 10) (C := RX10) (T := TX10) (N := 12) (isW_lt hT 0 (by decide)) (cel_W hT) rfl (by decide) rfl inT_X10 fl_RX10_33 rfl hd hp h
theorem gf_RX10_36 {Γ : CX} {cc : ByteArray} {nL : Nat} {ret : Option FieldType} {rm : Room} {σ : St} {pc pc' : Nat} {lv : List (Nat × Value)} {st : List Value} {i : Nat} (hT : isW σ i = true) (hd : decode cc pc = .ok (.getfield 36, 3)) (hp : pc + 3 = pc') (h : WW Γ cc nL RX10 ret rm σ pc' lv (.ref (xd Γ (i + 12)) :: st)) : WW Γ cc nL RX10 ret rm σ pc lv (.ref (xd Γ i) :: st) :=
  w_get (k := 11) (C := RX10) (T := TX10) (N := 12) (isW_lt hT 0 (by decide)) (cel_W hT) rfl (by decide) rfl inT_X10 fl_RX10_36 rfl hd hp h
theorem gf_RX10_42 {Γ : CX} {cc : ByteArray} {nL : Nat} {ret : Option FieldType} {rm : Room} {σ : St} {pc pc' : Nat} {lv : List (Nat × Value)} {st : List Value} {i : Nat} (hT : isW σ i = true) (hd : decode cc pc = .ok (.getfield 42, 3)) (hp : pc + 3 = pc') (h : WW Γ cc nL RX10 ret rm σ pc' lv (.int (gf σ i 0) :: st)) : WW Γ cc nL RX10 ret rm σ pc lv (.ref (xd Γ i) :: st) :=
  w_get (k := 0) (C := RX10) (T := TX10) (N := 12) (isW_lt hT 0 (by decide)) (cel_W hT) rfl (by decide) rfl inT_X10 fl_RX10_42 rfl hd hp h
theorem gf_RX10_46 {Γ : CX} {cc : ByteArray} {nL : Nat} {ret : Option FieldType} {rm : Room} {σ : St} {pc pc' : Nat} {lv : List (Nat × Value)} {st : List Value} {i : Nat} (hT : isW σ i = true) (hd : decode cc pc = .ok (.getfield 46, 3)) (hp : pc + 3 = pc') (h : WW Γ cc nL RX10 ret rm σ pc' lv (.int (gf σ i 1) :: st)) : WW Γ cc nL RX10 ret rm σ pc lv (.ref (xd Γ i) :: st) :=
  w_get (k := 1) (C := RX10) (T := TX10) (N := 12) (isW_lt hT 0 (by decide)) (cel_W hT) rfl (by decide) rfl inT_X10 fl_RX10_46 rfl hd hp h
theorem gf_RX10_49 {Γ : CX} {cc : ByteArray} {nL : Nat} {ret : Option FieldType} {rm : Room} {σ : St} {pc pc' : Nat} {lv : List (Nat × Value)} {st : List Value} {i : Nat} (hT : isW σ i = true) (hd : decode cc pc = .ok (.getfield 49, 3)) (hp : pc + 3 = pc') (h : WW Γ cc nL RX10 ret rm σ pc' lv (.int (gf σ i 2) :: st)) : WW Γ cc nL RX10 ret rm σ pc lv (.ref (xd Γ i) :: st) :=
  w_get (k := 2) (C := RX10) (T := TX10) (N := 12) (isW_lt hT 0 (by decide)) (cel_W hT) rfl (by decide) rfl inT_X10 fl_RX10_49 rfl hd hp h
theorem gf_RX10_52 {Γ : CX} {cc : ByteArray} {nL : Nat} {ret : Option FieldType} {rm : Room} {σ : St} {pc pc' : Nat} {lv : List (Nat × Value)} {st : List Value} {i : Nat} (hT : isW σ i = true) (hd : decode cc pc = .ok (.getfield 52, 3)) (hp : pc + 3 = pc') (h : WW Γ cc nL RX10 ret rm σ pc' lv (.int (gf σ i 3) :: st)) : WW Γ cc nL RX10 ret rm σ pc lv (.ref (xd Γ i) :: st) :=
  w_get (k := 3) (C := RX10) (T := TX10) (N := 12) (isW_lt hT 0 (by decide)) (cel_W hT) rfl (by decide) rfl inT_X10 fl_RX10_52 rfl hd hp h
theorem gf_RX10_55 {Γ : CX} {cc : ByteArray} {nL : Nat} {ret : Option FieldType} {rm : Room} {σ : St} {pc pc' : Nat} {lv : List (Nat × Value)} {st : List Value} {i : Nat} (hT : isW σ i = true) (hd : decode cc pc = .ok (.getfield 55, 3)) (hp : pc + 3 = pc') (h : WW Γ cc nL RX10 ret rm σ pc' lv (.int (gf σ i 4) :: st)) : WW Γ cc nL RX10 ret rm σ pc lv (.ref (xd Γ i) :: st) :=
  w_get (k := 4) (C := RX10) (T := TX10) (N := 12) (isW_lt hT 0 (by decide)) (cel_W hT) rfl (by decide) rfl inT_X10 fl_RX10_55 rfl hd hp h
theorem gf_RX10_58 {Γ : CX} {cc : ByteArray} {nL : Nat} {ret : Option FieldType} {rm : Room} {σ : St} {pc pc' : Nat} {lv : List (Nat × Value)} {st : List Value} {i : Nat} (hT : isT σ i = true) (hd : decode cc pc = .ok (.getfield 58, 3)) (hp : pc + 3 = pc') (h : WW Γ cc nL RX10 ret rm σ pc' lv (.int (gf σ i 3) :: st)) : WW Γ cc nL RX10 ret rm σ pc lv (.ref (xd Γ i) :: st) :=
  w_get (k := 3) (C := RX9) (T := TX9) (N := 4) (isT_lt0 hT) (cel_T hT) rfl (by decide) rfl inT_X9 fl_RX10_58 rfl hd hp h
theorem gf_RX12_9 {Γ : CX} {cc : ByteArray} {nL : Nat} {ret : Option FieldType} {rm : Room} {σ : St} {pc pc' : Nat} {lv : List (Nat × Value)} {st : List Value} (hd : decode cc pc = .ok (.getfield 9, 3)) (hp : pc + 3 = pc') (h : WW Γ cc nL RX12 ret rm σ pc' lv (.ref (xd Γ 59) :: st)) : WW Γ cc nL RX12 ret rm σ pc lv (.ref (xd Γ 58) :: st) :=
  w_get (k := 1) (C := RX12) (T := TX12) (N := 32) (lt_lit (by decide)) cel_58 rfl (by decide) rfl inT_X12 fl_RX12_9 rfl hd hp h
theorem gf_RX12_13 {Γ : CX} {cc : ByteArray} {nL : Nat} {ret : Option FieldType} {rm : Room} {σ : St} {pc pc' : Nat} {lv : List (Nat × Value)} {st : List Value} (hd : decode cc pc = .ok (.getfield 13, 3)) (hp : pc + 3 = pc') (h : WW Γ cc nL RX12 ret rm σ pc' lv (.ref (xd Γ 60) :: st)) : WW Γ cc nL RX12 ret rm σ pc lv (.ref (xd Γ 58) :: st) :=
  w_get (k := 2) (C := RX12) (T := TX12) (N := 32) (lt_lit (by decide)) cel_58 rfl (by decide) rfl inT_X12 fl_RX12_13 rfl hd hp h
theorem gf_RX12_16 {Γ : CX} {cc : ByteArray} {nL : Nat} {ret : Option FieldType} {rm : Room} {σ : St} {pc pc' : Nat} {lv : List (Nat × Value)} {st : List Value} (hd : decode cc pc = .ok (.getfield 16, 3)) (hp : pc + 3 = pc') (h : WW Γ cc nL RX12 ret rm σ pc' lv (.ref (xd Γ 61) :: st)) : WW Γ cc nL RX12 ret rm σ pc lv (.ref (xd Γ 58) :: st) :=
  w_get (k := 3) (C := RX12) (T := TX12) (N := 32) (lt_lit (by decide)) cel_58 rfl (by decide) rfl inT_X12 fl_RX12_16 rfl hd hp h
theorem gf_RX12_20 {Γ : CX} {cc : ByteArray} {nL : Nat} {ret : Option FieldType} {rm : Room} {σ : St} {pc pc' : Nat} {lv : List (Nat × Value)} {st : List Value} (hd : decode cc pc = .ok (.getfield 20, 3)) (hp : pc + 3 = pc') (h : WW Γ cc nL RX12 ret rm σ pc' lv (.ref (xd Γ 62) :: st)) : WW Γ cc nL RX12 ret rm σ pc lv (.ref (xd Γ 58) :: st) :=
  w_get (k := 4) (C := RX12) (T := TX12) (N := 32) (lt_lit (by decide)) cel_58 rfl (by decide) rfl inT_X12 fl_RX12_20 rfl hd hp h
theorem gf_RX12_24 {Γ : CX} {cc : ByteArray} {nL : Nat} {ret : Option FieldType} {rm : Room} {σ : St} {pc pc' : Nat} {lv : List (Nat × Value)} {st : List Value} (hd : decode cc pc = .ok (.getfield 24, 3)) (hp : pc + 3 = pc') (h : WW Γ cc nL RX12 ret rm σ pc' lv (.ref (xd Γ 63) :: st)) : WW Γ cc nL RX12 ret rm σ pc lv (.ref (xd Γ 58) :: st) :=
  w_get (k := 6) (C := RX12) (T := TX12) (N := 32) (lt_lit (by decide)) cel_58 rfl (by decide) rfl inT_X12 fl_RX12_24 rfl hd hp h
theorem gf_RX12_27 {Γ : CX} {cc : ByteArray} {nL : Nat} {ret : Option FieldType} {rm : Room} {σ : St} {pc pc' : Nat} {lv : List (Nat × Value)} {st : List Value} (hd : decode cc pc = .ok (.getfield 27, 3)) (hp : pc + 3 = pc') (h : WW Γ cc nL RX12 ret rm σ pc' lv (.int (gf σ 58 13) :: st)) : WW Γ cc nL RX12 ret rm σ pc lv (.ref (xd Γ 58) :: st) :=
  w_get (k := 13) (C := RX12) (T := TX12) (N := 32) (lt_lit (by decide)) cel_58 rfl (by decide) rfl inT_X12 fl_RX12_27 rfl hd hp h
theorem gf_RX12_31 {Γ : CX} {cc : ByteArray} {nL : Nat} {ret : Option FieldType} {rm : Room} {σ : St} {pc pc' : Nat} {lv : List (Nat × Value)} {st : List Value} (hd : decode cc pc = .ok (.getfield 31, 3)) (hp : pc + 3 = pc') (h : WW Γ cc nL RX12 ret rm σ pc' lv (.ref (xd Γ 64) :: st)) : WW Γ cc nL RX12 ret rm σ pc lv (.ref (xd Γ 58) :: st) :=
  w_get (k := 14) (C := RX12) (T := TX12) (N := 32) (lt_lit (by decide)) cel_58 rfl (by decide) rfl inT_X12 fl_RX12_31 rfl hd hp h
theorem gf_RX12_34 {Γ : CX} {cc : ByteArray} {nL : Nat} {ret : Option FieldType} {rm : Room} {σ : St} {pc pc' : Nat} {lv : List (Nat × Value)} {st : List Value} (hd : decode cc pc = .ok (.getfield 34, 3)) (hp : pc + 3 = pc') (h : WW Γ cc nL RX12 ret rm σ pc' lv (.ref (xd Γ 65) :: st)) : WW Γ cc nL RX12 ret rm σ pc lv (.ref (xd Γ 58) :: st) :=
  w_get (k := 15) (C := RX12) (T := TX12) (N := 32) (lt_lit (by decide)) cel_58 rfl (by decide) rfl inT_X12 fl_RX12_34 rfl hd hp h
theorem gf_RX12_37 {Γ : CX} {cc : ByteArray} {nL : Nat} {ret : Option FieldType} {rm : Room} {σ : St} {pc pc' : Nat} {lv : List (Nat × Value)} {st : List Value} (hd : decode cc pc = .ok (.getfield 37, 3)) (hp : pc + 3 = pc') (h : WW Γ cc nL RX12 ret rm σ pc' lv (.ref (xd Γ 66) :: st)) : WW Γ cc nL RX12 ret rm σ pc lv (.ref (xd Γ 58) :: st) :=
  w_get (k := 17) (C := RX12) (T := TX12) (N := 32) (lt_lit (by decide)) cel_58 rfl (by decide) rfl inT_X12 fl_RX12_37 rfl hd hp h
theorem gf_RX12_40 {Γ : CX} {cc : ByteArray} {nL : Nat} {ret : Option FieldType} {rm : Room} {σ : St} {pc pc' : Nat} {lv : List (Nat × Value)} {st : List Value} (hd : decode cc pc = .ok (.getfield 40, 3)) (hp : pc + 3 = pc') (h : WW Γ cc nL RX12 ret rm σ pc' lv (.ref (xd Γ 67) :: st)) : WW Γ cc nL RX12 ret rm σ pc lv (.ref (xd Γ 58) :: st) :=
  w_get (k := 21) (C := RX12) (T := TX12) (N := 32) (lt_lit (by decide)) cel_58 rfl (by decide) rfl inT_X12 fl_RX12_40 rfl hd hp h
theorem gf_RX12_43 {Γ : CX} {cc : ByteArray} {nL : Nat} {ret : Option FieldType} {rm : Room} {σ : St} {pc pc' : Nat} {lv : List (Nat × Value)} {st : List Value} (hd : decode cc pc = .ok (.getfield 43, 3)) (hp : pc + 3 = pc') (h : WW Γ cc nL RX12 ret rm σ pc' lv (.ref (xd Γ 68) :: st)) : WW Γ cc nL RX12 ret rm σ pc lv (.ref (xd Γ 58) :: st) :=
  w_get (k := 23) (C := RX12) (T := TX12) (N := 32) (lt_lit (by decide)) cel_58 rfl (by decide) rfl inT_X12 fl_RX12_43 rfl hd hp h
theorem gf_RX12_46 {Γ : CX} {cc : ByteArray} {nL : Nat} {ret : Option FieldType} {rm : Room} {σ : St} {pc pc' : Nat} {lv : List (Nat × Value)} {st : List Value} (hd : decode cc pc = .ok (.getfield 46, 3)) (hp : pc + 3 = pc') (h : WW Γ cc nL RX12 ret rm σ pc' lv (.ref (xd Γ 69) :: st)) : WW Γ cc nL RX12 ret rm σ pc lv (.ref (xd Γ 58) :: st) :=
  w_get (k := 24) (C := RX12) (T := TX12) (N := 32) (lt_lit (by decide)) cel_58 rfl (by decide) rfl inT_X12 fl_RX12_46 rfl hd hp h
theorem gf_RX12_49 {Γ : CX} {cc : ByteArray} {nL : Nat} {ret : Option FieldType} {rm : Room} {σ : St} {pc pc' : Nat} {lv : List (Nat × Value)} {st : List Value} (hd : decode cc pc = .ok (.getfield 49, 3)) (hp : pc + 3 = pc') (h : WW Γ cc nL RX12 ret rm σ pc' lv (.ref (xd Γ 70) :: st)) : WW Γ cc nL RX12 ret rm σ pc lv (.ref (xd Γ 58) :: st) :=
  w_get (k := 25) (C := RX12) (T := TX12) (N := 32) (lt_lit (by decide)) cel_58 rfl (by decide) rfl inT_X12 fl_RX12_49 rfl hd hp h
theorem gf_RX12_52 {Γ : CX} {cc : ByteArray} {nL : Nat} {ret : Option FieldType} {rm : Room} {σ : St} {pc pc' : Nat} {lv : List (Nat × Value)} {st : List Value} (hd : decode cc pc = .ok (.getfield 52, 3)) (hp : pc + 3 = pc') (h : WW Γ cc nL RX12 ret rm σ pc' lv (.ref (xd Γ 71) :: st)) : WW Γ cc nL RX12 ret rm σ pc lv (.ref (xd Γ 58) :: st) :=
  w_get (k := 28) (C := RX12) (T := TX12) (N := 32) (lt_lit (by decide)) cel_58 rfl (by decide) rfl inT_X12 fl_RX12_52 rfl hd hp h
theorem gf_RX12_55 {Γ : CX} {cc : ByteArray} {nL : Nat} {ret : Option FieldType} {rm : Room} {σ : St} {pc pc' : Nat} {lv : List (Nat × Value)} {st : List Value} (hd : decode cc pc = .ok (.getfield 55, 3)) (hp : pc + 3 = pc') (h : WW Γ cc nL RX12 ret rm σ pc' lv (.ref (xd Γ 72) :: st)) : WW Γ cc nL RX12 ret rm σ pc lv (.ref (xd Γ 58) :: st) :=
  w_get (k := 29) (C := RX12) (T := TX12) (N := 32) (lt_lit (by decide)) cel_58 rfl (by decide) rfl inT_X12 fl_RX12_55 rfl hd hp h
theorem gf_RX12_58 {Γ : CX} {cc : ByteArray} {nL : Nat} {ret : Option FieldType} {rm : Room} {σ : St} {pc pc' : Nat} {lv : List (Nat × Value)} {st : List Value} (hd : decode cc pc = .ok (.getfield 58, 3)) (hp : pc + 3 = pc') (h : WW Γ cc nL RX12 ret rm σ pc' lv (.ref (xd Γ 73) :: st)) : WW Γ cc nL RX12 ret rm σ pc lv (.ref (xd Γ 58) :: st) :=
  w_get (k := 30) (C := RX12) (T := TX12) (N := 32) (lt_lit (by decide)) cel_58 rfl (by decide) rfl inT_X12 fl_RX12_58 rfl hd hp h
theorem gf_RX12_62 {Γ : CX} {cc : ByteArray} {nL : Nat} {ret : Option FieldType} {rm : Room} {σ : St} {pc pc' : Nat} {lv : List (Nat × Value)} {st : List Value} (hd : decode cc pc = .ok (.getfield 62, 3)) (hp : pc + 3 = pc') (h : WW Γ cc nL RX12 ret rm σ pc' lv (.ref (xd Γ 74) :: st)) : WW Γ cc nL RX12 ret rm σ pc lv (.ref (xd Γ 58) :: st) :=
  w_get (k := 31) (C := RX12) (T := TX12) (N := 32) (lt_lit (by decide)) cel_58 rfl (by decide) rfl inT_X12 fl_RX12_62 rfl hd hp h
theorem gf_RX12_89 {Γ : CX} {cc : ByteArray} {nL : Nat} {ret : Option FieldType} {rm : Room} {σ : St} {pc pc' : Nat} {lv : List (Nat × Value)} {st : List Value} (hd : decode cc pc = .ok (.getfield 89, 3)) (hp : pc + 3 = pc') (h : WW Γ cc nL RX12 ret rm σ pc' lv (.int (gf σ 58 5) :: st)) : WW Γ cc nL RX12 ret rm σ pc lv (.ref (xd Γ 58) :: st) :=
  w_get (k := 5) (C := RX12) (T := TX12) (N := 32) (lt_lit (by decide)) cel_58 rfl (by decide) rfl inT_X12 fl_RX12_89 rfl hd hp h
theorem gf_RX12_92 {Γ : CX} {cc : ByteArray} {nL : Nat} {ret : Option FieldType} {rm : Room} {σ : St} {pc pc' : Nat} {lv : List (Nat × Value)} {st : List Value} (hd : decode cc pc = .ok (.getfield 92, 3)) (hp : pc + 3 = pc') (h : WW Γ cc nL RX12 ret rm σ pc' lv (.int (gf σ 58 7) :: st)) : WW Γ cc nL RX12 ret rm σ pc lv (.ref (xd Γ 58) :: st) :=
  w_get (k := 7) (C := RX12) (T := TX12) (N := 32) (lt_lit (by decide)) cel_58 rfl (by decide) rfl inT_X12 fl_RX12_92 rfl hd hp h
theorem gf_RX12_95 {Γ : CX} {cc : ByteArray} {nL : Nat} {ret : Option FieldType} {rm : Room} {σ : St} {pc pc' : Nat} {lv : List (Nat × Value)} {st : List Value} (hd : decode cc pc = .ok (.getfield 95, 3)) (hp : pc + 3 = pc') (h : WW Γ cc nL RX12 ret rm σ pc' lv (.int (gf σ 58 8) :: st)) : WW Γ cc nL RX12 ret rm σ pc lv (.ref (xd Γ 58) :: st) :=
  w_get (k := 8) (C := RX12) (T := TX12) (N := 32) (lt_lit (by decide)) cel_58 rfl (by decide) rfl inT_X12 fl_RX12_95 rfl hd hp h
theorem gf_RX12_102 {Γ : CX} {cc : ByteArray} {nL : Nat} {ret : Option FieldType} {rm : Room} {σ : St} {pc pc' : Nat} {lv : List (Nat × Value)} {st : List Value} (hd : decode cc pc = .ok (.getfield 102, 3)) (hp : pc + 3 = pc') (h : WW Γ cc nL RX12 ret rm σ pc' lv (.int (gf σ 58 9) :: st)) : WW Γ cc nL RX12 ret rm σ pc lv (.ref (xd Γ 58) :: st) :=
  w_get (k := 9) (C := RX12) (T := TX12) (N := 32) (lt_lit (by decide)) cel_58 rfl (by decide) rfl inT_X12 fl_RX12_102 rfl hd hp h
theorem gf_RX12_105 {Γ : CX} {cc : ByteArray} {nL : Nat} {ret : Option FieldType} {rm : Room} {σ : St} {pc pc' : Nat} {lv : List (Nat × Value)} {st : List Value} (hd : decode cc pc = .ok (.getfield 105, 3)) (hp : pc + 3 = pc') (h : WW Γ cc nL RX12 ret rm σ pc' lv (.int (gf σ 58 10) :: st)) : WW Γ cc nL RX12 ret rm σ pc lv (.ref (xd Γ 58) :: st) :=
  w_get (k := 10) (C := RX12) (T := TX12) (N := 32) (lt_lit (by decide)) cel_58 rfl (by decide) rfl inT_X12 fl_RX12_105 rfl hd hp h
theorem gf_RX12_116 {Γ : CX} {cc : ByteArray} {nL : Nat} {ret : Option FieldType} {rm : Room} {σ : St} {pc pc' : Nat} {lv : List (Nat × Value)} {st : List Value} (hd : decode cc pc = .ok (.getfield 116, 3)) (hp : pc + 3 = pc') (h : WW Γ cc nL RX12 ret rm σ pc' lv (.int (gf σ 58 11) :: st)) : WW Γ cc nL RX12 ret rm σ pc lv (.ref (xd Γ 58) :: st) :=
  w_get (k := 11) (C := RX12) (T := TX12) (N := 32) (lt_lit (by decide)) cel_58 rfl (by decide) rfl inT_X12 fl_RX12_116 rfl hd hp h
theorem gf_RX12_125 {Γ : CX} {cc : ByteArray} {nL : Nat} {ret : Option FieldType} {rm : Room} {σ : St} {pc pc' : Nat} {lv : List (Nat × Value)} {st : List Value} (hd : decode cc pc = .ok (.getfield 125, 3)) (hp : pc + 3 = pc') (h : WW Γ cc nL RX12 ret rm σ pc' lv (.int (gf σ 58 12) :: st)) : WW Γ cc nL RX12 ret rm σ pc lv (.ref (xd Γ 58) :: st) :=
  w_get (k := 12) (C := RX12) (T := TX12) (N := 32) (lt_lit (by decide)) cel_58 rfl (by decide) rfl inT_X12 fl_RX12_125 rfl hd hp h
theorem gf_RX12_277 {Γ : CX} {cc : ByteArray} {nL : Nat} {ret : Option FieldType} {rm : Room} {σ : St} {pc pc' : Nat} {lv : List (Nat × Value)} {st : List Value} (hd : decode cc pc = .ok (.getfield 277, 3)) (hp : pc + 3 = pc') (h : WW Γ cc nL RX12 ret rm σ pc' lv (.int (gf σ 58 16) :: st)) : WW Γ cc nL RX12 ret rm σ pc lv (.ref (xd Γ 58) :: st) :=
  w_get (k := 16) (C := RX12) (T := TX12) (N := 32) (lt_lit (by decide)) cel_58 rfl (by decide) rfl inT_X12 fl_RX12_277 rfl hd hp h
theorem gf_RX12_308 {Γ : CX} {cc : ByteArray} {nL : Nat} {ret : Option FieldType} {rm : Room} {σ : St} {pc pc' : Nat} {lv : List (Nat × Value)} {st : List Value} (hd : decode cc pc = .ok (.getfield 308, 3)) (hp : pc + 3 = pc') (h : WW Γ cc nL RX12 ret rm σ pc' lv (.int (gf σ 58 19) :: st)) : WW Γ cc nL RX12 ret rm σ pc lv (.ref (xd Γ 58) :: st) :=
  w_get (k := 19) (C := RX12) (T := TX12) (N := 32) (lt_lit (by decide)) cel_58 rfl (by decide) rfl inT_X12 fl_RX12_308 rfl hd hp h
theorem gf_RX12_311 {Γ : CX} {cc : ByteArray} {nL : Nat} {ret : Option FieldType} {rm : Room} {σ : St} {pc pc' : Nat} {lv : List (Nat × Value)} {st : List Value} (hd : decode cc pc = .ok (.getfield 311, 3)) (hp : pc + 3 = pc') (h : WW Γ cc nL RX12 ret rm σ pc' lv (.int (gf σ 58 18) :: st)) : WW Γ cc nL RX12 ret rm σ pc lv (.ref (xd Γ 58) :: st) :=
  w_get (k := 18) (C := RX12) (T := TX12) (N := 32) (lt_lit (by decide)) cel_58 rfl (by decide) rfl inT_X12 fl_RX12_311 rfl hd hp h
theorem gf_RX12_348 {Γ : CX} {cc : ByteArray} {nL : Nat} {ret : Option FieldType} {rm : Room} {σ : St} {pc pc' : Nat} {lv : List (Nat × Value)} {st : List Value} (hd : decode cc pc = .ok (.getfield 348, 3)) (hp : pc + 3 = pc') (h : WW Γ cc nL RX12 ret rm σ pc' lv (.int (gf σ 58 20) :: st)) : WW Γ cc nL RX12 ret rm σ pc lv (.ref (xd Γ 58) :: st) :=
  w_get (k := 20) (C := RX12) (T := TX12) (N := 32) (lt_lit (by decide)) cel_58 rfl (by decide) rfl inT_X12 fl_RX12_348 rfl hd hp h
theorem gf_RX12_363 {Γ : CX} {cc : ByteArray} {nL : Nat} {ret : Option FieldType} {rm : Room} {σ : St} {pc pc' : Nat} {lv : List (Nat × Value)} {st : List Value} (hd : decode cc pc = .ok (.getfield 363, 3)) (hp : pc + 3 = pc') (h : WW Γ cc nL RX12 ret rm σ pc' lv (.int (gf σ 58 22) :: st)) : WW Γ cc nL RX12 ret rm σ pc lv (.ref (xd Γ 58) :: st) :=
  w_get (k := 22) (C := RX12) (T := TX12) (N := 32) (lt_lit (by decide)) cel_58 rfl (by decide) rfl inT_X12 fl_RX12_363 rfl hd hp h
theorem gf_RX12_419 {Γ : CX} {cc : ByteArray} {nL : Nat} {ret : Option FieldType} {rm : Room} {σ : St} {pc pc' : Nat} {lv : List (Nat × Value)} {st : List Value} (hd : decode cc pc = .ok (.getfield 419, 3)) (hp : pc + 3 = pc') (h : WW Γ cc nL RX12 ret rm σ pc' lv (.int (gf σ 58 26) :: st)) : WW Γ cc nL RX12 ret rm σ pc lv (.ref (xd Γ 58) :: st) :=
  w_get (k := 26) (C := RX12) (T := TX12) (N := 32) (lt_lit (by decide)) cel_58 rfl (by decide) rfl inT_X12 fl_RX12_419 rfl hd hp h
theorem gf_RX12_441 {Γ : CX} {cc : ByteArray} {nL : Nat} {ret : Option FieldType} {rm : Room} {σ : St} {pc pc' : Nat} {lv : List (Nat × Value)} {st : List Value} (hd : decode cc pc = .ok (.getfield 441, 3)) (hp : pc + 3 = pc') (h : WW Γ cc nL RX12 ret rm σ pc' lv (.int (gf σ 58 27) :: st)) : WW Γ cc nL RX12 ret rm σ pc lv (.ref (xd Γ 58) :: st) :=
  w_get (k := 27) (C := RX12) (T := TX12) (N := 32) (lt_lit (by decide)) cel_58 rfl (by decide) rfl inT_X12 fl_RX12_441 rfl hd hp h
theorem pf_RX2_28 {Γ : CX} {cc : ByteArray} {nL : Nat} {ret : Option FieldType} {rm : Room} {σ : St} {pc pc' : Nat} {lv : List (Nat × Value)} {st : List Value} {x : Int32} (hd : decode cc pc = .ok (.putfield 28, 3)) (hz : bz x = true) (hp : pc + 3 = pc') (h : WW Γ cc nL RX2 ret rm (sf σ 31 5 x) pc' lv st) : WW Γ cc nL RX2 ret rm σ pc lv (.int x :: .ref (xd Γ 31) :: st) :=
  w_put (σ' := sf σ 31 5 x) (k := 5) (C := RX2) (T := TX2) (N := 6) (ty := .boolean) tyX2 (lt_lit (by decide)) cel_31 rfl (by decide) inT_X2 fl_RX2_28 rfl tyX2_ok nmX2 rfl (by decide +kernel) (bz_nar hz).1 (bz_nar hz).2 (by simp) ⟨rfl, (cel_31 (σ := sf σ 31 5 x)).trans (by simp [sf, gf_sF, upd]), fun _ hj => cel_sF hj⟩ hd hp h
theorem pf_RX5_22 {Γ : CX} {cc : ByteArray} {nL : Nat} {ret : Option FieldType} {rm : Room} {σ : St} {pc pc' : Nat} {lv : List (Nat × Value)} {st : List Value} {x : Int32} (hd : decode cc pc = .ok (.putfield 22, 3)) (hp : pc + 3 = pc') (h : WW Γ cc nL RX5 ret rm (sf σ 43 0 x) pc' lv st) : WW Γ cc nL RX5 ret rm σ pc lv (.int x :: .ref (xd Γ 43) :: st) :=
  w_put (σ' := sf σ 43 0 x) (k := 0) (C := RX5) (T := TX5) (N := 5) (ty := .int) tyX5 (lt_lit (by decide)) cel_43 rfl (by decide) inT_X5 fl_RX5_22 rfl tyX5_ok nmX5 rfl (by decide +kernel) rfl rfl (by simp) ⟨rfl, (cel_43 (σ := sf σ 43 0 x)).trans (by simp [sf, gf_sF, upd]), fun _ hj => cel_sF hj⟩ hd hp h
theorem pf_RX6_15 {Γ : CX} {cc : ByteArray} {nL : Nat} {ret : Option FieldType} {rm : Room} {σ : St} {pc pc' : Nat} {lv : List (Nat × Value)} {st : List Value} {x : Int32} (hd : decode cc pc = .ok (.putfield 15, 3)) (hp : pc + 3 = pc') (h : WW Γ cc nL RX6 ret rm (sf σ 29 3 x) pc' lv st) : WW Γ cc nL RX6 ret rm σ pc lv (.int x :: .ref (xd Γ 29) :: st) :=
  w_put (σ' := sf σ 29 3 x) (k := 3) (C := RX6) (T := TX6) (N := 9) (ty := .int) tyX6 (lt_lit (by decide)) cel_29 rfl (by decide) inT_X6 fl_RX6_15 rfl tyX6_ok nmX6 rfl (by decide +kernel) rfl rfl (by simp) ⟨rfl, (cel_29 (σ := sf σ 29 3 x)).trans (by simp [sf, gf_sF, upd]), fun _ hj => cel_sF hj⟩ hd hp h
theorem pf_RX6_23 {Γ : CX} {cc : ByteArray} {nL : Nat} {ret : Option FieldType} {rm : Room} {σ : St} {pc pc' : Nat} {lv : List (Nat × Value)} {st : List Value} {x : Int32} (hd : decode cc pc = .ok (.putfield 23, 3)) (hp : pc + 3 = pc') (h : WW Γ cc nL RX6 ret rm (sf σ 29 1 x) pc' lv st) : WW Γ cc nL RX6 ret rm σ pc lv (.int x :: .ref (xd Γ 29) :: st) :=
  w_put (σ' := sf σ 29 1 x) (k := 1) (C := RX6) (T := TX6) (N := 9) (ty := .int) tyX6 (lt_lit (by decide)) cel_29 rfl (by decide) inT_X6 fl_RX6_23 rfl tyX6_ok nmX6 rfl (by decide +kernel) rfl rfl (by simp) ⟨rfl, (cel_29 (σ := sf σ 29 1 x)).trans (by simp [sf, gf_sF, upd]), fun _ hj => cel_sF hj⟩ hd hp h
theorem pf_RX6_31 {Γ : CX} {cc : ByteArray} {nL : Nat} {ret : Option FieldType} {rm : Room} {σ : St} {pc pc' : Nat} {lv : List (Nat × Value)} {st : List Value} {x : Int32} (hd : decode cc pc = .ok (.putfield 31, 3)) (hp : pc + 3 = pc') (h : WW Γ cc nL RX6 ret rm (sf σ 29 2 x) pc' lv st) : WW Γ cc nL RX6 ret rm σ pc lv (.int x :: .ref (xd Γ 29) :: st) :=
  w_put (σ' := sf σ 29 2 x) (k := 2) (C := RX6) (T := TX6) (N := 9) (ty := .int) tyX6 (lt_lit (by decide)) cel_29 rfl (by decide) inT_X6 fl_RX6_31 rfl tyX6_ok nmX6 rfl (by decide +kernel) rfl rfl (by simp) ⟨rfl, (cel_29 (σ := sf σ 29 2 x)).trans (by simp [sf, gf_sF, upd]), fun _ hj => cel_sF hj⟩ hd hp h
theorem pf_RX6_34 {Γ : CX} {cc : ByteArray} {nL : Nat} {ret : Option FieldType} {rm : Room} {σ : St} {pc pc' : Nat} {lv : List (Nat × Value)} {st : List Value} {x : Int32} (hd : decode cc pc = .ok (.putfield 34, 3)) (hp : pc + 3 = pc') (h : WW Γ cc nL RX6 ret rm (sf σ 29 6 x) pc' lv st) : WW Γ cc nL RX6 ret rm σ pc lv (.int x :: .ref (xd Γ 29) :: st) :=
  w_put (σ' := sf σ 29 6 x) (k := 6) (C := RX6) (T := TX6) (N := 9) (ty := .int) tyX6 (lt_lit (by decide)) cel_29 rfl (by decide) inT_X6 fl_RX6_34 rfl tyX6_ok nmX6 rfl (by decide +kernel) rfl rfl (by simp) ⟨rfl, (cel_29 (σ := sf σ 29 6 x)).trans (by simp [sf, gf_sF, upd]), fun _ hj => cel_sF hj⟩ hd hp h
theorem pf_RX6_40 {Γ : CX} {cc : ByteArray} {nL : Nat} {ret : Option FieldType} {rm : Room} {σ : St} {pc pc' : Nat} {lv : List (Nat × Value)} {st : List Value} {x : Int32} (hd : decode cc pc = .ok (.putfield 40, 3)) (hp : pc + 3 = pc') (h : WW Γ cc nL RX6 ret rm (sf σ 29 7 x) pc' lv st) : WW Γ cc nL RX6 ret rm σ pc lv (.int x :: .ref (xd Γ 29) :: st) :=
  w_put (σ' := sf σ 29 7 x) (k := 7) (C := RX6) (T := TX6) (N := 9) (ty := .int) tyX6 (lt_lit (by decide)) cel_29 rfl (by decide) inT_X6 fl_RX6_40 rfl tyX6_ok nmX6 rfl (by decide +kernel) rfl rfl (by simp) ⟨rfl, (cel_29 (σ := sf σ 29 7 x)).trans (by simp [sf, gf_sF, upd]), fun _ hj => cel_sF hj⟩ hd hp h
theorem pf_RX6_49 {Γ : CX} {cc : ByteArray} {nL : Nat} {ret : Option FieldType} {rm : Room} {σ : St} {pc pc' : Nat} {lv : List (Nat × Value)} {st : List Value} {i : Nat} {x : Int32} (hT : isW σ i = true) (hd : decode cc pc = .ok (.putfield 49, 3)) (hp : pc + 3 = pc') (h : WW Γ cc nL RX6 ret rm (sf σ i 0 x) pc' lv st) : WW Γ cc nL RX6 ret rm σ pc lv (.int x :: .ref (xd Γ i) :: st) :=
  w_put (σ' := sf σ i 0 x) (k := 0) (C := RX10) (T := TX10) (N := 12) (ty := .int) tyX10 (isW_lt hT 0 (by decide)) (cel_W hT) rfl (by decide) inT_X10 fl_RX6_49 rfl tyX10_ok nmX10 rfl (by decide +kernel) rfl rfl (by simp) ⟨rfl, (cel_W (σ := sf σ i 0 x) hT).trans (by simp [sf, gf_sF, upd]), fun _ hj => cel_sF hj⟩ hd hp h
theorem pf_RX6_109 {Γ : CX} {cc : ByteArray} {nL : Nat} {ret : Option FieldType} {rm : Room} {σ : St} {pc pc' : Nat} {lv : List (Nat × Value)} {st : List Value} {i : Nat} {x : Int32} (hT : isW σ i = true) (hd : decode cc pc = .ok (.putfield 109, 3)) (hp : pc + 3 = pc') (h : WW Γ cc nL RX6 ret rm (sf σ i 1 x) pc' lv st) : WW Γ cc nL RX6 ret rm σ pc lv (.int x :: .ref (xd Γ i) :: st) :=
  w_put (σ' := sf σ i 1 x) (k := 1) (C := RX10) (T := TX10) (N := 12) (ty := .int) tyX10 (isW_lt hT 0 (by decide)) (cel_W hT) rfl (by decide) inT_X10 fl_RX6_109 rfl tyX10_ok nmX10 rfl (by decide +kernel) rfl rfl (by simp) ⟨rfl, (cel_W (σ := sf σ i 1 x) hT).trans (by simp [sf, gf_sF, upd]), fun _ hj => cel_sF hj⟩ hd hp h
theorem pf_RX6_113 {Γ : CX} {cc : ByteArray} {nL : Nat} {ret : Option FieldType} {rm : Room} {σ : St} {pc pc' : Nat} {lv : List (Nat × Value)} {st : List Value} {i : Nat} {x : Int32} (hT : isW σ i = true) (hd : decode cc pc = .ok (.putfield 113, 3)) (hp : pc + 3 = pc') (h : WW Γ cc nL RX6 ret rm (sf σ i 2 x) pc' lv st) : WW Γ cc nL RX6 ret rm σ pc lv (.int x :: .ref (xd Γ i) :: st) :=
  w_put (σ' := sf σ i 2 x) (k := 2) (C := RX10) (T := TX10) (N := 12) (ty := .int) tyX10 (isW_lt hT 0 (by decide)) (cel_W hT) rfl (by decide) inT_X10 fl_RX6_113 rfl tyX10_ok nmX10 rfl (by decide +kernel) rfl rfl (by simp) ⟨rfl, (cel_W (σ := sf σ i 2 x) hT).trans (by simp [sf, gf_sF, upd]), fun _ hj => cel_sF hj⟩ hd hp h
theorem pf_RX6_118 {Γ : CX} {cc : ByteArray} {nL : Nat} {ret : Option FieldType} {rm : Room} {σ : St} {pc pc' : Nat} {lv : List (Nat × Value)} {st : List Value} {i : Nat} {x : Int32} (hT : isW σ i = true) (hd : decode cc pc = .ok (.putfield 118, 3)) (hp : pc + 3 = pc') (h : WW Γ cc nL RX6 ret rm (sf σ i 3 x) pc' lv st) : WW Γ cc nL RX6 ret rm σ pc lv (.int x :: .ref (xd Γ i) :: st) :=
  w_put (σ' := sf σ i 3 x) (k := 3) (C := RX10) (T := TX10) (N := 12) (ty := .int) tyX10 (isW_lt hT 0 (by decide)) (cel_W hT) rfl (by decide) inT_X10 fl_RX6_118 rfl tyX10_ok nmX10 rfl (by decide +kernel) rfl rfl (by simp) ⟨rfl, (cel_W (σ := sf σ i 3 x) hT).trans (by simp [sf, gf_sF, upd]), fun _ hj => cel_sF hj⟩ hd hp h
theorem pf_RX6_122 {Γ : CX} {cc : ByteArray} {nL : Nat} {ret : Option FieldType} {rm : Room} {σ : St} {pc pc' : Nat} {lv : List (Nat × Value)} {st : List Value} {i : Nat} {x : Int32} (hT : isW σ i = true) (hd : decode cc pc = .ok (.putfield 122, 3)) (hp : pc + 3 = pc') (h : WW Γ cc nL RX6 ret rm (sf σ i 4 x) pc' lv st) : WW Γ cc nL RX6 ret rm σ pc lv (.int x :: .ref (xd Γ i) :: st) :=
  w_put (σ' := sf σ i 4 x) (k := 4) (C := RX10) (T := TX10) (N := 12) (ty := .int) tyX10 (isW_lt hT 0 (by decide)) (cel_W hT) rfl (by decide) inT_X10 fl_RX6_122 rfl tyX10_ok nmX10 rfl (by decide +kernel) rfl rfl (by simp) ⟨rfl, (cel_W (σ := sf σ i 4 x) hT).trans (by simp [sf, gf_sF, upd]), fun _ hj => cel_sF hj⟩ hd hp h
theorem pf_RX6_183 {Γ : CX} {cc : ByteArray} {nL : Nat} {ret : Option FieldType} {rm : Room} {σ : St} {pc pc' : Nat} {lv : List (Nat × Value)} {st : List Value} {x : Int32} (hd : decode cc pc = .ok (.putfield 183, 3)) (hp : pc + 3 = pc') (h : WW Γ cc nL RX6 ret rm (sf σ 29 8 x) pc' lv st) : WW Γ cc nL RX6 ret rm σ pc lv (.int x :: .ref (xd Γ 29) :: st) :=
  w_put (σ' := sf σ 29 8 x) (k := 8) (C := RX6) (T := TX6) (N := 9) (ty := .int) tyX6 (lt_lit (by decide)) cel_29 rfl (by decide) inT_X6 fl_RX6_183 rfl tyX6_ok nmX6 rfl (by decide +kernel) rfl rfl (by simp) ⟨rfl, (cel_29 (σ := sf σ 29 8 x)).trans (by simp [sf, gf_sF, upd]), fun _ hj => cel_sF hj⟩ hd hp h
theorem pf_RX6_186 {Γ : CX} {cc : ByteArray} {nL : Nat} {ret : Option FieldType} {rm : Room} {σ : St} {pc pc' : Nat} {lv : List (Nat × Value)} {st : List Value} {x : Int32} (hd : decode cc pc = .ok (.putfield 186, 3)) (hp : pc + 3 = pc') (h : WW Γ cc nL RX6 ret rm (sf σ 29 5 x) pc' lv st) : WW Γ cc nL RX6 ret rm σ pc lv (.int x :: .ref (xd Γ 29) :: st) :=
  w_put (σ' := sf σ 29 5 x) (k := 5) (C := RX6) (T := TX6) (N := 9) (ty := .int) tyX6 (lt_lit (by decide)) cel_29 rfl (by decide) inT_X6 fl_RX6_186 rfl tyX6_ok nmX6 rfl (by decide +kernel) rfl rfl (by simp) ⟨rfl, (cel_29 (σ := sf σ 29 5 x)).trans (by simp [sf, gf_sF, upd]), fun _ hj => cel_sF hj⟩ hd hp h
theorem pf_RX9_28 {Γ : CX} {cc : ByteArray} {nL : Nat} {ret : Option FieldType} {rm : Room} {σ : St} {pc pc' : Nat} {lv : List (Nat × Value)} {st : List Value} {i : Nat} {x : Int32} (hT : isT σ i = true) (hd : decode cc pc = .ok (.putfield 28, 3)) (hp : pc + 3 = pc') (h : WW Γ cc nL RX9 ret rm (sf σ i 3 x) pc' lv st) : WW Γ cc nL RX9 ret rm σ pc lv (.int x :: .ref (xd Γ i) :: st) :=
  w_put (σ' := sf σ i 3 x) (k := 3) (C := RX9) (T := TX9) (N := 4) (ty := .int) tyX9 (isT_lt0 hT) (cel_T hT) rfl (by decide) inT_X9 fl_RX9_28 rfl tyX9_ok nmX9 rfl (by decide +kernel) rfl rfl (by simp) ⟨rfl, (cel_T (σ := sf σ i 3 x) hT).trans (by simp [sf, gf_sF, upd]), fun _ hj => cel_sF hj⟩ hd hp h
theorem pf_RX10_42 {Γ : CX} {cc : ByteArray} {nL : Nat} {ret : Option FieldType} {rm : Room} {σ : St} {pc pc' : Nat} {lv : List (Nat × Value)} {st : List Value} {i : Nat} {x : Int32} (hT : isW σ i = true) (hd : decode cc pc = .ok (.putfield 42, 3)) (hp : pc + 3 = pc') (h : WW Γ cc nL RX10 ret rm (sf σ i 0 x) pc' lv st) : WW Γ cc nL RX10 ret rm σ pc lv (.int x :: .ref (xd Γ i) :: st) :=
  w_put (σ' := sf σ i 0 x) (k := 0) (C := RX10) (T := TX10) (N := 12) (ty := .int) tyX10 (isW_lt hT 0 (by decide)) (cel_W hT) rfl (by decide) inT_X10 fl_RX10_42 rfl tyX10_ok nmX10 rfl (by decide +kernel) rfl rfl (by simp) ⟨rfl, (cel_W (σ := sf σ i 0 x) hT).trans (by simp [sf, gf_sF, upd]), fun _ hj => cel_sF hj⟩ hd hp h
theorem pf_RX10_46 {Γ : CX} {cc : ByteArray} {nL : Nat} {ret : Option FieldType} {rm : Room} {σ : St} {pc pc' : Nat} {lv : List (Nat × Value)} {st : List Value} {i : Nat} {x : Int32} (hT : isW σ i = true) (hd : decode cc pc = .ok (.putfield 46, 3)) (hp : pc + 3 = pc') (h : WW Γ cc nL RX10 ret rm (sf σ i 1 x) pc' lv st) : WW Γ cc nL RX10 ret rm σ pc lv (.int x :: .ref (xd Γ i) :: st) :=
  w_put (σ' := sf σ i 1 x) (k := 1) (C := RX10) (T := TX10) (N := 12) (ty := .int) tyX10 (isW_lt hT 0 (by decide)) (cel_W hT) rfl (by decide) inT_X10 fl_RX10_46 rfl tyX10_ok nmX10 rfl (by decide +kernel) rfl rfl (by simp) ⟨rfl, (cel_W (σ := sf σ i 1 x) hT).trans (by simp [sf, gf_sF, upd]), fun _ hj => cel_sF hj⟩ hd hp h
theorem pf_RX10_49 {Γ : CX} {cc : ByteArray} {nL : Nat} {ret : Option FieldType} {rm : Room} {σ : St} {pc pc' : Nat} {lv : List (Nat × Value)} {st : List Value} {i : Nat} {x : Int32} (hT : isW σ i = true) (hd : decode cc pc = .ok (.putfield 49, 3)) (hp : pc + 3 = pc') (h : WW Γ cc nL RX10 ret rm (sf σ i 2 x) pc' lv st) : WW Γ cc nL RX10 ret rm σ pc lv (.int x :: .ref (xd Γ i) :: st) :=
  w_put (σ' := sf σ i 2 x) (k := 2) (C := RX10) (T := TX10) (N := 12) (ty := .int) tyX10 (isW_lt hT 0 (by decide)) (cel_W hT) rfl (by decide) inT_X10 fl_RX10_49 rfl tyX10_ok nmX10 rfl (by decide +kernel) rfl rfl (by simp) ⟨rfl, (cel_W (σ := sf σ i 2 x) hT).trans (by simp [sf, gf_sF, upd]), fun _ hj => cel_sF hj⟩ hd hp h
theorem pf_RX10_52 {Γ : CX} {cc : ByteArray} {nL : Nat} {ret : Option FieldType} {rm : Room} {σ : St} {pc pc' : Nat} {lv : List (Nat × Value)} {st : List Value} {i : Nat} {x : Int32} (hT : isW σ i = true) (hd : decode cc pc = .ok (.putfield 52, 3)) (hp : pc + 3 = pc') (h : WW Γ cc nL RX10 ret rm (sf σ i 3 x) pc' lv st) : WW Γ cc nL RX10 ret rm σ pc lv (.int x :: .ref (xd Γ i) :: st) :=
  w_put (σ' := sf σ i 3 x) (k := 3) (C := RX10) (T := TX10) (N := 12) (ty := .int) tyX10 (isW_lt hT 0 (by decide)) (cel_W hT) rfl (by decide) inT_X10 fl_RX10_52 rfl tyX10_ok nmX10 rfl (by decide +kernel) rfl rfl (by simp) ⟨rfl, (cel_W (σ := sf σ i 3 x) hT).trans (by simp [sf, gf_sF, upd]), fun _ hj => cel_sF hj⟩ hd hp h
theorem pf_RX10_55 {Γ : CX} {cc : ByteArray} {nL : Nat} {ret : Option FieldType} {rm : Room} {σ : St} {pc pc' : Nat} {lv : List (Nat × Value)} {st : List Value} {i : Nat} {x : Int32} (hT : isW σ i = true) (hd : decode cc pc = .ok (.putfield 55, 3)) (hp : pc + 3 = pc') (h : WW Γ cc nL RX10 ret rm (sf σ i 4 x) pc' lv st) : WW Γ cc nL RX10 ret rm σ pc lv (.int x :: .ref (xd Γ i) :: st) :=
  w_put (σ' := sf σ i 4 x) (k := 4) (C := RX10) (T := TX10) (N := 12) (ty := .int) tyX10 (isW_lt hT 0 (by decide)) (cel_W hT) rfl (by decide) inT_X10 fl_RX10_55 rfl tyX10_ok nmX10 rfl (by decide +kernel) rfl rfl (by simp) ⟨rfl, (cel_W (σ := sf σ i 4 x) hT).trans (by simp [sf, gf_sF, upd]), fun _ hj => cel_sF hj⟩ hd hp h
theorem pf_RX10_58 {Γ : CX} {cc : ByteArray} {nL : Nat} {ret : Option FieldType} {rm : Room} {σ : St} {pc pc' : Nat} {lv : List (Nat × Value)} {st : List Value} {i : Nat} {x : Int32} (hT : isT σ i = true) (hd : decode cc pc = .ok (.putfield 58, 3)) (hp : pc + 3 = pc') (h : WW Γ cc nL RX10 ret rm (sf σ i 3 x) pc' lv st) : WW Γ cc nL RX10 ret rm σ pc lv (.int x :: .ref (xd Γ i) :: st) :=
  w_put (σ' := sf σ i 3 x) (k := 3) (C := RX9) (T := TX9) (N := 4) (ty := .int) tyX9 (isT_lt0 hT) (cel_T hT) rfl (by decide) inT_X9 fl_RX10_58 rfl tyX9_ok nmX9 rfl (by decide +kernel) rfl rfl (by simp) ⟨rfl, (cel_T (σ := sf σ i 3 x) hT).trans (by simp [sf, gf_sF, upd]), fun _ hj => cel_sF hj⟩ hd hp h
theorem pf_RX12_27 {Γ : CX} {cc : ByteArray} {nL : Nat} {ret : Option FieldType} {rm : Room} {σ : St} {pc pc' : Nat} {lv : List (Nat × Value)} {st : List Value} {x : Int32} (hd : decode cc pc = .ok (.putfield 27, 3)) (hp : pc + 3 = pc') (h : WW Γ cc nL RX12 ret rm (sf σ 58 13 x) pc' lv st) : WW Γ cc nL RX12 ret rm σ pc lv (.int x :: .ref (xd Γ 58) :: st) :=
  w_put (σ' := sf σ 58 13 x) (k := 13) (C := RX12) (T := TX12) (N := 32) (ty := .int) tyX12 (lt_lit (by decide)) cel_58 rfl (by decide) inT_X12 fl_RX12_27 rfl tyX12_ok nmX12 rfl (by decide +kernel) rfl rfl (by simp) ⟨rfl, (cel_58 (σ := sf σ 58 13 x)).trans (by simp [sf, gf_sF, upd]), fun _ hj => cel_sF hj⟩ hd hp h
theorem pf_RX12_89 {Γ : CX} {cc : ByteArray} {nL : Nat} {ret : Option FieldType} {rm : Room} {σ : St} {pc pc' : Nat} {lv : List (Nat × Value)} {st : List Value} {x : Int32} (hd : decode cc pc = .ok (.putfield 89, 3)) (hp : pc + 3 = pc') (h : WW Γ cc nL RX12 ret rm (sf σ 58 5 x) pc' lv st) : WW Γ cc nL RX12 ret rm σ pc lv (.int x :: .ref (xd Γ 58) :: st) :=
  w_put (σ' := sf σ 58 5 x) (k := 5) (C := RX12) (T := TX12) (N := 32) (ty := .int) tyX12 (lt_lit (by decide)) cel_58 rfl (by decide) inT_X12 fl_RX12_89 rfl tyX12_ok nmX12 rfl (by decide +kernel) rfl rfl (by simp) ⟨rfl, (cel_58 (σ := sf σ 58 5 x)).trans (by simp [sf, gf_sF, upd]), fun _ hj => cel_sF hj⟩ hd hp h
theorem pf_RX12_92 {Γ : CX} {cc : ByteArray} {nL : Nat} {ret : Option FieldType} {rm : Room} {σ : St} {pc pc' : Nat} {lv : List (Nat × Value)} {st : List Value} {x : Int32} (hd : decode cc pc = .ok (.putfield 92, 3)) (hp : pc + 3 = pc') (h : WW Γ cc nL RX12 ret rm (sf σ 58 7 x) pc' lv st) : WW Γ cc nL RX12 ret rm σ pc lv (.int x :: .ref (xd Γ 58) :: st) :=
  w_put (σ' := sf σ 58 7 x) (k := 7) (C := RX12) (T := TX12) (N := 32) (ty := .int) tyX12 (lt_lit (by decide)) cel_58 rfl (by decide) inT_X12 fl_RX12_92 rfl tyX12_ok nmX12 rfl (by decide +kernel) rfl rfl (by simp) ⟨rfl, (cel_58 (σ := sf σ 58 7 x)).trans (by simp [sf, gf_sF, upd]), fun _ hj => cel_sF hj⟩ hd hp h
theorem pf_RX12_95 {Γ : CX} {cc : ByteArray} {nL : Nat} {ret : Option FieldType} {rm : Room} {σ : St} {pc pc' : Nat} {lv : List (Nat × Value)} {st : List Value} {x : Int32} (hd : decode cc pc = .ok (.putfield 95, 3)) (hp : pc + 3 = pc') (h : WW Γ cc nL RX12 ret rm (sf σ 58 8 x) pc' lv st) : WW Γ cc nL RX12 ret rm σ pc lv (.int x :: .ref (xd Γ 58) :: st) :=
  w_put (σ' := sf σ 58 8 x) (k := 8) (C := RX12) (T := TX12) (N := 32) (ty := .int) tyX12 (lt_lit (by decide)) cel_58 rfl (by decide) inT_X12 fl_RX12_95 rfl tyX12_ok nmX12 rfl (by decide +kernel) rfl rfl (by simp) ⟨rfl, (cel_58 (σ := sf σ 58 8 x)).trans (by simp [sf, gf_sF, upd]), fun _ hj => cel_sF hj⟩ hd hp h
theorem pf_RX12_102 {Γ : CX} {cc : ByteArray} {nL : Nat} {ret : Option FieldType} {rm : Room} {σ : St} {pc pc' : Nat} {lv : List (Nat × Value)} {st : List Value} {x : Int32} (hd : decode cc pc = .ok (.putfield 102, 3)) (hp : pc + 3 = pc') (h : WW Γ cc nL RX12 ret rm (sf σ 58 9 x) pc' lv st) : WW Γ cc nL RX12 ret rm σ pc lv (.int x :: .ref (xd Γ 58) :: st) :=
  w_put (σ' := sf σ 58 9 x) (k := 9) (C := RX12) (T := TX12) (N := 32) (ty := .int) tyX12 (lt_lit (by decide)) cel_58 rfl (by decide) inT_X12 fl_RX12_102 rfl tyX12_ok nmX12 rfl (by decide +kernel) rfl rfl (by simp) ⟨rfl, (cel_58 (σ := sf σ 58 9 x)).trans (by simp [sf, gf_sF, upd]), fun _ hj => cel_sF hj⟩ hd hp h
theorem pf_RX12_105 {Γ : CX} {cc : ByteArray} {nL : Nat} {ret : Option FieldType} {rm : Room} {σ : St} {pc pc' : Nat} {lv : List (Nat × Value)} {st : List Value} {x : Int32} (hd : decode cc pc = .ok (.putfield 105, 3)) (hp : pc + 3 = pc') (h : WW Γ cc nL RX12 ret rm (sf σ 58 10 x) pc' lv st) : WW Γ cc nL RX12 ret rm σ pc lv (.int x :: .ref (xd Γ 58) :: st) :=
  w_put (σ' := sf σ 58 10 x) (k := 10) (C := RX12) (T := TX12) (N := 32) (ty := .int) tyX12 (lt_lit (by decide)) cel_58 rfl (by decide) inT_X12 fl_RX12_105 rfl tyX12_ok nmX12 rfl (by decide +kernel) rfl rfl (by simp) ⟨rfl, (cel_58 (σ := sf σ 58 10 x)).trans (by simp [sf, gf_sF, upd]), fun _ hj => cel_sF hj⟩ hd hp h
theorem pf_RX12_116 {Γ : CX} {cc : ByteArray} {nL : Nat} {ret : Option FieldType} {rm : Room} {σ : St} {pc pc' : Nat} {lv : List (Nat × Value)} {st : List Value} {x : Int32} (hd : decode cc pc = .ok (.putfield 116, 3)) (hp : pc + 3 = pc') (h : WW Γ cc nL RX12 ret rm (sf σ 58 11 x) pc' lv st) : WW Γ cc nL RX12 ret rm σ pc lv (.int x :: .ref (xd Γ 58) :: st) :=
  w_put (σ' := sf σ 58 11 x) (k := 11) (C := RX12) (T := TX12) (N := 32) (ty := .int) tyX12 (lt_lit (by decide)) cel_58 rfl (by decide) inT_X12 fl_RX12_116 rfl tyX12_ok nmX12 rfl (by decide +kernel) rfl rfl (by simp) ⟨rfl, (cel_58 (σ := sf σ 58 11 x)).trans (by simp [sf, gf_sF, upd]), fun _ hj => cel_sF hj⟩ hd hp h
theorem pf_RX12_125 {Γ : CX} {cc : ByteArray} {nL : Nat} {ret : Option FieldType} {rm : Room} {σ : St} {pc pc' : Nat} {lv : List (Nat × Value)} {st : List Value} {x : Int32} (hd : decode cc pc = .ok (.putfield 125, 3)) (hp : pc + 3 = pc') (h : WW Γ cc nL RX12 ret rm (sf σ 58 12 x) pc' lv st) : WW Γ cc nL RX12 ret rm σ pc lv (.int x :: .ref (xd Γ 58) :: st) :=
  w_put (σ' := sf σ 58 12 x) (k := 12) (C := RX12) (T := TX12) (N := 32) (ty := .int) tyX12 (lt_lit (by decide)) cel_58 rfl (by decide) inT_X12 fl_RX12_125 rfl tyX12_ok nmX12 rfl (by decide +kernel) rfl rfl (by simp) ⟨rfl, (cel_58 (σ := sf σ 58 12 x)).trans (by simp [sf, gf_sF, upd]), fun _ hj => cel_sF hj⟩ hd hp h
theorem pf_RX12_277 {Γ : CX} {cc : ByteArray} {nL : Nat} {ret : Option FieldType} {rm : Room} {σ : St} {pc pc' : Nat} {lv : List (Nat × Value)} {st : List Value} {x : Int32} (hd : decode cc pc = .ok (.putfield 277, 3)) (hp : pc + 3 = pc') (h : WW Γ cc nL RX12 ret rm (sf σ 58 16 x) pc' lv st) : WW Γ cc nL RX12 ret rm σ pc lv (.int x :: .ref (xd Γ 58) :: st) :=
  w_put (σ' := sf σ 58 16 x) (k := 16) (C := RX12) (T := TX12) (N := 32) (ty := .int) tyX12 (lt_lit (by decide)) cel_58 rfl (by decide) inT_X12 fl_RX12_277 rfl tyX12_ok nmX12 rfl (by decide +kernel) rfl rfl (by simp) ⟨rfl, (cel_58 (σ := sf σ 58 16 x)).trans (by simp [sf, gf_sF, upd]), fun _ hj => cel_sF hj⟩ hd hp h
theorem pf_RX12_308 {Γ : CX} {cc : ByteArray} {nL : Nat} {ret : Option FieldType} {rm : Room} {σ : St} {pc pc' : Nat} {lv : List (Nat × Value)} {st : List Value} {x : Int32} (hd : decode cc pc = .ok (.putfield 308, 3)) (hp : pc + 3 = pc') (h : WW Γ cc nL RX12 ret rm (sf σ 58 19 x) pc' lv st) : WW Γ cc nL RX12 ret rm σ pc lv (.int x :: .ref (xd Γ 58) :: st) :=
  w_put (σ' := sf σ 58 19 x) (k := 19) (C := RX12) (T := TX12) (N := 32) (ty := .int) tyX12 (lt_lit (by decide)) cel_58 rfl (by decide) inT_X12 fl_RX12_308 rfl tyX12_ok nmX12 rfl (by decide +kernel) rfl rfl (by simp) ⟨rfl, (cel_58 (σ := sf σ 58 19 x)).trans (by simp [sf, gf_sF, upd]), fun _ hj => cel_sF hj⟩ hd hp h
theorem pf_RX12_311 {Γ : CX} {cc : ByteArray} {nL : Nat} {ret : Option FieldType} {rm : Room} {σ : St} {pc pc' : Nat} {lv : List (Nat × Value)} {st : List Value} {x : Int32} (hd : decode cc pc = .ok (.putfield 311, 3)) (hp : pc + 3 = pc') (h : WW Γ cc nL RX12 ret rm (sf σ 58 18 x) pc' lv st) : WW Γ cc nL RX12 ret rm σ pc lv (.int x :: .ref (xd Γ 58) :: st) :=
  w_put (σ' := sf σ 58 18 x) (k := 18) (C := RX12) (T := TX12) (N := 32) (ty := .int) tyX12 (lt_lit (by decide)) cel_58 rfl (by decide) inT_X12 fl_RX12_311 rfl tyX12_ok nmX12 rfl (by decide +kernel) rfl rfl (by simp) ⟨rfl, (cel_58 (σ := sf σ 58 18 x)).trans (by simp [sf, gf_sF, upd]), fun _ hj => cel_sF hj⟩ hd hp h
theorem pf_RX12_348 {Γ : CX} {cc : ByteArray} {nL : Nat} {ret : Option FieldType} {rm : Room} {σ : St} {pc pc' : Nat} {lv : List (Nat × Value)} {st : List Value} {x : Int32} (hd : decode cc pc = .ok (.putfield 348, 3)) (hp : pc + 3 = pc') (h : WW Γ cc nL RX12 ret rm (sf σ 58 20 x) pc' lv st) : WW Γ cc nL RX12 ret rm σ pc lv (.int x :: .ref (xd Γ 58) :: st) :=
  w_put (σ' := sf σ 58 20 x) (k := 20) (C := RX12) (T := TX12) (N := 32) (ty := .int) tyX12 (lt_lit (by decide)) cel_58 rfl (by decide) inT_X12 fl_RX12_348 rfl tyX12_ok nmX12 rfl (by decide +kernel) rfl rfl (by simp) ⟨rfl, (cel_58 (σ := sf σ 58 20 x)).trans (by simp [sf, gf_sF, upd]), fun _ hj => cel_sF hj⟩ hd hp h
theorem pf_RX12_363 {Γ : CX} {cc : ByteArray} {nL : Nat} {ret : Option FieldType} {rm : Room} {σ : St} {pc pc' : Nat} {lv : List (Nat × Value)} {st : List Value} {x : Int32} (hd : decode cc pc = .ok (.putfield 363, 3)) (hp : pc + 3 = pc') (h : WW Γ cc nL RX12 ret rm (sf σ 58 22 x) pc' lv st) : WW Γ cc nL RX12 ret rm σ pc lv (.int x :: .ref (xd Γ 58) :: st) :=
  w_put (σ' := sf σ 58 22 x) (k := 22) (C := RX12) (T := TX12) (N := 32) (ty := .int) tyX12 (lt_lit (by decide)) cel_58 rfl (by decide) inT_X12 fl_RX12_363 rfl tyX12_ok nmX12 rfl (by decide +kernel) rfl rfl (by simp) ⟨rfl, (cel_58 (σ := sf σ 58 22 x)).trans (by simp [sf, gf_sF, upd]), fun _ hj => cel_sF hj⟩ hd hp h
theorem pf_RX12_419 {Γ : CX} {cc : ByteArray} {nL : Nat} {ret : Option FieldType} {rm : Room} {σ : St} {pc pc' : Nat} {lv : List (Nat × Value)} {st : List Value} {x : Int32} (hd : decode cc pc = .ok (.putfield 419, 3)) (hp : pc + 3 = pc') (h : WW Γ cc nL RX12 ret rm (sf σ 58 26 x) pc' lv st) : WW Γ cc nL RX12 ret rm σ pc lv (.int x :: .ref (xd Γ 58) :: st) :=
  w_put (σ' := sf σ 58 26 x) (k := 26) (C := RX12) (T := TX12) (N := 32) (ty := .int) tyX12 (lt_lit (by decide)) cel_58 rfl (by decide) inT_X12 fl_RX12_419 rfl tyX12_ok nmX12 rfl (by decide +kernel) rfl rfl (by simp) ⟨rfl, (cel_58 (σ := sf σ 58 26 x)).trans (by simp [sf, gf_sF, upd]), fun _ hj => cel_sF hj⟩ hd hp h
theorem pf_RX12_441 {Γ : CX} {cc : ByteArray} {nL : Nat} {ret : Option FieldType} {rm : Room} {σ : St} {pc pc' : Nat} {lv : List (Nat × Value)} {st : List Value} {x : Int32} (hd : decode cc pc = .ok (.putfield 441, 3)) (hp : pc + 3 = pc') (h : WW Γ cc nL RX12 ret rm (sf σ 58 27 x) pc' lv st) : WW Γ cc nL RX12 ret rm σ pc lv (.int x :: .ref (xd Γ 58) :: st) :=
  w_put (σ' := sf σ 58 27 x) (k := 27) (C := RX12) (T := TX12) (N := 32) (ty := .int) tyX12 (lt_lit (by decide)) cel_58 rfl (by decide) inT_X12 fl_RX12_441 rfl tyX12_ok nmX12 rfl (by decide +kernel) rfl rfl (by simp) ⟨rfl, (cel_58 (σ := sf σ 58 27 x)).trans (by simp [sf, gf_sF, upd]), fun _ hj => cel_sF hj⟩ hd hp h
set_option maxRecDepth 8000 in
theorem mw_J0_checkIndex_df160 : Cond.static yJ0_checkIndex_df160 ∈ TB ∧ Cond.initialized yJ0_checkIndex_df160.cls ∈ TB ∧ Cond.code yJ0_checkIndex_df160 cJ0_checkIndex_df160 2 none ∈ TB := ⟨tb_m (bk_2 (List.mem_of_getElem? (i := 193) rfl)) rfl, tb_m (bk_1 (List.mem_of_getElem? (i := 14) rfl)) rfl, tb_m (bk_2 (List.mem_of_getElem? (i := 194) rfl)) rfl⟩
set_option maxRecDepth 8000 in
theorem mw_X1_wednesdaysToInsist : Cond.static yX1_wednesdaysToInsist ∈ TB ∧ Cond.initialized yX1_wednesdaysToInsist.cls ∈ TB ∧ Cond.code yX1_wednesdaysToInsist cX1_wednesdaysToInsist 4 (some .int) ∈ TB := ⟨tb_m (bk_5 (List.mem_of_getElem? (i := 231) rfl)) rfl, tb_m (bk_1 (List.mem_of_getElem? (i := 21) rfl)) rfl, tb_m (bk_5 (List.mem_of_getElem? (i := 232) rfl)) rfl⟩
theorem mw_X1_next : Cond.static yX1_next ∈ TB ∧ Cond.initialized yX1_next.cls ∈ TB ∧ Cond.code yX1_next cX1_next 2 (some .long) ∈ TB := ⟨tb_m (bk_6 (List.mem_of_getElem? (i := 54) rfl)) rfl, tb_m (bk_1 (List.mem_of_getElem? (i := 21) rfl)) rfl, tb_m (bk_6 (List.mem_of_getElem? (i := 55) rfl)) rfl⟩
theorem mw_X1_draw : Cond.static yX1_draw ∈ TB ∧ Cond.initialized yX1_draw.cls ∈ TB ∧ Cond.code yX1_draw cX1_draw 2 (some .int) ∈ TB := ⟨tb_m (bk_6 (List.mem_of_getElem? (i := 60) rfl)) rfl, tb_m (bk_1 (List.mem_of_getElem? (i := 21) rfl)) rfl, tb_m (bk_6 (List.mem_of_getElem? (i := 61) rfl)) rfl⟩
theorem mw_X1_power : Cond.static yX1_power ∈ TB ∧ Cond.initialized yX1_power.cls ∈ TB ∧ Cond.code yX1_power cX1_power 5 (some .long) ∈ TB := ⟨tb_m (bk_4 (List.mem_of_getElem? (i := 94) rfl)) rfl, tb_m (bk_1 (List.mem_of_getElem? (i := 21) rfl)) rfl, tb_m (bk_4 (List.mem_of_getElem? (i := 95) rfl)) rfl⟩
set_option maxRecDepth 8000 in
theorem mw_X1_choices : Cond.static yX1_choices ∈ TB ∧ Cond.initialized yX1_choices.cls ∈ TB ∧ Cond.code yX1_choices cX1_choices 5 (some .long) ∈ TB := ⟨tb_m (bk_5 (List.mem_of_getElem? (i := 224) rfl)) rfl, tb_m (bk_1 (List.mem_of_getElem? (i := 21) rfl)) rfl, tb_m (bk_5 (List.mem_of_getElem? (i := 225) rfl)) rfl⟩
theorem mw_X1_commonDivisor : Cond.static yX1_commonDivisor ∈ TB ∧ Cond.initialized yX1_commonDivisor.cls ∈ TB ∧ Cond.code yX1_commonDivisor cX1_commonDivisor 7 (some .long) ∈ TB := ⟨tb_m (bk_4 (List.mem_of_getElem? (i := 100) rfl)) rfl, tb_m (bk_1 (List.mem_of_getElem? (i := 21) rfl)) rfl, tb_m (bk_4 (List.mem_of_getElem? (i := 101) rfl)) rfl⟩
theorem mw_X2_forget : Cond.instanceMethod yX2_forget ∈ TB ∧ Cond.selects RX2 yX2_forget yX2_forget ∈ TB ∧ Cond.initialized RX2 ∈ TB ∧ Cond.code yX2_forget cX2_forget 1 none ∈ TB := ⟨tb_m (bk_3 (List.mem_of_getElem? (i := 73) rfl)) rfl, tb_m (bk_3 (List.mem_of_getElem? (i := 74) rfl)) rfl, tb_m (bk_1 (List.mem_of_getElem? (i := 6) rfl)) rfl, tb_m (bk_3 (List.mem_of_getElem? (i := 75) rfl)) rfl⟩
set_option maxRecDepth 8000 in
theorem mw_X2_frontBehind : Cond.instanceMethod yX2_frontBehind ∈ TB ∧ Cond.selects RX2 yX2_frontBehind yX2_frontBehind ∈ TB ∧ Cond.initialized RX2 ∈ TB ∧ Cond.code yX2_frontBehind cX2_frontBehind 2 (some .int) ∈ TB := ⟨tb_m (bk_3 (List.mem_of_getElem? (i := 168) rfl)) rfl, tb_m (bk_3 (List.mem_of_getElem? (i := 169) rfl)) rfl, tb_m (bk_1 (List.mem_of_getElem? (i := 6) rfl)) rfl, tb_m (bk_3 (List.mem_of_getElem? (i := 170) rfl)) rfl⟩
set_option maxRecDepth 8000 in
theorem mw_X2_farthestFrom : Cond.instanceMethod yX2_farthestFrom ∈ TB ∧ Cond.selects RX2 yX2_farthestFrom yX2_farthestFrom ∈ TB ∧ Cond.initialized RX2 ∈ TB ∧ Cond.code yX2_farthestFrom cX2_farthestFrom 4 (some .int) ∈ TB := ⟨tb_m (bk_5 (List.mem_of_getElem? (i := 122) rfl)) rfl, tb_m (bk_5 (List.mem_of_getElem? (i := 123) rfl)) rfl, tb_m (bk_1 (List.mem_of_getElem? (i := 6) rfl)) rfl, tb_m (bk_5 (List.mem_of_getElem? (i := 124) rfl)) rfl⟩
set_option maxRecDepth 8000 in
theorem mw_X2_treatyEnds : Cond.instanceMethod yX2_treatyEnds ∈ TB ∧ Cond.selects RX2 yX2_treatyEnds yX2_treatyEnds ∈ TB ∧ Cond.initialized RX2 ∈ TB ∧ Cond.code yX2_treatyEnds cX2_treatyEnds 4 (some .long) ∈ TB := ⟨tb_m (bk_5 (List.mem_of_getElem? (i := 118) rfl)) rfl, tb_m (bk_5 (List.mem_of_getElem? (i := 119) rfl)) rfl, tb_m (bk_1 (List.mem_of_getElem? (i := 6) rfl)) rfl, tb_m (bk_5 (List.mem_of_getElem? (i := 120) rfl)) rfl⟩
theorem mw_X2_reckonedWinner : Cond.instanceMethod yX2_reckonedWinner ∈ TB ∧ Cond.selects RX2 yX2_reckonedWinner yX2_reckonedWinner ∈ TB ∧ Cond.initialized RX2 ∈ TB ∧ Cond.code yX2_reckonedWinner cX2_reckonedWinner 2 (some .int) ∈ TB := ⟨tb_m (bk_4 (List.mem_of_getElem? (i := 44) rfl)) rfl, tb_m (List.mem_of_getElem? (i := 21) (by decide +kernel)) rfl, tb_m (bk_1 (List.mem_of_getElem? (i := 6) rfl)) rfl, tb_m (bk_4 (List.mem_of_getElem? (i := 45) rfl)) rfl⟩
set_option maxRecDepth 8000 in
theorem mw_X2_winner : Cond.static yX2_winner ∈ TB ∧ Cond.initialized yX2_winner.cls ∈ TB ∧ Cond.code yX2_winner cX2_winner 2 (some .int) ∈ TB := ⟨tb_m (bk_3 (List.mem_of_getElem? (i := 192) rfl)) rfl, tb_m (bk_1 (List.mem_of_getElem? (i := 6) rfl)) rfl, tb_m (bk_3 (List.mem_of_getElem? (i := 193) rfl)) rfl⟩
set_option maxRecDepth 8000 in
theorem mw_X2_good : Cond.static yX2_good ∈ TB ∧ Cond.initialized yX2_good.cls ∈ TB ∧ Cond.code yX2_good cX2_good 2 (some .int) ∈ TB := ⟨tb_m (bk_3 (List.mem_of_getElem? (i := 203) rfl)) rfl, tb_m (bk_1 (List.mem_of_getElem? (i := 6) rfl)) rfl, tb_m (bk_3 (List.mem_of_getElem? (i := 204) rfl)) rfl⟩
set_option maxRecDepth 8000 in
theorem mw_X2_signOf : Cond.static yX2_signOf ∈ TB ∧ Cond.initialized yX2_signOf.cls ∈ TB ∧ Cond.code yX2_signOf cX2_signOf 1 (some .int) ∈ TB := ⟨tb_m (bk_3 (List.mem_of_getElem? (i := 165) rfl)) rfl, tb_m (bk_1 (List.mem_of_getElem? (i := 6) rfl)) rfl, tb_m (bk_3 (List.mem_of_getElem? (i := 166) rfl)) rfl⟩
theorem mw_X3_isBought : Cond.instanceMethod yX3_isBought ∈ TB ∧ Cond.selects RX3 yX3_isBought yX3_isBought ∈ TB ∧ Cond.initialized RX3 ∈ TB ∧ Cond.code yX3_isBought cX3_isBought 4 (some .boolean) ∈ TB := ⟨tb_m (bk_5 (List.mem_of_getElem? (i := 6) rfl)) rfl, tb_m (List.mem_of_getElem? (i := 33) (by decide +kernel)) rfl, tb_m (bk_1 (List.mem_of_getElem? (i := 7) rfl)) rfl, tb_m (bk_5 (List.mem_of_getElem? (i := 7) rfl)) rfl⟩
set_option maxRecDepth 8000 in
theorem mw_X3_orPriceless : Cond.instanceMethod yX3_orPriceless ∈ TB ∧ Cond.selects RX3 yX3_orPriceless yX3_orPriceless ∈ TB ∧ Cond.initialized RX3 ∈ TB ∧ Cond.code yX3_orPriceless cX3_orPriceless 2 (some .int) ∈ TB := ⟨tb_m (bk_4 (List.mem_of_getElem? (i := 205) rfl)) rfl, tb_m (List.mem_of_getElem? (i := 30) (by decide +kernel)) rfl, tb_m (bk_1 (List.mem_of_getElem? (i := 7) rfl)) rfl, tb_m (bk_4 (List.mem_of_getElem? (i := 206) rfl)) rfl⟩
theorem mw_X4_allReadings : Cond.instanceMethod yX4_allReadings ∈ TB ∧ Cond.selects RX4 yX4_allReadings yX4_allReadings ∈ TB ∧ Cond.initialized RX4 ∈ TB ∧ Cond.code yX4_allReadings cX4_allReadings 1 (some .int) ∈ TB := ⟨tb_m (bk_5 (List.mem_of_getElem? (i := 76) rfl)) rfl, tb_m (List.mem_of_getElem? (i := 36) (by decide +kernel)) rfl, tb_m (bk_1 (List.mem_of_getElem? (i := 9) rfl)) rfl, tb_m (bk_5 (List.mem_of_getElem? (i := 77) rfl)) rfl⟩
theorem mw_X5_put : Cond.static yX5_put ∈ TB ∧ Cond.initialized yX5_put.cls ∈ TB ∧ Cond.code yX5_put cX5_put 4 none ∈ TB := ⟨tb_m (bk_5 (List.mem_of_getElem? (i := 44) rfl)) rfl, tb_m (bk_1 (List.mem_of_getElem? (i := 8) rfl)) rfl, tb_m (bk_5 (List.mem_of_getElem? (i := 45) rfl)) rfl⟩
theorem mw_X6_hasRoom : Cond.instanceMethod yX6_hasRoom ∈ TB ∧ Cond.selects RX6 yX6_hasRoom yX6_hasRoom ∈ TB ∧ Cond.initialized RX6 ∈ TB ∧ Cond.code yX6_hasRoom cX6_hasRoom 2 (some .boolean) ∈ TB := ⟨tb_m (bk_2 (List.mem_of_getElem? (i := 111) rfl)) rfl, tb_m (bk_2 (List.mem_of_getElem? (i := 112) rfl)) rfl, tb_m (bk_1 (List.mem_of_getElem? (i := 5) rfl)) rfl, tb_m (bk_2 (List.mem_of_getElem? (i := 113) rfl)) rfl⟩
theorem mw_X6_take : Cond.instanceMethod yX6_take ∈ TB ∧ Cond.selects RX6 yX6_take yX6_take ∈ TB ∧ Cond.initialized RX6 ∈ TB ∧ Cond.code yX6_take cX6_take 3 none ∈ TB := ⟨tb_m (bk_2 (List.mem_of_getElem? (i := 115) rfl)) rfl, tb_m (bk_2 (List.mem_of_getElem? (i := 116) rfl)) rfl, tb_m (bk_1 (List.mem_of_getElem? (i := 5) rfl)) rfl, tb_m (bk_2 (List.mem_of_getElem? (i := 117) rfl)) rfl⟩
set_option maxRecDepth 8000 in
theorem mw_X6_cut : Cond.instanceMethod yX6_cut ∈ TB ∧ Cond.selects RX6 yX6_cut yX6_cut ∈ TB ∧ Cond.initialized RX6 ∈ TB ∧ Cond.code yX6_cut cX6_cut 2 (some .boolean) ∈ TB := ⟨tb_m (bk_2 (List.mem_of_getElem? (i := 123) rfl)) rfl, tb_m (bk_2 (List.mem_of_getElem? (i := 124) rfl)) rfl, tb_m (bk_1 (List.mem_of_getElem? (i := 5) rfl)) rfl, tb_m (bk_2 (List.mem_of_getElem? (i := 125) rfl)) rfl⟩
set_option maxRecDepth 8000 in
theorem mw_X6_blame : Cond.instanceMethod yX6_blame ∈ TB ∧ Cond.selects RX6 yX6_blame yX6_blame ∈ TB ∧ Cond.initialized RX6 ∈ TB ∧ Cond.code yX6_blame cX6_blame 2 none ∈ TB := ⟨tb_m (bk_2 (List.mem_of_getElem? (i := 221) rfl)) rfl, tb_m (List.mem_of_getElem? (i := 7) (by decide +kernel)) rfl, tb_m (bk_1 (List.mem_of_getElem? (i := 5) rfl)) rfl, tb_m (bk_2 (List.mem_of_getElem? (i := 222) rfl)) rfl⟩
set_option maxRecDepth 8000 in
theorem mw_X6_kindAt : Cond.instanceMethod yX6_kindAt ∈ TB ∧ Cond.selects RX6 yX6_kindAt yX6_kindAt ∈ TB ∧ Cond.initialized RX6 ∈ TB ∧ Cond.code yX6_kindAt cX6_kindAt 3 (some .int) ∈ TB := ⟨tb_m (bk_2 (List.mem_of_getElem? (i := 144) rfl)) rfl, tb_m (List.mem_of_getElem? (i := 1) (by decide +kernel)) rfl, tb_m (bk_1 (List.mem_of_getElem? (i := 5) rfl)) rfl, tb_m (bk_2 (List.mem_of_getElem? (i := 145) rfl)) rfl⟩
set_option maxRecDepth 8000 in
theorem mw_X6_byteAt : Cond.instanceMethod yX6_byteAt ∈ TB ∧ Cond.selects RX6 yX6_byteAt yX6_byteAt ∈ TB ∧ Cond.initialized RX6 ∈ TB ∧ Cond.code yX6_byteAt cX6_byteAt 2 (some .int) ∈ TB := ⟨tb_m (bk_2 (List.mem_of_getElem? (i := 151) rfl)) rfl, tb_m (List.mem_of_getElem? (i := 2) (by decide +kernel)) rfl, tb_m (bk_1 (List.mem_of_getElem? (i := 5) rfl)) rfl, tb_m (bk_2 (List.mem_of_getElem? (i := 152) rfl)) rfl⟩
theorem mw_X7_countRows : Cond.instanceMethod yX7_countRows ∈ TB ∧ Cond.selects RX7 yX7_countRows yX7_countRows ∈ TB ∧ Cond.initialized RX7 ∈ TB ∧ Cond.code yX7_countRows cX7_countRows 3 (some .int) ∈ TB := ⟨tb_m (bk_6 (List.mem_of_getElem? (i := 73) rfl)) rfl, tb_m (bk_6 (List.mem_of_getElem? (i := 74) rfl)) rfl, tb_m (bk_1 (List.mem_of_getElem? (i := 12) rfl)) rfl, tb_m (bk_6 (List.mem_of_getElem? (i := 75) rfl)) rfl⟩
set_option maxRecDepth 8000 in
theorem mw_X7_isWithin : Cond.instanceMethod yX7_isWithin ∈ TB ∧ Cond.selects RX7 yX7_isWithin yX7_isWithin ∈ TB ∧ Cond.initialized RX7 ∈ TB ∧ Cond.code yX7_isWithin cX7_isWithin 4 (some .boolean) ∈ TB := ⟨tb_m (bk_6 (List.mem_of_getElem? (i := 119) rfl)) rfl, tb_m (List.mem_of_getElem? (i := 44) (by decide +kernel)) rfl, tb_m (bk_1 (List.mem_of_getElem? (i := 12) rfl)) rfl, tb_m (bk_6 (List.mem_of_getElem? (i := 120) rfl)) rfl⟩
theorem mw_X7_isSlot : Cond.static yX7_isSlot ∈ TB ∧ Cond.initialized yX7_isSlot.cls ∈ TB ∧ Cond.code yX7_isSlot cX7_isSlot 1 (some .boolean) ∈ TB := ⟨tb_m (bk_6 (List.mem_of_getElem? (i := 96) rfl)) rfl, tb_m (bk_1 (List.mem_of_getElem? (i := 12) rfl)) rfl, tb_m (bk_6 (List.mem_of_getElem? (i := 97) rfl)) rfl⟩
theorem mw_X7_cutTo : Cond.static yX7_cutTo ∈ TB ∧ Cond.initialized yX7_cutTo.cls ∈ TB ∧ Cond.code yX7_cutTo cX7_cutTo 3 (some .long) ∈ TB := ⟨tb_m (bk_6 (List.mem_of_getElem? (i := 107) rfl)) rfl, tb_m (bk_1 (List.mem_of_getElem? (i := 12) rfl)) rfl, tb_m (bk_6 (List.mem_of_getElem? (i := 108) rfl)) rfl⟩
theorem mw_X9_isFull : Cond.instanceMethod yX9_isFull ∈ TB ∧ Cond.selects RX9 yX9_isFull yX9_isFull ∈ TB ∧ Cond.initialized RX9 ∈ TB ∧ Cond.code yX9_isFull cX9_isFull 1 (some .boolean) ∈ TB := ⟨tb_m (bk_3 (List.mem_of_getElem? (i := 10) rfl)) rfl, tb_m (bk_3 (List.mem_of_getElem? (i := 11) rfl)) rfl, tb_m (bk_1 (List.mem_of_getElem? (i := 3) rfl)) rfl, tb_m (bk_3 (List.mem_of_getElem? (i := 12) rfl)) rfl⟩
theorem mw_X9_cell : Cond.instanceMethod yX9_cell ∈ TB ∧ Cond.selects RX9 yX9_cell yX9_cell ∈ TB ∧ Cond.initialized RX9 ∈ TB ∧ Cond.code yX9_cell cX9_cell 3 (some .int) ∈ TB := ⟨tb_m (bk_3 (List.mem_of_getElem? (i := 38) rfl)) rfl, tb_m (bk_3 (List.mem_of_getElem? (i := 39) rfl)) rfl, tb_m (bk_1 (List.mem_of_getElem? (i := 3) rfl)) rfl, tb_m (bk_3 (List.mem_of_getElem? (i := 40) rfl)) rfl⟩
theorem mw_X9_set : Cond.instanceMethod yX9_set ∈ TB ∧ Cond.selects RX9 yX9_set yX9_set ∈ TB ∧ Cond.initialized RX9 ∈ TB ∧ Cond.code yX9_set cX9_set 4 none ∈ TB := ⟨tb_m (bk_3 (List.mem_of_getElem? (i := 23) rfl)) rfl, tb_m (bk_3 (List.mem_of_getElem? (i := 24) rfl)) rfl, tb_m (bk_1 (List.mem_of_getElem? (i := 3) rfl)) rfl, tb_m (bk_3 (List.mem_of_getElem? (i := 25) rfl)) rfl⟩
theorem mw_X9_add : Cond.instanceMethod yX9_add ∈ TB ∧ Cond.selects RX9 yX9_add yX9_add ∈ TB ∧ Cond.initialized RX9 ∈ TB ∧ Cond.code yX9_add cX9_add 1 none ∈ TB := ⟨tb_m (bk_3 (List.mem_of_getElem? (i := 14) rfl)) rfl, tb_m (bk_3 (List.mem_of_getElem? (i := 15) rfl)) rfl, tb_m (bk_1 (List.mem_of_getElem? (i := 3) rfl)) rfl, tb_m (bk_3 (List.mem_of_getElem? (i := 16) rfl)) rfl⟩
theorem mw_X9_drop : Cond.instanceMethod yX9_drop ∈ TB ∧ Cond.selects RX9 yX9_drop yX9_drop ∈ TB ∧ Cond.initialized RX9 ∈ TB ∧ Cond.code yX9_drop cX9_drop 1 none ∈ TB := ⟨tb_m (bk_6 (List.mem_of_getElem? (i := 38) rfl)) rfl, tb_m (bk_6 (List.mem_of_getElem? (i := 39) rfl)) rfl, tb_m (bk_1 (List.mem_of_getElem? (i := 3) rfl)) rfl, tb_m (bk_6 (List.mem_of_getElem? (i := 40) rfl)) rfl⟩
theorem mw_X9_become : Cond.instanceMethod yX9_become ∈ TB ∧ Cond.selects RX9 yX9_become yX9_become ∈ TB ∧ Cond.initialized RX9 ∈ TB ∧ Cond.code yX9_become cX9_become 2 none ∈ TB := ⟨tb_m (bk_3 (List.mem_of_getElem? (i := 65) rfl)) rfl, tb_m (bk_3 (List.mem_of_getElem? (i := 66) rfl)) rfl, tb_m (bk_1 (List.mem_of_getElem? (i := 3) rfl)) rfl, tb_m (bk_3 (List.mem_of_getElem? (i := 67) rfl)) rfl⟩
set_option maxRecDepth 8000 in
theorem mw_X10_isIn : Cond.static yX10_isIn ∈ TB ∧ Cond.initialized yX10_isIn.cls ∈ TB ∧ Cond.code yX10_isIn cX10_isIn 2 (some .boolean) ∈ TB := ⟨tb_m (bk_3 (List.mem_of_getElem? (i := 148) rfl)) rfl, tb_m (bk_1 (List.mem_of_getElem? (i := 2) rfl)) rfl, tb_m (bk_3 (List.mem_of_getElem? (i := 149) rfl)) rfl⟩
theorem mw_X10_spread : Cond.static yX10_spread ∈ TB ∧ Cond.initialized yX10_spread.cls ∈ TB ∧ Cond.code yX10_spread cX10_spread 5 none ∈ TB := ⟨tb_m (bk_4 (List.mem_of_getElem? (i := 12) rfl)) rfl, tb_m (bk_1 (List.mem_of_getElem? (i := 2) rfl)) rfl, tb_m (bk_4 (List.mem_of_getElem? (i := 13) rfl)) rfl⟩
theorem mw_X10_mostTold : Cond.static yX10_mostTold ∈ TB ∧ Cond.initialized yX10_mostTold.cls ∈ TB ∧ Cond.code yX10_mostTold cX10_mostTold 1 (some .int) ∈ TB := ⟨tb_m (bk_6 (List.mem_of_getElem? (i := 3) rfl)) rfl, tb_m (bk_1 (List.mem_of_getElem? (i := 2) rfl)) rfl, tb_m (bk_6 (List.mem_of_getElem? (i := 4) rfl)) rfl⟩
set_option maxRecDepth 8000 in
theorem mw_X10_clear : Cond.instanceMethod yX10_clear ∈ TB ∧ Cond.selects RX10 yX10_clear yX10_clear ∈ TB ∧ Cond.initialized RX10 ∈ TB ∧ Cond.code yX10_clear cX10_clear 1 none ∈ TB := ⟨tb_m (bk_2 (List.mem_of_getElem? (i := 135) rfl)) rfl, tb_m (bk_2 (List.mem_of_getElem? (i := 136) rfl)) rfl, tb_m (bk_1 (List.mem_of_getElem? (i := 2) rfl)) rfl, tb_m (bk_2 (List.mem_of_getElem? (i := 137) rfl)) rfl⟩
theorem mw_X10_become : Cond.instanceMethod yX10_become ∈ TB ∧ Cond.selects RX10 yX10_become yX10_become ∈ TB ∧ Cond.initialized RX10 ∈ TB ∧ Cond.code yX10_become cX10_become 2 none ∈ TB := ⟨tb_m (bk_3 (List.mem_of_getElem? (i := 61) rfl)) rfl, tb_m (bk_3 (List.mem_of_getElem? (i := 62) rfl)) rfl, tb_m (bk_1 (List.mem_of_getElem? (i := 2) rfl)) rfl, tb_m (bk_3 (List.mem_of_getElem? (i := 63) rfl)) rfl⟩
theorem mw_X10_isTold : Cond.instanceMethod yX10_isTold ∈ TB ∧ Cond.selects RX10 yX10_isTold yX10_isTold ∈ TB ∧ Cond.initialized RX10 ∈ TB ∧ Cond.code yX10_isTold cX10_isTold 1 (some .boolean) ∈ TB := ⟨tb_m (bk_3 (List.mem_of_getElem? (i := 94) rfl)) rfl, tb_m (bk_3 (List.mem_of_getElem? (i := 95) rfl)) rfl, tb_m (bk_1 (List.mem_of_getElem? (i := 2) rfl)) rfl, tb_m (bk_3 (List.mem_of_getElem? (i := 96) rfl)) rfl⟩
theorem mw_X10_hasSide : Cond.instanceMethod yX10_hasSide ∈ TB ∧ Cond.selects RX10 yX10_hasSide yX10_hasSide ∈ TB ∧ Cond.initialized RX10 ∈ TB ∧ Cond.code yX10_hasSide cX10_hasSide 2 (some .boolean) ∈ TB := ⟨tb_m (bk_3 (List.mem_of_getElem? (i := 90) rfl)) rfl, tb_m (bk_3 (List.mem_of_getElem? (i := 91) rfl)) rfl, tb_m (bk_1 (List.mem_of_getElem? (i := 2) rfl)) rfl, tb_m (bk_3 (List.mem_of_getElem? (i := 92) rfl)) rfl⟩
set_option maxRecDepth 8000 in
theorem mw_X10_hasTrain : Cond.instanceMethod yX10_hasTrain ∈ TB ∧ Cond.selects RX10 yX10_hasTrain yX10_hasTrain ∈ TB ∧ Cond.initialized RX10 ∈ TB ∧ Cond.code yX10_hasTrain cX10_hasTrain 2 (some .boolean) ∈ TB := ⟨tb_m (bk_5 (List.mem_of_getElem? (i := 239) rfl)) rfl, tb_m (bk_6 (List.mem_of_getElem? (i := 0) rfl)) rfl, tb_m (bk_1 (List.mem_of_getElem? (i := 2) rfl)) rfl, tb_m (bk_6 (List.mem_of_getElem? (i := 1) rfl)) rfl⟩
set_option maxRecDepth 8000 in
theorem mw_X10_sets : Cond.instanceMethod yX10_sets ∈ TB ∧ Cond.selects RX10 yX10_sets yX10_sets ∈ TB ∧ Cond.initialized RX10 ∈ TB ∧ Cond.code yX10_sets cX10_sets 1 (some .int) ∈ TB := ⟨tb_m (bk_3 (List.mem_of_getElem? (i := 135) rfl)) rfl, tb_m (bk_3 (List.mem_of_getElem? (i := 136) rfl)) rfl, tb_m (bk_1 (List.mem_of_getElem? (i := 2) rfl)) rfl, tb_m (bk_3 (List.mem_of_getElem? (i := 137) rfl)) rfl⟩
theorem mw_X10_needOf : Cond.instanceMethod yX10_needOf ∈ TB ∧ Cond.selects RX10 yX10_needOf yX10_needOf ∈ TB ∧ Cond.initialized RX10 ∈ TB ∧ Cond.code yX10_needOf cX10_needOf 2 (some .int) ∈ TB := ⟨tb_m (bk_3 (List.mem_of_getElem? (i := 98) rfl)) rfl, tb_m (bk_3 (List.mem_of_getElem? (i := 99) rfl)) rfl, tb_m (bk_1 (List.mem_of_getElem? (i := 2) rfl)) rfl, tb_m (bk_3 (List.mem_of_getElem? (i := 100) rfl)) rfl⟩
set_option maxRecDepth 8000 in
theorem mw_X10_setNeed : Cond.instanceMethod yX10_setNeed ∈ TB ∧ Cond.selects RX10 yX10_setNeed yX10_setNeed ∈ TB ∧ Cond.initialized RX10 ∈ TB ∧ Cond.code yX10_setNeed cX10_setNeed 3 none ∈ TB := ⟨tb_m (bk_2 (List.mem_of_getElem? (i := 237) rfl)) rfl, tb_m (bk_2 (List.mem_of_getElem? (i := 238) rfl)) rfl, tb_m (bk_1 (List.mem_of_getElem? (i := 2) rfl)) rfl, tb_m (bk_2 (List.mem_of_getElem? (i := 239) rfl)) rfl⟩
theorem mw_X10_trainsOf : Cond.instanceMethod yX10_trainsOf ∈ TB ∧ Cond.selects RX10 yX10_trainsOf yX10_trainsOf ∈ TB ∧ Cond.initialized RX10 ∈ TB ∧ Cond.code yX10_trainsOf cX10_trainsOf 4 (some .int) ∈ TB := ⟨tb_m (bk_4 (List.mem_of_getElem? (i := 85) rfl)) rfl, tb_m (bk_4 (List.mem_of_getElem? (i := 86) rfl)) rfl, tb_m (bk_1 (List.mem_of_getElem? (i := 2) rfl)) rfl, tb_m (bk_4 (List.mem_of_getElem? (i := 87) rfl)) rfl⟩
set_option maxRecDepth 8000 in
theorem mw_X10_priceOf : Cond.instanceMethod yX10_priceOf ∈ TB ∧ Cond.selects RX10 yX10_priceOf yX10_priceOf ∈ TB ∧ Cond.initialized RX10 ∈ TB ∧ Cond.code yX10_priceOf cX10_priceOf 4 (some .int) ∈ TB := ⟨tb_m (bk_4 (List.mem_of_getElem? (i := 147) rfl)) rfl, tb_m (bk_4 (List.mem_of_getElem? (i := 148) rfl)) rfl, tb_m (bk_1 (List.mem_of_getElem? (i := 2) rfl)) rfl, tb_m (bk_4 (List.mem_of_getElem? (i := 149) rfl)) rfl⟩
set_option maxRecDepth 8000 in
theorem mw_X10_arrival : Cond.instanceMethod yX10_arrival ∈ TB ∧ Cond.selects RX10 yX10_arrival yX10_arrival ∈ TB ∧ Cond.initialized RX10 ∈ TB ∧ Cond.code yX10_arrival cX10_arrival 3 (some .int) ∈ TB := ⟨tb_m (bk_3 (List.mem_of_getElem? (i := 144) rfl)) rfl, tb_m (bk_3 (List.mem_of_getElem? (i := 145) rfl)) rfl, tb_m (bk_1 (List.mem_of_getElem? (i := 2) rfl)) rfl, tb_m (bk_3 (List.mem_of_getElem? (i := 146) rfl)) rfl⟩
set_option maxRecDepth 8000 in
theorem mw_X10_comingIn : Cond.instanceMethod yX10_comingIn ∈ TB ∧ Cond.selects RX10 yX10_comingIn yX10_comingIn ∈ TB ∧ Cond.initialized RX10 ∈ TB ∧ Cond.code yX10_comingIn cX10_comingIn 5 (some .int) ∈ TB := ⟨tb_m (bk_3 (List.mem_of_getElem? (i := 233) rfl)) rfl, tb_m (bk_3 (List.mem_of_getElem? (i := 234) rfl)) rfl, tb_m (bk_1 (List.mem_of_getElem? (i := 2) rfl)) rfl, tb_m (bk_3 (List.mem_of_getElem? (i := 235) rfl)) rfl⟩
set_option maxRecDepth 8000 in
theorem mw_X10_menThere : Cond.instanceMethod yX10_menThere ∈ TB ∧ Cond.selects RX10 yX10_menThere yX10_menThere ∈ TB ∧ Cond.initialized RX10 ∈ TB ∧ Cond.code yX10_menThere cX10_menThere 6 (some .int) ∈ TB := ⟨tb_m (bk_3 (List.mem_of_getElem? (i := 140) rfl)) rfl, tb_m (bk_3 (List.mem_of_getElem? (i := 141) rfl)) rfl, tb_m (bk_1 (List.mem_of_getElem? (i := 2) rfl)) rfl, tb_m (bk_3 (List.mem_of_getElem? (i := 142) rfl)) rfl⟩
theorem mw_X10_menLost : Cond.instanceMethod yX10_menLost ∈ TB ∧ Cond.selects RX10 yX10_menLost yX10_menLost ∈ TB ∧ Cond.initialized RX10 ∈ TB ∧ Cond.code yX10_menLost cX10_menLost 4 (some .int) ∈ TB := ⟨tb_m (bk_4 (List.mem_of_getElem? (i := 8) rfl)) rfl, tb_m (bk_4 (List.mem_of_getElem? (i := 9) rfl)) rfl, tb_m (bk_1 (List.mem_of_getElem? (i := 2) rfl)) rfl, tb_m (bk_4 (List.mem_of_getElem? (i := 10) rfl)) rfl⟩
set_option maxRecDepth 8000 in
theorem mw_X10_leadIn : Cond.instanceMethod yX10_leadIn ∈ TB ∧ Cond.selects RX10 yX10_leadIn yX10_leadIn ∈ TB ∧ Cond.initialized RX10 ∈ TB ∧ Cond.code yX10_leadIn cX10_leadIn 3 (some .int) ∈ TB := ⟨tb_m (bk_3 (List.mem_of_getElem? (i := 160) rfl)) rfl, tb_m (bk_3 (List.mem_of_getElem? (i := 161) rfl)) rfl, tb_m (bk_1 (List.mem_of_getElem? (i := 2) rfl)) rfl, tb_m (bk_3 (List.mem_of_getElem? (i := 162) rfl)) rfl⟩
theorem mw_X10_isTea : Cond.instanceMethod yX10_isTea ∈ TB ∧ Cond.selects RX10 yX10_isTea yX10_isTea ∈ TB ∧ Cond.initialized RX10 ∈ TB ∧ Cond.code yX10_isTea cX10_isTea 3 (some .boolean) ∈ TB := ⟨tb_m (bk_3 (List.mem_of_getElem? (i := 107) rfl)) rfl, tb_m (bk_3 (List.mem_of_getElem? (i := 108) rfl)) rfl, tb_m (bk_1 (List.mem_of_getElem? (i := 2) rfl)) rfl, tb_m (bk_3 (List.mem_of_getElem? (i := 109) rfl)) rfl⟩
set_option maxRecDepth 8000 in
theorem mw_X10_lateSides : Cond.instanceMethod yX10_lateSides ∈ TB ∧ Cond.selects RX10 yX10_lateSides yX10_lateSides ∈ TB ∧ Cond.initialized RX10 ∈ TB ∧ Cond.code yX10_lateSides cX10_lateSides 4 (some .int) ∈ TB := ⟨tb_m (bk_3 (List.mem_of_getElem? (i := 176) rfl)) rfl, tb_m (bk_3 (List.mem_of_getElem? (i := 177) rfl)) rfl, tb_m (bk_1 (List.mem_of_getElem? (i := 2) rfl)) rfl, tb_m (bk_3 (List.mem_of_getElem? (i := 178) rfl)) rfl⟩
theorem mw_X10_toldNumber : Cond.instanceMethod yX10_toldNumber ∈ TB ∧ Cond.selects RX10 yX10_toldNumber yX10_toldNumber ∈ TB ∧ Cond.initialized RX10 ∈ TB ∧ Cond.code yX10_toldNumber cX10_toldNumber 3 (some .int) ∈ TB := ⟨tb_m (bk_6 (List.mem_of_getElem? (i := 14) rfl)) rfl, tb_m (List.mem_of_getElem? (i := 41) (by decide +kernel)) rfl, tb_m (bk_1 (List.mem_of_getElem? (i := 2) rfl)) rfl, tb_m (bk_6 (List.mem_of_getElem? (i := 15) rfl)) rfl⟩
theorem mw_X10_setToldNumber : Cond.instanceMethod yX10_setToldNumber ∈ TB ∧ Cond.selects RX10 yX10_setToldNumber yX10_setToldNumber ∈ TB ∧ Cond.initialized RX10 ∈ TB ∧ Cond.code yX10_setToldNumber cX10_setToldNumber 4 none ∈ TB := ⟨tb_m (bk_6 (List.mem_of_getElem? (i := 22) rfl)) rfl, tb_m (List.mem_of_getElem? (i := 42) (by decide +kernel)) rfl, tb_m (bk_1 (List.mem_of_getElem? (i := 2) rfl)) rfl, tb_m (bk_6 (List.mem_of_getElem? (i := 23) rfl)) rfl⟩
theorem mw_X11_feed : Cond.instanceMethod yX11_feed ∈ TB ∧ Cond.selects RX11 yX11_feed yX11_feed ∈ TB ∧ Cond.initialized RX11 ∈ TB ∧ Cond.code yX11_feed cX11_feed 6 (some .int) ∈ TB := ⟨tb_m (bk_2 (List.mem_of_getElem? (i := 107) rfl)) rfl, tb_m (bk_2 (List.mem_of_getElem? (i := 108) rfl)) rfl, tb_m (bk_1 (List.mem_of_getElem? (i := 1) rfl)) rfl, tb_m (bk_2 (List.mem_of_getElem? (i := 109) rfl)) rfl⟩
set_option maxRecDepth 8000 in
theorem mw_X11_end : Cond.instanceMethod yX11_end ∈ TB ∧ Cond.selects RX11 yX11_end yX11_end ∈ TB ∧ Cond.initialized RX11 ∈ TB ∧ Cond.code yX11_end cX11_end 2 (some .int) ∈ TB := ⟨tb_m (bk_2 (List.mem_of_getElem? (i := 119) rfl)) rfl, tb_m (bk_2 (List.mem_of_getElem? (i := 120) rfl)) rfl, tb_m (bk_1 (List.mem_of_getElem? (i := 1) rfl)) rfl, tb_m (bk_2 (List.mem_of_getElem? (i := 121) rfl)) rfl⟩
theorem mw_X11_fault : Cond.instanceMethod yX11_fault ∈ TB ∧ Cond.selects RX11 yX11_fault yX11_fault ∈ TB ∧ Cond.initialized RX11 ∈ TB ∧ Cond.code yX11_fault cX11_fault 2 (some .int) ∈ TB := ⟨tb_m (bk_3 (List.mem_of_getElem? (i := 77) rfl)) rfl, tb_m (bk_3 (List.mem_of_getElem? (i := 78) rfl)) rfl, tb_m (bk_1 (List.mem_of_getElem? (i := 1) rfl)) rfl, tb_m (bk_3 (List.mem_of_getElem? (i := 79) rfl)) rfl⟩
theorem mw_X11_train : Cond.instanceMethod yX11_train ∈ TB ∧ Cond.selects RX11 yX11_train yX11_train ∈ TB ∧ Cond.initialized RX11 ∈ TB ∧ Cond.code yX11_train cX11_train 3 (some .int) ∈ TB := ⟨tb_m (bk_3 (List.mem_of_getElem? (i := 81) rfl)) rfl, tb_m (bk_3 (List.mem_of_getElem? (i := 82) rfl)) rfl, tb_m (bk_1 (List.mem_of_getElem? (i := 1) rfl)) rfl, tb_m (bk_3 (List.mem_of_getElem? (i := 83) rfl)) rfl⟩
theorem mw_X11_need : Cond.instanceMethod yX11_need ∈ TB ∧ Cond.selects RX11 yX11_need yX11_need ∈ TB ∧ Cond.initialized RX11 ∈ TB ∧ Cond.code yX11_need cX11_need 2 (some .int) ∈ TB := ⟨tb_m (bk_3 (List.mem_of_getElem? (i := 86) rfl)) rfl, tb_m (bk_3 (List.mem_of_getElem? (i := 87) rfl)) rfl, tb_m (bk_1 (List.mem_of_getElem? (i := 1) rfl)) rfl, tb_m (bk_3 (List.mem_of_getElem? (i := 88) rfl)) rfl⟩
theorem mw_X11_tea : Cond.instanceMethod yX11_tea ∈ TB ∧ Cond.selects RX11 yX11_tea yX11_tea ∈ TB ∧ Cond.initialized RX11 ∈ TB ∧ Cond.code yX11_tea cX11_tea 2 (some .int) ∈ TB := ⟨tb_m (bk_3 (List.mem_of_getElem? (i := 102) rfl)) rfl, tb_m (bk_3 (List.mem_of_getElem? (i := 103) rfl)) rfl, tb_m (bk_1 (List.mem_of_getElem? (i := 1) rfl)) rfl, tb_m (bk_3 (List.mem_of_getElem? (i := 104) rfl)) rfl⟩
theorem mw_X11_cannon : Cond.instanceMethod yX11_cannon ∈ TB ∧ Cond.selects RX11 yX11_cannon yX11_cannon ∈ TB ∧ Cond.initialized RX11 ∈ TB ∧ Cond.code yX11_cannon cX11_cannon 3 (some .int) ∈ TB := ⟨tb_m (bk_3 (List.mem_of_getElem? (i := 112) rfl)) rfl, tb_m (bk_3 (List.mem_of_getElem? (i := 113) rfl)) rfl, tb_m (bk_1 (List.mem_of_getElem? (i := 1) rfl)) rfl, tb_m (bk_3 (List.mem_of_getElem? (i := 114) rfl)) rfl⟩
theorem mw_X11_rule : Cond.instanceMethod yX11_rule ∈ TB ∧ Cond.selects RX11 yX11_rule yX11_rule ∈ TB ∧ Cond.initialized RX11 ∈ TB ∧ Cond.code yX11_rule cX11_rule 3 (some .int) ∈ TB := ⟨tb_m (bk_3 (List.mem_of_getElem? (i := 116) rfl)) rfl, tb_m (bk_3 (List.mem_of_getElem? (i := 117) rfl)) rfl, tb_m (bk_1 (List.mem_of_getElem? (i := 1) rfl)) rfl, tb_m (bk_3 (List.mem_of_getElem? (i := 118) rfl)) rfl⟩
set_option maxRecDepth 8000 in
theorem mw_X11_spy : Cond.instanceMethod yX11_spy ∈ TB ∧ Cond.selects RX11 yX11_spy yX11_spy ∈ TB ∧ Cond.initialized RX11 ∈ TB ∧ Cond.code yX11_spy cX11_spy 2 (some .int) ∈ TB := ⟨tb_m (bk_3 (List.mem_of_getElem? (i := 120) rfl)) rfl, tb_m (bk_3 (List.mem_of_getElem? (i := 121) rfl)) rfl, tb_m (bk_1 (List.mem_of_getElem? (i := 1) rfl)) rfl, tb_m (bk_3 (List.mem_of_getElem? (i := 122) rfl)) rfl⟩
theorem mw_X11_count : Cond.instanceMethod yX11_count ∈ TB ∧ Cond.selects RX11 yX11_count yX11_count ∈ TB ∧ Cond.initialized RX11 ∈ TB ∧ Cond.code yX11_count cX11_count 2 (some .int) ∈ TB := ⟨tb_m (bk_6 (List.mem_of_getElem? (i := 69) rfl)) rfl, tb_m (bk_6 (List.mem_of_getElem? (i := 70) rfl)) rfl, tb_m (bk_1 (List.mem_of_getElem? (i := 1) rfl)) rfl, tb_m (bk_6 (List.mem_of_getElem? (i := 71) rfl)) rfl⟩
set_option maxRecDepth 8000 in
theorem mw_X11_isMinute : Cond.static yX11_isMinute ∈ TB ∧ Cond.initialized yX11_isMinute.cls ∈ TB ∧ Cond.code yX11_isMinute cX11_isMinute 1 (some .boolean) ∈ TB := ⟨tb_m (bk_3 (List.mem_of_getElem? (i := 128) rfl)) rfl, tb_m (bk_1 (List.mem_of_getElem? (i := 1) rfl)) rfl, tb_m (bk_3 (List.mem_of_getElem? (i := 129) rfl)) rfl⟩
theorem mw_X11_isPeaceMinute : Cond.instanceMethod yX11_isPeaceMinute ∈ TB ∧ Cond.selects RX11 yX11_isPeaceMinute yX11_isPeaceMinute ∈ TB ∧ Cond.initialized RX11 ∈ TB ∧ Cond.code yX11_isPeaceMinute cX11_isPeaceMinute 2 (some .boolean) ∈ TB := ⟨tb_m (bk_5 (List.mem_of_getElem? (i := 68) rfl)) rfl, tb_m (List.mem_of_getElem? (i := 35) (by decide +kernel)) rfl, tb_m (bk_1 (List.mem_of_getElem? (i := 1) rfl)) rfl, tb_m (bk_5 (List.mem_of_getElem? (i := 69) rfl)) rfl⟩
theorem mw_X11_isPart : Cond.static yX11_isPart ∈ TB ∧ Cond.initialized yX11_isPart.cls ∈ TB ∧ Cond.code yX11_isPart cX11_isPart 1 (some .boolean) ∈ TB := ⟨tb_m (bk_4 (List.mem_of_getElem? (i := 63) rfl)) rfl, tb_m (bk_1 (List.mem_of_getElem? (i := 1) rfl)) rfl, tb_m (bk_4 (List.mem_of_getElem? (i := 64) rfl)) rfl⟩
set_option maxRecDepth 8000 in
theorem mw_X11_isPercent : Cond.static yX11_isPercent ∈ TB ∧ Cond.initialized yX11_isPercent.cls ∈ TB ∧ Cond.code yX11_isPercent cX11_isPercent 1 (some .boolean) ∈ TB := ⟨tb_m (bk_4 (List.mem_of_getElem? (i := 171) rfl)) rfl, tb_m (bk_1 (List.mem_of_getElem? (i := 1) rfl)) rfl, tb_m (bk_4 (List.mem_of_getElem? (i := 172) rfl)) rfl⟩
set_option maxRecDepth 8000 in
theorem mw_X11_isRisk : Cond.instanceMethod yX11_isRisk ∈ TB ∧ Cond.selects RX11 yX11_isRisk yX11_isRisk ∈ TB ∧ Cond.initialized RX11 ∈ TB ∧ Cond.code yX11_isRisk cX11_isRisk 3 (some .boolean) ∈ TB := ⟨tb_m (bk_4 (List.mem_of_getElem? (i := 168) rfl)) rfl, tb_m (List.mem_of_getElem? (i := 28) (by decide +kernel)) rfl, tb_m (bk_1 (List.mem_of_getElem? (i := 1) rfl)) rfl, tb_m (bk_4 (List.mem_of_getElem? (i := 169) rfl)) rfl⟩
set_option maxRecDepth 8000 in
theorem mw_X11_isPurse : Cond.instanceMethod yX11_isPurse ∈ TB ∧ Cond.selects RX11 yX11_isPurse yX11_isPurse ∈ TB ∧ Cond.initialized RX11 ∈ TB ∧ Cond.code yX11_isPurse cX11_isPurse 3 (some .boolean) ∈ TB := ⟨tb_m (bk_4 (List.mem_of_getElem? (i := 218) rfl)) rfl, tb_m (List.mem_of_getElem? (i := 31) (by decide +kernel)) rfl, tb_m (bk_1 (List.mem_of_getElem? (i := 1) rfl)) rfl, tb_m (bk_4 (List.mem_of_getElem? (i := 219) rfl)) rfl⟩
theorem mw_X11_isHost : Cond.static yX11_isHost ∈ TB ∧ Cond.initialized yX11_isHost.cls ∈ TB ∧ Cond.code yX11_isHost cX11_isHost 1 (some .boolean) ∈ TB := ⟨tb_m (bk_5 (List.mem_of_getElem? (i := 37) rfl)) rfl, tb_m (bk_1 (List.mem_of_getElem? (i := 1) rfl)) rfl, tb_m (bk_5 (List.mem_of_getElem? (i := 38) rfl)) rfl⟩
theorem mw_X11_isPlace : Cond.static yX11_isPlace ∈ TB ∧ Cond.initialized yX11_isPlace.cls ∈ TB ∧ Cond.code yX11_isPlace cX11_isPlace 1 (some .boolean) ∈ TB := ⟨tb_m (bk_5 (List.mem_of_getElem? (i := 56) rfl)) rfl, tb_m (bk_1 (List.mem_of_getElem? (i := 1) rfl)) rfl, tb_m (bk_5 (List.mem_of_getElem? (i := 57) rfl)) rfl⟩
theorem mw_X11_isSeed : Cond.instanceMethod yX11_isSeed ∈ TB ∧ Cond.selects RX11 yX11_isSeed yX11_isSeed ∈ TB ∧ Cond.initialized RX11 ∈ TB ∧ Cond.code yX11_isSeed cX11_isSeed 2 (some .boolean) ∈ TB := ⟨tb_m (bk_6 (List.mem_of_getElem? (i := 47) rfl)) rfl, tb_m (List.mem_of_getElem? (i := 43) (by decide +kernel)) rfl, tb_m (bk_1 (List.mem_of_getElem? (i := 1) rfl)) rfl, tb_m (bk_6 (List.mem_of_getElem? (i := 48) rfl)) rfl⟩
theorem mw_X11_isImage : Cond.static yX11_isImage ∈ TB ∧ Cond.initialized yX11_isImage.cls ∈ TB ∧ Cond.code yX11_isImage cX11_isImage 1 (some .boolean) ∈ TB := ⟨tb_m (bk_6 (List.mem_of_getElem? (i := 81) rfl)) rfl, tb_m (bk_1 (List.mem_of_getElem? (i := 1) rfl)) rfl, tb_m (bk_6 (List.mem_of_getElem? (i := 82) rfl)) rfl⟩
set_option maxRecDepth 8000 in
theorem mw_X12_in : Cond.static yX12_in ∈ TB ∧ Cond.initialized yX12_in.cls ∈ TB ∧ Cond.code yX12_in cX12_in 6 (some .boolean) ∈ TB := ⟨tb_m (bk_6 (List.mem_of_getElem? (i := 230) rfl)) rfl, tb_m (bk_1 (List.mem_of_getElem? (i := 13) rfl)) rfl, tb_m (bk_6 (List.mem_of_getElem? (i := 231) rfl)) rfl⟩
theorem mw_X12_bits : Cond.static yX12_bits ∈ TB ∧ Cond.initialized yX12_bits.cls ∈ TB ∧ Cond.code yX12_bits cX12_bits 3 (some .int) ∈ TB := ⟨tb_m (bk_8 (List.mem_of_getElem? (i := 4) rfl)) rfl, tb_m (bk_1 (List.mem_of_getElem? (i := 13) rfl)) rfl, tb_m (bk_8 (List.mem_of_getElem? (i := 5) rfl)) rfl⟩
set_option maxRecDepth 8000 in
theorem mw_X12_bit : Cond.static yX12_bit ∈ TB ∧ Cond.initialized yX12_bit.cls ∈ TB ∧ Cond.code yX12_bit cX12_bit 2 (some .int) ∈ TB := ⟨tb_m (bk_7 (List.mem_of_getElem? (i := 180) rfl)) rfl, tb_m (bk_1 (List.mem_of_getElem? (i := 13) rfl)) rfl, tb_m (bk_7 (List.mem_of_getElem? (i := 181) rfl)) rfl⟩
set_option maxRecDepth 8000 in
theorem mw_X12_image : Cond.instanceMethod yX12_image ∈ TB ∧ Cond.selects RX12 yX12_image yX12_image ∈ TB ∧ Cond.initialized RX12 ∈ TB ∧ Cond.code yX12_image cX12_image 3 (some .int) ∈ TB := ⟨tb_m (bk_6 (List.mem_of_getElem? (i := 225) rfl)) rfl, tb_m (bk_6 (List.mem_of_getElem? (i := 226) rfl)) rfl, tb_m (bk_1 (List.mem_of_getElem? (i := 13) rfl)) rfl, tb_m (bk_6 (List.mem_of_getElem? (i := 227) rfl)) rfl⟩
set_option maxRecDepth 8000 in
theorem mw_X12_back : Cond.instanceMethod yX12_back ∈ TB ∧ Cond.selects RX12 yX12_back yX12_back ∈ TB ∧ Cond.initialized RX12 ∈ TB ∧ Cond.code yX12_back cX12_back 3 (some .int) ∈ TB := ⟨tb_m (bk_6 (List.mem_of_getElem? (i := 233) rfl)) rfl, tb_m (bk_6 (List.mem_of_getElem? (i := 234) rfl)) rfl, tb_m (bk_1 (List.mem_of_getElem? (i := 13) rfl)) rfl, tb_m (bk_6 (List.mem_of_getElem? (i := 235) rfl)) rfl⟩
set_option maxRecDepth 8000 in
theorem mw_X12_isWar : Cond.instanceMethod yX12_isWar ∈ TB ∧ Cond.selects RX12 yX12_isWar yX12_isWar ∈ TB ∧ Cond.initialized RX12 ∈ TB ∧ Cond.code yX12_isWar cX12_isWar 1 (some .boolean) ∈ TB := ⟨tb_m (bk_7 (List.mem_of_getElem? (i := 132) rfl)) rfl, tb_m (List.mem_of_getElem? (i := 65) (by decide +kernel)) rfl, tb_m (bk_1 (List.mem_of_getElem? (i := 13) rfl)) rfl, tb_m (bk_7 (List.mem_of_getElem? (i := 133) rfl)) rfl⟩
set_option maxRecDepth 8000 in
theorem mw_X12_isSide : Cond.instanceMethod yX12_isSide ∈ TB ∧ Cond.selects RX12 yX12_isSide yX12_isSide ∈ TB ∧ Cond.initialized RX12 ∈ TB ∧ Cond.code yX12_isSide cX12_isSide 2 (some .boolean) ∈ TB := ⟨tb_m (bk_7 (List.mem_of_getElem? (i := 128) rfl)) rfl, tb_m (List.mem_of_getElem? (i := 64) (by decide +kernel)) rfl, tb_m (bk_1 (List.mem_of_getElem? (i := 13) rfl)) rfl, tb_m (bk_7 (List.mem_of_getElem? (i := 129) rfl)) rfl⟩
theorem mw_X12_isTrain : Cond.instanceMethod yX12_isTrain ∈ TB ∧ Cond.selects RX12 yX12_isTrain yX12_isTrain ∈ TB ∧ Cond.initialized RX12 ∈ TB ∧ Cond.code yX12_isTrain cX12_isTrain 2 (some .boolean) ∈ TB := ⟨tb_m (bk_7 (List.mem_of_getElem? (i := 115) rfl)) rfl, tb_m (List.mem_of_getElem? (i := 62) (by decide +kernel)) rfl, tb_m (bk_1 (List.mem_of_getElem? (i := 13) rfl)) rfl, tb_m (bk_7 (List.mem_of_getElem? (i := 116) rfl)) rfl⟩
set_option maxRecDepth 8000 in
theorem mw_X12_allTrains : Cond.instanceMethod yX12_allTrains ∈ TB ∧ Cond.selects RX12 yX12_allTrains yX12_allTrains ∈ TB ∧ Cond.initialized RX12 ∈ TB ∧ Cond.code yX12_allTrains cX12_allTrains 1 (some .int) ∈ TB := ⟨tb_m (bk_7 (List.mem_of_getElem? (i := 169) rfl)) rfl, tb_m (List.mem_of_getElem? (i := 68) (by decide +kernel)) rfl, tb_m (bk_1 (List.mem_of_getElem? (i := 13) rfl)) rfl, tb_m (bk_7 (List.mem_of_getElem? (i := 170) rfl)) rfl⟩
set_option maxRecDepth 8000 in
theorem mw_X12_areTrains : Cond.instanceMethod yX12_areTrains ∈ TB ∧ Cond.selects RX12 yX12_areTrains yX12_areTrains ∈ TB ∧ Cond.initialized RX12 ∈ TB ∧ Cond.code yX12_areTrains cX12_areTrains 2 (some .boolean) ∈ TB := ⟨tb_m (bk_7 (List.mem_of_getElem? (i := 165) rfl)) rfl, tb_m (List.mem_of_getElem? (i := 67) (by decide +kernel)) rfl, tb_m (bk_1 (List.mem_of_getElem? (i := 13) rfl)) rfl, tb_m (bk_7 (List.mem_of_getElem? (i := 166) rfl)) rfl⟩
set_option maxRecDepth 8000 in
theorem mw_X12_of : Cond.instanceMethod yX12_of ∈ TB ∧ Cond.selects RX12 yX12_of yX12_of ∈ TB ∧ Cond.initialized RX12 ∈ TB ∧ Cond.code yX12_of cX12_of 3 (some .int) ∈ TB := ⟨tb_m (bk_7 (List.mem_of_getElem? (i := 120) rfl)) rfl, tb_m (List.mem_of_getElem? (i := 63) (by decide +kernel)) rfl, tb_m (bk_1 (List.mem_of_getElem? (i := 13) rfl)) rfl, tb_m (bk_7 (List.mem_of_getElem? (i := 121) rfl)) rfl⟩
theorem mw_X12_trainsOf : Cond.instanceMethod yX12_trainsOf ∈ TB ∧ Cond.selects RX12 yX12_trainsOf yX12_trainsOf ∈ TB ∧ Cond.initialized RX12 ∈ TB ∧ Cond.code yX12_trainsOf cX12_trainsOf 4 (some .int) ∈ TB := ⟨tb_m (bk_8 (List.mem_of_getElem? (i := 51) rfl)) rfl, tb_m (List.mem_of_getElem? (i := 79) (by decide +kernel)) rfl, tb_m (bk_1 (List.mem_of_getElem? (i := 13) rfl)) rfl, tb_m (bk_8 (List.mem_of_getElem? (i := 52) rfl)) rfl⟩
theorem mw_X12_priceOf : Cond.instanceMethod yX12_priceOf ∈ TB ∧ Cond.selects RX12 yX12_priceOf yX12_priceOf ∈ TB ∧ Cond.initialized RX12 ∈ TB ∧ Cond.code yX12_priceOf cX12_priceOf 4 (some .int) ∈ TB := ⟨tb_m (bk_8 (List.mem_of_getElem? (i := 63) rfl)) rfl, tb_m (List.mem_of_getElem? (i := 82) (by decide +kernel)) rfl, tb_m (bk_1 (List.mem_of_getElem? (i := 13) rfl)) rfl, tb_m (bk_8 (List.mem_of_getElem? (i := 64) rfl)) rfl⟩
set_option maxRecDepth 8000 in
theorem mw_X12_feed : Cond.instanceMethod yX12_feed ∈ TB ∧ Cond.selects RX12 yX12_feed yX12_feed ∈ TB ∧ Cond.initialized RX12 ∈ TB ∧ Cond.code yX12_feed cX12_feed 7 (some .int) ∈ TB := ⟨tb_m (bk_6 (List.mem_of_getElem? (i := 237) rfl)) rfl, tb_m (bk_6 (List.mem_of_getElem? (i := 238) rfl)) rfl, tb_m (bk_1 (List.mem_of_getElem? (i := 13) rfl)) rfl, tb_m (bk_6 (List.mem_of_getElem? (i := 239) rfl)) rfl⟩
theorem mw_X12_end : Cond.instanceMethod yX12_end ∈ TB ∧ Cond.selects RX12 yX12_end yX12_end ∈ TB ∧ Cond.initialized RX12 ∈ TB ∧ Cond.code yX12_end cX12_end 2 (some .int) ∈ TB := ⟨tb_m (bk_7 (List.mem_of_getElem? (i := 1) rfl)) rfl, tb_m (bk_7 (List.mem_of_getElem? (i := 2) rfl)) rfl, tb_m (bk_1 (List.mem_of_getElem? (i := 13) rfl)) rfl, tb_m (bk_7 (List.mem_of_getElem? (i := 3) rfl)) rfl⟩
theorem mw_X12_see : Cond.instanceMethod yX12_see ∈ TB ∧ Cond.selects RX12 yX12_see yX12_see ∈ TB ∧ Cond.initialized RX12 ∈ TB ∧ Cond.code yX12_see cX12_see 2 (some .int) ∈ TB := ⟨tb_m (bk_7 (List.mem_of_getElem? (i := 18) rfl)) rfl, tb_m (List.mem_of_getElem? (i := 46) (by decide +kernel)) rfl, tb_m (bk_1 (List.mem_of_getElem? (i := 13) rfl)) rfl, tb_m (bk_7 (List.mem_of_getElem? (i := 19) rfl)) rfl⟩
theorem mw_X12_advance : Cond.instanceMethod yX12_advance ∈ TB ∧ Cond.selects RX12 yX12_advance yX12_advance ∈ TB ∧ Cond.initialized RX12 ∈ TB ∧ Cond.code yX12_advance cX12_advance 2 none ∈ TB := ⟨tb_m (bk_7 (List.mem_of_getElem? (i := 14) rfl)) rfl, tb_m (List.mem_of_getElem? (i := 45) (by decide +kernel)) rfl, tb_m (bk_1 (List.mem_of_getElem? (i := 13) rfl)) rfl, tb_m (bk_7 (List.mem_of_getElem? (i := 15) rfl)) rfl⟩
theorem mw_X12_good : Cond.instanceMethod yX12_good ∈ TB ∧ Cond.selects RX12 yX12_good yX12_good ∈ TB ∧ Cond.initialized RX12 ∈ TB ∧ Cond.code yX12_good cX12_good 1 (some .boolean) ∈ TB := ⟨tb_m (bk_7 (List.mem_of_getElem? (i := 28) rfl)) rfl, tb_m (List.mem_of_getElem? (i := 47) (by decide +kernel)) rfl, tb_m (bk_1 (List.mem_of_getElem? (i := 13) rfl)) rfl, tb_m (bk_7 (List.mem_of_getElem? (i := 29) rfl)) rfl⟩
theorem mw_X12_errs : Cond.instanceMethod yX12_errs ∈ TB ∧ Cond.selects RX12 yX12_errs yX12_errs ∈ TB ∧ Cond.initialized RX12 ∈ TB ∧ Cond.code yX12_errs cX12_errs 2 none ∈ TB := ⟨tb_m (bk_7 (List.mem_of_getElem? (i := 55) rfl)) rfl, tb_m (List.mem_of_getElem? (i := 53) (by decide +kernel)) rfl, tb_m (bk_1 (List.mem_of_getElem? (i := 13) rfl)) rfl, tb_m (bk_7 (List.mem_of_getElem? (i := 56) rfl)) rfl⟩
theorem mw_X12_number : Cond.instanceMethod yX12_number ∈ TB ∧ Cond.selects RX12 yX12_number yX12_number ∈ TB ∧ Cond.initialized RX12 ∈ TB ∧ Cond.code yX12_number cX12_number 4 (some .int) ∈ TB := ⟨tb_m (bk_7 (List.mem_of_getElem? (i := 64) rfl)) rfl, tb_m (List.mem_of_getElem? (i := 55) (by decide +kernel)) rfl, tb_m (bk_1 (List.mem_of_getElem? (i := 13) rfl)) rfl, tb_m (bk_7 (List.mem_of_getElem? (i := 65) rfl)) rfl⟩
theorem mw_X12_fault : Cond.instanceMethod yX12_fault ∈ TB ∧ Cond.selects RX12 yX12_fault yX12_fault ∈ TB ∧ Cond.initialized RX12 ∈ TB ∧ Cond.code yX12_fault cX12_fault 2 (some .int) ∈ TB := ⟨tb_m (bk_7 (List.mem_of_getElem? (i := 5) rfl)) rfl, tb_m (bk_7 (List.mem_of_getElem? (i := 6) rfl)) rfl, tb_m (bk_1 (List.mem_of_getElem? (i := 13) rfl)) rfl, tb_m (bk_7 (List.mem_of_getElem? (i := 7) rfl)) rfl⟩
theorem mw_X12_readNeed : Cond.instanceMethod yX12_readNeed ∈ TB ∧ Cond.selects RX12 yX12_readNeed yX12_readNeed ∈ TB ∧ Cond.initialized RX12 ∈ TB ∧ Cond.code yX12_readNeed cX12_readNeed 3 none ∈ TB := ⟨tb_m (bk_7 (List.mem_of_getElem? (i := 81) rfl)) rfl, tb_m (List.mem_of_getElem? (i := 57) (by decide +kernel)) rfl, tb_m (bk_1 (List.mem_of_getElem? (i := 13) rfl)) rfl, tb_m (bk_7 (List.mem_of_getElem? (i := 82) rfl)) rfl⟩
theorem mw_X12_train : Cond.instanceMethod yX12_train ∈ TB ∧ Cond.selects RX12 yX12_train yX12_train ∈ TB ∧ Cond.initialized RX12 ∈ TB ∧ Cond.code yX12_train cX12_train 3 (some .int) ∈ TB := ⟨tb_m (bk_7 (List.mem_of_getElem? (i := 110) rfl)) rfl, tb_m (bk_7 (List.mem_of_getElem? (i := 111) rfl)) rfl, tb_m (bk_1 (List.mem_of_getElem? (i := 13) rfl)) rfl, tb_m (bk_7 (List.mem_of_getElem? (i := 112) rfl)) rfl⟩
set_option maxRecDepth 8000 in
theorem mw_X12_need : Cond.instanceMethod yX12_need ∈ TB ∧ Cond.selects RX12 yX12_need yX12_need ∈ TB ∧ Cond.initialized RX12 ∈ TB ∧ Cond.code yX12_need cX12_need 2 (some .int) ∈ TB := ⟨tb_m (bk_7 (List.mem_of_getElem? (i := 123) rfl)) rfl, tb_m (bk_7 (List.mem_of_getElem? (i := 124) rfl)) rfl, tb_m (bk_1 (List.mem_of_getElem? (i := 13) rfl)) rfl, tb_m (bk_7 (List.mem_of_getElem? (i := 125) rfl)) rfl⟩
set_option maxRecDepth 8000 in
theorem mw_X12_isTea : Cond.instanceMethod yX12_isTea ∈ TB ∧ Cond.selects RX12 yX12_isTea yX12_isTea ∈ TB ∧ Cond.initialized RX12 ∈ TB ∧ Cond.code yX12_isTea cX12_isTea 3 (some .boolean) ∈ TB := ⟨tb_m (bk_7 (List.mem_of_getElem? (i := 140) rfl)) rfl, tb_m (List.mem_of_getElem? (i := 66) (by decide +kernel)) rfl, tb_m (bk_1 (List.mem_of_getElem? (i := 13) rfl)) rfl, tb_m (bk_7 (List.mem_of_getElem? (i := 141) rfl)) rfl⟩
set_option maxRecDepth 8000 in
theorem mw_X12_tea : Cond.instanceMethod yX12_tea ∈ TB ∧ Cond.selects RX12 yX12_tea yX12_tea ∈ TB ∧ Cond.initialized RX12 ∈ TB ∧ Cond.code yX12_tea cX12_tea 2 (some .int) ∈ TB := ⟨tb_m (bk_7 (List.mem_of_getElem? (i := 135) rfl)) rfl, tb_m (bk_7 (List.mem_of_getElem? (i := 136) rfl)) rfl, tb_m (bk_1 (List.mem_of_getElem? (i := 13) rfl)) rfl, tb_m (bk_7 (List.mem_of_getElem? (i := 137) rfl)) rfl⟩
set_option maxRecDepth 8000 in
theorem mw_X12_cannon : Cond.instanceMethod yX12_cannon ∈ TB ∧ Cond.selects RX12 yX12_cannon yX12_cannon ∈ TB ∧ Cond.initialized RX12 ∈ TB ∧ Cond.code yX12_cannon cX12_cannon 3 (some .int) ∈ TB := ⟨tb_m (bk_7 (List.mem_of_getElem? (i := 143) rfl)) rfl, tb_m (bk_7 (List.mem_of_getElem? (i := 144) rfl)) rfl, tb_m (bk_1 (List.mem_of_getElem? (i := 13) rfl)) rfl, tb_m (bk_7 (List.mem_of_getElem? (i := 145) rfl)) rfl⟩
set_option maxRecDepth 8000 in
theorem mw_X12_rule : Cond.instanceMethod yX12_rule ∈ TB ∧ Cond.selects RX12 yX12_rule yX12_rule ∈ TB ∧ Cond.initialized RX12 ∈ TB ∧ Cond.code yX12_rule cX12_rule 3 (some .int) ∈ TB := ⟨tb_m (bk_7 (List.mem_of_getElem? (i := 148) rfl)) rfl, tb_m (bk_7 (List.mem_of_getElem? (i := 149) rfl)) rfl, tb_m (bk_1 (List.mem_of_getElem? (i := 13) rfl)) rfl, tb_m (bk_7 (List.mem_of_getElem? (i := 150) rfl)) rfl⟩
set_option maxRecDepth 8000 in
theorem mw_X12_spy : Cond.instanceMethod yX12_spy ∈ TB ∧ Cond.selects RX12 yX12_spy yX12_spy ∈ TB ∧ Cond.initialized RX12 ∈ TB ∧ Cond.code yX12_spy cX12_spy 2 (some .int) ∈ TB := ⟨tb_m (bk_7 (List.mem_of_getElem? (i := 152) rfl)) rfl, tb_m (bk_7 (List.mem_of_getElem? (i := 153) rfl)) rfl, tb_m (bk_1 (List.mem_of_getElem? (i := 13) rfl)) rfl, tb_m (bk_7 (List.mem_of_getElem? (i := 154) rfl)) rfl⟩
set_option maxRecDepth 8000 in
theorem mw_X12_comesAt : Cond.instanceMethod yX12_comesAt ∈ TB ∧ Cond.selects RX12 yX12_comesAt yX12_comesAt ∈ TB ∧ Cond.initialized RX12 ∈ TB ∧ Cond.code yX12_comesAt cX12_comesAt 3 (some .int) ∈ TB := ⟨tb_m (bk_7 (List.mem_of_getElem? (i := 177) rfl)) rfl, tb_m (List.mem_of_getElem? (i := 70) (by decide +kernel)) rfl, tb_m (bk_1 (List.mem_of_getElem? (i := 13) rfl)) rfl, tb_m (bk_7 (List.mem_of_getElem? (i := 178) rfl)) rfl⟩
set_option maxRecDepth 8000 in
theorem mw_X12_menOf : Cond.instanceMethod yX12_menOf ∈ TB ∧ Cond.selects RX12 yX12_menOf yX12_menOf ∈ TB ∧ Cond.initialized RX12 ∈ TB ∧ Cond.code yX12_menOf cX12_menOf 6 (some .int) ∈ TB := ⟨tb_m (bk_7 (List.mem_of_getElem? (i := 173) rfl)) rfl, tb_m (List.mem_of_getElem? (i := 69) (by decide +kernel)) rfl, tb_m (bk_1 (List.mem_of_getElem? (i := 13) rfl)) rfl, tb_m (bk_7 (List.mem_of_getElem? (i := 174) rfl)) rfl⟩
set_option maxRecDepth 8000 in
theorem mw_X12_frontOf : Cond.instanceMethod yX12_frontOf ∈ TB ∧ Cond.selects RX12 yX12_frontOf yX12_frontOf ∈ TB ∧ Cond.initialized RX12 ∈ TB ∧ Cond.code yX12_frontOf cX12_frontOf 5 (some .int) ∈ TB := ⟨tb_m (bk_7 (List.mem_of_getElem? (i := 188) rfl)) rfl, tb_m (List.mem_of_getElem? (i := 71) (by decide +kernel)) rfl, tb_m (bk_1 (List.mem_of_getElem? (i := 13) rfl)) rfl, tb_m (bk_7 (List.mem_of_getElem? (i := 189) rfl)) rfl⟩
set_option maxRecDepth 8000 in
theorem mw_X12_lastFront : Cond.instanceMethod yX12_lastFront ∈ TB ∧ Cond.selects RX12 yX12_lastFront yX12_lastFront ∈ TB ∧ Cond.initialized RX12 ∈ TB ∧ Cond.code yX12_lastFront cX12_lastFront 2 (some .int) ∈ TB := ⟨tb_m (bk_7 (List.mem_of_getElem? (i := 208) rfl)) rfl, tb_m (List.mem_of_getElem? (i := 74) (by decide +kernel)) rfl, tb_m (bk_1 (List.mem_of_getElem? (i := 13) rfl)) rfl, tb_m (bk_7 (List.mem_of_getElem? (i := 209) rfl)) rfl⟩
set_option maxRecDepth 8000 in
theorem mw_X12_goodBy : Cond.static yX12_goodBy ∈ TB ∧ Cond.initialized yX12_goodBy.cls ∈ TB ∧ Cond.code yX12_goodBy cX12_goodBy 2 (some .int) ∈ TB := ⟨tb_m (bk_7 (List.mem_of_getElem? (i := 215) rfl)) rfl, tb_m (bk_1 (List.mem_of_getElem? (i := 13) rfl)) rfl, tb_m (bk_7 (List.mem_of_getElem? (i := 216) rfl)) rfl⟩
set_option maxRecDepth 8000 in
theorem mw_X12_isLate : Cond.instanceMethod yX12_isLate ∈ TB ∧ Cond.selects RX12 yX12_isLate yX12_isLate ∈ TB ∧ Cond.initialized RX12 ∈ TB ∧ Cond.code yX12_isLate cX12_isLate 3 (some .boolean) ∈ TB := ⟨tb_m (bk_7 (List.mem_of_getElem? (i := 196) rfl)) rfl, tb_m (List.mem_of_getElem? (i := 72) (by decide +kernel)) rfl, tb_m (bk_1 (List.mem_of_getElem? (i := 13) rfl)) rfl, tb_m (bk_7 (List.mem_of_getElem? (i := 197) rfl)) rfl⟩
set_option maxRecDepth 8000 in
theorem mw_X12_winner : Cond.instanceMethod yX12_winner ∈ TB ∧ Cond.selects RX12 yX12_winner yX12_winner ∈ TB ∧ Cond.initialized RX12 ∈ TB ∧ Cond.code yX12_winner cX12_winner 5 (some .int) ∈ TB := ⟨tb_m (bk_7 (List.mem_of_getElem? (i := 204) rfl)) rfl, tb_m (List.mem_of_getElem? (i := 73) (by decide +kernel)) rfl, tb_m (bk_1 (List.mem_of_getElem? (i := 13) rfl)) rfl, tb_m (bk_7 (List.mem_of_getElem? (i := 205) rfl)) rfl⟩
set_option maxRecDepth 8000 in
theorem mw_X12_isAny : Cond.static yX12_isAny ∈ TB ∧ Cond.initialized yX12_isAny.cls ∈ TB ∧ Cond.code yX12_isAny cX12_isAny 1 (some .boolean) ∈ TB := ⟨tb_m (bk_7 (List.mem_of_getElem? (i := 160) rfl)) rfl, tb_m (bk_1 (List.mem_of_getElem? (i := 13) rfl)) rfl, tb_m (bk_7 (List.mem_of_getElem? (i := 161) rfl)) rfl⟩
set_option maxRecDepth 8000 in
theorem mw_X12_men : Cond.instanceMethod yX12_men ∈ TB ∧ Cond.selects RX12 yX12_men yX12_men ∈ TB ∧ Cond.initialized RX12 ∈ TB ∧ Cond.code yX12_men cX12_men 4 (some .int) ∈ TB := ⟨tb_m (bk_7 (List.mem_of_getElem? (i := 156) rfl)) rfl, tb_m (bk_7 (List.mem_of_getElem? (i := 157) rfl)) rfl, tb_m (bk_1 (List.mem_of_getElem? (i := 13) rfl)) rfl, tb_m (bk_7 (List.mem_of_getElem? (i := 158) rfl)) rfl⟩
set_option maxRecDepth 8000 in
theorem mw_X12_front : Cond.instanceMethod yX12_front ∈ TB ∧ Cond.selects RX12 yX12_front yX12_front ∈ TB ∧ Cond.initialized RX12 ∈ TB ∧ Cond.code yX12_front cX12_front 3 (some .int) ∈ TB := ⟨tb_m (bk_7 (List.mem_of_getElem? (i := 183) rfl)) rfl, tb_m (bk_7 (List.mem_of_getElem? (i := 184) rfl)) rfl, tb_m (bk_1 (List.mem_of_getElem? (i := 13) rfl)) rfl, tb_m (bk_7 (List.mem_of_getElem? (i := 185) rfl)) rfl⟩
set_option maxRecDepth 8000 in
theorem mw_X12_late : Cond.instanceMethod yX12_late ∈ TB ∧ Cond.selects RX12 yX12_late yX12_late ∈ TB ∧ Cond.initialized RX12 ∈ TB ∧ Cond.code yX12_late cX12_late 2 (some .int) ∈ TB := ⟨tb_m (bk_7 (List.mem_of_getElem? (i := 191) rfl)) rfl, tb_m (bk_7 (List.mem_of_getElem? (i := 192) rfl)) rfl, tb_m (bk_1 (List.mem_of_getElem? (i := 13) rfl)) rfl, tb_m (bk_7 (List.mem_of_getElem? (i := 193) rfl)) rfl⟩
set_option maxRecDepth 8000 in
theorem mw_X12_wins : Cond.instanceMethod yX12_wins ∈ TB ∧ Cond.selects RX12 yX12_wins yX12_wins ∈ TB ∧ Cond.initialized RX12 ∈ TB ∧ Cond.code yX12_wins cX12_wins 2 (some .int) ∈ TB := ⟨tb_m (bk_7 (List.mem_of_getElem? (i := 199) rfl)) rfl, tb_m (bk_7 (List.mem_of_getElem? (i := 200) rfl)) rfl, tb_m (bk_1 (List.mem_of_getElem? (i := 13) rfl)) rfl, tb_m (bk_7 (List.mem_of_getElem? (i := 201) rfl)) rfl⟩
set_option maxRecDepth 8000 in
theorem mw_X12_peak : Cond.instanceMethod yX12_peak ∈ TB ∧ Cond.selects RX12 yX12_peak yX12_peak ∈ TB ∧ Cond.initialized RX12 ∈ TB ∧ Cond.code yX12_peak cX12_peak 5 (some .int) ∈ TB := ⟨tb_m (bk_7 (List.mem_of_getElem? (i := 211) rfl)) rfl, tb_m (bk_7 (List.mem_of_getElem? (i := 212) rfl)) rfl, tb_m (bk_1 (List.mem_of_getElem? (i := 13) rfl)) rfl, tb_m (bk_7 (List.mem_of_getElem? (i := 213) rfl)) rfl⟩
set_option maxRecDepth 8000 in
theorem mw_X12_swings : Cond.instanceMethod yX12_swings ∈ TB ∧ Cond.selects RX12 yX12_swings yX12_swings ∈ TB ∧ Cond.initialized RX12 ∈ TB ∧ Cond.code yX12_swings cX12_swings 6 (some .int) ∈ TB := ⟨tb_m (bk_7 (List.mem_of_getElem? (i := 218) rfl)) rfl, tb_m (bk_7 (List.mem_of_getElem? (i := 219) rfl)) rfl, tb_m (bk_1 (List.mem_of_getElem? (i := 13) rfl)) rfl, tb_m (bk_7 (List.mem_of_getElem? (i := 220) rfl)) rfl⟩
set_option maxRecDepth 8000 in
theorem mw_X12_since : Cond.instanceMethod yX12_since ∈ TB ∧ Cond.selects RX12 yX12_since yX12_since ∈ TB ∧ Cond.initialized RX12 ∈ TB ∧ Cond.code yX12_since cX12_since 4 (some .int) ∈ TB := ⟨tb_m (bk_7 (List.mem_of_getElem? (i := 222) rfl)) rfl, tb_m (bk_7 (List.mem_of_getElem? (i := 223) rfl)) rfl, tb_m (bk_1 (List.mem_of_getElem? (i := 13) rfl)) rfl, tb_m (bk_7 (List.mem_of_getElem? (i := 224) rfl)) rfl⟩
set_option maxRecDepth 8000 in
theorem mw_X12_comes : Cond.instanceMethod yX12_comes ∈ TB ∧ Cond.selects RX12 yX12_comes yX12_comes ∈ TB ∧ Cond.initialized RX12 ∈ TB ∧ Cond.code yX12_comes cX12_comes 5 (some .int) ∈ TB := ⟨tb_m (bk_7 (List.mem_of_getElem? (i := 226) rfl)) rfl, tb_m (bk_7 (List.mem_of_getElem? (i := 227) rfl)) rfl, tb_m (bk_1 (List.mem_of_getElem? (i := 13) rfl)) rfl, tb_m (bk_7 (List.mem_of_getElem? (i := 228) rfl)) rfl⟩
set_option maxRecDepth 8000 in
theorem mw_X12_even : Cond.instanceMethod yX12_even ∈ TB ∧ Cond.selects RX12 yX12_even yX12_even ∈ TB ∧ Cond.initialized RX12 ∈ TB ∧ Cond.code yX12_even cX12_even 5 (some .long) ∈ TB := ⟨tb_m (bk_7 (List.mem_of_getElem? (i := 230) rfl)) rfl, tb_m (bk_7 (List.mem_of_getElem? (i := 231) rfl)) rfl, tb_m (bk_1 (List.mem_of_getElem? (i := 13) rfl)) rfl, tb_m (bk_7 (List.mem_of_getElem? (i := 232) rfl)) rfl⟩
theorem mw_X12_worstOf : Cond.instanceMethod yX12_worstOf ∈ TB ∧ Cond.selects RX12 yX12_worstOf yX12_worstOf ∈ TB ∧ Cond.initialized RX12 ∈ TB ∧ Cond.code yX12_worstOf cX12_worstOf 5 (some .int) ∈ TB := ⟨tb_m (bk_8 (List.mem_of_getElem? (i := 0) rfl)) rfl, tb_m (List.mem_of_getElem? (i := 75) (by decide +kernel)) rfl, tb_m (bk_1 (List.mem_of_getElem? (i := 13) rfl)) rfl, tb_m (bk_8 (List.mem_of_getElem? (i := 1) rfl)) rfl⟩
set_option maxRecDepth 8000 in
theorem mw_X12_worst : Cond.instanceMethod yX12_worst ∈ TB ∧ Cond.selects RX12 yX12_worst yX12_worst ∈ TB ∧ Cond.initialized RX12 ∈ TB ∧ Cond.code yX12_worst cX12_worst 2 (some .int) ∈ TB := ⟨tb_m (bk_7 (List.mem_of_getElem? (i := 235) rfl)) rfl, tb_m (bk_7 (List.mem_of_getElem? (i := 236) rfl)) rfl, tb_m (bk_1 (List.mem_of_getElem? (i := 13) rfl)) rfl, tb_m (bk_7 (List.mem_of_getElem? (i := 237) rfl)) rfl⟩
theorem mw_X12_by : Cond.instanceMethod yX12_by ∈ TB ∧ Cond.selects RX12 yX12_by yX12_by ∈ TB ∧ Cond.initialized RX12 ∈ TB ∧ Cond.code yX12_by cX12_by 2 (some .int) ∈ TB := ⟨tb_m (bk_8 (List.mem_of_getElem? (i := 7) rfl)) rfl, tb_m (bk_8 (List.mem_of_getElem? (i := 8) rfl)) rfl, tb_m (bk_1 (List.mem_of_getElem? (i := 13) rfl)) rfl, tb_m (bk_8 (List.mem_of_getElem? (i := 9) rfl)) rfl⟩
theorem mw_X12_ways : Cond.instanceMethod yX12_ways ∈ TB ∧ Cond.selects RX12 yX12_ways yX12_ways ∈ TB ∧ Cond.initialized RX12 ∈ TB ∧ Cond.code yX12_ways cX12_ways 4 (some .int) ∈ TB := ⟨tb_m (bk_8 (List.mem_of_getElem? (i := 11) rfl)) rfl, tb_m (bk_8 (List.mem_of_getElem? (i := 12) rfl)) rfl, tb_m (bk_1 (List.mem_of_getElem? (i := 13) rfl)) rfl, tb_m (bk_8 (List.mem_of_getElem? (i := 13) rfl)) rfl⟩
theorem mw_X12_idle : Cond.instanceMethod yX12_idle ∈ TB ∧ Cond.selects RX12 yX12_idle yX12_idle ∈ TB ∧ Cond.initialized RX12 ∈ TB ∧ Cond.code yX12_idle cX12_idle 4 (some .int) ∈ TB := ⟨tb_m (bk_8 (List.mem_of_getElem? (i := 15) rfl)) rfl, tb_m (bk_8 (List.mem_of_getElem? (i := 16) rfl)) rfl, tb_m (bk_1 (List.mem_of_getElem? (i := 13) rfl)) rfl, tb_m (bk_8 (List.mem_of_getElem? (i := 17) rfl)) rfl⟩
theorem mw_X12_divisor : Cond.static yX12_divisor ∈ TB ∧ Cond.initialized yX12_divisor.cls ∈ TB ∧ Cond.code yX12_divisor cX12_divisor 10 (some .long) ∈ TB := ⟨tb_m (bk_8 (List.mem_of_getElem? (i := 35) rfl)) rfl, tb_m (bk_1 (List.mem_of_getElem? (i := 13) rfl)) rfl, tb_m (bk_8 (List.mem_of_getElem? (i := 36) rfl)) rfl⟩
theorem mw_X12_part : Cond.static yX12_part ∈ TB ∧ Cond.initialized yX12_part.cls ∈ TB ∧ Cond.code yX12_part cX12_part 5 (some .long) ∈ TB := ⟨tb_m (bk_8 (List.mem_of_getElem? (i := 32) rfl)) rfl, tb_m (bk_1 (List.mem_of_getElem? (i := 13) rfl)) rfl, tb_m (bk_8 (List.mem_of_getElem? (i := 33) rfl)) rfl⟩
theorem mw_X12_oftenOf : Cond.instanceMethod yX12_oftenOf ∈ TB ∧ Cond.selects RX12 yX12_oftenOf yX12_oftenOf ∈ TB ∧ Cond.initialized RX12 ∈ TB ∧ Cond.code yX12_oftenOf cX12_oftenOf 5 (some .long) ∈ TB := ⟨tb_m (bk_8 (List.mem_of_getElem? (i := 24) rfl)) rfl, tb_m (List.mem_of_getElem? (i := 76) (by decide +kernel)) rfl, tb_m (bk_1 (List.mem_of_getElem? (i := 13) rfl)) rfl, tb_m (bk_8 (List.mem_of_getElem? (i := 25) rfl)) rfl⟩
theorem mw_X12_allOften : Cond.instanceMethod yX12_allOften ∈ TB ∧ Cond.selects RX12 yX12_allOften yX12_allOften ∈ TB ∧ Cond.initialized RX12 ∈ TB ∧ Cond.code yX12_allOften cX12_allOften 4 (some .long) ∈ TB := ⟨tb_m (bk_8 (List.mem_of_getElem? (i := 28) rfl)) rfl, tb_m (List.mem_of_getElem? (i := 77) (by decide +kernel)) rfl, tb_m (bk_1 (List.mem_of_getElem? (i := 13) rfl)) rfl, tb_m (bk_8 (List.mem_of_getElem? (i := 29) rfl)) rfl⟩
theorem mw_X12_enough : Cond.instanceMethod yX12_enough ∈ TB ∧ Cond.selects RX12 yX12_enough yX12_enough ∈ TB ∧ Cond.initialized RX12 ∈ TB ∧ Cond.code yX12_enough cX12_enough 6 (some .long) ∈ TB := ⟨tb_m (bk_8 (List.mem_of_getElem? (i := 19) rfl)) rfl, tb_m (bk_8 (List.mem_of_getElem? (i := 20) rfl)) rfl, tb_m (bk_1 (List.mem_of_getElem? (i := 13) rfl)) rfl, tb_m (bk_8 (List.mem_of_getElem? (i := 21) rfl)) rfl⟩
theorem mw_X12_chance : Cond.instanceMethod yX12_chance ∈ TB ∧ Cond.selects RX12 yX12_chance yX12_chance ∈ TB ∧ Cond.initialized RX12 ∈ TB ∧ Cond.code yX12_chance cX12_chance 6 (some .long) ∈ TB := ⟨tb_m (bk_8 (List.mem_of_getElem? (i := 38) rfl)) rfl, tb_m (bk_8 (List.mem_of_getElem? (i := 39) rfl)) rfl, tb_m (bk_1 (List.mem_of_getElem? (i := 13) rfl)) rfl, tb_m (bk_8 (List.mem_of_getElem? (i := 40) rfl)) rfl⟩
theorem mw_X12_menSent : Cond.instanceMethod yX12_menSent ∈ TB ∧ Cond.selects RX12 yX12_menSent yX12_menSent ∈ TB ∧ Cond.initialized RX12 ∈ TB ∧ Cond.code yX12_menSent cX12_menSent 5 (some .int) ∈ TB := ⟨tb_m (bk_8 (List.mem_of_getElem? (i := 59) rfl)) rfl, tb_m (List.mem_of_getElem? (i := 81) (by decide +kernel)) rfl, tb_m (bk_1 (List.mem_of_getElem? (i := 13) rfl)) rfl, tb_m (bk_8 (List.mem_of_getElem? (i := 60) rfl)) rfl⟩
theorem mw_X12_isSurely : Cond.instanceMethod yX12_isSurely ∈ TB ∧ Cond.selects RX12 yX12_isSurely yX12_isSurely ∈ TB ∧ Cond.initialized RX12 ∈ TB ∧ Cond.code yX12_isSurely cX12_isSurely 3 (some .boolean) ∈ TB := ⟨tb_m (bk_8 (List.mem_of_getElem? (i := 55) rfl)) rfl, tb_m (List.mem_of_getElem? (i := 80) (by decide +kernel)) rfl, tb_m (bk_1 (List.mem_of_getElem? (i := 13) rfl)) rfl, tb_m (bk_8 (List.mem_of_getElem? (i := 56) rfl)) rfl⟩
theorem mw_X12_take : Cond.instanceMethod yX12_take ∈ TB ∧ Cond.selects RX12 yX12_take yX12_take ∈ TB ∧ Cond.initialized RX12 ∈ TB ∧ Cond.code yX12_take cX12_take 3 none ∈ TB := ⟨tb_m (bk_8 (List.mem_of_getElem? (i := 67) rfl)) rfl, tb_m (List.mem_of_getElem? (i := 83) (by decide +kernel)) rfl, tb_m (bk_1 (List.mem_of_getElem? (i := 13) rfl)) rfl, tb_m (bk_8 (List.mem_of_getElem? (i := 68) rfl)) rfl⟩
theorem mw_X12_orNone : Cond.instanceMethod yX12_orNone ∈ TB ∧ Cond.selects RX12 yX12_orNone yX12_orNone ∈ TB ∧ Cond.initialized RX12 ∈ TB ∧ Cond.code yX12_orNone cX12_orNone 1 (some .int) ∈ TB := ⟨tb_m (bk_8 (List.mem_of_getElem? (i := 71) rfl)) rfl, tb_m (List.mem_of_getElem? (i := 84) (by decide +kernel)) rfl, tb_m (bk_1 (List.mem_of_getElem? (i := 13) rfl)) rfl, tb_m (bk_8 (List.mem_of_getElem? (i := 72) rfl)) rfl⟩
theorem mw_X12_findSend : Cond.instanceMethod yX12_findSend ∈ TB ∧ Cond.selects RX12 yX12_findSend yX12_findSend ∈ TB ∧ Cond.initialized RX12 ∈ TB ∧ Cond.code yX12_findSend cX12_findSend 5 none ∈ TB := ⟨tb_m (bk_8 (List.mem_of_getElem? (i := 47) rfl)) rfl, tb_m (List.mem_of_getElem? (i := 78) (by decide +kernel)) rfl, tb_m (bk_1 (List.mem_of_getElem? (i := 13) rfl)) rfl, tb_m (bk_8 (List.mem_of_getElem? (i := 48) rfl)) rfl⟩
theorem mw_X12_send : Cond.instanceMethod yX12_send ∈ TB ∧ Cond.selects RX12 yX12_send yX12_send ∈ TB ∧ Cond.initialized RX12 ∈ TB ∧ Cond.code yX12_send cX12_send 2 (some .int) ∈ TB := ⟨tb_m (bk_8 (List.mem_of_getElem? (i := 42) rfl)) rfl, tb_m (bk_8 (List.mem_of_getElem? (i := 43) rfl)) rfl, tb_m (bk_1 (List.mem_of_getElem? (i := 13) rfl)) rfl, tb_m (bk_8 (List.mem_of_getElem? (i := 44) rfl)) rfl⟩
theorem mw_X12_sent : Cond.instanceMethod yX12_sent ∈ TB ∧ Cond.selects RX12 yX12_sent yX12_sent ∈ TB ∧ Cond.initialized RX12 ∈ TB ∧ Cond.code yX12_sent cX12_sent 2 (some .int) ∈ TB := ⟨tb_m (bk_8 (List.mem_of_getElem? (i := 74) rfl)) rfl, tb_m (bk_8 (List.mem_of_getElem? (i := 75) rfl)) rfl, tb_m (bk_1 (List.mem_of_getElem? (i := 13) rfl)) rfl, tb_m (bk_8 (List.mem_of_getElem? (i := 76) rfl)) rfl⟩
theorem mw_X12_fewest : Cond.instanceMethod yX12_fewest ∈ TB ∧ Cond.selects RX12 yX12_fewest yX12_fewest ∈ TB ∧ Cond.initialized RX12 ∈ TB ∧ Cond.code yX12_fewest cX12_fewest 2 (some .int) ∈ TB := ⟨tb_m (bk_8 (List.mem_of_getElem? (i := 78) rfl)) rfl, tb_m (bk_8 (List.mem_of_getElem? (i := 79) rfl)) rfl, tb_m (bk_1 (List.mem_of_getElem? (i := 13) rfl)) rfl, tb_m (bk_8 (List.mem_of_getElem? (i := 80) rfl)) rfl⟩
theorem mw_X12_enoughBy : Cond.instanceMethod yX12_enoughBy ∈ TB ∧ Cond.selects RX12 yX12_enoughBy yX12_enoughBy ∈ TB ∧ Cond.initialized RX12 ∈ TB ∧ Cond.code yX12_enoughBy cX12_enoughBy 6 (some .long) ∈ TB := ⟨tb_m (bk_8 (List.mem_of_getElem? (i := 91) rfl)) rfl, tb_m (List.mem_of_getElem? (i := 86) (by decide +kernel)) rfl, tb_m (bk_1 (List.mem_of_getElem? (i := 13) rfl)) rfl, tb_m (bk_8 (List.mem_of_getElem? (i := 92) rfl)) rfl⟩
theorem mw_X12_isOften : Cond.instanceMethod yX12_isOften ∈ TB ∧ Cond.selects RX12 yX12_isOften yX12_isOften ∈ TB ∧ Cond.initialized RX12 ∈ TB ∧ Cond.code yX12_isOften cX12_isOften 4 (some .boolean) ∈ TB := ⟨tb_m (bk_8 (List.mem_of_getElem? (i := 95) rfl)) rfl, tb_m (List.mem_of_getElem? (i := 87) (by decide +kernel)) rfl, tb_m (bk_1 (List.mem_of_getElem? (i := 13) rfl)) rfl, tb_m (bk_8 (List.mem_of_getElem? (i := 96) rfl)) rfl⟩
theorem mw_X12_findRisk : Cond.instanceMethod yX12_findRisk ∈ TB ∧ Cond.selects RX12 yX12_findRisk yX12_findRisk ∈ TB ∧ Cond.initialized RX12 ∈ TB ∧ Cond.code yX12_findRisk cX12_findRisk 5 none ∈ TB := ⟨tb_m (bk_8 (List.mem_of_getElem? (i := 87) rfl)) rfl, tb_m (List.mem_of_getElem? (i := 85) (by decide +kernel)) rfl, tb_m (bk_1 (List.mem_of_getElem? (i := 13) rfl)) rfl, tb_m (bk_8 (List.mem_of_getElem? (i := 88) rfl)) rfl⟩
theorem mw_X12_risk : Cond.instanceMethod yX12_risk ∈ TB ∧ Cond.selects RX12 yX12_risk yX12_risk ∈ TB ∧ Cond.initialized RX12 ∈ TB ∧ Cond.code yX12_risk cX12_risk 3 (some .int) ∈ TB := ⟨tb_m (bk_8 (List.mem_of_getElem? (i := 82) rfl)) rfl, tb_m (bk_8 (List.mem_of_getElem? (i := 83) rfl)) rfl, tb_m (bk_1 (List.mem_of_getElem? (i := 13) rfl)) rfl, tb_m (bk_8 (List.mem_of_getElem? (i := 84) rfl)) rfl⟩
theorem mw_X12_risked : Cond.instanceMethod yX12_risked ∈ TB ∧ Cond.selects RX12 yX12_risked yX12_risked ∈ TB ∧ Cond.initialized RX12 ∈ TB ∧ Cond.code yX12_risked cX12_risked 3 (some .int) ∈ TB := ⟨tb_m (bk_8 (List.mem_of_getElem? (i := 98) rfl)) rfl, tb_m (bk_8 (List.mem_of_getElem? (i := 99) rfl)) rfl, tb_m (bk_1 (List.mem_of_getElem? (i := 13) rfl)) rfl, tb_m (bk_8 (List.mem_of_getElem? (i := 100) rfl)) rfl⟩
theorem mw_X12_findBribe : Cond.instanceMethod yX12_findBribe ∈ TB ∧ Cond.selects RX12 yX12_findBribe yX12_findBribe ∈ TB ∧ Cond.initialized RX12 ∈ TB ∧ Cond.code yX12_findBribe cX12_findBribe 5 none ∈ TB := ⟨tb_m (bk_8 (List.mem_of_getElem? (i := 107) rfl)) rfl, tb_m (List.mem_of_getElem? (i := 88) (by decide +kernel)) rfl, tb_m (bk_1 (List.mem_of_getElem? (i := 13) rfl)) rfl, tb_m (bk_8 (List.mem_of_getElem? (i := 108) rfl)) rfl⟩
theorem mw_X12_bribe : Cond.instanceMethod yX12_bribe ∈ TB ∧ Cond.selects RX12 yX12_bribe yX12_bribe ∈ TB ∧ Cond.initialized RX12 ∈ TB ∧ Cond.code yX12_bribe cX12_bribe 2 (some .int) ∈ TB := ⟨tb_m (bk_8 (List.mem_of_getElem? (i := 102) rfl)) rfl, tb_m (bk_8 (List.mem_of_getElem? (i := 103) rfl)) rfl, tb_m (bk_1 (List.mem_of_getElem? (i := 13) rfl)) rfl, tb_m (bk_8 (List.mem_of_getElem? (i := 104) rfl)) rfl⟩
theorem mw_X12_bribed : Cond.instanceMethod yX12_bribed ∈ TB ∧ Cond.selects RX12 yX12_bribed yX12_bribed ∈ TB ∧ Cond.initialized RX12 ∈ TB ∧ Cond.code yX12_bribed cX12_bribed 2 (some .int) ∈ TB := ⟨tb_m (bk_8 (List.mem_of_getElem? (i := 110) rfl)) rfl, tb_m (bk_8 (List.mem_of_getElem? (i := 111) rfl)) rfl, tb_m (bk_1 (List.mem_of_getElem? (i := 13) rfl)) rfl, tb_m (bk_8 (List.mem_of_getElem? (i := 112) rfl)) rfl⟩
set_option maxRecDepth 8000 in
theorem mw_X12_guardOf : Cond.instanceMethod yX12_guardOf ∈ TB ∧ Cond.selects RX12 yX12_guardOf yX12_guardOf ∈ TB ∧ Cond.initialized RX12 ∈ TB ∧ Cond.code yX12_guardOf cX12_guardOf 5 (some .int) ∈ TB := ⟨tb_m (bk_8 (List.mem_of_getElem? (i := 119) rfl)) rfl, tb_m (List.mem_of_getElem? (i := 89) (by decide +kernel)) rfl, tb_m (bk_1 (List.mem_of_getElem? (i := 13) rfl)) rfl, tb_m (bk_8 (List.mem_of_getElem? (i := 120) rfl)) rfl⟩
theorem mw_X12_guard : Cond.instanceMethod yX12_guard ∈ TB ∧ Cond.selects RX12 yX12_guard yX12_guard ∈ TB ∧ Cond.initialized RX12 ∈ TB ∧ Cond.code yX12_guard cX12_guard 2 (some .int) ∈ TB := ⟨tb_m (bk_8 (List.mem_of_getElem? (i := 114) rfl)) rfl, tb_m (bk_8 (List.mem_of_getElem? (i := 115) rfl)) rfl, tb_m (bk_1 (List.mem_of_getElem? (i := 13) rfl)) rfl, tb_m (bk_8 (List.mem_of_getElem? (i := 116) rfl)) rfl⟩
set_option maxRecDepth 8000 in
theorem mw_X12_guarded : Cond.instanceMethod yX12_guarded ∈ TB ∧ Cond.selects RX12 yX12_guarded yX12_guarded ∈ TB ∧ Cond.initialized RX12 ∈ TB ∧ Cond.code yX12_guarded cX12_guarded 2 (some .int) ∈ TB := ⟨tb_m (bk_8 (List.mem_of_getElem? (i := 122) rfl)) rfl, tb_m (bk_8 (List.mem_of_getElem? (i := 123) rfl)) rfl, tb_m (bk_1 (List.mem_of_getElem? (i := 13) rfl)) rfl, tb_m (bk_8 (List.mem_of_getElem? (i := 124) rfl)) rfl⟩
set_option maxRecDepth 8000 in
theorem mw_X12_fillFronts : Cond.instanceMethod yX12_fillFronts ∈ TB ∧ Cond.selects RX12 yX12_fillFronts yX12_fillFronts ∈ TB ∧ Cond.initialized RX12 ∈ TB ∧ Cond.code yX12_fillFronts cX12_fillFronts 2 none ∈ TB := ⟨tb_m (bk_8 (List.mem_of_getElem? (i := 139) rfl)) rfl, tb_m (List.mem_of_getElem? (i := 91) (by decide +kernel)) rfl, tb_m (bk_1 (List.mem_of_getElem? (i := 13) rfl)) rfl, tb_m (bk_8 (List.mem_of_getElem? (i := 140) rfl)) rfl⟩
set_option maxRecDepth 8000 in
theorem mw_X12_isPrice : Cond.static yX12_isPrice ∈ TB ∧ Cond.initialized yX12_isPrice.cls ∈ TB ∧ Cond.code yX12_isPrice cX12_isPrice 1 (some .boolean) ∈ TB := ⟨tb_m (bk_8 (List.mem_of_getElem? (i := 130) rfl)) rfl, tb_m (bk_1 (List.mem_of_getElem? (i := 13) rfl)) rfl, tb_m (bk_8 (List.mem_of_getElem? (i := 131) rfl)) rfl⟩
set_option maxRecDepth 8000 in
theorem mw_X12_isBought : Cond.instanceMethod yX12_isBought ∈ TB ∧ Cond.selects RX12 yX12_isBought yX12_isBought ∈ TB ∧ Cond.initialized RX12 ∈ TB ∧ Cond.code yX12_isBought cX12_isBought 4 (some .boolean) ∈ TB := ⟨tb_m (bk_8 (List.mem_of_getElem? (i := 143) rfl)) rfl, tb_m (List.mem_of_getElem? (i := 92) (by decide +kernel)) rfl, tb_m (bk_1 (List.mem_of_getElem? (i := 13) rfl)) rfl, tb_m (bk_8 (List.mem_of_getElem? (i := 144) rfl)) rfl⟩
set_option maxRecDepth 8000 in
theorem mw_X12_spoilOf : Cond.instanceMethod yX12_spoilOf ∈ TB ∧ Cond.selects RX12 yX12_spoilOf yX12_spoilOf ∈ TB ∧ Cond.initialized RX12 ∈ TB ∧ Cond.code yX12_spoilOf cX12_spoilOf 5 (some .int) ∈ TB := ⟨tb_m (bk_8 (List.mem_of_getElem? (i := 135) rfl)) rfl, tb_m (List.mem_of_getElem? (i := 90) (by decide +kernel)) rfl, tb_m (bk_1 (List.mem_of_getElem? (i := 13) rfl)) rfl, tb_m (bk_8 (List.mem_of_getElem? (i := 136) rfl)) rfl⟩
set_option maxRecDepth 8000 in
theorem mw_X12_spoil : Cond.instanceMethod yX12_spoil ∈ TB ∧ Cond.selects RX12 yX12_spoil yX12_spoil ∈ TB ∧ Cond.initialized RX12 ∈ TB ∧ Cond.code yX12_spoil cX12_spoil 3 (some .int) ∈ TB := ⟨tb_m (bk_8 (List.mem_of_getElem? (i := 126) rfl)) rfl, tb_m (bk_8 (List.mem_of_getElem? (i := 127) rfl)) rfl, tb_m (bk_1 (List.mem_of_getElem? (i := 13) rfl)) rfl, tb_m (bk_8 (List.mem_of_getElem? (i := 128) rfl)) rfl⟩
set_option maxRecDepth 8000 in
theorem mw_X12_spoils : Cond.instanceMethod yX12_spoils ∈ TB ∧ Cond.selects RX12 yX12_spoils yX12_spoils ∈ TB ∧ Cond.initialized RX12 ∈ TB ∧ Cond.code yX12_spoils cX12_spoils 3 (some .int) ∈ TB := ⟨tb_m (bk_8 (List.mem_of_getElem? (i := 146) rfl)) rfl, tb_m (bk_8 (List.mem_of_getElem? (i := 147) rfl)) rfl, tb_m (bk_1 (List.mem_of_getElem? (i := 13) rfl)) rfl, tb_m (bk_8 (List.mem_of_getElem? (i := 148) rfl)) rfl⟩
set_option maxRecDepth 8000 in
theorem mw_X12_bestGood : Cond.instanceMethod yX12_bestGood ∈ TB ∧ Cond.selects RX12 yX12_bestGood yX12_bestGood ∈ TB ∧ Cond.initialized RX12 ∈ TB ∧ Cond.code yX12_bestGood cX12_bestGood 6 (some .int) ∈ TB := ⟨tb_m (bk_8 (List.mem_of_getElem? (i := 155) rfl)) rfl, tb_m (List.mem_of_getElem? (i := 93) (by decide +kernel)) rfl, tb_m (bk_1 (List.mem_of_getElem? (i := 13) rfl)) rfl, tb_m (bk_8 (List.mem_of_getElem? (i := 156) rfl)) rfl⟩
set_option maxRecDepth 8000 in
theorem mw_X12_answer : Cond.instanceMethod yX12_answer ∈ TB ∧ Cond.selects RX12 yX12_answer yX12_answer ∈ TB ∧ Cond.initialized RX12 ∈ TB ∧ Cond.code yX12_answer cX12_answer 5 (some .int) ∈ TB := ⟨tb_m (bk_8 (List.mem_of_getElem? (i := 150) rfl)) rfl, tb_m (bk_8 (List.mem_of_getElem? (i := 151) rfl)) rfl, tb_m (bk_1 (List.mem_of_getElem? (i := 13) rfl)) rfl, tb_m (bk_8 (List.mem_of_getElem? (i := 152) rfl)) rfl⟩
set_option maxRecDepth 8000 in
theorem mw_X12_rests : Cond.instanceMethod yX12_rests ∈ TB ∧ Cond.selects RX12 yX12_rests yX12_rests ∈ TB ∧ Cond.initialized RX12 ∈ TB ∧ Cond.code yX12_rests cX12_rests 6 (some .int) ∈ TB := ⟨tb_m (bk_8 (List.mem_of_getElem? (i := 160) rfl)) rfl, tb_m (bk_8 (List.mem_of_getElem? (i := 161) rfl)) rfl, tb_m (bk_1 (List.mem_of_getElem? (i := 13) rfl)) rfl, tb_m (bk_8 (List.mem_of_getElem? (i := 162) rfl)) rfl⟩
set_option maxRecDepth 8000 in
theorem mw_X12_valueOf : Cond.static yX12_valueOf ∈ TB ∧ Cond.initialized yX12_valueOf.cls ∈ TB ∧ Cond.code yX12_valueOf cX12_valueOf 1 (some .int) ∈ TB := ⟨tb_m (bk_8 (List.mem_of_getElem? (i := 180) rfl)) rfl, tb_m (bk_1 (List.mem_of_getElem? (i := 13) rfl)) rfl, tb_m (bk_8 (List.mem_of_getElem? (i := 181) rfl)) rfl⟩
set_option maxRecDepth 8000 in
theorem mw_X12_heldBy : Cond.instanceMethod yX12_heldBy ∈ TB ∧ Cond.selects RX12 yX12_heldBy yX12_heldBy ∈ TB ∧ Cond.initialized RX12 ∈ TB ∧ Cond.code yX12_heldBy cX12_heldBy 6 (some .int) ∈ TB := ⟨tb_m (bk_8 (List.mem_of_getElem? (i := 177) rfl)) rfl, tb_m (List.mem_of_getElem? (i := 95) (by decide +kernel)) rfl, tb_m (bk_1 (List.mem_of_getElem? (i := 13) rfl)) rfl, tb_m (bk_8 (List.mem_of_getElem? (i := 178) rfl)) rfl⟩
set_option maxRecDepth 8000 in
theorem mw_X12_holdOf : Cond.instanceMethod yX12_holdOf ∈ TB ∧ Cond.selects RX12 yX12_holdOf yX12_holdOf ∈ TB ∧ Cond.initialized RX12 ∈ TB ∧ Cond.code yX12_holdOf cX12_holdOf 8 (some .int) ∈ TB := ⟨tb_m (bk_8 (List.mem_of_getElem? (i := 173) rfl)) rfl, tb_m (List.mem_of_getElem? (i := 94) (by decide +kernel)) rfl, tb_m (bk_1 (List.mem_of_getElem? (i := 13) rfl)) rfl, tb_m (bk_8 (List.mem_of_getElem? (i := 174) rfl)) rfl⟩
set_option maxRecDepth 8000 in
theorem mw_X12_areMen : Cond.static yX12_areMen ∈ TB ∧ Cond.initialized yX12_areMen.cls ∈ TB ∧ Cond.code yX12_areMen cX12_areMen 2 (some .boolean) ∈ TB := ⟨tb_m (bk_8 (List.mem_of_getElem? (i := 168) rfl)) rfl, tb_m (bk_1 (List.mem_of_getElem? (i := 13) rfl)) rfl, tb_m (bk_8 (List.mem_of_getElem? (i := 169) rfl)) rfl⟩
set_option maxRecDepth 8000 in
theorem mw_X12_hold : Cond.instanceMethod yX12_hold ∈ TB ∧ Cond.selects RX12 yX12_hold yX12_hold ∈ TB ∧ Cond.initialized RX12 ∈ TB ∧ Cond.code yX12_hold cX12_hold 3 (some .int) ∈ TB := ⟨tb_m (bk_8 (List.mem_of_getElem? (i := 164) rfl)) rfl, tb_m (bk_8 (List.mem_of_getElem? (i := 165) rfl)) rfl, tb_m (bk_1 (List.mem_of_getElem? (i := 13) rfl)) rfl, tb_m (bk_8 (List.mem_of_getElem? (i := 166) rfl)) rfl⟩
set_option maxRecDepth 8000 in
theorem mw_X12_holds : Cond.instanceMethod yX12_holds ∈ TB ∧ Cond.selects RX12 yX12_holds yX12_holds ∈ TB ∧ Cond.initialized RX12 ∈ TB ∧ Cond.code yX12_holds cX12_holds 4 (some .int) ∈ TB := ⟨tb_m (bk_8 (List.mem_of_getElem? (i := 183) rfl)) rfl, tb_m (bk_8 (List.mem_of_getElem? (i := 184) rfl)) rfl, tb_m (bk_1 (List.mem_of_getElem? (i := 13) rfl)) rfl, tb_m (bk_8 (List.mem_of_getElem? (i := 185) rfl)) rfl⟩
set_option maxRecDepth 8000 in
theorem mw_X12_reply : Cond.instanceMethod yX12_reply ∈ TB ∧ Cond.selects RX12 yX12_reply yX12_reply ∈ TB ∧ Cond.initialized RX12 ∈ TB ∧ Cond.code yX12_reply cX12_reply 4 (some .int) ∈ TB := ⟨tb_m (bk_8 (List.mem_of_getElem? (i := 187) rfl)) rfl, tb_m (bk_8 (List.mem_of_getElem? (i := 188) rfl)) rfl, tb_m (bk_1 (List.mem_of_getElem? (i := 13) rfl)) rfl, tb_m (bk_8 (List.mem_of_getElem? (i := 189) rfl)) rfl⟩
set_option maxRecDepth 8000 in
theorem mw_X12_holdsBy : Cond.instanceMethod yX12_holdsBy ∈ TB ∧ Cond.selects RX12 yX12_holdsBy yX12_holdsBy ∈ TB ∧ Cond.initialized RX12 ∈ TB ∧ Cond.code yX12_holdsBy cX12_holdsBy 6 (some .boolean) ∈ TB := ⟨tb_m (bk_8 (List.mem_of_getElem? (i := 209) rfl)) rfl, tb_m (List.mem_of_getElem? (i := 99) (by decide +kernel)) rfl, tb_m (bk_1 (List.mem_of_getElem? (i := 13) rfl)) rfl, tb_m (bk_8 (List.mem_of_getElem? (i := 210) rfl)) rfl⟩
set_option maxRecDepth 8000 in
theorem mw_X12_allReadings : Cond.instanceMethod yX12_allReadings ∈ TB ∧ Cond.selects RX12 yX12_allReadings yX12_allReadings ∈ TB ∧ Cond.initialized RX12 ∈ TB ∧ Cond.code yX12_allReadings cX12_allReadings 1 (some .int) ∈ TB := ⟨tb_m (bk_8 (List.mem_of_getElem? (i := 205) rfl)) rfl, tb_m (List.mem_of_getElem? (i := 98) (by decide +kernel)) rfl, tb_m (bk_1 (List.mem_of_getElem? (i := 13) rfl)) rfl, tb_m (bk_8 (List.mem_of_getElem? (i := 206) rfl)) rfl⟩
set_option maxRecDepth 8000 in
theorem mw_X12_readingsOf : Cond.instanceMethod yX12_readingsOf ∈ TB ∧ Cond.selects RX12 yX12_readingsOf yX12_readingsOf ∈ TB ∧ Cond.initialized RX12 ∈ TB ∧ Cond.code yX12_readingsOf cX12_readingsOf 4 (some .int) ∈ TB := ⟨tb_m (bk_8 (List.mem_of_getElem? (i := 201) rfl)) rfl, tb_m (List.mem_of_getElem? (i := 97) (by decide +kernel)) rfl, tb_m (bk_1 (List.mem_of_getElem? (i := 13) rfl)) rfl, tb_m (bk_8 (List.mem_of_getElem? (i := 202) rfl)) rfl⟩
set_option maxRecDepth 8000 in
theorem mw_X12_isSigned : Cond.instanceMethod yX12_isSigned ∈ TB ∧ Cond.selects RX12 yX12_isSigned yX12_isSigned ∈ TB ∧ Cond.initialized RX12 ∈ TB ∧ Cond.code yX12_isSigned cX12_isSigned 2 (some .boolean) ∈ TB := ⟨tb_m (bk_8 (List.mem_of_getElem? (i := 196) rfl)) rfl, tb_m (List.mem_of_getElem? (i := 96) (by decide +kernel)) rfl, tb_m (bk_1 (List.mem_of_getElem? (i := 13) rfl)) rfl, tb_m (bk_8 (List.mem_of_getElem? (i := 197) rfl)) rfl⟩
set_option maxRecDepth 8000 in
theorem mw_X12_readings : Cond.instanceMethod yX12_readings ∈ TB ∧ Cond.selects RX12 yX12_readings yX12_readings ∈ TB ∧ Cond.initialized RX12 ∈ TB ∧ Cond.code yX12_readings cX12_readings 2 (some .int) ∈ TB := ⟨tb_m (bk_8 (List.mem_of_getElem? (i := 191) rfl)) rfl, tb_m (bk_8 (List.mem_of_getElem? (i := 192) rfl)) rfl, tb_m (bk_1 (List.mem_of_getElem? (i := 13) rfl)) rfl, tb_m (bk_8 (List.mem_of_getElem? (i := 193) rfl)) rfl⟩
set_option maxRecDepth 8000 in
theorem mw_X12_loopholes : Cond.instanceMethod yX12_loopholes ∈ TB ∧ Cond.selects RX12 yX12_loopholes yX12_loopholes ∈ TB ∧ Cond.initialized RX12 ∈ TB ∧ Cond.code yX12_loopholes cX12_loopholes 4 (some .long) ∈ TB := ⟨tb_m (bk_8 (List.mem_of_getElem? (i := 212) rfl)) rfl, tb_m (bk_8 (List.mem_of_getElem? (i := 213) rfl)) rfl, tb_m (bk_1 (List.mem_of_getElem? (i := 13) rfl)) rfl, tb_m (bk_8 (List.mem_of_getElem? (i := 214) rfl)) rfl⟩
set_option maxRecDepth 8000 in
theorem mw_X12_closedOf : Cond.instanceMethod yX12_closedOf ∈ TB ∧ Cond.selects RX12 yX12_closedOf yX12_closedOf ∈ TB ∧ Cond.initialized RX12 ∈ TB ∧ Cond.code yX12_closedOf cX12_closedOf 6 (some .int) ∈ TB := ⟨tb_m (bk_8 (List.mem_of_getElem? (i := 221) rfl)) rfl, tb_m (List.mem_of_getElem? (i := 100) (by decide +kernel)) rfl, tb_m (bk_1 (List.mem_of_getElem? (i := 13) rfl)) rfl, tb_m (bk_8 (List.mem_of_getElem? (i := 222) rfl)) rfl⟩
set_option maxRecDepth 8000 in
theorem mw_X12_close : Cond.instanceMethod yX12_close ∈ TB ∧ Cond.selects RX12 yX12_close yX12_close ∈ TB ∧ Cond.initialized RX12 ∈ TB ∧ Cond.code yX12_close cX12_close 3 (some .int) ∈ TB := ⟨tb_m (bk_8 (List.mem_of_getElem? (i := 216) rfl)) rfl, tb_m (bk_8 (List.mem_of_getElem? (i := 217) rfl)) rfl, tb_m (bk_1 (List.mem_of_getElem? (i := 13) rfl)) rfl, tb_m (bk_8 (List.mem_of_getElem? (i := 218) rfl)) rfl⟩
set_option maxRecDepth 8000 in
theorem mw_X12_closed : Cond.instanceMethod yX12_closed ∈ TB ∧ Cond.selects RX12 yX12_closed yX12_closed ∈ TB ∧ Cond.initialized RX12 ∈ TB ∧ Cond.code yX12_closed cX12_closed 2 (some .int) ∈ TB := ⟨tb_m (bk_8 (List.mem_of_getElem? (i := 224) rfl)) rfl, tb_m (bk_8 (List.mem_of_getElem? (i := 225) rfl)) rfl, tb_m (bk_1 (List.mem_of_getElem? (i := 13) rfl)) rfl, tb_m (bk_8 (List.mem_of_getElem? (i := 226) rfl)) rfl⟩
set_option maxRecDepth 8000 in
theorem mw_X12_signs : Cond.instanceMethod yX12_signs ∈ TB ∧ Cond.selects RX12 yX12_signs yX12_signs ∈ TB ∧ Cond.initialized RX12 ∈ TB ∧ Cond.code yX12_signs cX12_signs 2 (some .int) ∈ TB := ⟨tb_m (bk_8 (List.mem_of_getElem? (i := 228) rfl)) rfl, tb_m (bk_8 (List.mem_of_getElem? (i := 229) rfl)) rfl, tb_m (bk_1 (List.mem_of_getElem? (i := 13) rfl)) rfl, tb_m (bk_8 (List.mem_of_getElem? (i := 230) rfl)) rfl⟩
set_option maxRecDepth 8000 in
theorem mw_X12_isTreaty : Cond.instanceMethod yX12_isTreaty ∈ TB ∧ Cond.selects RX12 yX12_isTreaty yX12_isTreaty ∈ TB ∧ Cond.initialized RX12 ∈ TB ∧ Cond.code yX12_isTreaty cX12_isTreaty 4 (some .boolean) ∈ TB := ⟨tb_m (bk_8 (List.mem_of_getElem? (i := 237) rfl)) rfl, tb_m (List.mem_of_getElem? (i := 101) (by decide +kernel)) rfl, tb_m (bk_1 (List.mem_of_getElem? (i := 13) rfl)) rfl, tb_m (bk_8 (List.mem_of_getElem? (i := 238) rfl)) rfl⟩
set_option maxRecDepth 8000 in
theorem mw_X12_treaties : Cond.instanceMethod yX12_treaties ∈ TB ∧ Cond.selects RX12 yX12_treaties yX12_treaties ∈ TB ∧ Cond.initialized RX12 ∈ TB ∧ Cond.code yX12_treaties cX12_treaties 5 (some .long) ∈ TB := ⟨tb_m (bk_8 (List.mem_of_getElem? (i := 232) rfl)) rfl, tb_m (bk_8 (List.mem_of_getElem? (i := 233) rfl)) rfl, tb_m (bk_1 (List.mem_of_getElem? (i := 13) rfl)) rfl, tb_m (bk_8 (List.mem_of_getElem? (i := 234) rfl)) rfl⟩
theorem mw_X12_price : Cond.instanceMethod yX12_price ∈ TB ∧ Cond.selects RX12 yX12_price yX12_price ∈ TB ∧ Cond.initialized RX12 ∈ TB ∧ Cond.code yX12_price cX12_price 4 (some .int) ∈ TB := ⟨tb_m (bk_9 (List.mem_of_getElem? (i := 1) rfl)) rfl, tb_m (bk_9 (List.mem_of_getElem? (i := 2) rfl)) rfl, tb_m (bk_1 (List.mem_of_getElem? (i := 13) rfl)) rfl, tb_m (bk_9 (List.mem_of_getElem? (i := 3) rfl)) rfl⟩
theorem mw_X12_spiesBy : Cond.instanceMethod yX12_spiesBy ∈ TB ∧ Cond.selects RX12 yX12_spiesBy yX12_spiesBy ∈ TB ∧ Cond.initialized RX12 ∈ TB ∧ Cond.code yX12_spiesBy cX12_spiesBy 4 (some .int) ∈ TB := ⟨tb_m (bk_9 (List.mem_of_getElem? (i := 10) rfl)) rfl, tb_m (List.mem_of_getElem? (i := 102) (by decide +kernel)) rfl, tb_m (bk_1 (List.mem_of_getElem? (i := 13) rfl)) rfl, tb_m (bk_9 (List.mem_of_getElem? (i := 11) rfl)) rfl⟩
theorem mw_X12_knowing : Cond.instanceMethod yX12_knowing ∈ TB ∧ Cond.selects RX12 yX12_knowing yX12_knowing ∈ TB ∧ Cond.initialized RX12 ∈ TB ∧ Cond.code yX12_knowing cX12_knowing 5 (some .int) ∈ TB := ⟨tb_m (bk_9 (List.mem_of_getElem? (i := 22) rfl)) rfl, tb_m (List.mem_of_getElem? (i := 104) (by decide +kernel)) rfl, tb_m (bk_1 (List.mem_of_getElem? (i := 13) rfl)) rfl, tb_m (bk_9 (List.mem_of_getElem? (i := 23) rfl)) rfl⟩
theorem mw_X12_spies : Cond.instanceMethod yX12_spies ∈ TB ∧ Cond.selects RX12 yX12_spies yX12_spies ∈ TB ∧ Cond.initialized RX12 ∈ TB ∧ Cond.code yX12_spies cX12_spies 2 (some .int) ∈ TB := ⟨tb_m (bk_9 (List.mem_of_getElem? (i := 5) rfl)) rfl, tb_m (bk_9 (List.mem_of_getElem? (i := 6) rfl)) rfl, tb_m (bk_1 (List.mem_of_getElem? (i := 13) rfl)) rfl, tb_m (bk_9 (List.mem_of_getElem? (i := 7) rfl)) rfl⟩
theorem mw_X12_watchOf : Cond.instanceMethod yX12_watchOf ∈ TB ∧ Cond.selects RX12 yX12_watchOf yX12_watchOf ∈ TB ∧ Cond.initialized RX12 ∈ TB ∧ Cond.code yX12_watchOf cX12_watchOf 6 (some .int) ∈ TB := ⟨tb_m (bk_9 (List.mem_of_getElem? (i := 18) rfl)) rfl, tb_m (List.mem_of_getElem? (i := 103) (by decide +kernel)) rfl, tb_m (bk_1 (List.mem_of_getElem? (i := 13) rfl)) rfl, tb_m (bk_9 (List.mem_of_getElem? (i := 19) rfl)) rfl⟩
theorem mw_X12_watch : Cond.instanceMethod yX12_watch ∈ TB ∧ Cond.selects RX12 yX12_watch yX12_watch ∈ TB ∧ Cond.initialized RX12 ∈ TB ∧ Cond.code yX12_watch cX12_watch 2 (some .int) ∈ TB := ⟨tb_m (bk_9 (List.mem_of_getElem? (i := 13) rfl)) rfl, tb_m (bk_9 (List.mem_of_getElem? (i := 14) rfl)) rfl, tb_m (bk_1 (List.mem_of_getElem? (i := 13) rfl)) rfl, tb_m (bk_9 (List.mem_of_getElem? (i := 15) rfl)) rfl⟩
theorem mw_X12_leaves : Cond.instanceMethod yX12_leaves ∈ TB ∧ Cond.selects RX12 yX12_leaves yX12_leaves ∈ TB ∧ Cond.initialized RX12 ∈ TB ∧ Cond.code yX12_leaves cX12_leaves 2 (some .int) ∈ TB := ⟨tb_m (bk_9 (List.mem_of_getElem? (i := 25) rfl)) rfl, tb_m (bk_9 (List.mem_of_getElem? (i := 26) rfl)) rfl, tb_m (bk_1 (List.mem_of_getElem? (i := 13) rfl)) rfl, tb_m (bk_9 (List.mem_of_getElem? (i := 27) rfl)) rfl⟩
theorem mw_X12_known : Cond.instanceMethod yX12_known ∈ TB ∧ Cond.selects RX12 yX12_known yX12_known ∈ TB ∧ Cond.initialized RX12 ∈ TB ∧ Cond.code yX12_known cX12_known 6 (some .int) ∈ TB := ⟨tb_m (bk_9 (List.mem_of_getElem? (i := 29) rfl)) rfl, tb_m (bk_9 (List.mem_of_getElem? (i := 30) rfl)) rfl, tb_m (bk_1 (List.mem_of_getElem? (i := 13) rfl)) rfl, tb_m (bk_9 (List.mem_of_getElem? (i := 31) rfl)) rfl⟩
theorem mw_X12_ofAsk : Cond.instanceMethod yX12_ofAsk ∈ TB ∧ Cond.selects RX12 yX12_ofAsk yX12_ofAsk ∈ TB ∧ Cond.initialized RX12 ∈ TB ∧ Cond.code yX12_ofAsk cX12_ofAsk 3 (some .int) ∈ TB := ⟨tb_m (bk_9 (List.mem_of_getElem? (i := 42) rfl)) rfl, tb_m (List.mem_of_getElem? (i := 106) (by decide +kernel)) rfl, tb_m (bk_1 (List.mem_of_getElem? (i := 13) rfl)) rfl, tb_m (bk_9 (List.mem_of_getElem? (i := 43) rfl)) rfl⟩
theorem mw_X12_endOf : Cond.instanceMethod yX12_endOf ∈ TB ∧ Cond.selects RX12 yX12_endOf yX12_endOf ∈ TB ∧ Cond.initialized RX12 ∈ TB ∧ Cond.code yX12_endOf cX12_endOf 2 (some .int) ∈ TB := ⟨tb_m (bk_9 (List.mem_of_getElem? (i := 54) rfl)) rfl, tb_m (List.mem_of_getElem? (i := 109) (by decide +kernel)) rfl, tb_m (bk_1 (List.mem_of_getElem? (i := 13) rfl)) rfl, tb_m (bk_9 (List.mem_of_getElem? (i := 55) rfl)) rfl⟩
theorem mw_X12_nextAsk : Cond.instanceMethod yX12_nextAsk ∈ TB ∧ Cond.selects RX12 yX12_nextAsk yX12_nextAsk ∈ TB ∧ Cond.initialized RX12 ∈ TB ∧ Cond.code yX12_nextAsk cX12_nextAsk 5 (some .int) ∈ TB := ⟨tb_m (bk_9 (List.mem_of_getElem? (i := 50) rfl)) rfl, tb_m (List.mem_of_getElem? (i := 108) (by decide +kernel)) rfl, tb_m (bk_1 (List.mem_of_getElem? (i := 13) rfl)) rfl, tb_m (bk_9 (List.mem_of_getElem? (i := 51) rfl)) rfl⟩
theorem mw_X12_canGrant : Cond.instanceMethod yX12_canGrant ∈ TB ∧ Cond.selects RX12 yX12_canGrant yX12_canGrant ∈ TB ∧ Cond.initialized RX12 ∈ TB ∧ Cond.code yX12_canGrant cX12_canGrant 7 (some .boolean) ∈ TB := ⟨tb_m (bk_9 (List.mem_of_getElem? (i := 46) rfl)) rfl, tb_m (List.mem_of_getElem? (i := 107) (by decide +kernel)) rfl, tb_m (bk_1 (List.mem_of_getElem? (i := 13) rfl)) rfl, tb_m (bk_9 (List.mem_of_getElem? (i := 47) rfl)) rfl⟩
theorem mw_X12_grantOf : Cond.instanceMethod yX12_grantOf ∈ TB ∧ Cond.selects RX12 yX12_grantOf yX12_grantOf ∈ TB ∧ Cond.initialized RX12 ∈ TB ∧ Cond.code yX12_grantOf cX12_grantOf 6 (some .int) ∈ TB := ⟨tb_m (bk_9 (List.mem_of_getElem? (i := 38) rfl)) rfl, tb_m (List.mem_of_getElem? (i := 105) (by decide +kernel)) rfl, tb_m (bk_1 (List.mem_of_getElem? (i := 13) rfl)) rfl, tb_m (bk_9 (List.mem_of_getElem? (i := 39) rfl)) rfl⟩
theorem mw_X12_grant : Cond.instanceMethod yX12_grant ∈ TB ∧ Cond.selects RX12 yX12_grant yX12_grant ∈ TB ∧ Cond.initialized RX12 ∈ TB ∧ Cond.code yX12_grant cX12_grant 1 (some .int) ∈ TB := ⟨tb_m (bk_9 (List.mem_of_getElem? (i := 33) rfl)) rfl, tb_m (bk_9 (List.mem_of_getElem? (i := 34) rfl)) rfl, tb_m (bk_1 (List.mem_of_getElem? (i := 13) rfl)) rfl, tb_m (bk_9 (List.mem_of_getElem? (i := 35) rfl)) rfl⟩
theorem mw_X12_granted : Cond.instanceMethod yX12_granted ∈ TB ∧ Cond.selects RX12 yX12_granted yX12_granted ∈ TB ∧ Cond.initialized RX12 ∈ TB ∧ Cond.code yX12_granted cX12_granted 1 (some .int) ∈ TB := ⟨tb_m (bk_9 (List.mem_of_getElem? (i := 57) rfl)) rfl, tb_m (bk_9 (List.mem_of_getElem? (i := 58) rfl)) rfl, tb_m (bk_1 (List.mem_of_getElem? (i := 13) rfl)) rfl, tb_m (bk_9 (List.mem_of_getElem? (i := 59) rfl)) rfl⟩
theorem mw_X12_halves : Cond.instanceMethod yX12_halves ∈ TB ∧ Cond.selects RX12 yX12_halves yX12_halves ∈ TB ∧ Cond.initialized RX12 ∈ TB ∧ Cond.code yX12_halves cX12_halves 1 (some .int) ∈ TB := ⟨tb_m (bk_9 (List.mem_of_getElem? (i := 61) rfl)) rfl, tb_m (bk_9 (List.mem_of_getElem? (i := 62) rfl)) rfl, tb_m (bk_1 (List.mem_of_getElem? (i := 13) rfl)) rfl, tb_m (bk_9 (List.mem_of_getElem? (i := 63) rfl)) rfl⟩
theorem mw_X12_halved : Cond.instanceMethod yX12_halved ∈ TB ∧ Cond.selects RX12 yX12_halved yX12_halved ∈ TB ∧ Cond.initialized RX12 ∈ TB ∧ Cond.code yX12_halved cX12_halved 1 (some .int) ∈ TB := ⟨tb_m (bk_9 (List.mem_of_getElem? (i := 65) rfl)) rfl, tb_m (bk_9 (List.mem_of_getElem? (i := 66) rfl)) rfl, tb_m (bk_1 (List.mem_of_getElem? (i := 13) rfl)) rfl, tb_m (bk_9 (List.mem_of_getElem? (i := 67) rfl)) rfl⟩
theorem mw_X12_dry : Cond.instanceMethod yX12_dry ∈ TB ∧ Cond.selects RX12 yX12_dry yX12_dry ∈ TB ∧ Cond.initialized RX12 ∈ TB ∧ Cond.code yX12_dry cX12_dry 9 (some .long) ∈ TB := ⟨tb_m (bk_9 (List.mem_of_getElem? (i := 69) rfl)) rfl, tb_m (bk_9 (List.mem_of_getElem? (i := 70) rfl)) rfl, tb_m (bk_1 (List.mem_of_getElem? (i := 13) rfl)) rfl, tb_m (bk_9 (List.mem_of_getElem? (i := 71) rfl)) rfl⟩
theorem mw_X12_insist : Cond.instanceMethod yX12_insist ∈ TB ∧ Cond.selects RX12 yX12_insist yX12_insist ∈ TB ∧ Cond.initialized RX12 ∈ TB ∧ Cond.code yX12_insist cX12_insist 4 (some .int) ∈ TB := ⟨tb_m (bk_9 (List.mem_of_getElem? (i := 73) rfl)) rfl, tb_m (bk_9 (List.mem_of_getElem? (i := 74) rfl)) rfl, tb_m (bk_1 (List.mem_of_getElem? (i := 13) rfl)) rfl, tb_m (bk_9 (List.mem_of_getElem? (i := 75) rfl)) rfl⟩
theorem mw_X12_change : Cond.instanceMethod yX12_change ∈ TB ∧ Cond.selects RX12 yX12_change yX12_change ∈ TB ∧ Cond.initialized RX12 ∈ TB ∧ Cond.code yX12_change cX12_change 4 none ∈ TB := ⟨tb_m (bk_9 (List.mem_of_getElem? (i := 86) rfl)) rfl, tb_m (List.mem_of_getElem? (i := 111) (by decide +kernel)) rfl, tb_m (bk_1 (List.mem_of_getElem? (i := 13) rfl)) rfl, tb_m (bk_9 (List.mem_of_getElem? (i := 87) rfl)) rfl⟩
theorem mw_X12_changed : Cond.instanceMethod yX12_changed ∈ TB ∧ Cond.selects RX12 yX12_changed yX12_changed ∈ TB ∧ Cond.initialized RX12 ∈ TB ∧ Cond.code yX12_changed cX12_changed 4 (some .int) ∈ TB := ⟨tb_m (bk_9 (List.mem_of_getElem? (i := 82) rfl)) rfl, tb_m (List.mem_of_getElem? (i := 110) (by decide +kernel)) rfl, tb_m (bk_1 (List.mem_of_getElem? (i := 13) rfl)) rfl, tb_m (bk_9 (List.mem_of_getElem? (i := 83) rfl)) rfl⟩
theorem mw_X12_tell : Cond.instanceMethod yX12_tell ∈ TB ∧ Cond.selects RX12 yX12_tell yX12_tell ∈ TB ∧ Cond.initialized RX12 ∈ TB ∧ Cond.code yX12_tell cX12_tell 4 (some .int) ∈ TB := ⟨tb_m (bk_9 (List.mem_of_getElem? (i := 77) rfl)) rfl, tb_m (bk_9 (List.mem_of_getElem? (i := 78) rfl)) rfl, tb_m (bk_1 (List.mem_of_getElem? (i := 13) rfl)) rfl, tb_m (bk_9 (List.mem_of_getElem? (i := 79) rfl)) rfl⟩
theorem mw_X12_needs_ : Cond.instanceMethod yX12_needs_ ∈ TB ∧ Cond.selects RX12 yX12_needs_ yX12_needs_ ∈ TB ∧ Cond.initialized RX12 ∈ TB ∧ Cond.code yX12_needs_ cX12_needs_ 3 (some .int) ∈ TB := ⟨tb_m (bk_9 (List.mem_of_getElem? (i := 89) rfl)) rfl, tb_m (bk_9 (List.mem_of_getElem? (i := 90) rfl)) rfl, tb_m (bk_1 (List.mem_of_getElem? (i := 13) rfl)) rfl, tb_m (bk_9 (List.mem_of_getElem? (i := 91) rfl)) rfl⟩
theorem mw_X12_undo : Cond.instanceMethod yX12_undo ∈ TB ∧ Cond.selects RX12 yX12_undo yX12_undo ∈ TB ∧ Cond.initialized RX12 ∈ TB ∧ Cond.code yX12_undo cX12_undo 2 (some .int) ∈ TB := ⟨tb_m (bk_9 (List.mem_of_getElem? (i := 93) rfl)) rfl, tb_m (bk_9 (List.mem_of_getElem? (i := 94) rfl)) rfl, tb_m (bk_1 (List.mem_of_getElem? (i := 13) rfl)) rfl, tb_m (bk_9 (List.mem_of_getElem? (i := 95) rfl)) rfl⟩
theorem mw_X12_drawnDelays : Cond.instanceMethod yX12_drawnDelays ∈ TB ∧ Cond.selects RX12 yX12_drawnDelays yX12_drawnDelays ∈ TB ∧ Cond.initialized RX12 ∈ TB ∧ Cond.code yX12_drawnDelays cX12_drawnDelays 7 (some .int) ∈ TB := ⟨tb_m (bk_9 (List.mem_of_getElem? (i := 107) rfl)) rfl, tb_m (List.mem_of_getElem? (i := 113) (by decide +kernel)) rfl, tb_m (bk_1 (List.mem_of_getElem? (i := 13) rfl)) rfl, tb_m (bk_9 (List.mem_of_getElem? (i := 108) rfl)) rfl⟩
theorem mw_X12_isSeed : Cond.instanceMethod yX12_isSeed ∈ TB ∧ Cond.selects RX12 yX12_isSeed yX12_isSeed ∈ TB ∧ Cond.initialized RX12 ∈ TB ∧ Cond.code yX12_isSeed cX12_isSeed 2 (some .boolean) ∈ TB := ⟨tb_m (bk_9 (List.mem_of_getElem? (i := 102) rfl)) rfl, tb_m (List.mem_of_getElem? (i := 112) (by decide +kernel)) rfl, tb_m (bk_1 (List.mem_of_getElem? (i := 13) rfl)) rfl, tb_m (bk_9 (List.mem_of_getElem? (i := 103) rfl)) rfl⟩
theorem mw_X12_drawn : Cond.instanceMethod yX12_drawn ∈ TB ∧ Cond.selects RX12 yX12_drawn yX12_drawn ∈ TB ∧ Cond.initialized RX12 ∈ TB ∧ Cond.code yX12_drawn cX12_drawn 4 (some .int) ∈ TB := ⟨tb_m (bk_9 (List.mem_of_getElem? (i := 97) rfl)) rfl, tb_m (bk_9 (List.mem_of_getElem? (i := 98) rfl)) rfl, tb_m (bk_1 (List.mem_of_getElem? (i := 13) rfl)) rfl, tb_m (bk_9 (List.mem_of_getElem? (i := 99) rfl)) rfl⟩
theorem mw_X12_luck : Cond.instanceMethod yX12_luck ∈ TB ∧ Cond.selects RX12 yX12_luck yX12_luck ∈ TB ∧ Cond.initialized RX12 ∈ TB ∧ Cond.code yX12_luck cX12_luck 7 (some .int) ∈ TB := ⟨tb_m (bk_9 (List.mem_of_getElem? (i := 114) rfl)) rfl, tb_m (bk_9 (List.mem_of_getElem? (i := 115) rfl)) rfl, tb_m (bk_1 (List.mem_of_getElem? (i := 13) rfl)) rfl, tb_m (bk_9 (List.mem_of_getElem? (i := 116) rfl)) rfl⟩
set_option maxRecDepth 8000 in
theorem mw_X12_count : Cond.instanceMethod yX12_count ∈ TB ∧ Cond.selects RX12 yX12_count yX12_count ∈ TB ∧ Cond.initialized RX12 ∈ TB ∧ Cond.code yX12_count cX12_count 4 (some .int) ∈ TB := ⟨tb_m (bk_9 (List.mem_of_getElem? (i := 119) rfl)) rfl, tb_m (bk_9 (List.mem_of_getElem? (i := 120) rfl)) rfl, tb_m (bk_1 (List.mem_of_getElem? (i := 13) rfl)) rfl, tb_m (bk_9 (List.mem_of_getElem? (i := 121) rfl)) rfl⟩
set_option maxRecDepth 8000 in
theorem mw_X12_isSlot : Cond.static yX12_isSlot ∈ TB ∧ Cond.initialized yX12_isSlot.cls ∈ TB ∧ Cond.code yX12_isSlot cX12_isSlot 1 (some .boolean) ∈ TB := ⟨tb_m (bk_9 (List.mem_of_getElem? (i := 127) rfl)) rfl, tb_m (bk_1 (List.mem_of_getElem? (i := 13) rfl)) rfl, tb_m (bk_9 (List.mem_of_getElem? (i := 128) rfl)) rfl⟩
set_option maxRecDepth 8000 in
theorem mw_X12_cut : Cond.static yX12_cut ∈ TB ∧ Cond.initialized yX12_cut.cls ∈ TB ∧ Cond.code yX12_cut cX12_cut 4 (some .long) ∈ TB := ⟨tb_m (bk_9 (List.mem_of_getElem? (i := 134) rfl)) rfl, tb_m (bk_1 (List.mem_of_getElem? (i := 13) rfl)) rfl, tb_m (bk_9 (List.mem_of_getElem? (i := 135) rfl)) rfl⟩
set_option maxRecDepth 8000 in
theorem mw_X12_row : Cond.instanceMethod yX12_row ∈ TB ∧ Cond.selects RX12 yX12_row yX12_row ∈ TB ∧ Cond.initialized RX12 ∈ TB ∧ Cond.code yX12_row cX12_row 5 (some .int) ∈ TB := ⟨tb_m (bk_9 (List.mem_of_getElem? (i := 123) rfl)) rfl, tb_m (bk_9 (List.mem_of_getElem? (i := 124) rfl)) rfl, tb_m (bk_1 (List.mem_of_getElem? (i := 13) rfl)) rfl, tb_m (bk_9 (List.mem_of_getElem? (i := 125) rfl)) rfl⟩
set_option maxRecDepth 8000 in
theorem mw_X12_write : Cond.instanceMethod yX12_write ∈ TB ∧ Cond.selects RX12 yX12_write yX12_write ∈ TB ∧ Cond.initialized RX12 ∈ TB ∧ Cond.code yX12_write cX12_write 5 (some .int) ∈ TB := ⟨tb_m (bk_9 (List.mem_of_getElem? (i := 130) rfl)) rfl, tb_m (bk_9 (List.mem_of_getElem? (i := 131) rfl)) rfl, tb_m (bk_1 (List.mem_of_getElem? (i := 13) rfl)) rfl, tb_m (bk_9 (List.mem_of_getElem? (i := 132) rfl)) rfl⟩
set_option maxRecDepth 8000 in
theorem mw_X12_paste : Cond.instanceMethod yX12_paste ∈ TB ∧ Cond.selects RX12 yX12_paste yX12_paste ∈ TB ∧ Cond.initialized RX12 ∈ TB ∧ Cond.code yX12_paste cX12_paste 7 (some .int) ∈ TB := ⟨tb_m (bk_9 (List.mem_of_getElem? (i := 137) rfl)) rfl, tb_m (bk_9 (List.mem_of_getElem? (i := 138) rfl)) rfl, tb_m (bk_1 (List.mem_of_getElem? (i := 13) rfl)) rfl, tb_m (bk_9 (List.mem_of_getElem? (i := 139) rfl)) rfl⟩
theorem mw_J6_bitCount_0f7a4 : Cond.static yJ6_bitCount_0f7a4 ∈ TB ∧ Cond.initialized yJ6_bitCount_0f7a4.cls ∈ TB ∧ Cond.code yJ6_bitCount_0f7a4 cJ6_bitCount_0f7a4 1 (some .int) ∈ TB := ⟨tb_m (bk_4 (List.mem_of_getElem? (i := 24) rfl)) rfl, tb_m (bk_1 (List.mem_of_getElem? (i := 20) rfl)) rfl, tb_m (bk_4 (List.mem_of_getElem? (i := 25) rfl)) rfl⟩
set_option maxRecDepth 8000 in
theorem mw_J0_coder_7d493 : Cond.instanceMethod yJ0_coder_7d493 ∈ TB ∧ Cond.selects RJ0 yJ0_coder_7d493 yJ0_coder_7d493 ∈ TB ∧ Cond.initialized RJ0 ∈ TB ∧ Cond.code yJ0_coder_7d493 cJ0_coder_7d493 1 (some .byte) ∈ TB := ⟨tb_m (bk_2 (List.mem_of_getElem? (i := 176) rfl)) rfl, tb_m (bk_2 (List.mem_of_getElem? (i := 177) rfl)) rfl, tb_m (bk_1 (List.mem_of_getElem? (i := 14) rfl)) rfl, tb_m (bk_2 (List.mem_of_getElem? (i := 178) rfl)) rfl⟩
set_option maxRecDepth 8000 in
theorem mw_J0_isLatin1_aae02 : Cond.instanceMethod yJ0_isLatin1_aae02 ∈ TB ∧ Cond.selects RJ0 yJ0_isLatin1_aae02 yJ0_isLatin1_aae02 ∈ TB ∧ Cond.initialized RJ0 ∈ TB ∧ Cond.code yJ0_isLatin1_aae02 cJ0_isLatin1_aae02 1 (some .boolean) ∈ TB := ⟨tb_m (bk_2 (List.mem_of_getElem? (i := 186) rfl)) rfl, tb_m (bk_2 (List.mem_of_getElem? (i := 187) rfl)) rfl, tb_m (bk_1 (List.mem_of_getElem? (i := 14) rfl)) rfl, tb_m (bk_2 (List.mem_of_getElem? (i := 188) rfl)) rfl⟩
set_option maxRecDepth 8000 in
theorem mw_J1_charAt_3b067 : Cond.static yJ1_charAt_3b067 ∈ TB ∧ Cond.initialized yJ1_charAt_3b067.cls ∈ TB ∧ Cond.code yJ1_charAt_3b067 cJ1_charAt_3b067 2 (some .char) ∈ TB := ⟨tb_m (bk_2 (List.mem_of_getElem? (i := 190) rfl)) rfl, tb_m (bk_1 (List.mem_of_getElem? (i := 15) rfl)) rfl, tb_m (bk_2 (List.mem_of_getElem? (i := 191) rfl)) rfl⟩
set_option maxRecDepth 8000 in
theorem mw_J7_fill_53178 : Cond.static yJ7_fill_53178 ∈ TB ∧ Cond.initialized yJ7_fill_53178.cls ∈ TB ∧ Cond.code yJ7_fill_53178 cJ7_fill_53178 4 none ∈ TB := ⟨tb_m (bk_3 (List.mem_of_getElem? (i := 226) rfl)) rfl, tb_m (bk_1 (List.mem_of_getElem? (i := 19) rfl)) rfl, tb_m (bk_3 (List.mem_of_getElem? (i := 227) rfl)) rfl⟩
set_option maxRecDepth 8000 in
theorem mw_X0_worthOf : Cond.instanceMethod yX0_worthOf ∈ TB ∧ Cond.selects RX0 yX0_worthOf yX0_worthOf ∈ TB ∧ Cond.initialized RX0 ∈ TB ∧ Cond.code yX0_worthOf cX0_worthOf 4 (some .int) ∈ TB := ⟨tb_m (bk_5 (List.mem_of_getElem? (i := 195) rfl)) rfl, tb_m (bk_5 (List.mem_of_getElem? (i := 196) rfl)) rfl, tb_m (bk_1 (List.mem_of_getElem? (i := 11) rfl)) rfl, tb_m (bk_5 (List.mem_of_getElem? (i := 197) rfl)) rfl⟩
set_option maxRecDepth 8000 in
theorem mw_X0_canStand : Cond.instanceMethod yX0_canStand ∈ TB ∧ Cond.selects RX0 yX0_canStand yX0_canStand ∈ TB ∧ Cond.initialized RX0 ∈ TB ∧ Cond.code yX0_canStand cX0_canStand 9 (some .boolean) ∈ TB := ⟨tb_m (bk_5 (List.mem_of_getElem? (i := 201) rfl)) rfl, tb_m (List.mem_of_getElem? (i := 40) (by decide +kernel)) rfl, tb_m (bk_1 (List.mem_of_getElem? (i := 11) rfl)) rfl, tb_m (bk_5 (List.mem_of_getElem? (i := 202) rfl)) rfl⟩
set_option maxRecDepth 8000 in
theorem mw_X0_sortByMinute : Cond.instanceMethod yX0_sortByMinute ∈ TB ∧ Cond.selects RX0 yX0_sortByMinute yX0_sortByMinute ∈ TB ∧ Cond.initialized RX0 ∈ TB ∧ Cond.code yX0_sortByMinute cX0_sortByMinute 3 none ∈ TB := ⟨tb_m (bk_5 (List.mem_of_getElem? (i := 191) rfl)) rfl, tb_m (List.mem_of_getElem? (i := 39) (by decide +kernel)) rfl, tb_m (bk_1 (List.mem_of_getElem? (i := 11) rfl)) rfl, tb_m (bk_5 (List.mem_of_getElem? (i := 192) rfl)) rfl⟩
theorem mw_X1_lowest : Cond.static yX1_lowest ∈ TB ∧ Cond.initialized yX1_lowest.cls ∈ TB ∧ Cond.code yX1_lowest cX1_lowest 7 (some .long) ∈ TB := ⟨tb_m (bk_4 (List.mem_of_getElem? (i := 97) rfl)) rfl, tb_m (bk_1 (List.mem_of_getElem? (i := 21) rfl)) rfl, tb_m (bk_4 (List.mem_of_getElem? (i := 98) rfl)) rfl⟩
theorem mw_X1_hundreds : Cond.static yX1_hundreds ∈ TB ∧ Cond.initialized yX1_hundreds.cls ∈ TB ∧ Cond.code yX1_hundreds cX1_hundreds 1 (some .long) ∈ TB := ⟨tb_m (bk_4 (List.mem_of_getElem? (i := 91) rfl)) rfl, tb_m (bk_1 (List.mem_of_getElem? (i := 21) rfl)) rfl, tb_m (bk_4 (List.mem_of_getElem? (i := 92) rfl)) rfl⟩
theorem mw_X1_delayParts : Cond.static yX1_delayParts ∈ TB ∧ Cond.initialized yX1_delayParts.cls ∈ TB ∧ Cond.code yX1_delayParts cX1_delayParts 6 (some .long) ∈ TB := ⟨tb_m (bk_4 (List.mem_of_getElem? (i := 114) rfl)) rfl, tb_m (bk_1 (List.mem_of_getElem? (i := 21) rfl)) rfl, tb_m (bk_4 (List.mem_of_getElem? (i := 115) rfl)) rfl⟩
set_option maxRecDepth 8000 in
theorem mw_X1_dryParts : Cond.static yX1_dryParts ∈ TB ∧ Cond.initialized yX1_dryParts.cls ∈ TB ∧ Cond.code yX1_dryParts cX1_dryParts 3 (some .long) ∈ TB := ⟨tb_m (bk_5 (List.mem_of_getElem? (i := 221) rfl)) rfl, tb_m (bk_1 (List.mem_of_getElem? (i := 21) rfl)) rfl, tb_m (bk_5 (List.mem_of_getElem? (i := 222) rfl)) rfl⟩
theorem mw_X1_drawnDelays : Cond.static yX1_drawnDelays ∈ TB ∧ Cond.initialized yX1_drawnDelays.cls ∈ TB ∧ Cond.code yX1_drawnDelays cX1_drawnDelays 6 (some .int) ∈ TB := ⟨tb_m (bk_6 (List.mem_of_getElem? (i := 51) rfl)) rfl, tb_m (bk_1 (List.mem_of_getElem? (i := 21) rfl)) rfl, tb_m (bk_6 (List.mem_of_getElem? (i := 52) rfl)) rfl⟩
set_option maxRecDepth 8000 in
theorem mw_X2_follow : Cond.instanceMethod yX2_follow ∈ TB ∧ Cond.selects RX2 yX2_follow yX2_follow ∈ TB ∧ Cond.initialized RX2 ∈ TB ∧ Cond.code yX2_follow cX2_follow 4 none ∈ TB := ⟨tb_m (bk_3 (List.mem_of_getElem? (i := 155) rfl)) rfl, tb_m (bk_3 (List.mem_of_getElem? (i := 156) rfl)) rfl, tb_m (bk_1 (List.mem_of_getElem? (i := 6) rfl)) rfl, tb_m (bk_3 (List.mem_of_getElem? (i := 157) rfl)) rfl⟩
set_option maxRecDepth 8000 in
theorem mw_X2_winnerBy : Cond.instanceMethod yX2_winnerBy ∈ TB ∧ Cond.selects RX2 yX2_winnerBy yX2_winnerBy ∈ TB ∧ Cond.initialized RX2 ∈ TB ∧ Cond.code yX2_winnerBy cX2_winnerBy 2 (some .int) ∈ TB := ⟨tb_m (bk_3 (List.mem_of_getElem? (i := 185) rfl)) rfl, tb_m (bk_3 (List.mem_of_getElem? (i := 186) rfl)) rfl, tb_m (bk_1 (List.mem_of_getElem? (i := 6) rfl)) rfl, tb_m (bk_3 (List.mem_of_getElem? (i := 187) rfl)) rfl⟩
set_option maxRecDepth 8000 in
theorem mw_X2_peakOf : Cond.instanceMethod yX2_peakOf ∈ TB ∧ Cond.selects RX2 yX2_peakOf yX2_peakOf ∈ TB ∧ Cond.initialized RX2 ∈ TB ∧ Cond.code yX2_peakOf cX2_peakOf 4 (some .int) ∈ TB := ⟨tb_m (bk_3 (List.mem_of_getElem? (i := 199) rfl)) rfl, tb_m (bk_3 (List.mem_of_getElem? (i := 200) rfl)) rfl, tb_m (bk_1 (List.mem_of_getElem? (i := 6) rfl)) rfl, tb_m (bk_3 (List.mem_of_getElem? (i := 201) rfl)) rfl⟩
set_option maxRecDepth 8000 in
theorem mw_X2_countSwings : Cond.instanceMethod yX2_countSwings ∈ TB ∧ Cond.selects RX2 yX2_countSwings yX2_countSwings ∈ TB ∧ Cond.initialized RX2 ∈ TB ∧ Cond.code yX2_countSwings cX2_countSwings 5 (some .int) ∈ TB := ⟨tb_m (bk_3 (List.mem_of_getElem? (i := 210) rfl)) rfl, tb_m (bk_3 (List.mem_of_getElem? (i := 211) rfl)) rfl, tb_m (bk_1 (List.mem_of_getElem? (i := 6) rfl)) rfl, tb_m (bk_3 (List.mem_of_getElem? (i := 212) rfl)) rfl⟩
theorem mw_X2_goodAtEnd : Cond.instanceMethod yX2_goodAtEnd ∈ TB ∧ Cond.selects RX2 yX2_goodAtEnd yX2_goodAtEnd ∈ TB ∧ Cond.initialized RX2 ∈ TB ∧ Cond.code yX2_goodAtEnd cX2_goodAtEnd 3 (some .int) ∈ TB := ⟨tb_m (bk_4 (List.mem_of_getElem? (i := 20) rfl)) rfl, tb_m (bk_4 (List.mem_of_getElem? (i := 21) rfl)) rfl, tb_m (bk_1 (List.mem_of_getElem? (i := 6) rfl)) rfl, tb_m (bk_4 (List.mem_of_getElem? (i := 22) rfl)) rfl⟩
theorem mw_X2_isIdle : Cond.instanceMethod yX2_isIdle ∈ TB ∧ Cond.selects RX2 yX2_isIdle yX2_isIdle ∈ TB ∧ Cond.initialized RX2 ∈ TB ∧ Cond.code yX2_isIdle cX2_isIdle 3 (some .boolean) ∈ TB := ⟨tb_m (bk_4 (List.mem_of_getElem? (i := 56) rfl)) rfl, tb_m (List.mem_of_getElem? (i := 22) (by decide +kernel)) rfl, tb_m (bk_1 (List.mem_of_getElem? (i := 6) rfl)) rfl, tb_m (bk_4 (List.mem_of_getElem? (i := 57) rfl)) rfl⟩
set_option maxRecDepth 8000 in
theorem mw_X2_isArrival : Cond.instanceMethod yX2_isArrival ∈ TB ∧ Cond.selects RX2 yX2_isArrival yX2_isArrival ∈ TB ∧ Cond.initialized RX2 ∈ TB ∧ Cond.code yX2_isArrival cX2_isArrival 2 (some .boolean) ∈ TB := ⟨tb_m (bk_3 (List.mem_of_getElem? (i := 230) rfl)) rfl, tb_m (List.mem_of_getElem? (i := 17) (by decide +kernel)) rfl, tb_m (bk_1 (List.mem_of_getElem? (i := 6) rfl)) rfl, tb_m (bk_3 (List.mem_of_getElem? (i := 231) rfl)) rfl⟩
theorem mw_X2_takeMen : Cond.instanceMethod yX2_takeMen ∈ TB ∧ Cond.selects RX2 yX2_takeMen yX2_takeMen ∈ TB ∧ Cond.initialized RX2 ∈ TB ∧ Cond.code yX2_takeMen cX2_takeMen 6 none ∈ TB := ⟨tb_m (bk_4 (List.mem_of_getElem? (i := 3) rfl)) rfl, tb_m (List.mem_of_getElem? (i := 19) (by decide +kernel)) rfl, tb_m (bk_1 (List.mem_of_getElem? (i := 6) rfl)) rfl, tb_m (bk_4 (List.mem_of_getElem? (i := 4) rfl)) rfl⟩
set_option maxRecDepth 8000 in
theorem mw_X2_moveEnds : Cond.instanceMethod yX2_moveEnds ∈ TB ∧ Cond.selects RX2 yX2_moveEnds yX2_moveEnds ∈ TB ∧ Cond.initialized RX2 ∈ TB ∧ Cond.code yX2_moveEnds cX2_moveEnds 3 none ∈ TB := ⟨tb_m (bk_3 (List.mem_of_getElem? (i := 239) rfl)) rfl, tb_m (List.mem_of_getElem? (i := 18) (by decide +kernel)) rfl, tb_m (bk_1 (List.mem_of_getElem? (i := 6) rfl)) rfl, tb_m (bk_4 (List.mem_of_getElem? (i := 0) rfl)) rfl⟩
theorem mw_X2_findWinners : Cond.instanceMethod yX2_findWinners ∈ TB ∧ Cond.selects RX2 yX2_findWinners yX2_findWinners ∈ TB ∧ Cond.initialized RX2 ∈ TB ∧ Cond.code yX2_findWinners cX2_findWinners 3 none ∈ TB := ⟨tb_m (bk_4 (List.mem_of_getElem? (i := 16) rfl)) rfl, tb_m (List.mem_of_getElem? (i := 20) (by decide +kernel)) rfl, tb_m (bk_1 (List.mem_of_getElem? (i := 6) rfl)) rfl, tb_m (bk_4 (List.mem_of_getElem? (i := 17) rfl)) rfl⟩
set_option maxRecDepth 8000 in
theorem mw_X3_takePrices : Cond.instanceMethod yX3_takePrices ∈ TB ∧ Cond.selects RX3 yX3_takePrices yX3_takePrices ∈ TB ∧ Cond.initialized RX3 ∈ TB ∧ Cond.code yX3_takePrices cX3_takePrices 2 none ∈ TB := ⟨tb_m (bk_4 (List.mem_of_getElem? (i := 132) rfl)) rfl, tb_m (List.mem_of_getElem? (i := 25) (by decide +kernel)) rfl, tb_m (bk_1 (List.mem_of_getElem? (i := 7) rfl)) rfl, tb_m (bk_4 (List.mem_of_getElem? (i := 133) rfl)) rfl⟩
set_option maxRecDepth 8000 in
theorem mw_X3_fitByDelays : Cond.instanceMethod yX3_fitByDelays ∈ TB ∧ Cond.selects RX3 yX3_fitByDelays yX3_fitByDelays ∈ TB ∧ Cond.initialized RX3 ∈ TB ∧ Cond.code yX3_fitByDelays cX3_fitByDelays 4 none ∈ TB := ⟨tb_m (bk_4 (List.mem_of_getElem? (i := 188) rfl)) rfl, tb_m (List.mem_of_getElem? (i := 29) (by decide +kernel)) rfl, tb_m (bk_1 (List.mem_of_getElem? (i := 7) rfl)) rfl, tb_m (bk_4 (List.mem_of_getElem? (i := 189) rfl)) rfl⟩
theorem mw_X3_mayBeLate : Cond.instanceMethod yX3_mayBeLate ∈ TB ∧ Cond.selects RX3 yX3_mayBeLate yX3_mayBeLate ∈ TB ∧ Cond.initialized RX3 ∈ TB ∧ Cond.code yX3_mayBeLate cX3_mayBeLate 5 none ∈ TB := ⟨tb_m (bk_4 (List.mem_of_getElem? (i := 81) rfl)) rfl, tb_m (List.mem_of_getElem? (i := 24) (by decide +kernel)) rfl, tb_m (bk_1 (List.mem_of_getElem? (i := 7) rfl)) rfl, tb_m (bk_4 (List.mem_of_getElem? (i := 82) rfl)) rfl⟩
set_option maxRecDepth 8000 in
theorem mw_X3_cheapest : Cond.instanceMethod yX3_cheapest ∈ TB ∧ Cond.selects RX3 yX3_cheapest yX3_cheapest ∈ TB ∧ Cond.initialized RX3 ∈ TB ∧ Cond.code yX3_cheapest cX3_cheapest 5 (some .int) ∈ TB := ⟨tb_m (bk_4 (List.mem_of_getElem? (i := 143) rfl)) rfl, tb_m (List.mem_of_getElem? (i := 27) (by decide +kernel)) rfl, tb_m (bk_1 (List.mem_of_getElem? (i := 7) rfl)) rfl, tb_m (bk_4 (List.mem_of_getElem? (i := 144) rfl)) rfl⟩
theorem mw_X4_isHeld : Cond.instanceMethod yX4_isHeld ∈ TB ∧ Cond.selects RX4 yX4_isHeld yX4_isHeld ∈ TB ∧ Cond.initialized RX4 ∈ TB ∧ Cond.code yX4_isHeld cX4_isHeld 8 (some .boolean) ∈ TB := ⟨tb_m (bk_5 (List.mem_of_getElem? (i := 80) rfl)) rfl, tb_m (List.mem_of_getElem? (i := 37) (by decide +kernel)) rfl, tb_m (bk_1 (List.mem_of_getElem? (i := 9) rfl)) rfl, tb_m (bk_5 (List.mem_of_getElem? (i := 81) rfl)) rfl⟩
theorem mw_X5_meet : Cond.instanceMethod yX5_meet ∈ TB ∧ Cond.selects RX5 yX5_meet yX5_meet ∈ TB ∧ Cond.initialized RX5 ∈ TB ∧ Cond.code yX5_meet cX5_meet 8 (some .int) ∈ TB := ⟨tb_m (bk_5 (List.mem_of_getElem? (i := 48) rfl)) rfl, tb_m (List.mem_of_getElem? (i := 34) (by decide +kernel)) rfl, tb_m (bk_1 (List.mem_of_getElem? (i := 8) rfl)) rfl, tb_m (bk_5 (List.mem_of_getElem? (i := 49) rfl)) rfl⟩
set_option maxRecDepth 8000 in
theorem mw_X6_advance : Cond.instanceMethod yX6_advance ∈ TB ∧ Cond.selects RX6 yX6_advance yX6_advance ∈ TB ∧ Cond.initialized RX6 ∈ TB ∧ Cond.code yX6_advance cX6_advance 1 none ∈ TB := ⟨tb_m (bk_2 (List.mem_of_getElem? (i := 140) rfl)) rfl, tb_m (List.mem_of_getElem? (i := 0) (by decide +kernel)) rfl, tb_m (bk_1 (List.mem_of_getElem? (i := 5) rfl)) rfl, tb_m (bk_2 (List.mem_of_getElem? (i := 141) rfl)) rfl⟩
theorem mw_X7_lay : Cond.instanceMethod yX7_lay ∈ TB ∧ Cond.selects RX7 yX7_lay yX7_lay ∈ TB ∧ Cond.initialized RX7 ∈ TB ∧ Cond.code yX7_lay cX7_lay 5 (some .int) ∈ TB := ⟨tb_m (bk_6 (List.mem_of_getElem? (i := 92) rfl)) rfl, tb_m (bk_6 (List.mem_of_getElem? (i := 93) rfl)) rfl, tb_m (bk_1 (List.mem_of_getElem? (i := 12) rfl)) rfl, tb_m (bk_6 (List.mem_of_getElem? (i := 94) rfl)) rfl⟩
theorem mw_X7_put : Cond.instanceMethod yX7_put ∈ TB ∧ Cond.selects RX7 yX7_put yX7_put ∈ TB ∧ Cond.initialized RX7 ∈ TB ∧ Cond.code yX7_put cX7_put 5 (some .int) ∈ TB := ⟨tb_m (bk_6 (List.mem_of_getElem? (i := 103) rfl)) rfl, tb_m (bk_6 (List.mem_of_getElem? (i := 104) rfl)) rfl, tb_m (bk_1 (List.mem_of_getElem? (i := 12) rfl)) rfl, tb_m (bk_6 (List.mem_of_getElem? (i := 105) rfl)) rfl⟩
theorem mw_X7_copy : Cond.instanceMethod yX7_copy ∈ TB ∧ Cond.selects RX7 yX7_copy yX7_copy ∈ TB ∧ Cond.initialized RX7 ∈ TB ∧ Cond.code yX7_copy cX7_copy 6 (some .int) ∈ TB := ⟨tb_m (bk_6 (List.mem_of_getElem? (i := 114) rfl)) rfl, tb_m (bk_6 (List.mem_of_getElem? (i := 115) rfl)) rfl, tb_m (bk_1 (List.mem_of_getElem? (i := 12) rfl)) rfl, tb_m (bk_6 (List.mem_of_getElem? (i := 116) rfl)) rfl⟩
set_option maxRecDepth 8000 in
theorem mw_X8_knownTo : Cond.instanceMethod yX8_knownTo ∈ TB ∧ Cond.selects RX8 yX8_knownTo yX8_knownTo ∈ TB ∧ Cond.initialized RX8 ∈ TB ∧ Cond.code yX8_knownTo cX8_knownTo 2 (some .int) ∈ TB := ⟨tb_m (bk_5 (List.mem_of_getElem? (i := 144) rfl)) rfl, tb_m (List.mem_of_getElem? (i := 38) (by decide +kernel)) rfl, tb_m (bk_1 (List.mem_of_getElem? (i := 10) rfl)) rfl, tb_m (bk_5 (List.mem_of_getElem? (i := 145) rfl)) rfl⟩
set_option maxRecDepth 8000 in
theorem mw_X10_hasSet : Cond.instanceMethod yX10_hasSet ∈ TB ∧ Cond.selects RX10 yX10_hasSet yX10_hasSet ∈ TB ∧ Cond.initialized RX10 ∈ TB ∧ Cond.code yX10_hasSet cX10_hasSet 2 (some .boolean) ∈ TB := ⟨tb_m (bk_3 (List.mem_of_getElem? (i := 131) rfl)) rfl, tb_m (bk_3 (List.mem_of_getElem? (i := 132) rfl)) rfl, tb_m (bk_1 (List.mem_of_getElem? (i := 2) rfl)) rfl, tb_m (bk_3 (List.mem_of_getElem? (i := 133) rfl)) rfl⟩
theorem mw_X10_change : Cond.instanceMethod yX10_change ∈ TB ∧ Cond.selects RX10 yX10_change yX10_change ∈ TB ∧ Cond.initialized RX10 ∈ TB ∧ Cond.code yX10_change cX10_change 6 (some .int) ∈ TB := ⟨tb_m (bk_6 (List.mem_of_getElem? (i := 8) rfl)) rfl, tb_m (bk_6 (List.mem_of_getElem? (i := 9) rfl)) rfl, tb_m (bk_1 (List.mem_of_getElem? (i := 2) rfl)) rfl, tb_m (bk_6 (List.mem_of_getElem? (i := 10) rfl)) rfl⟩
theorem mw_X10_takeBack : Cond.instanceMethod yX10_takeBack ∈ TB ∧ Cond.selects RX10 yX10_takeBack yX10_takeBack ∈ TB ∧ Cond.initialized RX10 ∈ TB ∧ Cond.code yX10_takeBack cX10_takeBack 2 (some .int) ∈ TB := ⟨tb_m (bk_6 (List.mem_of_getElem? (i := 34) rfl)) rfl, tb_m (bk_6 (List.mem_of_getElem? (i := 35) rfl)) rfl, tb_m (bk_1 (List.mem_of_getElem? (i := 2) rfl)) rfl, tb_m (bk_6 (List.mem_of_getElem? (i := 36) rfl)) rfl⟩
set_option maxRecDepth 8000 in
theorem mw_X11_men : Cond.instanceMethod yX11_men ∈ TB ∧ Cond.selects RX11 yX11_men yX11_men ∈ TB ∧ Cond.initialized RX11 ∈ TB ∧ Cond.code yX11_men cX11_men 4 (some .int) ∈ TB := ⟨tb_m (bk_3 (List.mem_of_getElem? (i := 124) rfl)) rfl, tb_m (bk_3 (List.mem_of_getElem? (i := 125) rfl)) rfl, tb_m (bk_1 (List.mem_of_getElem? (i := 1) rfl)) rfl, tb_m (bk_3 (List.mem_of_getElem? (i := 126) rfl)) rfl⟩
set_option maxRecDepth 8000 in
theorem mw_X11_front : Cond.instanceMethod yX11_front ∈ TB ∧ Cond.selects RX11 yX11_front yX11_front ∈ TB ∧ Cond.initialized RX11 ∈ TB ∧ Cond.code yX11_front cX11_front 3 (some .int) ∈ TB := ⟨tb_m (bk_3 (List.mem_of_getElem? (i := 151) rfl)) rfl, tb_m (bk_3 (List.mem_of_getElem? (i := 152) rfl)) rfl, tb_m (bk_1 (List.mem_of_getElem? (i := 1) rfl)) rfl, tb_m (bk_3 (List.mem_of_getElem? (i := 153) rfl)) rfl⟩
set_option maxRecDepth 8000 in
theorem mw_X11_late : Cond.instanceMethod yX11_late ∈ TB ∧ Cond.selects RX11 yX11_late yX11_late ∈ TB ∧ Cond.initialized RX11 ∈ TB ∧ Cond.code yX11_late cX11_late 2 (some .int) ∈ TB := ⟨tb_m (bk_3 (List.mem_of_getElem? (i := 172) rfl)) rfl, tb_m (bk_3 (List.mem_of_getElem? (i := 173) rfl)) rfl, tb_m (bk_1 (List.mem_of_getElem? (i := 1) rfl)) rfl, tb_m (bk_3 (List.mem_of_getElem? (i := 174) rfl)) rfl⟩
set_option maxRecDepth 8000 in
theorem mw_X11_wins : Cond.instanceMethod yX11_wins ∈ TB ∧ Cond.selects RX11 yX11_wins yX11_wins ∈ TB ∧ Cond.initialized RX11 ∈ TB ∧ Cond.code yX11_wins cX11_wins 2 (some .int) ∈ TB := ⟨tb_m (bk_3 (List.mem_of_getElem? (i := 181) rfl)) rfl, tb_m (bk_3 (List.mem_of_getElem? (i := 182) rfl)) rfl, tb_m (bk_1 (List.mem_of_getElem? (i := 1) rfl)) rfl, tb_m (bk_3 (List.mem_of_getElem? (i := 183) rfl)) rfl⟩
set_option maxRecDepth 8000 in
theorem mw_X11_peak : Cond.instanceMethod yX11_peak ∈ TB ∧ Cond.selects RX11 yX11_peak yX11_peak ∈ TB ∧ Cond.initialized RX11 ∈ TB ∧ Cond.code yX11_peak cX11_peak 3 (some .int) ∈ TB := ⟨tb_m (bk_3 (List.mem_of_getElem? (i := 195) rfl)) rfl, tb_m (bk_3 (List.mem_of_getElem? (i := 196) rfl)) rfl, tb_m (bk_1 (List.mem_of_getElem? (i := 1) rfl)) rfl, tb_m (bk_3 (List.mem_of_getElem? (i := 197) rfl)) rfl⟩
set_option maxRecDepth 8000 in
theorem mw_X11_swings : Cond.instanceMethod yX11_swings ∈ TB ∧ Cond.selects RX11 yX11_swings yX11_swings ∈ TB ∧ Cond.initialized RX11 ∈ TB ∧ Cond.code yX11_swings cX11_swings 2 (some .int) ∈ TB := ⟨tb_m (bk_3 (List.mem_of_getElem? (i := 206) rfl)) rfl, tb_m (bk_3 (List.mem_of_getElem? (i := 207) rfl)) rfl, tb_m (bk_1 (List.mem_of_getElem? (i := 1) rfl)) rfl, tb_m (bk_3 (List.mem_of_getElem? (i := 208) rfl)) rfl⟩
theorem mw_X11_since : Cond.instanceMethod yX11_since ∈ TB ∧ Cond.selects RX11 yX11_since yX11_since ∈ TB ∧ Cond.initialized RX11 ∈ TB ∧ Cond.code yX11_since cX11_since 4 (some .int) ∈ TB := ⟨tb_m (bk_5 (List.mem_of_getElem? (i := 19) rfl)) rfl, tb_m (bk_5 (List.mem_of_getElem? (i := 20) rfl)) rfl, tb_m (bk_1 (List.mem_of_getElem? (i := 1) rfl)) rfl, tb_m (bk_5 (List.mem_of_getElem? (i := 21) rfl)) rfl⟩
theorem mw_X11_comes : Cond.instanceMethod yX11_comes ∈ TB ∧ Cond.selects RX11 yX11_comes yX11_comes ∈ TB ∧ Cond.initialized RX11 ∈ TB ∧ Cond.code yX11_comes cX11_comes 3 (some .int) ∈ TB := ⟨tb_m (bk_5 (List.mem_of_getElem? (i := 23) rfl)) rfl, tb_m (bk_5 (List.mem_of_getElem? (i := 24) rfl)) rfl, tb_m (bk_1 (List.mem_of_getElem? (i := 1) rfl)) rfl, tb_m (bk_5 (List.mem_of_getElem? (i := 25) rfl)) rfl⟩
theorem mw_X11_even : Cond.instanceMethod yX11_even ∈ TB ∧ Cond.selects RX11 yX11_even yX11_even ∈ TB ∧ Cond.initialized RX11 ∈ TB ∧ Cond.code yX11_even cX11_even 5 (some .long) ∈ TB := ⟨tb_m (bk_5 (List.mem_of_getElem? (i := 28) rfl)) rfl, tb_m (bk_5 (List.mem_of_getElem? (i := 29) rfl)) rfl, tb_m (bk_1 (List.mem_of_getElem? (i := 1) rfl)) rfl, tb_m (bk_5 (List.mem_of_getElem? (i := 30) rfl)) rfl⟩
theorem mw_X11_treaties : Cond.instanceMethod yX11_treaties ∈ TB ∧ Cond.selects RX11 yX11_treaties yX11_treaties ∈ TB ∧ Cond.initialized RX11 ∈ TB ∧ Cond.code yX11_treaties cX11_treaties 2 (some .long) ∈ TB := ⟨tb_m (bk_5 (List.mem_of_getElem? (i := 114) rfl)) rfl, tb_m (bk_5 (List.mem_of_getElem? (i := 115) rfl)) rfl, tb_m (bk_1 (List.mem_of_getElem? (i := 1) rfl)) rfl, tb_m (bk_5 (List.mem_of_getElem? (i := 116) rfl)) rfl⟩
set_option maxRecDepth 8000 in
theorem mw_X11_price : Cond.instanceMethod yX11_price ∈ TB ∧ Cond.selects RX11 yX11_price yX11_price ∈ TB ∧ Cond.initialized RX11 ∈ TB ∧ Cond.code yX11_price cX11_price 4 (some .int) ∈ TB := ⟨tb_m (bk_5 (List.mem_of_getElem? (i := 130) rfl)) rfl, tb_m (bk_5 (List.mem_of_getElem? (i := 131) rfl)) rfl, tb_m (bk_1 (List.mem_of_getElem? (i := 1) rfl)) rfl, tb_m (bk_5 (List.mem_of_getElem? (i := 132) rfl)) rfl⟩
set_option maxRecDepth 8000 in
theorem mw_X11_dry : Cond.instanceMethod yX11_dry ∈ TB ∧ Cond.selects RX11 yX11_dry yX11_dry ∈ TB ∧ Cond.initialized RX11 ∈ TB ∧ Cond.code yX11_dry cX11_dry 4 (some .long) ∈ TB := ⟨tb_m (bk_5 (List.mem_of_getElem? (i := 217) rfl)) rfl, tb_m (bk_5 (List.mem_of_getElem? (i := 218) rfl)) rfl, tb_m (bk_1 (List.mem_of_getElem? (i := 1) rfl)) rfl, tb_m (bk_5 (List.mem_of_getElem? (i := 219) rfl)) rfl⟩
set_option maxRecDepth 8000 in
theorem mw_X11_insist : Cond.instanceMethod yX11_insist ∈ TB ∧ Cond.selects RX11 yX11_insist yX11_insist ∈ TB ∧ Cond.initialized RX11 ∈ TB ∧ Cond.code yX11_insist cX11_insist 2 (some .int) ∈ TB := ⟨tb_m (bk_5 (List.mem_of_getElem? (i := 227) rfl)) rfl, tb_m (bk_5 (List.mem_of_getElem? (i := 228) rfl)) rfl, tb_m (bk_1 (List.mem_of_getElem? (i := 1) rfl)) rfl, tb_m (bk_5 (List.mem_of_getElem? (i := 229) rfl)) rfl⟩
set_option maxRecDepth 8000 in
theorem mw_X11_tell : Cond.instanceMethod yX11_tell ∈ TB ∧ Cond.selects RX11 yX11_tell yX11_tell ∈ TB ∧ Cond.initialized RX11 ∈ TB ∧ Cond.code yX11_tell cX11_tell 4 (some .int) ∈ TB := ⟨tb_m (bk_5 (List.mem_of_getElem? (i := 235) rfl)) rfl, tb_m (bk_5 (List.mem_of_getElem? (i := 236) rfl)) rfl, tb_m (bk_1 (List.mem_of_getElem? (i := 1) rfl)) rfl, tb_m (bk_5 (List.mem_of_getElem? (i := 237) rfl)) rfl⟩
theorem mw_X11_needs : Cond.instanceMethod yX11_needs ∈ TB ∧ Cond.selects RX11 yX11_needs yX11_needs ∈ TB ∧ Cond.initialized RX11 ∈ TB ∧ Cond.code yX11_needs cX11_needs 3 (some .int) ∈ TB := ⟨tb_m (bk_6 (List.mem_of_getElem? (i := 26) rfl)) rfl, tb_m (bk_6 (List.mem_of_getElem? (i := 27) rfl)) rfl, tb_m (bk_1 (List.mem_of_getElem? (i := 1) rfl)) rfl, tb_m (bk_6 (List.mem_of_getElem? (i := 28) rfl)) rfl⟩
theorem mw_X11_undo : Cond.instanceMethod yX11_undo ∈ TB ∧ Cond.selects RX11 yX11_undo yX11_undo ∈ TB ∧ Cond.initialized RX11 ∈ TB ∧ Cond.code yX11_undo cX11_undo 1 (some .int) ∈ TB := ⟨tb_m (bk_6 (List.mem_of_getElem? (i := 30) rfl)) rfl, tb_m (bk_6 (List.mem_of_getElem? (i := 31) rfl)) rfl, tb_m (bk_1 (List.mem_of_getElem? (i := 1) rfl)) rfl, tb_m (bk_6 (List.mem_of_getElem? (i := 32) rfl)) rfl⟩
theorem mw_X11_drawn : Cond.instanceMethod yX11_drawn ∈ TB ∧ Cond.selects RX11 yX11_drawn yX11_drawn ∈ TB ∧ Cond.initialized RX11 ∈ TB ∧ Cond.code yX11_drawn cX11_drawn 4 (some .int) ∈ TB := ⟨tb_m (bk_6 (List.mem_of_getElem? (i := 42) rfl)) rfl, tb_m (bk_6 (List.mem_of_getElem? (i := 43) rfl)) rfl, tb_m (bk_1 (List.mem_of_getElem? (i := 1) rfl)) rfl, tb_m (bk_6 (List.mem_of_getElem? (i := 44) rfl)) rfl⟩
theorem mw_X11_luck : Cond.instanceMethod yX11_luck ∈ TB ∧ Cond.selects RX11 yX11_luck yX11_luck ∈ TB ∧ Cond.initialized RX11 ∈ TB ∧ Cond.code yX11_luck cX11_luck 7 (some .int) ∈ TB := ⟨tb_m (bk_6 (List.mem_of_getElem? (i := 65) rfl)) rfl, tb_m (bk_6 (List.mem_of_getElem? (i := 66) rfl)) rfl, tb_m (bk_1 (List.mem_of_getElem? (i := 1) rfl)) rfl, tb_m (bk_6 (List.mem_of_getElem? (i := 67) rfl)) rfl⟩
theorem mw_X11_row : Cond.instanceMethod yX11_row ∈ TB ∧ Cond.selects RX11 yX11_row yX11_row ∈ TB ∧ Cond.initialized RX11 ∈ TB ∧ Cond.code yX11_row cX11_row 4 (some .int) ∈ TB := ⟨tb_m (bk_6 (List.mem_of_getElem? (i := 88) rfl)) rfl, tb_m (bk_6 (List.mem_of_getElem? (i := 89) rfl)) rfl, tb_m (bk_1 (List.mem_of_getElem? (i := 1) rfl)) rfl, tb_m (bk_6 (List.mem_of_getElem? (i := 90) rfl)) rfl⟩
theorem mw_X11_write : Cond.instanceMethod yX11_write ∈ TB ∧ Cond.selects RX11 yX11_write yX11_write ∈ TB ∧ Cond.initialized RX11 ∈ TB ∧ Cond.code yX11_write cX11_write 5 (some .int) ∈ TB := ⟨tb_m (bk_6 (List.mem_of_getElem? (i := 99) rfl)) rfl, tb_m (bk_6 (List.mem_of_getElem? (i := 100) rfl)) rfl, tb_m (bk_1 (List.mem_of_getElem? (i := 1) rfl)) rfl, tb_m (bk_6 (List.mem_of_getElem? (i := 101) rfl)) rfl⟩
theorem mw_X11_paste : Cond.instanceMethod yX11_paste ∈ TB ∧ Cond.selects RX11 yX11_paste yX11_paste ∈ TB ∧ Cond.initialized RX11 ∈ TB ∧ Cond.code yX11_paste cX11_paste 6 (some .int) ∈ TB := ⟨tb_m (bk_6 (List.mem_of_getElem? (i := 110) rfl)) rfl, tb_m (bk_6 (List.mem_of_getElem? (i := 111) rfl)) rfl, tb_m (bk_1 (List.mem_of_getElem? (i := 1) rfl)) rfl, tb_m (bk_6 (List.mem_of_getElem? (i := 112) rfl)) rfl⟩
set_option maxRecDepth 8000 in
theorem mw_J0_length_8abf5 : Cond.instanceMethod yJ0_length_8abf5 ∈ TB ∧ Cond.selects RJ0 yJ0_length_8abf5 yJ0_length_8abf5 ∈ TB ∧ Cond.initialized RJ0 ∈ TB ∧ Cond.code yJ0_length_8abf5 cJ0_length_8abf5 1 (some .int) ∈ TB := ⟨tb_m (bk_2 (List.mem_of_getElem? (i := 172) rfl)) rfl, tb_m (bk_2 (List.mem_of_getElem? (i := 173) rfl)) rfl, tb_m (bk_1 (List.mem_of_getElem? (i := 14) rfl)) rfl, tb_m (bk_2 (List.mem_of_getElem? (i := 174) rfl)) rfl⟩
set_option maxRecDepth 8000 in
theorem mw_J0_charAt_5068e : Cond.instanceMethod yJ0_charAt_5068e ∈ TB ∧ Cond.selects RJ0 yJ0_charAt_5068e yJ0_charAt_5068e ∈ TB ∧ Cond.initialized RJ0 ∈ TB ∧ Cond.code yJ0_charAt_5068e cJ0_charAt_5068e 2 (some .char) ∈ TB := ⟨tb_m (bk_2 (List.mem_of_getElem? (i := 182) rfl)) rfl, tb_m (bk_2 (List.mem_of_getElem? (i := 183) rfl)) rfl, tb_m (bk_1 (List.mem_of_getElem? (i := 14) rfl)) rfl, tb_m (bk_2 (List.mem_of_getElem? (i := 184) rfl)) rfl⟩
set_option maxRecDepth 8000 in
theorem mw_X0_bestSet : Cond.instanceMethod yX0_bestSet ∈ TB ∧ Cond.selects RX0 yX0_bestSet yX0_bestSet ∈ TB ∧ Cond.initialized RX0 ∈ TB ∧ Cond.code yX0_bestSet cX0_bestSet 6 (some .int) ∈ TB := ⟨tb_m (bk_5 (List.mem_of_getElem? (i := 186) rfl)) rfl, tb_m (bk_5 (List.mem_of_getElem? (i := 187) rfl)) rfl, tb_m (bk_1 (List.mem_of_getElem? (i := 11) rfl)) rfl, tb_m (bk_5 (List.mem_of_getElem? (i := 188) rfl)) rfl⟩
set_option maxRecDepth 8000 in
theorem mw_X2_reckon : Cond.instanceMethod yX2_reckon ∈ TB ∧ Cond.selects RX2 yX2_reckon yX2_reckon ∈ TB ∧ Cond.initialized RX2 ∈ TB ∧ Cond.code yX2_reckon cX2_reckon 3 none ∈ TB := ⟨tb_m (bk_3 (List.mem_of_getElem? (i := 222) rfl)) rfl, tb_m (bk_3 (List.mem_of_getElem? (i := 223) rfl)) rfl, tb_m (bk_1 (List.mem_of_getElem? (i := 6) rfl)) rfl, tb_m (bk_3 (List.mem_of_getElem? (i := 224) rfl)) rfl⟩
set_option maxRecDepth 8000 in
theorem mw_X3_bribedSet : Cond.instanceMethod yX3_bribedSet ∈ TB ∧ Cond.selects RX3 yX3_bribedSet yX3_bribedSet ∈ TB ∧ Cond.initialized RX3 ∈ TB ∧ Cond.code yX3_bribedSet cX3_bribedSet 4 (some .int) ∈ TB := ⟨tb_m (bk_4 (List.mem_of_getElem? (i := 183) rfl)) rfl, tb_m (bk_4 (List.mem_of_getElem? (i := 184) rfl)) rfl, tb_m (bk_1 (List.mem_of_getElem? (i := 7) rfl)) rfl, tb_m (bk_4 (List.mem_of_getElem? (i := 185) rfl)) rfl⟩
set_option maxRecDepth 8000 in
theorem mw_X3_guardedTrain : Cond.instanceMethod yX3_guardedTrain ∈ TB ∧ Cond.selects RX3 yX3_guardedTrain yX3_guardedTrain ∈ TB ∧ Cond.initialized RX3 ∈ TB ∧ Cond.code yX3_guardedTrain cX3_guardedTrain 7 (some .int) ∈ TB := ⟨tb_m (bk_4 (List.mem_of_getElem? (i := 200) rfl)) rfl, tb_m (bk_4 (List.mem_of_getElem? (i := 201) rfl)) rfl, tb_m (bk_1 (List.mem_of_getElem? (i := 7) rfl)) rfl, tb_m (bk_4 (List.mem_of_getElem? (i := 202) rfl)) rfl⟩
set_option maxRecDepth 8000 in
theorem mw_X3_spoiledSet : Cond.instanceMethod yX3_spoiledSet ∈ TB ∧ Cond.selects RX3 yX3_spoiledSet yX3_spoiledSet ∈ TB ∧ Cond.initialized RX3 ∈ TB ∧ Cond.code yX3_spoiledSet cX3_spoiledSet 6 (some .int) ∈ TB := ⟨tb_m (bk_4 (List.mem_of_getElem? (i := 221) rfl)) rfl, tb_m (bk_4 (List.mem_of_getElem? (i := 222) rfl)) rfl, tb_m (bk_1 (List.mem_of_getElem? (i := 7) rfl)) rfl, tb_m (bk_4 (List.mem_of_getElem? (i := 223) rfl)) rfl⟩
theorem mw_X3_meetAnswers : Cond.instanceMethod yX3_meetAnswers ∈ TB ∧ Cond.selects RX3 yX3_meetAnswers yX3_meetAnswers ∈ TB ∧ Cond.initialized RX3 ∈ TB ∧ Cond.code yX3_meetAnswers cX3_meetAnswers 6 none ∈ TB := ⟨tb_m (bk_5 (List.mem_of_getElem? (i := 0) rfl)) rfl, tb_m (List.mem_of_getElem? (i := 32) (by decide +kernel)) rfl, tb_m (bk_1 (List.mem_of_getElem? (i := 7) rfl)) rfl, tb_m (bk_5 (List.mem_of_getElem? (i := 1) rfl)) rfl⟩
theorem mw_X3_takeParts : Cond.instanceMethod yX3_takeParts ∈ TB ∧ Cond.selects RX3 yX3_takeParts yX3_takeParts ∈ TB ∧ Cond.initialized RX3 ∈ TB ∧ Cond.code yX3_takeParts cX3_takeParts 4 none ∈ TB := ⟨tb_m (bk_4 (List.mem_of_getElem? (i := 72) rfl)) rfl, tb_m (List.mem_of_getElem? (i := 23) (by decide +kernel)) rfl, tb_m (bk_1 (List.mem_of_getElem? (i := 7) rfl)) rfl, tb_m (bk_4 (List.mem_of_getElem? (i := 73) rfl)) rfl⟩
theorem mw_X4_countReadings : Cond.instanceMethod yX4_countReadings ∈ TB ∧ Cond.selects RX4 yX4_countReadings yX4_countReadings ∈ TB ∧ Cond.initialized RX4 ∈ TB ∧ Cond.code yX4_countReadings cX4_countReadings 4 (some .int) ∈ TB := ⟨tb_m (bk_5 (List.mem_of_getElem? (i := 71) rfl)) rfl, tb_m (bk_5 (List.mem_of_getElem? (i := 72) rfl)) rfl, tb_m (bk_1 (List.mem_of_getElem? (i := 9) rfl)) rfl, tb_m (bk_5 (List.mem_of_getElem? (i := 73) rfl)) rfl⟩
theorem mw_X4_loopholeMinutes : Cond.instanceMethod yX4_loopholeMinutes ∈ TB ∧ Cond.selects RX4 yX4_loopholeMinutes yX4_loopholeMinutes ∈ TB ∧ Cond.initialized RX4 ∈ TB ∧ Cond.code yX4_loopholeMinutes cX4_loopholeMinutes 4 (some .long) ∈ TB := ⟨tb_m (bk_5 (List.mem_of_getElem? (i := 89) rfl)) rfl, tb_m (bk_5 (List.mem_of_getElem? (i := 90) rfl)) rfl, tb_m (bk_1 (List.mem_of_getElem? (i := 9) rfl)) rfl, tb_m (bk_5 (List.mem_of_getElem? (i := 91) rfl)) rfl⟩
theorem mw_X4_firstSafeMinute : Cond.instanceMethod yX4_firstSafeMinute ∈ TB ∧ Cond.selects RX4 yX4_firstSafeMinute yX4_firstSafeMinute ∈ TB ∧ Cond.initialized RX4 ∈ TB ∧ Cond.code yX4_firstSafeMinute cX4_firstSafeMinute 2 (some .int) ∈ TB := ⟨tb_m (bk_5 (List.mem_of_getElem? (i := 110) rfl)) rfl, tb_m (bk_5 (List.mem_of_getElem? (i := 111) rfl)) rfl, tb_m (bk_1 (List.mem_of_getElem? (i := 9) rfl)) rfl, tb_m (bk_5 (List.mem_of_getElem? (i := 112) rfl)) rfl⟩
theorem mw_X4_closingBounds : Cond.instanceMethod yX4_closingBounds ∈ TB ∧ Cond.selects RX4 yX4_closingBounds yX4_closingBounds ∈ TB ∧ Cond.initialized RX4 ∈ TB ∧ Cond.code yX4_closingBounds cX4_closingBounds 5 (some .int) ∈ TB := ⟨tb_m (bk_5 (List.mem_of_getElem? (i := 97) rfl)) rfl, tb_m (bk_5 (List.mem_of_getElem? (i := 98) rfl)) rfl, tb_m (bk_1 (List.mem_of_getElem? (i := 9) rfl)) rfl, tb_m (bk_5 (List.mem_of_getElem? (i := 99) rfl)) rfl⟩
theorem mw_X5_settle : Cond.instanceMethod yX5_settle ∈ TB ∧ Cond.selects RX5 yX5_settle yX5_settle ∈ TB ∧ Cond.initialized RX5 ∈ TB ∧ Cond.code yX5_settle cX5_settle 6 none ∈ TB := ⟨tb_m (bk_5 (List.mem_of_getElem? (i := 40) rfl)) rfl, tb_m (bk_5 (List.mem_of_getElem? (i := 41) rfl)) rfl, tb_m (bk_1 (List.mem_of_getElem? (i := 8) rfl)) rfl, tb_m (bk_5 (List.mem_of_getElem? (i := 42) rfl)) rfl⟩
theorem mw_X6_begin : Cond.instanceMethod yX6_begin ∈ TB ∧ Cond.selects RX6 yX6_begin yX6_begin ∈ TB ∧ Cond.initialized RX6 ∈ TB ∧ Cond.code yX6_begin cX6_begin 2 none ∈ TB := ⟨tb_m (bk_3 (List.mem_of_getElem? (i := 7) rfl)) rfl, tb_m (List.mem_of_getElem? (i := 11) (by decide +kernel)) rfl, tb_m (bk_1 (List.mem_of_getElem? (i := 5) rfl)) rfl, tb_m (bk_3 (List.mem_of_getElem? (i := 8) rfl)) rfl⟩
set_option maxRecDepth 8000 in
theorem mw_X6_number : Cond.instanceMethod yX6_number ∈ TB ∧ Cond.selects RX6 yX6_number yX6_number ∈ TB ∧ Cond.initialized RX6 ∈ TB ∧ Cond.code yX6_number cX6_number 4 (some .int) ∈ TB := ⟨tb_m (bk_2 (List.mem_of_getElem? (i := 226) rfl)) rfl, tb_m (List.mem_of_getElem? (i := 8) (by decide +kernel)) rfl, tb_m (bk_1 (List.mem_of_getElem? (i := 5) rfl)) rfl, tb_m (bk_2 (List.mem_of_getElem? (i := 227) rfl)) rfl⟩
theorem mw_X6_sign : Cond.instanceMethod yX6_sign ∈ TB ∧ Cond.selects RX6 yX6_sign yX6_sign ∈ TB ∧ Cond.initialized RX6 ∈ TB ∧ Cond.code yX6_sign cX6_sign 1 none ∈ TB := ⟨tb_m (bk_3 (List.mem_of_getElem? (i := 58) rfl)) rfl, tb_m (List.mem_of_getElem? (i := 16) (by decide +kernel)) rfl, tb_m (bk_1 (List.mem_of_getElem? (i := 5) rfl)) rfl, tb_m (bk_3 (List.mem_of_getElem? (i := 59) rfl)) rfl⟩
set_option maxRecDepth 8000 in
theorem mw_X6_sees : Cond.instanceMethod yX6_sees ∈ TB ∧ Cond.selects RX6 yX6_sees yX6_sees ∈ TB ∧ Cond.initialized RX6 ∈ TB ∧ Cond.code yX6_sees cX6_sees 3 (some .boolean) ∈ TB := ⟨tb_m (bk_2 (List.mem_of_getElem? (i := 169) rfl)) rfl, tb_m (List.mem_of_getElem? (i := 6) (by decide +kernel)) rfl, tb_m (bk_1 (List.mem_of_getElem? (i := 5) rfl)) rfl, tb_m (bk_2 (List.mem_of_getElem? (i := 170) rfl)) rfl⟩
set_option maxRecDepth 8000 in
theorem mw_X8_fitting : Cond.instanceMethod yX8_fitting ∈ TB ∧ Cond.selects RX8 yX8_fitting yX8_fitting ∈ TB ∧ Cond.initialized RX8 ∈ TB ∧ Cond.code yX8_fitting cX8_fitting 4 (some .int) ∈ TB := ⟨tb_m (bk_5 (List.mem_of_getElem? (i := 139) rfl)) rfl, tb_m (bk_5 (List.mem_of_getElem? (i := 140) rfl)) rfl, tb_m (bk_1 (List.mem_of_getElem? (i := 10) rfl)) rfl, tb_m (bk_5 (List.mem_of_getElem? (i := 141) rfl)) rfl⟩
set_option maxRecDepth 8000 in
theorem mw_X8_leftAtWorst : Cond.instanceMethod yX8_leftAtWorst ∈ TB ∧ Cond.selects RX8 yX8_leftAtWorst yX8_leftAtWorst ∈ TB ∧ Cond.initialized RX8 ∈ TB ∧ Cond.code yX8_leftAtWorst cX8_leftAtWorst 5 (some .int) ∈ TB := ⟨tb_m (bk_5 (List.mem_of_getElem? (i := 158) rfl)) rfl, tb_m (bk_5 (List.mem_of_getElem? (i := 159) rfl)) rfl, tb_m (bk_1 (List.mem_of_getElem? (i := 10) rfl)) rfl, tb_m (bk_5 (List.mem_of_getElem? (i := 160) rfl)) rfl⟩
set_option maxRecDepth 8000 in
theorem mw_X8_knownToAll : Cond.instanceMethod yX8_knownToAll ∈ TB ∧ Cond.selects RX8 yX8_knownToAll yX8_knownToAll ∈ TB ∧ Cond.initialized RX8 ∈ TB ∧ Cond.code yX8_knownToAll cX8_knownToAll 5 (some .int) ∈ TB := ⟨tb_m (bk_5 (List.mem_of_getElem? (i := 173) rfl)) rfl, tb_m (bk_5 (List.mem_of_getElem? (i := 174) rfl)) rfl, tb_m (bk_1 (List.mem_of_getElem? (i := 10) rfl)) rfl, tb_m (bk_5 (List.mem_of_getElem? (i := 175) rfl)) rfl⟩
set_option maxRecDepth 8000 in
theorem mw_X8_knownToSome : Cond.instanceMethod yX8_knownToSome ∈ TB ∧ Cond.selects RX8 yX8_knownToSome yX8_knownToSome ∈ TB ∧ Cond.initialized RX8 ∈ TB ∧ Cond.code yX8_knownToSome cX8_knownToSome 5 (some .int) ∈ TB := ⟨tb_m (bk_5 (List.mem_of_getElem? (i := 178) rfl)) rfl, tb_m (bk_5 (List.mem_of_getElem? (i := 179) rfl)) rfl, tb_m (bk_1 (List.mem_of_getElem? (i := 10) rfl)) rfl, tb_m (bk_5 (List.mem_of_getElem? (i := 180) rfl)) rfl⟩
set_option maxRecDepth 8000 in
theorem mw_X11_bribe : Cond.instanceMethod yX11_bribe ∈ TB ∧ Cond.selects RX11 yX11_bribe yX11_bribe ∈ TB ∧ Cond.initialized RX11 ∈ TB ∧ Cond.code yX11_bribe cX11_bribe 2 (some .int) ∈ TB := ⟨tb_m (bk_4 (List.mem_of_getElem? (i := 179) rfl)) rfl, tb_m (bk_4 (List.mem_of_getElem? (i := 180) rfl)) rfl, tb_m (bk_1 (List.mem_of_getElem? (i := 1) rfl)) rfl, tb_m (bk_4 (List.mem_of_getElem? (i := 181) rfl)) rfl⟩
set_option maxRecDepth 8000 in
theorem mw_X11_bribed : Cond.instanceMethod yX11_bribed ∈ TB ∧ Cond.selects RX11 yX11_bribed yX11_bribed ∈ TB ∧ Cond.initialized RX11 ∈ TB ∧ Cond.code yX11_bribed cX11_bribed 2 (some .int) ∈ TB := ⟨tb_m (bk_4 (List.mem_of_getElem? (i := 192) rfl)) rfl, tb_m (bk_4 (List.mem_of_getElem? (i := 193) rfl)) rfl, tb_m (bk_1 (List.mem_of_getElem? (i := 1) rfl)) rfl, tb_m (bk_4 (List.mem_of_getElem? (i := 194) rfl)) rfl⟩
set_option maxRecDepth 8000 in
theorem mw_X11_guard : Cond.instanceMethod yX11_guard ∈ TB ∧ Cond.selects RX11 yX11_guard yX11_guard ∈ TB ∧ Cond.initialized RX11 ∈ TB ∧ Cond.code yX11_guard cX11_guard 2 (some .int) ∈ TB := ⟨tb_m (bk_4 (List.mem_of_getElem? (i := 196) rfl)) rfl, tb_m (bk_4 (List.mem_of_getElem? (i := 197) rfl)) rfl, tb_m (bk_1 (List.mem_of_getElem? (i := 1) rfl)) rfl, tb_m (bk_4 (List.mem_of_getElem? (i := 198) rfl)) rfl⟩
set_option maxRecDepth 8000 in
theorem mw_X11_guarded : Cond.instanceMethod yX11_guarded ∈ TB ∧ Cond.selects RX11 yX11_guarded yX11_guarded ∈ TB ∧ Cond.initialized RX11 ∈ TB ∧ Cond.code yX11_guarded cX11_guarded 3 (some .int) ∈ TB := ⟨tb_m (bk_4 (List.mem_of_getElem? (i := 209) rfl)) rfl, tb_m (bk_4 (List.mem_of_getElem? (i := 210) rfl)) rfl, tb_m (bk_1 (List.mem_of_getElem? (i := 1) rfl)) rfl, tb_m (bk_4 (List.mem_of_getElem? (i := 211) rfl)) rfl⟩
set_option maxRecDepth 8000 in
theorem mw_X11_spoil : Cond.instanceMethod yX11_spoil ∈ TB ∧ Cond.selects RX11 yX11_spoil yX11_spoil ∈ TB ∧ Cond.initialized RX11 ∈ TB ∧ Cond.code yX11_spoil cX11_spoil 3 (some .int) ∈ TB := ⟨tb_m (bk_4 (List.mem_of_getElem? (i := 213) rfl)) rfl, tb_m (bk_4 (List.mem_of_getElem? (i := 214) rfl)) rfl, tb_m (bk_1 (List.mem_of_getElem? (i := 1) rfl)) rfl, tb_m (bk_4 (List.mem_of_getElem? (i := 215) rfl)) rfl⟩
set_option maxRecDepth 8000 in
theorem mw_X11_spoils : Cond.instanceMethod yX11_spoils ∈ TB ∧ Cond.selects RX11 yX11_spoils yX11_spoils ∈ TB ∧ Cond.initialized RX11 ∈ TB ∧ Cond.code yX11_spoils cX11_spoils 3 (some .int) ∈ TB := ⟨tb_m (bk_4 (List.mem_of_getElem? (i := 227) rfl)) rfl, tb_m (bk_4 (List.mem_of_getElem? (i := 228) rfl)) rfl, tb_m (bk_1 (List.mem_of_getElem? (i := 1) rfl)) rfl, tb_m (bk_4 (List.mem_of_getElem? (i := 229) rfl)) rfl⟩
theorem mw_X11_hold : Cond.instanceMethod yX11_hold ∈ TB ∧ Cond.selects RX11 yX11_hold yX11_hold ∈ TB ∧ Cond.initialized RX11 ∈ TB ∧ Cond.code yX11_hold cX11_hold 3 (some .int) ∈ TB := ⟨tb_m (bk_5 (List.mem_of_getElem? (i := 33) rfl)) rfl, tb_m (bk_5 (List.mem_of_getElem? (i := 34) rfl)) rfl, tb_m (bk_1 (List.mem_of_getElem? (i := 1) rfl)) rfl, tb_m (bk_5 (List.mem_of_getElem? (i := 35) rfl)) rfl⟩
theorem mw_X11_holds : Cond.instanceMethod yX11_holds ∈ TB ∧ Cond.selects RX11 yX11_holds yX11_holds ∈ TB ∧ Cond.initialized RX11 ∈ TB ∧ Cond.code yX11_holds cX11_holds 4 (some .int) ∈ TB := ⟨tb_m (bk_5 (List.mem_of_getElem? (i := 52) rfl)) rfl, tb_m (bk_5 (List.mem_of_getElem? (i := 53) rfl)) rfl, tb_m (bk_1 (List.mem_of_getElem? (i := 1) rfl)) rfl, tb_m (bk_5 (List.mem_of_getElem? (i := 54) rfl)) rfl⟩
theorem mw_X11_reply : Cond.instanceMethod yX11_reply ∈ TB ∧ Cond.selects RX11 yX11_reply yX11_reply ∈ TB ∧ Cond.initialized RX11 ∈ TB ∧ Cond.code yX11_reply cX11_reply 4 (some .int) ∈ TB := ⟨tb_m (bk_5 (List.mem_of_getElem? (i := 59) rfl)) rfl, tb_m (bk_5 (List.mem_of_getElem? (i := 60) rfl)) rfl, tb_m (bk_1 (List.mem_of_getElem? (i := 1) rfl)) rfl, tb_m (bk_5 (List.mem_of_getElem? (i := 61) rfl)) rfl⟩
theorem mw_X11_readings : Cond.instanceMethod yX11_readings ∈ TB ∧ Cond.selects RX11 yX11_readings yX11_readings ∈ TB ∧ Cond.initialized RX11 ∈ TB ∧ Cond.code yX11_readings cX11_readings 2 (some .int) ∈ TB := ⟨tb_m (bk_5 (List.mem_of_getElem? (i := 63) rfl)) rfl, tb_m (bk_5 (List.mem_of_getElem? (i := 64) rfl)) rfl, tb_m (bk_1 (List.mem_of_getElem? (i := 1) rfl)) rfl, tb_m (bk_5 (List.mem_of_getElem? (i := 65) rfl)) rfl⟩
theorem mw_X11_loopholes : Cond.instanceMethod yX11_loopholes ∈ TB ∧ Cond.selects RX11 yX11_loopholes yX11_loopholes ∈ TB ∧ Cond.initialized RX11 ∈ TB ∧ Cond.code yX11_loopholes cX11_loopholes 1 (some .long) ∈ TB := ⟨tb_m (bk_5 (List.mem_of_getElem? (i := 85) rfl)) rfl, tb_m (bk_5 (List.mem_of_getElem? (i := 86) rfl)) rfl, tb_m (bk_1 (List.mem_of_getElem? (i := 1) rfl)) rfl, tb_m (bk_5 (List.mem_of_getElem? (i := 87) rfl)) rfl⟩
theorem mw_X11_close : Cond.instanceMethod yX11_close ∈ TB ∧ Cond.selects RX11 yX11_close yX11_close ∈ TB ∧ Cond.initialized RX11 ∈ TB ∧ Cond.code yX11_close cX11_close 3 (some .int) ∈ TB := ⟨tb_m (bk_5 (List.mem_of_getElem? (i := 93) rfl)) rfl, tb_m (bk_5 (List.mem_of_getElem? (i := 94) rfl)) rfl, tb_m (bk_1 (List.mem_of_getElem? (i := 1) rfl)) rfl, tb_m (bk_5 (List.mem_of_getElem? (i := 95) rfl)) rfl⟩
theorem mw_X11_closed : Cond.instanceMethod yX11_closed ∈ TB ∧ Cond.selects RX11 yX11_closed yX11_closed ∈ TB ∧ Cond.initialized RX11 ∈ TB ∧ Cond.code yX11_closed cX11_closed 2 (some .int) ∈ TB := ⟨tb_m (bk_5 (List.mem_of_getElem? (i := 102) rfl)) rfl, tb_m (bk_5 (List.mem_of_getElem? (i := 103) rfl)) rfl, tb_m (bk_1 (List.mem_of_getElem? (i := 1) rfl)) rfl, tb_m (bk_5 (List.mem_of_getElem? (i := 104) rfl)) rfl⟩
theorem mw_X11_signs : Cond.instanceMethod yX11_signs ∈ TB ∧ Cond.selects RX11 yX11_signs yX11_signs ∈ TB ∧ Cond.initialized RX11 ∈ TB ∧ Cond.code yX11_signs cX11_signs 1 (some .int) ∈ TB := ⟨tb_m (bk_5 (List.mem_of_getElem? (i := 106) rfl)) rfl, tb_m (bk_5 (List.mem_of_getElem? (i := 107) rfl)) rfl, tb_m (bk_1 (List.mem_of_getElem? (i := 1) rfl)) rfl, tb_m (bk_5 (List.mem_of_getElem? (i := 108) rfl)) rfl⟩
set_option maxRecDepth 8000 in
theorem mw_X11_spies : Cond.instanceMethod yX11_spies ∈ TB ∧ Cond.selects RX11 yX11_spies yX11_spies ∈ TB ∧ Cond.initialized RX11 ∈ TB ∧ Cond.code yX11_spies cX11_spies 2 (some .int) ∈ TB := ⟨tb_m (bk_5 (List.mem_of_getElem? (i := 135) rfl)) rfl, tb_m (bk_5 (List.mem_of_getElem? (i := 136) rfl)) rfl, tb_m (bk_1 (List.mem_of_getElem? (i := 1) rfl)) rfl, tb_m (bk_5 (List.mem_of_getElem? (i := 137) rfl)) rfl⟩
set_option maxRecDepth 8000 in
theorem mw_X11_known : Cond.instanceMethod yX11_known ∈ TB ∧ Cond.selects RX11 yX11_known yX11_known ∈ TB ∧ Cond.initialized RX11 ∈ TB ∧ Cond.code yX11_known cX11_known 3 (some .int) ∈ TB := ⟨tb_m (bk_5 (List.mem_of_getElem? (i := 169) rfl)) rfl, tb_m (bk_5 (List.mem_of_getElem? (i := 170) rfl)) rfl, tb_m (bk_1 (List.mem_of_getElem? (i := 1) rfl)) rfl, tb_m (bk_5 (List.mem_of_getElem? (i := 171) rfl)) rfl⟩
set_option maxRecDepth 8000 in
theorem mw_X11_grant : Cond.instanceMethod yX11_grant ∈ TB ∧ Cond.selects RX11 yX11_grant yX11_grant ∈ TB ∧ Cond.initialized RX11 ∈ TB ∧ Cond.code yX11_grant cX11_grant 1 (some .int) ∈ TB := ⟨tb_m (bk_5 (List.mem_of_getElem? (i := 182) rfl)) rfl, tb_m (bk_5 (List.mem_of_getElem? (i := 183) rfl)) rfl, tb_m (bk_1 (List.mem_of_getElem? (i := 1) rfl)) rfl, tb_m (bk_5 (List.mem_of_getElem? (i := 184) rfl)) rfl⟩
set_option maxRecDepth 8000 in
theorem mw_X11_granted : Cond.instanceMethod yX11_granted ∈ TB ∧ Cond.selects RX11 yX11_granted yX11_granted ∈ TB ∧ Cond.initialized RX11 ∈ TB ∧ Cond.code yX11_granted cX11_granted 1 (some .int) ∈ TB := ⟨tb_m (bk_5 (List.mem_of_getElem? (i := 205) rfl)) rfl, tb_m (bk_5 (List.mem_of_getElem? (i := 206) rfl)) rfl, tb_m (bk_1 (List.mem_of_getElem? (i := 1) rfl)) rfl, tb_m (bk_5 (List.mem_of_getElem? (i := 207) rfl)) rfl⟩
set_option maxRecDepth 8000 in
theorem mw_X11_halves : Cond.instanceMethod yX11_halves ∈ TB ∧ Cond.selects RX11 yX11_halves yX11_halves ∈ TB ∧ Cond.initialized RX11 ∈ TB ∧ Cond.code yX11_halves cX11_halves 1 (some .int) ∈ TB := ⟨tb_m (bk_5 (List.mem_of_getElem? (i := 209) rfl)) rfl, tb_m (bk_5 (List.mem_of_getElem? (i := 210) rfl)) rfl, tb_m (bk_1 (List.mem_of_getElem? (i := 1) rfl)) rfl, tb_m (bk_5 (List.mem_of_getElem? (i := 211) rfl)) rfl⟩
set_option maxRecDepth 8000 in
theorem mw_X11_halved : Cond.instanceMethod yX11_halved ∈ TB ∧ Cond.selects RX11 yX11_halved yX11_halved ∈ TB ∧ Cond.initialized RX11 ∈ TB ∧ Cond.code yX11_halved cX11_halved 1 (some .int) ∈ TB := ⟨tb_m (bk_5 (List.mem_of_getElem? (i := 213) rfl)) rfl, tb_m (bk_5 (List.mem_of_getElem? (i := 214) rfl)) rfl, tb_m (bk_1 (List.mem_of_getElem? (i := 1) rfl)) rfl, tb_m (bk_5 (List.mem_of_getElem? (i := 215) rfl)) rfl⟩
theorem mw_X12_is : Cond.instanceMethod yX12_is ∈ TB ∧ Cond.selects RX12 yX12_is yX12_is ∈ TB ∧ Cond.initialized RX12 ∈ TB ∧ Cond.code yX12_is cX12_is 4 (some .boolean) ∈ TB := ⟨tb_m (bk_7 (List.mem_of_getElem? (i := 49) rfl)) rfl, tb_m (List.mem_of_getElem? (i := 52) (by decide +kernel)) rfl, tb_m (bk_1 (List.mem_of_getElem? (i := 13) rfl)) rfl, tb_m (bk_7 (List.mem_of_getElem? (i := 50) rfl)) rfl⟩
theorem mw_X12_takes : Cond.instanceMethod yX12_takes ∈ TB ∧ Cond.selects RX12 yX12_takes yX12_takes ∈ TB ∧ Cond.initialized RX12 ∈ TB ∧ Cond.code yX12_takes cX12_takes 3 (some .boolean) ∈ TB := ⟨tb_m (bk_7 (List.mem_of_getElem? (i := 45) rfl)) rfl, tb_m (List.mem_of_getElem? (i := 51) (by decide +kernel)) rfl, tb_m (bk_1 (List.mem_of_getElem? (i := 13) rfl)) rfl, tb_m (bk_7 (List.mem_of_getElem? (i := 46) rfl)) rfl⟩
theorem mw_X12_needs : Cond.instanceMethod yX12_needs ∈ TB ∧ Cond.selects RX12 yX12_needs yX12_needs ∈ TB ∧ Cond.initialized RX12 ∈ TB ∧ Cond.code yX12_needs cX12_needs 2 none ∈ TB := ⟨tb_m (bk_7 (List.mem_of_getElem? (i := 41) rfl)) rfl, tb_m (List.mem_of_getElem? (i := 50) (by decide +kernel)) rfl, tb_m (bk_1 (List.mem_of_getElem? (i := 13) rfl)) rfl, tb_m (bk_7 (List.mem_of_getElem? (i := 42) rfl)) rfl⟩
theorem mw_X12_told : Cond.instanceMethod yX12_told ∈ TB ∧ Cond.selects RX12 yX12_told yX12_told ∈ TB ∧ Cond.initialized RX12 ∈ TB ∧ Cond.code yX12_told cX12_told 4 (some .int) ∈ TB := ⟨tb_m (bk_7 (List.mem_of_getElem? (i := 60) rfl)) rfl, tb_m (List.mem_of_getElem? (i := 54) (by decide +kernel)) rfl, tb_m (bk_1 (List.mem_of_getElem? (i := 13) rfl)) rfl, tb_m (bk_7 (List.mem_of_getElem? (i := 61) rfl)) rfl⟩
theorem mw_X12_readFirst : Cond.instanceMethod yX12_readFirst ∈ TB ∧ Cond.selects RX12 yX12_readFirst yX12_readFirst ∈ TB ∧ Cond.initialized RX12 ∈ TB ∧ Cond.code yX12_readFirst cX12_readFirst 1 none ∈ TB := ⟨tb_m (bk_7 (List.mem_of_getElem? (i := 36) rfl)) rfl, tb_m (List.mem_of_getElem? (i := 49) (by decide +kernel)) rfl, tb_m (bk_1 (List.mem_of_getElem? (i := 13) rfl)) rfl, tb_m (bk_7 (List.mem_of_getElem? (i := 37) rfl)) rfl⟩
theorem mw_X12_readTrain : Cond.instanceMethod yX12_readTrain ∈ TB ∧ Cond.selects RX12 yX12_readTrain yX12_readTrain ∈ TB ∧ Cond.initialized RX12 ∈ TB ∧ Cond.code yX12_readTrain cX12_readTrain 2 none ∈ TB := ⟨tb_m (bk_7 (List.mem_of_getElem? (i := 85) rfl)) rfl, tb_m (List.mem_of_getElem? (i := 58) (by decide +kernel)) rfl, tb_m (bk_1 (List.mem_of_getElem? (i := 13) rfl)) rfl, tb_m (bk_7 (List.mem_of_getElem? (i := 86) rfl)) rfl⟩
theorem mw_X12_readBounds : Cond.instanceMethod yX12_readBounds ∈ TB ∧ Cond.selects RX12 yX12_readBounds yX12_readBounds ∈ TB ∧ Cond.initialized RX12 ∈ TB ∧ Cond.code yX12_readBounds cX12_readBounds 2 none ∈ TB := ⟨tb_m (bk_7 (List.mem_of_getElem? (i := 94) rfl)) rfl, tb_m (List.mem_of_getElem? (i := 59) (by decide +kernel)) rfl, tb_m (bk_1 (List.mem_of_getElem? (i := 13) rfl)) rfl, tb_m (bk_7 (List.mem_of_getElem? (i := 95) rfl)) rfl⟩
theorem mw_X12_readAsk : Cond.instanceMethod yX12_readAsk ∈ TB ∧ Cond.selects RX12 yX12_readAsk yX12_readAsk ∈ TB ∧ Cond.initialized RX12 ∈ TB ∧ Cond.code yX12_readAsk cX12_readAsk 2 none ∈ TB := ⟨tb_m (bk_7 (List.mem_of_getElem? (i := 99) rfl)) rfl, tb_m (List.mem_of_getElem? (i := 60) (by decide +kernel)) rfl, tb_m (bk_1 (List.mem_of_getElem? (i := 13) rfl)) rfl, tb_m (bk_7 (List.mem_of_getElem? (i := 100) rfl)) rfl⟩
theorem mw_X12_readSpy : Cond.instanceMethod yX12_readSpy ∈ TB ∧ Cond.selects RX12 yX12_readSpy yX12_readSpy ∈ TB ∧ Cond.initialized RX12 ∈ TB ∧ Cond.code yX12_readSpy cX12_readSpy 3 none ∈ TB := ⟨tb_m (bk_7 (List.mem_of_getElem? (i := 106) rfl)) rfl, tb_m (List.mem_of_getElem? (i := 61) (by decide +kernel)) rfl, tb_m (bk_1 (List.mem_of_getElem? (i := 13) rfl)) rfl, tb_m (bk_7 (List.mem_of_getElem? (i := 107) rfl)) rfl⟩
theorem mw_X12_readNext : Cond.instanceMethod yX12_readNext ∈ TB ∧ Cond.selects RX12 yX12_readNext yX12_readNext ∈ TB ∧ Cond.initialized RX12 ∈ TB ∧ Cond.code yX12_readNext cX12_readNext 2 none ∈ TB := ⟨tb_m (bk_7 (List.mem_of_getElem? (i := 71) rfl)) rfl, tb_m (List.mem_of_getElem? (i := 56) (by decide +kernel)) rfl, tb_m (bk_1 (List.mem_of_getElem? (i := 13) rfl)) rfl, tb_m (bk_7 (List.mem_of_getElem? (i := 72) rfl)) rfl⟩
theorem mw_X12_readLine : Cond.instanceMethod yX12_readLine ∈ TB ∧ Cond.selects RX12 yX12_readLine yX12_readLine ∈ TB ∧ Cond.initialized RX12 ∈ TB ∧ Cond.code yX12_readLine cX12_readLine 1 none ∈ TB := ⟨tb_m (bk_7 (List.mem_of_getElem? (i := 32) rfl)) rfl, tb_m (List.mem_of_getElem? (i := 48) (by decide +kernel)) rfl, tb_m (bk_1 (List.mem_of_getElem? (i := 13) rfl)) rfl, tb_m (bk_7 (List.mem_of_getElem? (i := 33) rfl)) rfl⟩
theorem mw_X12_war : Cond.instanceMethod yX12_war ∈ TB ∧ Cond.selects RX12 yX12_war yX12_war ∈ TB ∧ Cond.initialized RX12 ∈ TB ∧ Cond.code yX12_war cX12_war 2 (some .int) ∈ TB := ⟨tb_m (bk_7 (List.mem_of_getElem? (i := 9) rfl)) rfl, tb_m (bk_7 (List.mem_of_getElem? (i := 10) rfl)) rfl, tb_m (bk_1 (List.mem_of_getElem? (i := 13) rfl)) rfl, tb_m (bk_7 (List.mem_of_getElem? (i := 11) rfl)) rfl⟩
set_option maxRecDepth 8000 in
theorem mw_X2_worstSet : Cond.instanceMethod yX2_worstSet ∈ TB ∧ Cond.selects RX2 yX2_worstSet yX2_worstSet ∈ TB ∧ Cond.initialized RX2 ∈ TB ∧ Cond.code yX2_worstSet cX2_worstSet 5 (some .int) ∈ TB := ⟨tb_m (bk_3 (List.mem_of_getElem? (i := 218) rfl)) rfl, tb_m (bk_3 (List.mem_of_getElem? (i := 219) rfl)) rfl, tb_m (bk_1 (List.mem_of_getElem? (i := 6) rfl)) rfl, tb_m (bk_3 (List.mem_of_getElem? (i := 220) rfl)) rfl⟩
theorem mw_X2_countWays : Cond.instanceMethod yX2_countWays ∈ TB ∧ Cond.selects RX2 yX2_countWays yX2_countWays ∈ TB ∧ Cond.initialized RX2 ∈ TB ∧ Cond.code yX2_countWays cX2_countWays 4 (some .int) ∈ TB := ⟨tb_m (bk_4 (List.mem_of_getElem? (i := 39) rfl)) rfl, tb_m (bk_4 (List.mem_of_getElem? (i := 40) rfl)) rfl, tb_m (bk_1 (List.mem_of_getElem? (i := 6) rfl)) rfl, tb_m (bk_4 (List.mem_of_getElem? (i := 41) rfl)) rfl⟩
theorem mw_X2_idleTrains : Cond.instanceMethod yX2_idleTrains ∈ TB ∧ Cond.selects RX2 yX2_idleTrains yX2_idleTrains ∈ TB ∧ Cond.initialized RX2 ∈ TB ∧ Cond.code yX2_idleTrains cX2_idleTrains 3 (some .int) ∈ TB := ⟨tb_m (bk_4 (List.mem_of_getElem? (i := 51) rfl)) rfl, tb_m (bk_4 (List.mem_of_getElem? (i := 52) rfl)) rfl, tb_m (bk_1 (List.mem_of_getElem? (i := 6) rfl)) rfl, tb_m (bk_4 (List.mem_of_getElem? (i := 53) rfl)) rfl⟩
theorem mw_X2_winningParts : Cond.instanceMethod yX2_winningParts ∈ TB ∧ Cond.selects RX2 yX2_winningParts yX2_winningParts ∈ TB ∧ Cond.initialized RX2 ∈ TB ∧ Cond.code yX2_winningParts cX2_winningParts 5 (some .long) ∈ TB := ⟨tb_m (bk_4 (List.mem_of_getElem? (i := 110) rfl)) rfl, tb_m (bk_4 (List.mem_of_getElem? (i := 111) rfl)) rfl, tb_m (bk_1 (List.mem_of_getElem? (i := 6) rfl)) rfl, tb_m (bk_4 (List.mem_of_getElem? (i := 112) rfl)) rfl⟩
theorem mw_X3_enoughParts : Cond.instanceMethod yX3_enoughParts ∈ TB ∧ Cond.selects RX3 yX3_enoughParts yX3_enoughParts ∈ TB ∧ Cond.initialized RX3 ∈ TB ∧ Cond.code yX3_enoughParts cX3_enoughParts 3 (some .long) ∈ TB := ⟨tb_m (bk_4 (List.mem_of_getElem? (i := 67) rfl)) rfl, tb_m (bk_4 (List.mem_of_getElem? (i := 68) rfl)) rfl, tb_m (bk_1 (List.mem_of_getElem? (i := 7) rfl)) rfl, tb_m (bk_4 (List.mem_of_getElem? (i := 69) rfl)) rfl⟩
set_option maxRecDepth 8000 in
theorem mw_X3_answeredGood : Cond.instanceMethod yX3_answeredGood ∈ TB ∧ Cond.selects RX3 yX3_answeredGood yX3_answeredGood ∈ TB ∧ Cond.initialized RX3 ∈ TB ∧ Cond.code yX3_answeredGood cX3_answeredGood 6 (some .int) ∈ TB := ⟨tb_m (bk_4 (List.mem_of_getElem? (i := 235) rfl)) rfl, tb_m (bk_4 (List.mem_of_getElem? (i := 236) rfl)) rfl, tb_m (bk_1 (List.mem_of_getElem? (i := 7) rfl)) rfl, tb_m (bk_4 (List.mem_of_getElem? (i := 237) rfl)) rfl⟩
theorem mw_X3_countRests : Cond.instanceMethod yX3_countRests ∈ TB ∧ Cond.selects RX3 yX3_countRests yX3_countRests ∈ TB ∧ Cond.initialized RX3 ∈ TB ∧ Cond.code yX3_countRests cX3_countRests 6 (some .int) ∈ TB := ⟨tb_m (bk_5 (List.mem_of_getElem? (i := 15) rfl)) rfl, tb_m (bk_5 (List.mem_of_getElem? (i := 16) rfl)) rfl, tb_m (bk_1 (List.mem_of_getElem? (i := 7) rfl)) rfl, tb_m (bk_5 (List.mem_of_getElem? (i := 17) rfl)) rfl⟩
set_option maxRecDepth 8000 in
theorem mw_X3_fitByChance : Cond.instanceMethod yX3_fitByChance ∈ TB ∧ Cond.selects RX3 yX3_fitByChance yX3_fitByChance ∈ TB ∧ Cond.initialized RX3 ∈ TB ∧ Cond.code yX3_fitByChance cX3_fitByChance 4 none ∈ TB := ⟨tb_m (bk_4 (List.mem_of_getElem? (i := 136) rfl)) rfl, tb_m (List.mem_of_getElem? (i := 26) (by decide +kernel)) rfl, tb_m (bk_1 (List.mem_of_getElem? (i := 7) rfl)) rfl, tb_m (bk_4 (List.mem_of_getElem? (i := 137) rfl)) rfl⟩
set_option maxRecDepth 8000 in
theorem mw_X6_readNeed : Cond.instanceMethod yX6_readNeed ∈ TB ∧ Cond.selects RX6 yX6_readNeed yX6_readNeed ∈ TB ∧ Cond.initialized RX6 ∈ TB ∧ Cond.code yX6_readNeed cX6_readNeed 2 none ∈ TB := ⟨tb_m (bk_2 (List.mem_of_getElem? (i := 234) rfl)) rfl, tb_m (List.mem_of_getElem? (i := 9) (by decide +kernel)) rfl, tb_m (bk_1 (List.mem_of_getElem? (i := 5) rfl)) rfl, tb_m (bk_2 (List.mem_of_getElem? (i := 235) rfl)) rfl⟩
theorem mw_X6_cell : Cond.instanceMethod yX6_cell ∈ TB ∧ Cond.selects RX6 yX6_cell yX6_cell ∈ TB ∧ Cond.initialized RX6 ∈ TB ∧ Cond.code yX6_cell cX6_cell 5 none ∈ TB := ⟨tb_m (bk_3 (List.mem_of_getElem? (i := 20) rfl)) rfl, tb_m (List.mem_of_getElem? (i := 12) (by decide +kernel)) rfl, tb_m (bk_1 (List.mem_of_getElem? (i := 5) rfl)) rfl, tb_m (bk_3 (List.mem_of_getElem? (i := 21) rfl)) rfl⟩
set_option maxRecDepth 8000 in
theorem mw_X6_word : Cond.instanceMethod yX6_word ∈ TB ∧ Cond.selects RX6 yX6_word yX6_word ∈ TB ∧ Cond.initialized RX6 ∈ TB ∧ Cond.code yX6_word cX6_word 2 none ∈ TB := ⟨tb_m (bk_2 (List.mem_of_getElem? (i := 165) rfl)) rfl, tb_m (List.mem_of_getElem? (i := 5) (by decide +kernel)) rfl, tb_m (bk_1 (List.mem_of_getElem? (i := 5) rfl)) rfl, tb_m (bk_2 (List.mem_of_getElem? (i := 166) rfl)) rfl⟩
set_option maxRecDepth 8000 in
theorem mw_X8_trainToWatch : Cond.instanceMethod yX8_trainToWatch ∈ TB ∧ Cond.selects RX8 yX8_trainToWatch yX8_trainToWatch ∈ TB ∧ Cond.initialized RX8 ∈ TB ∧ Cond.code yX8_trainToWatch cX8_trainToWatch 6 (some .int) ∈ TB := ⟨tb_m (bk_5 (List.mem_of_getElem? (i := 152) rfl)) rfl, tb_m (bk_5 (List.mem_of_getElem? (i := 153) rfl)) rfl, tb_m (bk_1 (List.mem_of_getElem? (i := 10) rfl)) rfl, tb_m (bk_5 (List.mem_of_getElem? (i := 154) rfl)) rfl⟩
set_option maxRecDepth 8000 in
theorem mw_X11_worst : Cond.instanceMethod yX11_worst ∈ TB ∧ Cond.selects RX11 yX11_worst yX11_worst ∈ TB ∧ Cond.initialized RX11 ∈ TB ∧ Cond.code yX11_worst cX11_worst 2 (some .int) ∈ TB := ⟨tb_m (bk_3 (List.mem_of_getElem? (i := 214) rfl)) rfl, tb_m (bk_3 (List.mem_of_getElem? (i := 215) rfl)) rfl, tb_m (bk_1 (List.mem_of_getElem? (i := 1) rfl)) rfl, tb_m (bk_3 (List.mem_of_getElem? (i := 216) rfl)) rfl⟩
theorem mw_X11_by : Cond.instanceMethod yX11_by ∈ TB ∧ Cond.selects RX11 yX11_by yX11_by ∈ TB ∧ Cond.initialized RX11 ∈ TB ∧ Cond.code yX11_by cX11_by 2 (some .int) ∈ TB := ⟨tb_m (bk_4 (List.mem_of_getElem? (i := 31) rfl)) rfl, tb_m (bk_4 (List.mem_of_getElem? (i := 32) rfl)) rfl, tb_m (bk_1 (List.mem_of_getElem? (i := 1) rfl)) rfl, tb_m (bk_4 (List.mem_of_getElem? (i := 33) rfl)) rfl⟩
theorem mw_X11_ways : Cond.instanceMethod yX11_ways ∈ TB ∧ Cond.selects RX11 yX11_ways yX11_ways ∈ TB ∧ Cond.initialized RX11 ∈ TB ∧ Cond.code yX11_ways cX11_ways 2 (some .int) ∈ TB := ⟨tb_m (bk_4 (List.mem_of_getElem? (i := 35) rfl)) rfl, tb_m (bk_4 (List.mem_of_getElem? (i := 36) rfl)) rfl, tb_m (bk_1 (List.mem_of_getElem? (i := 1) rfl)) rfl, tb_m (bk_4 (List.mem_of_getElem? (i := 37) rfl)) rfl⟩
theorem mw_X11_idle : Cond.instanceMethod yX11_idle ∈ TB ∧ Cond.selects RX11 yX11_idle yX11_idle ∈ TB ∧ Cond.initialized RX11 ∈ TB ∧ Cond.code yX11_idle cX11_idle 1 (some .int) ∈ TB := ⟨tb_m (bk_4 (List.mem_of_getElem? (i := 47) rfl)) rfl, tb_m (bk_4 (List.mem_of_getElem? (i := 48) rfl)) rfl, tb_m (bk_1 (List.mem_of_getElem? (i := 1) rfl)) rfl, tb_m (bk_4 (List.mem_of_getElem? (i := 49) rfl)) rfl⟩
theorem mw_X11_enough : Cond.instanceMethod yX11_enough ∈ TB ∧ Cond.selects RX11 yX11_enough yX11_enough ∈ TB ∧ Cond.initialized RX11 ∈ TB ∧ Cond.code yX11_enough cX11_enough 3 (some .long) ∈ TB := ⟨tb_m (bk_4 (List.mem_of_getElem? (i := 59) rfl)) rfl, tb_m (bk_4 (List.mem_of_getElem? (i := 60) rfl)) rfl, tb_m (bk_1 (List.mem_of_getElem? (i := 1) rfl)) rfl, tb_m (bk_4 (List.mem_of_getElem? (i := 61) rfl)) rfl⟩
theorem mw_X11_chance : Cond.instanceMethod yX11_chance ∈ TB ∧ Cond.selects RX11 yX11_chance yX11_chance ∈ TB ∧ Cond.initialized RX11 ∈ TB ∧ Cond.code yX11_chance cX11_chance 3 (some .long) ∈ TB := ⟨tb_m (bk_4 (List.mem_of_getElem? (i := 106) rfl)) rfl, tb_m (bk_4 (List.mem_of_getElem? (i := 107) rfl)) rfl, tb_m (bk_1 (List.mem_of_getElem? (i := 1) rfl)) rfl, tb_m (bk_4 (List.mem_of_getElem? (i := 108) rfl)) rfl⟩
set_option maxRecDepth 8000 in
theorem mw_X11_answer : Cond.instanceMethod yX11_answer ∈ TB ∧ Cond.selects RX11 yX11_answer yX11_answer ∈ TB ∧ Cond.initialized RX11 ∈ TB ∧ Cond.code yX11_answer cX11_answer 3 (some .int) ∈ TB := ⟨tb_m (bk_4 (List.mem_of_getElem? (i := 231) rfl)) rfl, tb_m (bk_4 (List.mem_of_getElem? (i := 232) rfl)) rfl, tb_m (bk_1 (List.mem_of_getElem? (i := 1) rfl)) rfl, tb_m (bk_4 (List.mem_of_getElem? (i := 233) rfl)) rfl⟩
theorem mw_X11_rests : Cond.instanceMethod yX11_rests ∈ TB ∧ Cond.selects RX11 yX11_rests yX11_rests ∈ TB ∧ Cond.initialized RX11 ∈ TB ∧ Cond.code yX11_rests cX11_rests 2 (some .int) ∈ TB := ⟨tb_m (bk_5 (List.mem_of_getElem? (i := 11) rfl)) rfl, tb_m (bk_5 (List.mem_of_getElem? (i := 12) rfl)) rfl, tb_m (bk_1 (List.mem_of_getElem? (i := 1) rfl)) rfl, tb_m (bk_5 (List.mem_of_getElem? (i := 13) rfl)) rfl⟩
set_option maxRecDepth 8000 in
theorem mw_X11_watch : Cond.instanceMethod yX11_watch ∈ TB ∧ Cond.selects RX11 yX11_watch yX11_watch ∈ TB ∧ Cond.initialized RX11 ∈ TB ∧ Cond.code yX11_watch cX11_watch 2 (some .int) ∈ TB := ⟨tb_m (bk_5 (List.mem_of_getElem? (i := 148) rfl)) rfl, tb_m (bk_5 (List.mem_of_getElem? (i := 149) rfl)) rfl, tb_m (bk_1 (List.mem_of_getElem? (i := 1) rfl)) rfl, tb_m (bk_5 (List.mem_of_getElem? (i := 150) rfl)) rfl⟩
set_option maxRecDepth 8000 in
theorem mw_X11_leaves : Cond.instanceMethod yX11_leaves ∈ TB ∧ Cond.selects RX11 yX11_leaves yX11_leaves ∈ TB ∧ Cond.initialized RX11 ∈ TB ∧ Cond.code yX11_leaves cX11_leaves 2 (some .int) ∈ TB := ⟨tb_m (bk_5 (List.mem_of_getElem? (i := 164) rfl)) rfl, tb_m (bk_5 (List.mem_of_getElem? (i := 165) rfl)) rfl, tb_m (bk_1 (List.mem_of_getElem? (i := 1) rfl)) rfl, tb_m (bk_5 (List.mem_of_getElem? (i := 166) rfl)) rfl⟩
set_option maxRecDepth 8000 in
theorem mw_X3_fewestSent : Cond.instanceMethod yX3_fewestSent ∈ TB ∧ Cond.selects RX3 yX3_fewestSent yX3_fewestSent ∈ TB ∧ Cond.initialized RX3 ∈ TB ∧ Cond.code yX3_fewestSent cX3_fewestSent 6 (some .int) ∈ TB := ⟨tb_m (bk_4 (List.mem_of_getElem? (i := 159) rfl)) rfl, tb_m (bk_4 (List.mem_of_getElem? (i := 160) rfl)) rfl, tb_m (bk_1 (List.mem_of_getElem? (i := 7) rfl)) rfl, tb_m (bk_4 (List.mem_of_getElem? (i := 161) rfl)) rfl⟩
set_option maxRecDepth 8000 in
theorem mw_X3_riskedSet : Cond.instanceMethod yX3_riskedSet ∈ TB ∧ Cond.selects RX3 yX3_riskedSet yX3_riskedSet ∈ TB ∧ Cond.initialized RX3 ∈ TB ∧ Cond.code yX3_riskedSet cX3_riskedSet 3 (some .int) ∈ TB := ⟨tb_m (bk_4 (List.mem_of_getElem? (i := 127) rfl)) rfl, tb_m (bk_4 (List.mem_of_getElem? (i := 128) rfl)) rfl, tb_m (bk_1 (List.mem_of_getElem? (i := 7) rfl)) rfl, tb_m (bk_4 (List.mem_of_getElem? (i := 129) rfl)) rfl⟩
set_option maxRecDepth 8000 in
theorem mw_X6_readWar : Cond.instanceMethod yX6_readWar ∈ TB ∧ Cond.selects RX6 yX6_readWar yX6_readWar ∈ TB ∧ Cond.initialized RX6 ∈ TB ∧ Cond.code yX6_readWar cX6_readWar 1 none ∈ TB := ⟨tb_m (bk_2 (List.mem_of_getElem? (i := 160) rfl)) rfl, tb_m (List.mem_of_getElem? (i := 4) (by decide +kernel)) rfl, tb_m (bk_1 (List.mem_of_getElem? (i := 5) rfl)) rfl, tb_m (bk_2 (List.mem_of_getElem? (i := 161) rfl)) rfl⟩
theorem mw_X6_readTrain : Cond.instanceMethod yX6_readTrain ∈ TB ∧ Cond.selects RX6 yX6_readTrain yX6_readTrain ∈ TB ∧ Cond.initialized RX6 ∈ TB ∧ Cond.code yX6_readTrain cX6_readTrain 1 none ∈ TB := ⟨tb_m (bk_3 (List.mem_of_getElem? (i := 3) rfl)) rfl, tb_m (List.mem_of_getElem? (i := 10) (by decide +kernel)) rfl, tb_m (bk_1 (List.mem_of_getElem? (i := 5) rfl)) rfl, tb_m (bk_3 (List.mem_of_getElem? (i := 4) rfl)) rfl⟩
theorem mw_X6_readSpan : Cond.instanceMethod yX6_readSpan ∈ TB ∧ Cond.selects RX6 yX6_readSpan yX6_readSpan ∈ TB ∧ Cond.initialized RX6 ∈ TB ∧ Cond.code yX6_readSpan cX6_readSpan 2 none ∈ TB := ⟨tb_m (bk_3 (List.mem_of_getElem? (i := 34) rfl)) rfl, tb_m (List.mem_of_getElem? (i := 13) (by decide +kernel)) rfl, tb_m (bk_1 (List.mem_of_getElem? (i := 5) rfl)) rfl, tb_m (bk_3 (List.mem_of_getElem? (i := 35) rfl)) rfl⟩
theorem mw_X6_readAsk : Cond.instanceMethod yX6_readAsk ∈ TB ∧ Cond.selects RX6 yX6_readAsk yX6_readAsk ∈ TB ∧ Cond.initialized RX6 ∈ TB ∧ Cond.code yX6_readAsk cX6_readAsk 1 none ∈ TB := ⟨tb_m (bk_3 (List.mem_of_getElem? (i := 44) rfl)) rfl, tb_m (List.mem_of_getElem? (i := 14) (by decide +kernel)) rfl, tb_m (bk_1 (List.mem_of_getElem? (i := 5) rfl)) rfl, tb_m (bk_3 (List.mem_of_getElem? (i := 45) rfl)) rfl⟩
theorem mw_X6_readSpy : Cond.instanceMethod yX6_readSpy ∈ TB ∧ Cond.selects RX6 yX6_readSpy yX6_readSpy ∈ TB ∧ Cond.initialized RX6 ∈ TB ∧ Cond.code yX6_readSpy cX6_readSpy 3 none ∈ TB := ⟨tb_m (bk_3 (List.mem_of_getElem? (i := 53) rfl)) rfl, tb_m (List.mem_of_getElem? (i := 15) (by decide +kernel)) rfl, tb_m (bk_1 (List.mem_of_getElem? (i := 5) rfl)) rfl, tb_m (bk_3 (List.mem_of_getElem? (i := 54) rfl)) rfl⟩
set_option maxRecDepth 8000 in
theorem mw_X11_fewest : Cond.instanceMethod yX11_fewest ∈ TB ∧ Cond.selects RX11 yX11_fewest yX11_fewest ∈ TB ∧ Cond.initialized RX11 ∈ TB ∧ Cond.code yX11_fewest cX11_fewest 2 (some .int) ∈ TB := ⟨tb_m (bk_4 (List.mem_of_getElem? (i := 155) rfl)) rfl, tb_m (bk_4 (List.mem_of_getElem? (i := 156) rfl)) rfl, tb_m (bk_1 (List.mem_of_getElem? (i := 1) rfl)) rfl, tb_m (bk_4 (List.mem_of_getElem? (i := 157) rfl)) rfl⟩
set_option maxRecDepth 8000 in
theorem mw_X11_risk : Cond.instanceMethod yX11_risk ∈ TB ∧ Cond.selects RX11 yX11_risk yX11_risk ∈ TB ∧ Cond.initialized RX11 ∈ TB ∧ Cond.code yX11_risk cX11_risk 3 (some .int) ∈ TB := ⟨tb_m (bk_4 (List.mem_of_getElem? (i := 163) rfl)) rfl, tb_m (bk_4 (List.mem_of_getElem? (i := 164) rfl)) rfl, tb_m (bk_1 (List.mem_of_getElem? (i := 1) rfl)) rfl, tb_m (bk_4 (List.mem_of_getElem? (i := 165) rfl)) rfl⟩
set_option maxRecDepth 8000 in
theorem mw_X11_risked : Cond.instanceMethod yX11_risked ∈ TB ∧ Cond.selects RX11 yX11_risked yX11_risked ∈ TB ∧ Cond.initialized RX11 ∈ TB ∧ Cond.code yX11_risked cX11_risked 3 (some .int) ∈ TB := ⟨tb_m (bk_4 (List.mem_of_getElem? (i := 175) rfl)) rfl, tb_m (bk_4 (List.mem_of_getElem? (i := 176) rfl)) rfl, tb_m (bk_1 (List.mem_of_getElem? (i := 1) rfl)) rfl, tb_m (bk_4 (List.mem_of_getElem? (i := 177) rfl)) rfl⟩
set_option maxRecDepth 8000 in
theorem mw_X3_sentSet : Cond.instanceMethod yX3_sentSet ∈ TB ∧ Cond.selects RX3 yX3_sentSet yX3_sentSet ∈ TB ∧ Cond.initialized RX3 ∈ TB ∧ Cond.code yX3_sentSet cX3_sentSet 2 (some .int) ∈ TB := ⟨tb_m (bk_4 (List.mem_of_getElem? (i := 123) rfl)) rfl, tb_m (bk_4 (List.mem_of_getElem? (i := 124) rfl)) rfl, tb_m (bk_1 (List.mem_of_getElem? (i := 7) rfl)) rfl, tb_m (bk_4 (List.mem_of_getElem? (i := 125) rfl)) rfl⟩
set_option maxRecDepth 8000 in
theorem mw_X6_readLine : Cond.instanceMethod yX6_readLine ∈ TB ∧ Cond.selects RX6 yX6_readLine yX6_readLine ∈ TB ∧ Cond.initialized RX6 ∈ TB ∧ Cond.code yX6_readLine cX6_readLine 1 none ∈ TB := ⟨tb_m (bk_2 (List.mem_of_getElem? (i := 156) rfl)) rfl, tb_m (List.mem_of_getElem? (i := 3) (by decide +kernel)) rfl, tb_m (bk_1 (List.mem_of_getElem? (i := 5) rfl)) rfl, tb_m (bk_2 (List.mem_of_getElem? (i := 157) rfl)) rfl⟩
set_option maxRecDepth 8000 in
theorem mw_X11_send : Cond.instanceMethod yX11_send ∈ TB ∧ Cond.selects RX11 yX11_send yX11_send ∈ TB ∧ Cond.initialized RX11 ∈ TB ∧ Cond.code yX11_send cX11_send 2 (some .int) ∈ TB := ⟨tb_m (bk_4 (List.mem_of_getElem? (i := 119) rfl)) rfl, tb_m (bk_4 (List.mem_of_getElem? (i := 120) rfl)) rfl, tb_m (bk_1 (List.mem_of_getElem? (i := 1) rfl)) rfl, tb_m (bk_4 (List.mem_of_getElem? (i := 121) rfl)) rfl⟩
set_option maxRecDepth 8000 in
theorem mw_X11_sent : Cond.instanceMethod yX11_sent ∈ TB ∧ Cond.selects RX11 yX11_sent yX11_sent ∈ TB ∧ Cond.initialized RX11 ∈ TB ∧ Cond.code yX11_sent cX11_sent 2 (some .int) ∈ TB := ⟨tb_m (bk_4 (List.mem_of_getElem? (i := 151) rfl)) rfl, tb_m (bk_4 (List.mem_of_getElem? (i := 152) rfl)) rfl, tb_m (bk_1 (List.mem_of_getElem? (i := 1) rfl)) rfl, tb_m (bk_4 (List.mem_of_getElem? (i := 153) rfl)) rfl⟩
set_option maxRecDepth 8000 in
theorem mw_X6_read : Cond.instanceMethod yX6_read ∈ TB ∧ Cond.selects RX6 yX6_read yX6_read ∈ TB ∧ Cond.initialized RX6 ∈ TB ∧ Cond.code yX6_read cX6_read 2 none ∈ TB := ⟨tb_m (bk_2 (List.mem_of_getElem? (i := 131) rfl)) rfl, tb_m (bk_2 (List.mem_of_getElem? (i := 132) rfl)) rfl, tb_m (bk_1 (List.mem_of_getElem? (i := 5) rfl)) rfl, tb_m (bk_2 (List.mem_of_getElem? (i := 133) rfl)) rfl⟩
set_option maxRecDepth 8000 in
theorem mw_X11_war : Cond.instanceMethod yX11_war ∈ TB ∧ Cond.selects RX11 yX11_war yX11_war ∈ TB ∧ Cond.initialized RX11 ∈ TB ∧ Cond.code yX11_war cX11_war 1 (some .int) ∈ TB := ⟨tb_m (bk_2 (List.mem_of_getElem? (i := 127) rfl)) rfl, tb_m (bk_2 (List.mem_of_getElem? (i := 128) rfl)) rfl, tb_m (bk_1 (List.mem_of_getElem? (i := 1) rfl)) rfl, tb_m (bk_2 (List.mem_of_getElem? (i := 129) rfl)) rfl⟩
theorem w_G {Γ Γ' : CX} {cc : ByteArray} {nL : Nat} {own : String} {ret : Option FieldType} {rm : Room} {ws : va_W} {pc : Nat} {lv : List (Nat × Value)} {st : List Value} (e : Γ = Γ') (h : WL Γ' cc nL own ret rm ws pc lv st) : WL Γ cc nL own ret rm ws pc lv st := by
  subst e
  exact h
theorem w_W {Γ : CX} {cc : ByteArray} {nL : Nat} {own : String} {ret : Option FieldType} {rm : Room} {ws ws' : va_W} {pc : Nat} {lv : List (Nat × Value)} {st : List Value} (e : ws = ws') (h : WL Γ cc nL own ret rm ws' pc lv st) : WL Γ cc nL own ret rm ws pc lv st := by
  subst e
  exact h
/-! ===== constructors ===== -/
theorem ic_bipush_61 : (Int8.ofInt (61)).toInt32 = (61 : Int32) := by decide
theorem ic_sipush_720 : (Int16.ofInt (720)).toInt32 = (720 : Int32) := by decide
theorem ml_RX11_1 : Cond.methodLink RX11 1 objectInit ∈ TB := tb_m (bk_1 (List.mem_of_getElem? (i := 27) rfl)) rfl
set_option maxRecDepth 8000 in
theorem ml_RX11_21 : Cond.methodLink RX11 21 yX6_init ∈ TB := tb_m (bk_1 (List.mem_of_getElem? (i := 140) rfl)) rfl
set_option maxRecDepth 8000 in
theorem ml_RX11_30 : Cond.methodLink RX11 30 yX2_init ∈ TB := tb_m (bk_1 (List.mem_of_getElem? (i := 178) rfl)) rfl
set_option maxRecDepth 8000 in
theorem ml_RX11_37 : Cond.methodLink RX11 37 yX3_init ∈ TB := tb_m (bk_1 (List.mem_of_getElem? (i := 203) rfl)) rfl
theorem ml_RX11_53 : Cond.methodLink RX11 53 yX4_init ∈ TB := tb_m (bk_2 (List.mem_of_getElem? (i := 21) rfl)) rfl
theorem ml_RX11_60 : Cond.methodLink RX11 60 yX8_init ∈ TB := tb_m (bk_2 (List.mem_of_getElem? (i := 31) rfl)) rfl
theorem ml_RX11_67 : Cond.methodLink RX11 67 yX0_init ∈ TB := tb_m (bk_2 (List.mem_of_getElem? (i := 41) rfl)) rfl
theorem ml_RX0_3 : Cond.methodLink RX0 3 objectInit ∈ TB := tb_m (bk_2 (List.mem_of_getElem? (i := 44) rfl)) rfl
set_option maxRecDepth 8000 in
theorem ml_RX2_3 : Cond.methodLink RX2 3 objectInit ∈ TB := tb_m (bk_1 (List.mem_of_getElem? (i := 181) rfl)) rfl
set_option maxRecDepth 8000 in
theorem ml_RX3_3 : Cond.methodLink RX3 3 objectInit ∈ TB := tb_m (bk_1 (List.mem_of_getElem? (i := 206) rfl)) rfl
theorem ml_RX4_3 : Cond.methodLink RX4 3 objectInit ∈ TB := tb_m (bk_2 (List.mem_of_getElem? (i := 24) rfl)) rfl
set_option maxRecDepth 8000 in
theorem ml_RX5_1 : Cond.methodLink RX5 1 objectInit ∈ TB := tb_m (bk_1 (List.mem_of_getElem? (i := 239) rfl)) rfl
set_option maxRecDepth 8000 in
theorem ml_RX6_3 : Cond.methodLink RX6 3 objectInit ∈ TB := tb_m (bk_1 (List.mem_of_getElem? (i := 143) rfl)) rfl
theorem ml_RX7_3 : Cond.methodLink RX7 3 objectInit ∈ TB := tb_m (bk_2 (List.mem_of_getElem? (i := 57) rfl)) rfl
theorem ml_RX8_3 : Cond.methodLink RX8 3 objectInit ∈ TB := tb_m (bk_2 (List.mem_of_getElem? (i := 34) rfl)) rfl
theorem ml_RX9_3 : Cond.methodLink RX9 3 objectInit ∈ TB := tb_m (bk_1 (List.mem_of_getElem? (i := 41) rfl)) rfl
theorem ml_RX9_9 : Cond.methodLink RX9 9 yJ9_max_7cf53 ∈ TB := tb_m (bk_1 (List.mem_of_getElem? (i := 42) rfl)) rfl
theorem ml_RX10_3 : Cond.methodLink RX10 3 objectInit ∈ TB := tb_m (bk_1 (List.mem_of_getElem? (i := 35) rfl)) rfl
theorem ml_RX10_17 : Cond.methodLink RX10 17 yX9_init ∈ TB := tb_m (bk_1 (List.mem_of_getElem? (i := 38) rfl)) rfl
set_option maxRecDepth 8000 in
theorem ml_RX12_3 : Cond.methodLink RX12 3 objectInit ∈ TB := tb_m (bk_6 (List.mem_of_getElem? (i := 127) rfl)) rfl
theorem fl_RX11_79 : Cond.fieldLink RX11 79 RX11 "images" "[LWarByHours$War;" ∈ TB := tb_m (bk_2 (List.mem_of_getElem? (i := 82) rfl)) rfl
theorem kl_RX11_7 : Cond.classLink RX11 7 RX10 ∈ TB := tb_m (bk_1 (List.mem_of_getElem? (i := 30) rfl)) rfl
set_option maxRecDepth 8000 in
theorem kl_RX11_19 : Cond.classLink RX11 19 RX6 ∈ TB := tb_m (bk_1 (List.mem_of_getElem? (i := 138) rfl)) rfl
set_option maxRecDepth 8000 in
theorem kl_RX11_28 : Cond.classLink RX11 28 RX2 ∈ TB := tb_m (bk_1 (List.mem_of_getElem? (i := 176) rfl)) rfl
set_option maxRecDepth 8000 in
theorem kl_RX11_35 : Cond.classLink RX11 35 RX3 ∈ TB := tb_m (bk_1 (List.mem_of_getElem? (i := 201) rfl)) rfl
set_option maxRecDepth 8000 in
theorem kl_RX11_44 : Cond.classLink RX11 44 RX5 ∈ TB := tb_m (bk_1 (List.mem_of_getElem? (i := 234) rfl)) rfl
theorem kl_RX11_51 : Cond.classLink RX11 51 RX4 ∈ TB := tb_m (bk_2 (List.mem_of_getElem? (i := 19) rfl)) rfl
theorem kl_RX11_58 : Cond.classLink RX11 58 RX8 ∈ TB := tb_m (bk_2 (List.mem_of_getElem? (i := 29) rfl)) rfl
theorem kl_RX11_65 : Cond.classLink RX11 65 RX0 ∈ TB := tb_m (bk_2 (List.mem_of_getElem? (i := 39) rfl)) rfl
theorem kl_RX11_72 : Cond.classLink RX11 72 RX7 ∈ TB := tb_m (bk_2 (List.mem_of_getElem? (i := 52) rfl)) rfl
theorem kl_RX10_15 : Cond.classLink RX10 15 RX9 ∈ TB := tb_m (bk_1 (List.mem_of_getElem? (i := 36) rfl)) rfl
theorem is_X11 : Cond.instantiable RX11 11 ∈ TB ∧ Cond.initialized RX11 ∈ TB := ⟨tb_m (bk_1 (List.mem_of_getElem? (i := 23) rfl)) rfl, tb_m (bk_1 (List.mem_of_getElem? (i := 1) rfl)) rfl⟩
theorem df_X11 : ∀ j, j < 11 → defaultValue (tyX11 j) = vp_V [.null, .null, .null, .null, .null, .null, .null, .null, .null, .null, .null] j := by decide +kernel
theorem is_X0 : Cond.instantiable RX0 2 ∈ TB ∧ Cond.initialized RX0 ∈ TB := ⟨tb_m (bk_2 (List.mem_of_getElem? (i := 40) rfl)) rfl, tb_m (bk_1 (List.mem_of_getElem? (i := 11) rfl)) rfl⟩
theorem df_X0 : ∀ j, j < 2 → defaultValue (tyX0 j) = vp_V [.null, .null] j := by decide +kernel
set_option maxRecDepth 8000 in
theorem is_X2 : Cond.instantiable RX2 6 ∈ TB ∧ Cond.initialized RX2 ∈ TB := ⟨tb_m (bk_1 (List.mem_of_getElem? (i := 177) rfl)) rfl, tb_m (bk_1 (List.mem_of_getElem? (i := 6) rfl)) rfl⟩
theorem df_X2 : ∀ j, j < 6 → defaultValue (tyX2 j) = vp_V [.null, .null, .null, .null, .null, .int 0] j := by decide +kernel
set_option maxRecDepth 8000 in
theorem is_X3 : Cond.instantiable RX3 8 ∈ TB ∧ Cond.initialized RX3 ∈ TB := ⟨tb_m (bk_1 (List.mem_of_getElem? (i := 202) rfl)) rfl, tb_m (bk_1 (List.mem_of_getElem? (i := 7) rfl)) rfl⟩
theorem df_X3 : ∀ j, j < 8 → defaultValue (tyX3 j) = vp_V [.null, .null, .null, .null, .null, .null, .null, .null] j := by decide +kernel
theorem is_X4 : Cond.instantiable RX4 1 ∈ TB ∧ Cond.initialized RX4 ∈ TB := ⟨tb_m (bk_2 (List.mem_of_getElem? (i := 20) rfl)) rfl, tb_m (bk_1 (List.mem_of_getElem? (i := 9) rfl)) rfl⟩
theorem df_X4 : ∀ j, j < 1 → defaultValue (tyX4 j) = vp_V [.null] j := by decide +kernel
set_option maxRecDepth 8000 in
theorem is_X5 : Cond.instantiable RX5 5 ∈ TB ∧ Cond.initialized RX5 ∈ TB := ⟨tb_m (bk_1 (List.mem_of_getElem? (i := 235) rfl)) rfl, tb_m (bk_1 (List.mem_of_getElem? (i := 8) rfl)) rfl⟩
theorem df_X5 : ∀ j, j < 5 → defaultValue (tyX5 j) = vp_V [.int 0, .null, .null, .null, .null] j := by decide +kernel
set_option maxRecDepth 8000 in
theorem is_X6 : Cond.instantiable RX6 9 ∈ TB ∧ Cond.initialized RX6 ∈ TB := ⟨tb_m (bk_1 (List.mem_of_getElem? (i := 139) rfl)) rfl, tb_m (bk_1 (List.mem_of_getElem? (i := 5) rfl)) rfl⟩
theorem df_X6 : ∀ j, j < 9 → defaultValue (tyX6 j) = vp_V [.null, .int 0, .int 0, .int 0, .null, .int 0, .int 0, .int 0, .int 0] j := by decide +kernel
theorem is_X7 : Cond.instantiable RX7 4 ∈ TB ∧ Cond.initialized RX7 ∈ TB := ⟨tb_m (bk_2 (List.mem_of_getElem? (i := 53) rfl)) rfl, tb_m (bk_1 (List.mem_of_getElem? (i := 12) rfl)) rfl⟩
theorem df_X7 : ∀ j, j < 4 → defaultValue (tyX7 j) = vp_V [.null, .null, .null, .null] j := by decide +kernel
theorem is_X8 : Cond.instantiable RX8 1 ∈ TB ∧ Cond.initialized RX8 ∈ TB := ⟨tb_m (bk_2 (List.mem_of_getElem? (i := 30) rfl)) rfl, tb_m (bk_1 (List.mem_of_getElem? (i := 10) rfl)) rfl⟩
theorem df_X8 : ∀ j, j < 1 → defaultValue (tyX8 j) = vp_V [.null] j := by decide +kernel
theorem is_X9 : Cond.instantiable RX9 4 ∈ TB ∧ Cond.initialized RX9 ∈ TB := ⟨tb_m (bk_1 (List.mem_of_getElem? (i := 37) rfl)) rfl, tb_m (bk_1 (List.mem_of_getElem? (i := 3) rfl)) rfl⟩
theorem df_X9 : ∀ j, j < 4 → defaultValue (tyX9 j) = vp_V [.int 0, .int 0, .null, .int 0] j := by decide +kernel
theorem is_X10 : Cond.instantiable RX10 12 ∈ TB ∧ Cond.initialized RX10 ∈ TB := ⟨tb_m (bk_1 (List.mem_of_getElem? (i := 31) rfl)) rfl, tb_m (bk_1 (List.mem_of_getElem? (i := 2) rfl)) rfl⟩
theorem df_X10 : ∀ j, j < 12 → defaultValue (tyX10 j) = vp_V [.int 0, .int 0, .int 0, .int 0, .int 0, .null, .null, .null, .null, .null, .null, .null] j := by decide +kernel
set_option maxRecDepth 8000 in
theorem is_X12 : Cond.instantiable RX12 32 ∈ TB ∧ Cond.initialized RX12 ∈ TB := ⟨tb_m (bk_6 (List.mem_of_getElem? (i := 123) rfl)) rfl, tb_m (bk_1 (List.mem_of_getElem? (i := 13) rfl)) rfl⟩
theorem df_X12 : ∀ j, j < 32 → defaultValue (tyX12 j) = vp_V [.int 0, .null, .null, .null, .null, .int 0, .null, .int 0, .int 0, .int 0, .int 0, .int 0, .int 0, .int 0, .null, .null, .int 0, .null, .int 0, .int 0, .int 0, .null, .int 0, .null, .null, .null, .int 0, .int 0, .null, .null, .null, .null] j := by decide +kernel
theorem ac_int : Cond.arrayClass .int ∈ TB := tb_m (bk_1 (List.mem_of_getElem? (i := 67) rfl)) rfl
set_option maxRecDepth 8000 in
theorem ac_byte : Cond.arrayClass .byte ∈ TB := tb_m (bk_1 (List.mem_of_getElem? (i := 175) rfl)) rfl
set_option maxRecDepth 8000 in
theorem ac_long : Cond.arrayClass .long ∈ TB := tb_m (bk_1 (List.mem_of_getElem? (i := 232) rfl)) rfl
set_option maxRecDepth 8000 in
theorem ac_boolean : Cond.arrayClass .boolean ∈ TB := tb_m (bk_1 (List.mem_of_getElem? (i := 233) rfl)) rfl
theorem oi_w : Cond.instanceMethod objectInit ∈ TB ∧ Cond.code objectInit ⟨#[0xb1]⟩ 1 none ∈ TB := ⟨tb_m (bk_1 (List.mem_of_getElem? (i := 28) rfl)) rfl, tb_m (bk_1 (List.mem_of_getElem? (i := 29) rfl)) rfl⟩
def rX9_init_9_6 : Room := { frames := 1, cells := 1, slots := 54, locals := 23 }
theorem mw_X9_init : Cond.instanceMethod yX9_init ∈ TB ∧ Cond.initialized yX9_init.cls ∈ TB ∧ Cond.code yX9_init cX9_init 3 none ∈ TB := ⟨tb_m (bk_1 (List.mem_of_getElem? (i := 39) rfl)) rfl, tb_m (bk_1 (List.mem_of_getElem? (i := 3) rfl)) rfl, tb_m (bk_1 (List.mem_of_getElem? (i := 40) rfl)) rfl⟩
set_option maxHeartbeats 4000000 in
set_option maxRecDepth 40000 in
theorem c_X9_init_9_6 {l : Launch} {D : va_G} {cy : Nat → ClassId} {ad : Nat → Nat} {ws : va_W} {k a : Nat} (hk : k < ws.length) : CN l D cy ad yX9_init cX9_init 3 rX9_init_9_6 [.ref a, .int (9 : Int32), .int (6 : Int32)] (cf ws k (a, .inr (8, [.int 0, .int 0, .null, .int 0])) []) (fun qs => cf ws k (a, .inr (8, [.int (6 : Int32), .int (9 : Int32), .ref (qs 0), .int 0])) [((qs 0), .inl (cy 13, 54, .inl dfI))]) := by
  refine cn_of (by decide) rfl (Nat.le_of_ble_eq_true rfl) (fun p e s m args below meth c A hin => ?_)
  refine w_aload_n 0 dX9_init_0 rfl rfl rfl ?_
  refine l_obj ml_RX9_3 oi_w (Nat.le_of_ble_eq_true rfl) ⟨Nat.le_of_ble_eq_true rfl, Nat.le_of_ble_eq_true rfl⟩ dX9_init_1 rfl ?_
  refine w_aload_n 0 dX9_init_4 rfl rfl rfl ?_
  refine w_iconst (0 : Int32) dX9_init_5 ic_iconst_0 rfl ?_
  refine w_iload_n 1 dX9_init_6 rfl rfl rfl ?_
  refine w_mmax ml_RX9_9 (Nat.le_of_ble_eq_true rfl) ⟨Nat.le_of_ble_eq_true rfl, Nat.le_of_ble_eq_true rfl⟩ dX9_init_7 rfl ?_
  refine w_nmI (fun y ey => ?_)
  have ey : y = (9 : Int32) := ey.trans (by decide)
  subst ey
  refine l_putF (j := 1) (C := RX9) (Tt := TX9) (N := 4) (ty := .int) tyX9 hk rfl (by decide) inT_X9 fl_RX9_15 rfl tyX9_ok nmX9 rfl hin rfl (by decide +kernel) rfl rfl (Nat.le_of_ble_eq_true rfl) dX9_init_10 rfl ?_
  refine w_W (ws' := cf ws k (a, .inr (8, [.int 0, .int (9 : Int32), .null, .int 0])) []) rfl ?_
  refine w_aload_n 0 dX9_init_13 rfl rfl rfl ?_
  refine w_iconst (0 : Int32) dX9_init_14 ic_iconst_0 rfl ?_
  refine w_iload_n 2 dX9_init_15 rfl rfl rfl ?_
  refine w_mmax ml_RX9_9 (Nat.le_of_ble_eq_true rfl) ⟨Nat.le_of_ble_eq_true rfl, Nat.le_of_ble_eq_true rfl⟩ dX9_init_16 rfl ?_
  refine w_nmI (fun y ey => ?_)
  have ey : y = (6 : Int32) := ey.trans (by decide)
  subst ey
  refine l_putF (j := 0) (C := RX9) (Tt := TX9) (N := 4) (ty := .int) tyX9 hk rfl (by decide) inT_X9 fl_RX9_21 rfl tyX9_ok nmX9 rfl hin rfl (by decide +kernel) rfl rfl (Nat.le_of_ble_eq_true rfl) dX9_init_19 rfl ?_
  refine w_W (ws' := cf ws k (a, .inr (8, [.int (6 : Int32), .int (9 : Int32), .null, .int 0])) []) rfl ?_
  refine w_aload_n 0 dX9_init_22 rfl rfl rfl ?_
  refine w_aload_n 0 dX9_init_23 rfl rfl rfl ?_
  refine l_get (j := 1) (C := RX9) (Tt := TX9) (N := 4) hk rfl (by decide) rfl inT_X9 fl_RX9_15 rfl dX9_init_24 rfl ?_
  refine w_aload_n 0 dX9_init_27 rfl rfl rfl ?_
  refine l_get (j := 0) (C := RX9) (Tt := TX9) (N := 4) hk rfl (by decide) rfl inT_X9 fl_RX9_21 rfl dX9_init_28 rfl ?_
  refine w_imul dX9_init_31 rfl ?_
  refine w_nmI (fun y ey => ?_)
  have ey : y = (54 : Int32) := ey.trans (by decide)
  subst ey
  refine l_newI 54 ac_int (by decide) (by decide +kernel) (by decide) ⟨Nat.le_of_ble_eq_true rfl, Nat.le_of_ble_eq_true rfl⟩ dX9_init_32 rfl (fun q32 => ?_)
  refine w_G (Γ' := (p, l, e, rX9_init_9_6, s, m, args, below, meth, c, D, cy, ad, A, 1, 54, _)) rfl ?_
  refine l_putF (j := 2) (C := RX9) (Tt := TX9) (N := 4) (ty := (.array .int)) tyX9 hk rfl (by decide) inT_X9 fl_RX9_24 rfl tyX9_ok nmX9 rfl hin rfl (by decide +kernel) rfl rfl (Nat.le_of_ble_eq_true rfl) dX9_init_34 rfl ?_
  refine w_W (ws' := cf ws k (a, .inr (8, [.int (6 : Int32), .int (9 : Int32), .ref q32, .int 0])) [(q32, .inl (cy 13, 54, .inl dfI))]) rfl ?_
  exact l_return (fun i => [q32].getD i 0) rfl rfl dX9_init_37
theorem k_X9_init_9_6 {Γ : CX} {cc : ByteArray} {nL : Nat} {own : String} {ret : Option FieldType} {rm : Room} {ws L : va_W} {k q : Nat} {T : Nat × va_E} {pc pc' idx : Nat} {lv : List (Nat × Value)} {rest : List Value} (hl : Cond.methodLink own idx yX9_init ∈ TB) (hw : (rest.map fun v => v.category).sum ≤ 8) (hR : rX9_init_9_6.frames + 1 ≤ rm.frames ∧ 8 + (3 + 11) + rX9_init_9_6.locals ≤ rm.locals) (hR2 : xk Γ + rX9_init_9_6.cells ≤ rm.cells ∧ xn Γ + rX9_init_9_6.slots ≤ rm.slots) (hd : decode cc pc = .ok (.invokespecial idx, 3)) (hp : pc + 3 = pc') (h : ∀ qs : Nat → Nat, WL (bump Γ rX9_init_9_6.cells rX9_init_9_6.slots) cc nL own ret rm (cf ws k T (L ++ [(q, .inr (8, [.int (6 : Int32), .int (9 : Int32), .ref (qs 0), .int 0]))] ++ [((qs 0), .inl (xy Γ 13, 54, .inl dfI))])) pc' lv rest) : WL Γ cc nL own ret rm (cf ws k T (L ++ [(q, .inr (8, [.int 0, .int 0, .null, .int 0]))])) pc lv (.int (6 : Int32) :: .int (9 : Int32) :: .ref q :: rest) := by
  have hc := c_X9_init_9_6 (l := xl Γ) (D := xD Γ) (cy := xy Γ) (ad := xd Γ) (ws := cf ws k T (L ++ [(q, .inr (8, [.int 0, .int 0, .null, .int 0]))])) (k := (cf ws k T L).length) (a := q) (by simp [cf])
  rw [cf_self cf_last] at hc
  simp only [cf_last_set] at hc
  exact l_callI (nn := 2) (As := [.int (9 : Int32), .int (6 : Int32)]) (rest := rest) hc hl mw_X9_init rfl (by decide +kernel) hR hR2 rfl hw hd rfl hp h
def rX9_init_4_2 : Room := { frames := 1, cells := 1, slots := 8, locals := 23 }
set_option maxHeartbeats 4000000 in
set_option maxRecDepth 40000 in
theorem c_X9_init_4_2 {l : Launch} {D : va_G} {cy : Nat → ClassId} {ad : Nat → Nat} {ws : va_W} {k a : Nat} (hk : k < ws.length) : CN l D cy ad yX9_init cX9_init 3 rX9_init_4_2 [.ref a, .int (4 : Int32), .int (2 : Int32)] (cf ws k (a, .inr (8, [.int 0, .int 0, .null, .int 0])) []) (fun qs => cf ws k (a, .inr (8, [.int (2 : Int32), .int (4 : Int32), .ref (qs 0), .int 0])) [((qs 0), .inl (cy 13, 8, .inl dfI))]) := by
  refine cn_of (by decide) rfl (Nat.le_of_ble_eq_true rfl) (fun p e s m args below meth c A hin => ?_)
  refine w_aload_n 0 dX9_init_0 rfl rfl rfl ?_
  refine l_obj ml_RX9_3 oi_w (Nat.le_of_ble_eq_true rfl) ⟨Nat.le_of_ble_eq_true rfl, Nat.le_of_ble_eq_true rfl⟩ dX9_init_1 rfl ?_
  refine w_aload_n 0 dX9_init_4 rfl rfl rfl ?_
  refine w_iconst (0 : Int32) dX9_init_5 ic_iconst_0 rfl ?_
  refine w_iload_n 1 dX9_init_6 rfl rfl rfl ?_
  refine w_mmax ml_RX9_9 (Nat.le_of_ble_eq_true rfl) ⟨Nat.le_of_ble_eq_true rfl, Nat.le_of_ble_eq_true rfl⟩ dX9_init_7 rfl ?_
  refine w_nmI (fun y ey => ?_)
  have ey : y = (4 : Int32) := ey.trans (by decide)
  subst ey
  refine l_putF (j := 1) (C := RX9) (Tt := TX9) (N := 4) (ty := .int) tyX9 hk rfl (by decide) inT_X9 fl_RX9_15 rfl tyX9_ok nmX9 rfl hin rfl (by decide +kernel) rfl rfl (Nat.le_of_ble_eq_true rfl) dX9_init_10 rfl ?_
  refine w_W (ws' := cf ws k (a, .inr (8, [.int 0, .int (4 : Int32), .null, .int 0])) []) rfl ?_
  refine w_aload_n 0 dX9_init_13 rfl rfl rfl ?_
  refine w_iconst (0 : Int32) dX9_init_14 ic_iconst_0 rfl ?_
  refine w_iload_n 2 dX9_init_15 rfl rfl rfl ?_
  refine w_mmax ml_RX9_9 (Nat.le_of_ble_eq_true rfl) ⟨Nat.le_of_ble_eq_true rfl, Nat.le_of_ble_eq_true rfl⟩ dX9_init_16 rfl ?_
  refine w_nmI (fun y ey => ?_)
  have ey : y = (2 : Int32) := ey.trans (by decide)
  subst ey
  refine l_putF (j := 0) (C := RX9) (Tt := TX9) (N := 4) (ty := .int) tyX9 hk rfl (by decide) inT_X9 fl_RX9_21 rfl tyX9_ok nmX9 rfl hin rfl (by decide +kernel) rfl rfl (Nat.le_of_ble_eq_true rfl) dX9_init_19 rfl ?_
  refine w_W (ws' := cf ws k (a, .inr (8, [.int (2 : Int32), .int (4 : Int32), .null, .int 0])) []) rfl ?_
  refine w_aload_n 0 dX9_init_22 rfl rfl rfl ?_
  refine w_aload_n 0 dX9_init_23 rfl rfl rfl ?_
  refine l_get (j := 1) (C := RX9) (Tt := TX9) (N := 4) hk rfl (by decide) rfl inT_X9 fl_RX9_15 rfl dX9_init_24 rfl ?_
  refine w_aload_n 0 dX9_init_27 rfl rfl rfl ?_
  refine l_get (j := 0) (C := RX9) (Tt := TX9) (N := 4) hk rfl (by decide) rfl inT_X9 fl_RX9_21 rfl dX9_init_28 rfl ?_
  refine w_imul dX9_init_31 rfl ?_
  refine w_nmI (fun y ey => ?_)
  have ey : y = (8 : Int32) := ey.trans (by decide)
  subst ey
  refine l_newI 8 ac_int (by decide) (by decide +kernel) (by decide) ⟨Nat.le_of_ble_eq_true rfl, Nat.le_of_ble_eq_true rfl⟩ dX9_init_32 rfl (fun q32 => ?_)
  refine w_G (Γ' := (p, l, e, rX9_init_4_2, s, m, args, below, meth, c, D, cy, ad, A, 1, 8, _)) rfl ?_
  refine l_putF (j := 2) (C := RX9) (Tt := TX9) (N := 4) (ty := (.array .int)) tyX9 hk rfl (by decide) inT_X9 fl_RX9_24 rfl tyX9_ok nmX9 rfl hin rfl (by decide +kernel) rfl rfl (Nat.le_of_ble_eq_true rfl) dX9_init_34 rfl ?_
  refine w_W (ws' := cf ws k (a, .inr (8, [.int (2 : Int32), .int (4 : Int32), .ref q32, .int 0])) [(q32, .inl (cy 13, 8, .inl dfI))]) rfl ?_
  exact l_return (fun i => [q32].getD i 0) rfl rfl dX9_init_37
theorem k_X9_init_4_2 {Γ : CX} {cc : ByteArray} {nL : Nat} {own : String} {ret : Option FieldType} {rm : Room} {ws L : va_W} {k q : Nat} {T : Nat × va_E} {pc pc' idx : Nat} {lv : List (Nat × Value)} {rest : List Value} (hl : Cond.methodLink own idx yX9_init ∈ TB) (hw : (rest.map fun v => v.category).sum ≤ 8) (hR : rX9_init_4_2.frames + 1 ≤ rm.frames ∧ 8 + (3 + 11) + rX9_init_4_2.locals ≤ rm.locals) (hR2 : xk Γ + rX9_init_4_2.cells ≤ rm.cells ∧ xn Γ + rX9_init_4_2.slots ≤ rm.slots) (hd : decode cc pc = .ok (.invokespecial idx, 3)) (hp : pc + 3 = pc') (h : ∀ qs : Nat → Nat, WL (bump Γ rX9_init_4_2.cells rX9_init_4_2.slots) cc nL own ret rm (cf ws k T (L ++ [(q, .inr (8, [.int (2 : Int32), .int (4 : Int32), .ref (qs 0), .int 0]))] ++ [((qs 0), .inl (xy Γ 13, 8, .inl dfI))])) pc' lv rest) : WL Γ cc nL own ret rm (cf ws k T (L ++ [(q, .inr (8, [.int 0, .int 0, .null, .int 0]))])) pc lv (.int (2 : Int32) :: .int (4 : Int32) :: .ref q :: rest) := by
  have hc := c_X9_init_4_2 (l := xl Γ) (D := xD Γ) (cy := xy Γ) (ad := xd Γ) (ws := cf ws k T (L ++ [(q, .inr (8, [.int 0, .int 0, .null, .int 0]))])) (k := (cf ws k T L).length) (a := q) (by simp [cf])
  rw [cf_self cf_last] at hc
  simp only [cf_last_set] at hc
  exact l_callI (nn := 2) (As := [.int (4 : Int32), .int (2 : Int32)]) (rest := rest) hc hl mw_X9_init rfl (by decide +kernel) hR hR2 rfl hw hd rfl hp h
def rX9_init_8_4 : Room := { frames := 1, cells := 1, slots := 32, locals := 23 }
set_option maxHeartbeats 4000000 in
set_option maxRecDepth 40000 in
theorem c_X9_init_8_4 {l : Launch} {D : va_G} {cy : Nat → ClassId} {ad : Nat → Nat} {ws : va_W} {k a : Nat} (hk : k < ws.length) : CN l D cy ad yX9_init cX9_init 3 rX9_init_8_4 [.ref a, .int (8 : Int32), .int (4 : Int32)] (cf ws k (a, .inr (8, [.int 0, .int 0, .null, .int 0])) []) (fun qs => cf ws k (a, .inr (8, [.int (4 : Int32), .int (8 : Int32), .ref (qs 0), .int 0])) [((qs 0), .inl (cy 13, 32, .inl dfI))]) := by
  refine cn_of (by decide) rfl (Nat.le_of_ble_eq_true rfl) (fun p e s m args below meth c A hin => ?_)
  refine w_aload_n 0 dX9_init_0 rfl rfl rfl ?_
  refine l_obj ml_RX9_3 oi_w (Nat.le_of_ble_eq_true rfl) ⟨Nat.le_of_ble_eq_true rfl, Nat.le_of_ble_eq_true rfl⟩ dX9_init_1 rfl ?_
  refine w_aload_n 0 dX9_init_4 rfl rfl rfl ?_
  refine w_iconst (0 : Int32) dX9_init_5 ic_iconst_0 rfl ?_
  refine w_iload_n 1 dX9_init_6 rfl rfl rfl ?_
  refine w_mmax ml_RX9_9 (Nat.le_of_ble_eq_true rfl) ⟨Nat.le_of_ble_eq_true rfl, Nat.le_of_ble_eq_true rfl⟩ dX9_init_7 rfl ?_
  refine w_nmI (fun y ey => ?_)
  have ey : y = (8 : Int32) := ey.trans (by decide)
  subst ey
  refine l_putF (j := 1) (C := RX9) (Tt := TX9) (N := 4) (ty := .int) tyX9 hk rfl (by decide) inT_X9 fl_RX9_15 rfl tyX9_ok nmX9 rfl hin rfl (by decide +kernel) rfl rfl (Nat.le_of_ble_eq_true rfl) dX9_init_10 rfl ?_
  refine w_W (ws' := cf ws k (a, .inr (8, [.int 0, .int (8 : Int32), .null, .int 0])) []) rfl ?_
  refine w_aload_n 0 dX9_init_13 rfl rfl rfl ?_
  refine w_iconst (0 : Int32) dX9_init_14 ic_iconst_0 rfl ?_
  refine w_iload_n 2 dX9_init_15 rfl rfl rfl ?_
  refine w_mmax ml_RX9_9 (Nat.le_of_ble_eq_true rfl) ⟨Nat.le_of_ble_eq_true rfl, Nat.le_of_ble_eq_true rfl⟩ dX9_init_16 rfl ?_
  refine w_nmI (fun y ey => ?_)
  have ey : y = (4 : Int32) := ey.trans (by decide)
  subst ey
  refine l_putF (j := 0) (C := RX9) (Tt := TX9) (N := 4) (ty := .int) tyX9 hk rfl (by decide) inT_X9 fl_RX9_21 rfl tyX9_ok nmX9 rfl hin rfl (by decide +kernel) rfl rfl (Nat.le_of_ble_eq_true rfl) dX9_init_19 rfl ?_
  refine w_W (ws' := cf ws k (a, .inr (8, [.int (4 : Int32), .int (8 : Int32), .null, .int 0])) []) rfl ?_
  refine w_aload_n 0 dX9_init_22 rfl rfl rfl ?_
  refine w_aload_n 0 dX9_init_23 rfl rfl rfl ?_
  refine l_get (j := 1) (C := RX9) (Tt := TX9) (N := 4) hk rfl (by decide) rfl inT_X9 fl_RX9_15 rfl dX9_init_24 rfl ?_
  refine w_aload_n 0 dX9_init_27 rfl rfl rfl ?_
  refine l_get (j := 0) (C := RX9) (Tt := TX9) (N := 4) hk rfl (by decide) rfl inT_X9 fl_RX9_21 rfl dX9_init_28 rfl ?_
  refine w_imul dX9_init_31 rfl ?_
  refine w_nmI (fun y ey => ?_)
  have ey : y = (32 : Int32) := ey.trans (by decide)
  subst ey
  refine l_newI 32 ac_int (by decide) (by decide +kernel) (by decide) ⟨Nat.le_of_ble_eq_true rfl, Nat.le_of_ble_eq_true rfl⟩ dX9_init_32 rfl (fun q32 => ?_)
  refine w_G (Γ' := (p, l, e, rX9_init_8_4, s, m, args, below, meth, c, D, cy, ad, A, 1, 32, _)) rfl ?_
  refine l_putF (j := 2) (C := RX9) (Tt := TX9) (N := 4) (ty := (.array .int)) tyX9 hk rfl (by decide) inT_X9 fl_RX9_24 rfl tyX9_ok nmX9 rfl hin rfl (by decide +kernel) rfl rfl (Nat.le_of_ble_eq_true rfl) dX9_init_34 rfl ?_
  refine w_W (ws' := cf ws k (a, .inr (8, [.int (4 : Int32), .int (8 : Int32), .ref q32, .int 0])) [(q32, .inl (cy 13, 32, .inl dfI))]) rfl ?_
  exact l_return (fun i => [q32].getD i 0) rfl rfl dX9_init_37
theorem k_X9_init_8_4 {Γ : CX} {cc : ByteArray} {nL : Nat} {own : String} {ret : Option FieldType} {rm : Room} {ws L : va_W} {k q : Nat} {T : Nat × va_E} {pc pc' idx : Nat} {lv : List (Nat × Value)} {rest : List Value} (hl : Cond.methodLink own idx yX9_init ∈ TB) (hw : (rest.map fun v => v.category).sum ≤ 8) (hR : rX9_init_8_4.frames + 1 ≤ rm.frames ∧ 8 + (3 + 11) + rX9_init_8_4.locals ≤ rm.locals) (hR2 : xk Γ + rX9_init_8_4.cells ≤ rm.cells ∧ xn Γ + rX9_init_8_4.slots ≤ rm.slots) (hd : decode cc pc = .ok (.invokespecial idx, 3)) (hp : pc + 3 = pc') (h : ∀ qs : Nat → Nat, WL (bump Γ rX9_init_8_4.cells rX9_init_8_4.slots) cc nL own ret rm (cf ws k T (L ++ [(q, .inr (8, [.int (4 : Int32), .int (8 : Int32), .ref (qs 0), .int 0]))] ++ [((qs 0), .inl (xy Γ 13, 32, .inl dfI))])) pc' lv rest) : WL Γ cc nL own ret rm (cf ws k T (L ++ [(q, .inr (8, [.int 0, .int 0, .null, .int 0]))])) pc lv (.int (4 : Int32) :: .int (8 : Int32) :: .ref q :: rest) := by
  have hc := c_X9_init_8_4 (l := xl Γ) (D := xD Γ) (cy := xy Γ) (ad := xd Γ) (ws := cf ws k T (L ++ [(q, .inr (8, [.int 0, .int 0, .null, .int 0]))])) (k := (cf ws k T L).length) (a := q) (by simp [cf])
  rw [cf_self cf_last] at hc
  simp only [cf_last_set] at hc
  exact l_callI (nn := 2) (As := [.int (8 : Int32), .int (4 : Int32)]) (rest := rest) hc hl mw_X9_init rfl (by decide +kernel) hR hR2 rfl hw hd rfl hp h
def rX9_init_5_1 : Room := { frames := 1, cells := 1, slots := 5, locals := 23 }
set_option maxHeartbeats 4000000 in
set_option maxRecDepth 40000 in
theorem c_X9_init_5_1 {l : Launch} {D : va_G} {cy : Nat → ClassId} {ad : Nat → Nat} {ws : va_W} {k a : Nat} (hk : k < ws.length) : CN l D cy ad yX9_init cX9_init 3 rX9_init_5_1 [.ref a, .int (5 : Int32), .int (1 : Int32)] (cf ws k (a, .inr (8, [.int 0, .int 0, .null, .int 0])) []) (fun qs => cf ws k (a, .inr (8, [.int (1 : Int32), .int (5 : Int32), .ref (qs 0), .int 0])) [((qs 0), .inl (cy 13, 5, .inl dfI))]) := by
  refine cn_of (by decide) rfl (Nat.le_of_ble_eq_true rfl) (fun p e s m args below meth c A hin => ?_)
  refine w_aload_n 0 dX9_init_0 rfl rfl rfl ?_
  refine l_obj ml_RX9_3 oi_w (Nat.le_of_ble_eq_true rfl) ⟨Nat.le_of_ble_eq_true rfl, Nat.le_of_ble_eq_true rfl⟩ dX9_init_1 rfl ?_
  refine w_aload_n 0 dX9_init_4 rfl rfl rfl ?_
  refine w_iconst (0 : Int32) dX9_init_5 ic_iconst_0 rfl ?_
  refine w_iload_n 1 dX9_init_6 rfl rfl rfl ?_
  refine w_mmax ml_RX9_9 (Nat.le_of_ble_eq_true rfl) ⟨Nat.le_of_ble_eq_true rfl, Nat.le_of_ble_eq_true rfl⟩ dX9_init_7 rfl ?_
  refine w_nmI (fun y ey => ?_)
  have ey : y = (5 : Int32) := ey.trans (by decide)
  subst ey
  refine l_putF (j := 1) (C := RX9) (Tt := TX9) (N := 4) (ty := .int) tyX9 hk rfl (by decide) inT_X9 fl_RX9_15 rfl tyX9_ok nmX9 rfl hin rfl (by decide +kernel) rfl rfl (Nat.le_of_ble_eq_true rfl) dX9_init_10 rfl ?_
  refine w_W (ws' := cf ws k (a, .inr (8, [.int 0, .int (5 : Int32), .null, .int 0])) []) rfl ?_
  refine w_aload_n 0 dX9_init_13 rfl rfl rfl ?_
  refine w_iconst (0 : Int32) dX9_init_14 ic_iconst_0 rfl ?_
  refine w_iload_n 2 dX9_init_15 rfl rfl rfl ?_
  refine w_mmax ml_RX9_9 (Nat.le_of_ble_eq_true rfl) ⟨Nat.le_of_ble_eq_true rfl, Nat.le_of_ble_eq_true rfl⟩ dX9_init_16 rfl ?_
  refine w_nmI (fun y ey => ?_)
  have ey : y = (1 : Int32) := ey.trans (by decide)
  subst ey
  refine l_putF (j := 0) (C := RX9) (Tt := TX9) (N := 4) (ty := .int) tyX9 hk rfl (by decide) inT_X9 fl_RX9_21 rfl tyX9_ok nmX9 rfl hin rfl (by decide +kernel) rfl rfl (Nat.le_of_ble_eq_true rfl) dX9_init_19 rfl ?_
  refine w_W (ws' := cf ws k (a, .inr (8, [.int (1 : Int32), .int (5 : Int32), .null, .int 0])) []) rfl ?_
  refine w_aload_n 0 dX9_init_22 rfl rfl rfl ?_
  refine w_aload_n 0 dX9_init_23 rfl rfl rfl ?_
  refine l_get (j := 1) (C := RX9) (Tt := TX9) (N := 4) hk rfl (by decide) rfl inT_X9 fl_RX9_15 rfl dX9_init_24 rfl ?_
  refine w_aload_n 0 dX9_init_27 rfl rfl rfl ?_
  refine l_get (j := 0) (C := RX9) (Tt := TX9) (N := 4) hk rfl (by decide) rfl inT_X9 fl_RX9_21 rfl dX9_init_28 rfl ?_
  refine w_imul dX9_init_31 rfl ?_
  refine w_nmI (fun y ey => ?_)
  have ey : y = (5 : Int32) := ey.trans (by decide)
  subst ey
  refine l_newI 5 ac_int (by decide) (by decide +kernel) (by decide) ⟨Nat.le_of_ble_eq_true rfl, Nat.le_of_ble_eq_true rfl⟩ dX9_init_32 rfl (fun q32 => ?_)
  refine w_G (Γ' := (p, l, e, rX9_init_5_1, s, m, args, below, meth, c, D, cy, ad, A, 1, 5, _)) rfl ?_
  refine l_putF (j := 2) (C := RX9) (Tt := TX9) (N := 4) (ty := (.array .int)) tyX9 hk rfl (by decide) inT_X9 fl_RX9_24 rfl tyX9_ok nmX9 rfl hin rfl (by decide +kernel) rfl rfl (Nat.le_of_ble_eq_true rfl) dX9_init_34 rfl ?_
  refine w_W (ws' := cf ws k (a, .inr (8, [.int (1 : Int32), .int (5 : Int32), .ref q32, .int 0])) [(q32, .inl (cy 13, 5, .inl dfI))]) rfl ?_
  exact l_return (fun i => [q32].getD i 0) rfl rfl dX9_init_37
theorem k_X9_init_5_1 {Γ : CX} {cc : ByteArray} {nL : Nat} {own : String} {ret : Option FieldType} {rm : Room} {ws L : va_W} {k q : Nat} {T : Nat × va_E} {pc pc' idx : Nat} {lv : List (Nat × Value)} {rest : List Value} (hl : Cond.methodLink own idx yX9_init ∈ TB) (hw : (rest.map fun v => v.category).sum ≤ 8) (hR : rX9_init_5_1.frames + 1 ≤ rm.frames ∧ 8 + (3 + 11) + rX9_init_5_1.locals ≤ rm.locals) (hR2 : xk Γ + rX9_init_5_1.cells ≤ rm.cells ∧ xn Γ + rX9_init_5_1.slots ≤ rm.slots) (hd : decode cc pc = .ok (.invokespecial idx, 3)) (hp : pc + 3 = pc') (h : ∀ qs : Nat → Nat, WL (bump Γ rX9_init_5_1.cells rX9_init_5_1.slots) cc nL own ret rm (cf ws k T (L ++ [(q, .inr (8, [.int (1 : Int32), .int (5 : Int32), .ref (qs 0), .int 0]))] ++ [((qs 0), .inl (xy Γ 13, 5, .inl dfI))])) pc' lv rest) : WL Γ cc nL own ret rm (cf ws k T (L ++ [(q, .inr (8, [.int 0, .int 0, .null, .int 0]))])) pc lv (.int (1 : Int32) :: .int (5 : Int32) :: .ref q :: rest) := by
  have hc := c_X9_init_5_1 (l := xl Γ) (D := xD Γ) (cy := xy Γ) (ad := xd Γ) (ws := cf ws k T (L ++ [(q, .inr (8, [.int 0, .int 0, .null, .int 0]))])) (k := (cf ws k T L).length) (a := q) (by simp [cf])
  rw [cf_self cf_last] at hc
  simp only [cf_last_set] at hc
  exact l_callI (nn := 2) (As := [.int (5 : Int32), .int (1 : Int32)]) (rest := rest) hc hl mw_X9_init rfl (by decide +kernel) hR hR2 rfl hw hd rfl hp h
def rX9_init_60_3 : Room := { frames := 1, cells := 1, slots := 180, locals := 23 }
set_option maxHeartbeats 4000000 in
set_option maxRecDepth 40000 in
theorem c_X9_init_60_3 {l : Launch} {D : va_G} {cy : Nat → ClassId} {ad : Nat → Nat} {ws : va_W} {k a : Nat} (hk : k < ws.length) : CN l D cy ad yX9_init cX9_init 3 rX9_init_60_3 [.ref a, .int (60 : Int32), .int (3 : Int32)] (cf ws k (a, .inr (8, [.int 0, .int 0, .null, .int 0])) []) (fun qs => cf ws k (a, .inr (8, [.int (3 : Int32), .int (60 : Int32), .ref (qs 0), .int 0])) [((qs 0), .inl (cy 13, 180, .inl dfI))]) := by
  refine cn_of (by decide) rfl (Nat.le_of_ble_eq_true rfl) (fun p e s m args below meth c A hin => ?_)
  refine w_aload_n 0 dX9_init_0 rfl rfl rfl ?_
  refine l_obj ml_RX9_3 oi_w (Nat.le_of_ble_eq_true rfl) ⟨Nat.le_of_ble_eq_true rfl, Nat.le_of_ble_eq_true rfl⟩ dX9_init_1 rfl ?_
  refine w_aload_n 0 dX9_init_4 rfl rfl rfl ?_
  refine w_iconst (0 : Int32) dX9_init_5 ic_iconst_0 rfl ?_
  refine w_iload_n 1 dX9_init_6 rfl rfl rfl ?_
  refine w_mmax ml_RX9_9 (Nat.le_of_ble_eq_true rfl) ⟨Nat.le_of_ble_eq_true rfl, Nat.le_of_ble_eq_true rfl⟩ dX9_init_7 rfl ?_
  refine w_nmI (fun y ey => ?_)
  have ey : y = (60 : Int32) := ey.trans (by decide)
  subst ey
  refine l_putF (j := 1) (C := RX9) (Tt := TX9) (N := 4) (ty := .int) tyX9 hk rfl (by decide) inT_X9 fl_RX9_15 rfl tyX9_ok nmX9 rfl hin rfl (by decide +kernel) rfl rfl (Nat.le_of_ble_eq_true rfl) dX9_init_10 rfl ?_
  refine w_W (ws' := cf ws k (a, .inr (8, [.int 0, .int (60 : Int32), .null, .int 0])) []) rfl ?_
  refine w_aload_n 0 dX9_init_13 rfl rfl rfl ?_
  refine w_iconst (0 : Int32) dX9_init_14 ic_iconst_0 rfl ?_
  refine w_iload_n 2 dX9_init_15 rfl rfl rfl ?_
  refine w_mmax ml_RX9_9 (Nat.le_of_ble_eq_true rfl) ⟨Nat.le_of_ble_eq_true rfl, Nat.le_of_ble_eq_true rfl⟩ dX9_init_16 rfl ?_
  refine w_nmI (fun y ey => ?_)
  have ey : y = (3 : Int32) := ey.trans (by decide)
  subst ey
  refine l_putF (j := 0) (C := RX9) (Tt := TX9) (N := 4) (ty := .int) tyX9 hk rfl (by decide) inT_X9 fl_RX9_21 rfl tyX9_ok nmX9 rfl hin rfl (by decide +kernel) rfl rfl (Nat.le_of_ble_eq_true rfl) dX9_init_19 rfl ?_
  refine w_W (ws' := cf ws k (a, .inr (8, [.int (3 : Int32), .int (60 : Int32), .null, .int 0])) []) rfl ?_
  refine w_aload_n 0 dX9_init_22 rfl rfl rfl ?_
  refine w_aload_n 0 dX9_init_23 rfl rfl rfl ?_
  refine l_get (j := 1) (C := RX9) (Tt := TX9) (N := 4) hk rfl (by decide) rfl inT_X9 fl_RX9_15 rfl dX9_init_24 rfl ?_
  refine w_aload_n 0 dX9_init_27 rfl rfl rfl ?_
  refine l_get (j := 0) (C := RX9) (Tt := TX9) (N := 4) hk rfl (by decide) rfl inT_X9 fl_RX9_21 rfl dX9_init_28 rfl ?_
  refine w_imul dX9_init_31 rfl ?_
  refine w_nmI (fun y ey => ?_)
  have ey : y = (180 : Int32) := ey.trans (by decide)
  subst ey
  refine l_newI 180 ac_int (by decide) (by decide +kernel) (by decide) ⟨Nat.le_of_ble_eq_true rfl, Nat.le_of_ble_eq_true rfl⟩ dX9_init_32 rfl (fun q32 => ?_)
  refine w_G (Γ' := (p, l, e, rX9_init_60_3, s, m, args, below, meth, c, D, cy, ad, A, 1, 180, _)) rfl ?_
  refine l_putF (j := 2) (C := RX9) (Tt := TX9) (N := 4) (ty := (.array .int)) tyX9 hk rfl (by decide) inT_X9 fl_RX9_24 rfl tyX9_ok nmX9 rfl hin rfl (by decide +kernel) rfl rfl (Nat.le_of_ble_eq_true rfl) dX9_init_34 rfl ?_
  refine w_W (ws' := cf ws k (a, .inr (8, [.int (3 : Int32), .int (60 : Int32), .ref q32, .int 0])) [(q32, .inl (cy 13, 180, .inl dfI))]) rfl ?_
  exact l_return (fun i => [q32].getD i 0) rfl rfl dX9_init_37
theorem k_X9_init_60_3 {Γ : CX} {cc : ByteArray} {nL : Nat} {own : String} {ret : Option FieldType} {rm : Room} {ws L : va_W} {k q : Nat} {T : Nat × va_E} {pc pc' idx : Nat} {lv : List (Nat × Value)} {rest : List Value} (hl : Cond.methodLink own idx yX9_init ∈ TB) (hw : (rest.map fun v => v.category).sum ≤ 8) (hR : rX9_init_60_3.frames + 1 ≤ rm.frames ∧ 8 + (3 + 11) + rX9_init_60_3.locals ≤ rm.locals) (hR2 : xk Γ + rX9_init_60_3.cells ≤ rm.cells ∧ xn Γ + rX9_init_60_3.slots ≤ rm.slots) (hd : decode cc pc = .ok (.invokespecial idx, 3)) (hp : pc + 3 = pc') (h : ∀ qs : Nat → Nat, WL (bump Γ rX9_init_60_3.cells rX9_init_60_3.slots) cc nL own ret rm (cf ws k T (L ++ [(q, .inr (8, [.int (3 : Int32), .int (60 : Int32), .ref (qs 0), .int 0]))] ++ [((qs 0), .inl (xy Γ 13, 180, .inl dfI))])) pc' lv rest) : WL Γ cc nL own ret rm (cf ws k T (L ++ [(q, .inr (8, [.int 0, .int 0, .null, .int 0]))])) pc lv (.int (3 : Int32) :: .int (60 : Int32) :: .ref q :: rest) := by
  have hc := c_X9_init_60_3 (l := xl Γ) (D := xD Γ) (cy := xy Γ) (ad := xd Γ) (ws := cf ws k T (L ++ [(q, .inr (8, [.int 0, .int 0, .null, .int 0]))])) (k := (cf ws k T L).length) (a := q) (by simp [cf])
  rw [cf_self cf_last] at hc
  simp only [cf_last_set] at hc
  exact l_callI (nn := 2) (As := [.int (60 : Int32), .int (3 : Int32)]) (rest := rest) hc hl mw_X9_init rfl (by decide +kernel) hR hR2 rfl hw hd rfl hp h
def rX10_init : Room := { frames := 2, cells := 13, slots := 313, locals := 45 }
theorem mw_X10_init : Cond.instanceMethod yX10_init ∈ TB ∧ Cond.initialized yX10_init.cls ∈ TB ∧ Cond.code yX10_init cX10_init 1 none ∈ TB := ⟨tb_m (bk_1 (List.mem_of_getElem? (i := 33) rfl)) rfl, tb_m (bk_1 (List.mem_of_getElem? (i := 2) rfl)) rfl, tb_m (bk_1 (List.mem_of_getElem? (i := 34) rfl)) rfl⟩
set_option maxHeartbeats 4000000 in
set_option maxRecDepth 40000 in
theorem c_X10_init {l : Launch} {D : va_G} {cy : Nat → ClassId} {ad : Nat → Nat} {ws : va_W} {k a : Nat} (hk : k < ws.length) : CN l D cy ad yX10_init cX10_init 1 rX10_init [.ref a] (cf ws k (a, .inr (9, [.int 0, .int 0, .int 0, .int 0, .int 0, .null, .null, .null, .null, .null, .null, .null])) []) (fun qs => cf ws k (a, .inr (9, [.int 0, .int 0, .int 0, .int 0, .int 0, .ref (qs 0), .ref (qs 1), .ref (qs 3), .ref (qs 5), .ref (qs 7), .ref (qs 9), .ref (qs 11)])) [((qs 0), .inl (cy 13, 2, .inl dfI)), ((qs 1), .inr (8, [.int (6 : Int32), .int (9 : Int32), .ref (qs 2), .int 0])), ((qs 2), .inl (cy 13, 54, .inl dfI)), ((qs 3), .inr (8, [.int (2 : Int32), .int (4 : Int32), .ref (qs 4), .int 0])), ((qs 4), .inl (cy 13, 8, .inl dfI)), ((qs 5), .inr (8, [.int (4 : Int32), .int (8 : Int32), .ref (qs 6), .int 0])), ((qs 6), .inl (cy 13, 32, .inl dfI)), ((qs 7), .inr (8, [.int (2 : Int32), .int (4 : Int32), .ref (qs 8), .int 0])), ((qs 8), .inl (cy 13, 8, .inl dfI)), ((qs 9), .inr (8, [.int (1 : Int32), .int (5 : Int32), .ref (qs 10), .int 0])), ((qs 10), .inl (cy 13, 5, .inl dfI)), ((qs 11), .inr (8, [.int (3 : Int32), .int (60 : Int32), .ref (qs 12), .int 0])), ((qs 12), .inl (cy 13, 180, .inl dfI))]) := by
  refine cn_of (by decide) rfl (Nat.le_of_ble_eq_true rfl) (fun p e s m args below meth c A hin => ?_)
  refine w_aload_n 0 dX10_init_0 rfl rfl rfl ?_
  refine l_obj ml_RX10_3 oi_w (Nat.le_of_ble_eq_true rfl) ⟨Nat.le_of_ble_eq_true rfl, Nat.le_of_ble_eq_true rfl⟩ dX10_init_1 rfl ?_
  refine w_aload_n 0 dX10_init_4 rfl rfl rfl ?_
  refine w_iconst (2 : Int32) dX10_init_5 ic_iconst_2 rfl ?_
  refine l_newI 2 ac_int (by decide) (by decide +kernel) (by decide) ⟨Nat.le_of_ble_eq_true rfl, Nat.le_of_ble_eq_true rfl⟩ dX10_init_6 rfl (fun q6 => ?_)
  refine w_G (Γ' := (p, l, e, rX10_init, s, m, args, below, meth, c, D, cy, ad, A, 1, 2, _)) rfl ?_
  refine l_putF (j := 5) (C := RX10) (Tt := TX10) (N := 12) (ty := (.array .int)) tyX10 hk rfl (by decide) inT_X10 fl_RX10_9 rfl tyX10_ok nmX10 rfl hin rfl (by decide +kernel) rfl rfl (Nat.le_of_ble_eq_true rfl) dX10_init_8 rfl ?_
  refine w_W (ws' := cf ws k (a, .inr (9, [.int 0, .int 0, .int 0, .int 0, .int 0, .ref q6, .null, .null, .null, .null, .null, .null])) [(q6, .inl (cy 13, 2, .inl dfI))]) rfl ?_
  refine w_aload_n 0 dX10_init_11 rfl rfl rfl ?_
  refine l_new (ci := 8) [.int 0, .int 0, .null, .int 0] tyX9 rfl inT_X9 tyX9_ok ⟨kl_RX10_15, is_X9⟩ df_X9 ⟨Nat.le_of_ble_eq_true rfl, Nat.le_of_ble_eq_true rfl⟩ dX10_init_12 rfl (fun q12 => ?_)
  refine w_G (Γ' := (p, l, e, rX10_init, s, m, args, below, meth, c, D, cy, ad, A, 2, 6, _)) rfl ?_
  refine w_dup dX10_init_15 rfl rfl ?_
  refine w_bipush (9 : Int32) dX10_init_16 ic_bipush_9 rfl ?_
  refine w_bipush (6 : Int32) dX10_init_18 ic_bipush_6 rfl ?_
  refine k_X9_init_9_6 ml_RX10_17 (Nat.le_of_ble_eq_true rfl) ⟨Nat.le_of_ble_eq_true rfl, Nat.le_of_ble_eq_true rfl⟩ ⟨Nat.le_of_ble_eq_true rfl, Nat.le_of_ble_eq_true rfl⟩ dX10_init_20 rfl (fun u20 => ?_)
  refine w_G (Γ' := (p, l, e, rX10_init, s, m, args, below, meth, c, D, cy, ad, A, 3, 60, _)) rfl ?_
  refine l_putF (j := 6) (C := RX10) (Tt := TX10) (N := 12) (ty := (.object RX9)) tyX10 hk rfl (by decide) inT_X10 fl_RX10_20 rfl tyX10_ok nmX10 rfl hin rfl (by decide +kernel) rfl rfl (Nat.le_of_ble_eq_true rfl) dX10_init_23 rfl ?_
  refine w_W (ws' := cf ws k (a, .inr (9, [.int 0, .int 0, .int 0, .int 0, .int 0, .ref q6, .ref q12, .null, .null, .null, .null, .null])) [(q6, .inl (cy 13, 2, .inl dfI)), (q12, .inr (8, [.int (6 : Int32), .int (9 : Int32), .ref (u20 0), .int 0])), ((u20 0), .inl (cy 13, 54, .inl dfI))]) rfl ?_
  refine w_aload_n 0 dX10_init_26 rfl rfl rfl ?_
  refine l_new (ci := 8) [.int 0, .int 0, .null, .int 0] tyX9 rfl inT_X9 tyX9_ok ⟨kl_RX10_15, is_X9⟩ df_X9 ⟨Nat.le_of_ble_eq_true rfl, Nat.le_of_ble_eq_true rfl⟩ dX10_init_27 rfl (fun q27 => ?_)
  refine w_G (Γ' := (p, l, e, rX10_init, s, m, args, below, meth, c, D, cy, ad, A, 4, 64, _)) rfl ?_
  refine w_dup dX10_init_30 rfl rfl ?_
  refine w_iconst (4 : Int32) dX10_init_31 ic_iconst_4 rfl ?_
  refine w_iconst (2 : Int32) dX10_init_32 ic_iconst_2 rfl ?_
  refine k_X9_init_4_2 ml_RX10_17 (Nat.le_of_ble_eq_true rfl) ⟨Nat.le_of_ble_eq_true rfl, Nat.le_of_ble_eq_true rfl⟩ ⟨Nat.le_of_ble_eq_true rfl, Nat.le_of_ble_eq_true rfl⟩ dX10_init_33 rfl (fun u33 => ?_)
  refine w_G (Γ' := (p, l, e, rX10_init, s, m, args, below, meth, c, D, cy, ad, A, 5, 72, _)) rfl ?_
  refine l_putF (j := 7) (C := RX10) (Tt := TX10) (N := 12) (ty := (.object RX9)) tyX10 hk rfl (by decide) inT_X10 fl_RX10_24 rfl tyX10_ok nmX10 rfl hin rfl (by decide +kernel) rfl rfl (Nat.le_of_ble_eq_true rfl) dX10_init_36 rfl ?_
  refine w_W (ws' := cf ws k (a, .inr (9, [.int 0, .int 0, .int 0, .int 0, .int 0, .ref q6, .ref q12, .ref q27, .null, .null, .null, .null])) [(q6, .inl (cy 13, 2, .inl dfI)), (q12, .inr (8, [.int (6 : Int32), .int (9 : Int32), .ref (u20 0), .int 0])), ((u20 0), .inl (cy 13, 54, .inl dfI)), (q27, .inr (8, [.int (2 : Int32), .int (4 : Int32), .ref (u33 0), .int 0])), ((u33 0), .inl (cy 13, 8, .inl dfI))]) rfl ?_
  refine w_aload_n 0 dX10_init_39 rfl rfl rfl ?_
  refine l_new (ci := 8) [.int 0, .int 0, .null, .int 0] tyX9 rfl inT_X9 tyX9_ok ⟨kl_RX10_15, is_X9⟩ df_X9 ⟨Nat.le_of_ble_eq_true rfl, Nat.le_of_ble_eq_true rfl⟩ dX10_init_40 rfl (fun q40 => ?_)
  refine w_G (Γ' := (p, l, e, rX10_init, s, m, args, below, meth, c, D, cy, ad, A, 6, 76, _)) rfl ?_
  refine w_dup dX10_init_43 rfl rfl ?_
  refine w_bipush (8 : Int32) dX10_init_44 ic_bipush_8 rfl ?_
  refine w_iconst (4 : Int32) dX10_init_46 ic_iconst_4 rfl ?_
  refine k_X9_init_8_4 ml_RX10_17 (Nat.le_of_ble_eq_true rfl) ⟨Nat.le_of_ble_eq_true rfl, Nat.le_of_ble_eq_true rfl⟩ ⟨Nat.le_of_ble_eq_true rfl, Nat.le_of_ble_eq_true rfl⟩ dX10_init_47 rfl (fun u47 => ?_)
  refine w_G (Γ' := (p, l, e, rX10_init, s, m, args, below, meth, c, D, cy, ad, A, 7, 108, _)) rfl ?_
  refine l_putF (j := 8) (C := RX10) (Tt := TX10) (N := 12) (ty := (.object RX9)) tyX10 hk rfl (by decide) inT_X10 fl_RX10_27 rfl tyX10_ok nmX10 rfl hin rfl (by decide +kernel) rfl rfl (Nat.le_of_ble_eq_true rfl) dX10_init_50 rfl ?_
  refine w_W (ws' := cf ws k (a, .inr (9, [.int 0, .int 0, .int 0, .int 0, .int 0, .ref q6, .ref q12, .ref q27, .ref q40, .null, .null, .null])) [(q6, .inl (cy 13, 2, .inl dfI)), (q12, .inr (8, [.int (6 : Int32), .int (9 : Int32), .ref (u20 0), .int 0])), ((u20 0), .inl (cy 13, 54, .inl dfI)), (q27, .inr (8, [.int (2 : Int32), .int (4 : Int32), .ref (u33 0), .int 0])), ((u33 0), .inl (cy 13, 8, .inl dfI)), (q40, .inr (8, [.int (4 : Int32), .int (8 : Int32), .ref (u47 0), .int 0])), ((u47 0), .inl (cy 13, 32, .inl dfI))]) rfl ?_
  refine w_aload_n 0 dX10_init_53 rfl rfl rfl ?_
  refine l_new (ci := 8) [.int 0, .int 0, .null, .int 0] tyX9 rfl inT_X9 tyX9_ok ⟨kl_RX10_15, is_X9⟩ df_X9 ⟨Nat.le_of_ble_eq_true rfl, Nat.le_of_ble_eq_true rfl⟩ dX10_init_54 rfl (fun q54 => ?_)
  refine w_G (Γ' := (p, l, e, rX10_init, s, m, args, below, meth, c, D, cy, ad, A, 8, 112, _)) rfl ?_
  refine w_dup dX10_init_57 rfl rfl ?_
  refine w_iconst (4 : Int32) dX10_init_58 ic_iconst_4 rfl ?_
  refine w_iconst (2 : Int32) dX10_init_59 ic_iconst_2 rfl ?_
  refine k_X9_init_4_2 ml_RX10_17 (Nat.le_of_ble_eq_true rfl) ⟨Nat.le_of_ble_eq_true rfl, Nat.le_of_ble_eq_true rfl⟩ ⟨Nat.le_of_ble_eq_true rfl, Nat.le_of_ble_eq_true rfl⟩ dX10_init_60 rfl (fun u60 => ?_)
  refine w_G (Γ' := (p, l, e, rX10_init, s, m, args, below, meth, c, D, cy, ad, A, 9, 120, _)) rfl ?_
  refine l_putF (j := 9) (C := RX10) (Tt := TX10) (N := 12) (ty := (.object RX9)) tyX10 hk rfl (by decide) inT_X10 fl_RX10_30 rfl tyX10_ok nmX10 rfl hin rfl (by decide +kernel) rfl rfl (Nat.le_of_ble_eq_true rfl) dX10_init_63 rfl ?_
  refine w_W (ws' := cf ws k (a, .inr (9, [.int 0, .int 0, .int 0, .int 0, .int 0, .ref q6, .ref q12, .ref q27, .ref q40, .ref q54, .null, .null])) [(q6, .inl (cy 13, 2, .inl dfI)), (q12, .inr (8, [.int (6 : Int32), .int (9 : Int32), .ref (u20 0), .int 0])), ((u20 0), .inl (cy 13, 54, .inl dfI)), (q27, .inr (8, [.int (2 : Int32), .int (4 : Int32), .ref (u33 0), .int 0])), ((u33 0), .inl (cy 13, 8, .inl dfI)), (q40, .inr (8, [.int (4 : Int32), .int (8 : Int32), .ref (u47 0), .int 0])), ((u47 0), .inl (cy 13, 32, .inl dfI)), (q54, .inr (8, [.int (2 : Int32), .int (4 : Int32), .ref (u60 0), .int 0])), ((u60 0), .inl (cy 13, 8, .inl dfI))]) rfl ?_
  refine w_aload_n 0 dX10_init_66 rfl rfl rfl ?_
  refine l_new (ci := 8) [.int 0, .int 0, .null, .int 0] tyX9 rfl inT_X9 tyX9_ok ⟨kl_RX10_15, is_X9⟩ df_X9 ⟨Nat.le_of_ble_eq_true rfl, Nat.le_of_ble_eq_true rfl⟩ dX10_init_67 rfl (fun q67 => ?_)
  refine w_G (Γ' := (p, l, e, rX10_init, s, m, args, below, meth, c, D, cy, ad, A, 10, 124, _)) rfl ?_
  refine w_dup dX10_init_70 rfl rfl ?_
  refine w_iconst (5 : Int32) dX10_init_71 ic_iconst_5 rfl ?_
  refine w_iconst (1 : Int32) dX10_init_72 ic_iconst_1 rfl ?_
  refine k_X9_init_5_1 ml_RX10_17 (Nat.le_of_ble_eq_true rfl) ⟨Nat.le_of_ble_eq_true rfl, Nat.le_of_ble_eq_true rfl⟩ ⟨Nat.le_of_ble_eq_true rfl, Nat.le_of_ble_eq_true rfl⟩ dX10_init_73 rfl (fun u73 => ?_)
  refine w_G (Γ' := (p, l, e, rX10_init, s, m, args, below, meth, c, D, cy, ad, A, 11, 129, _)) rfl ?_
  refine l_putF (j := 10) (C := RX10) (Tt := TX10) (N := 12) (ty := (.object RX9)) tyX10 hk rfl (by decide) inT_X10 fl_RX10_33 rfl tyX10_ok nmX10 rfl hin rfl (by decide +kernel) rfl rfl (Nat.le_of_ble_eq_true rfl) dX10_init_76 rfl ?_
  refine w_W (ws' := cf ws k (a, .inr (9, [.int 0, .int 0, .int 0, .int 0, .int 0, .ref q6, .ref q12, .ref q27, .ref q40, .ref q54, .ref q67, .null])) [(q6, .inl (cy 13, 2, .inl dfI)), (q12, .inr (8, [.int (6 : Int32), .int (9 : Int32), .ref (u20 0), .int 0])), ((u20 0), .inl (cy 13, 54, .inl dfI)), (q27, .inr (8, [.int (2 : Int32), .int (4 : Int32), .ref (u33 0), .int 0])), ((u33 0), .inl (cy 13, 8, .inl dfI)), (q40, .inr (8, [.int (4 : Int32), .int (8 : Int32), .ref (u47 0), .int 0])), ((u47 0), .inl (cy 13, 32, .inl dfI)), (q54, .inr (8, [.int (2 : Int32), .int (4 : Int32), .ref (u60 0), .int 0])), ((u60 0), .inl (cy 13, 8, .inl dfI)), (q67, .inr (8, [.int (1 : Int32), .int (5 : Int32), .ref (u73 0), .int 0])), ((u73 0), .inl (cy 13, 5, .inl dfI))]) rfl ?_
  refine w_aload_n 0 dX10_init_79 rfl rfl rfl ?_
  refine l_new (ci := 8) [.int 0, .int 0, .null, .int 0] tyX9 rfl inT_X9 tyX9_ok ⟨kl_RX10_15, is_X9⟩ df_X9 ⟨Nat.le_of_ble_eq_true rfl, Nat.le_of_ble_eq_true rfl⟩ dX10_init_80 rfl (fun q80 => ?_)
  refine w_G (Γ' := (p, l, e, rX10_init, s, m, args, below, meth, c, D, cy, ad, A, 12, 133, _)) rfl ?_
  refine w_dup dX10_init_83 rfl rfl ?_
  refine w_bipush (60 : Int32) dX10_init_84 ic_bipush_60 rfl ?_
  refine w_iconst (3 : Int32) dX10_init_86 ic_iconst_3 rfl ?_
  refine k_X9_init_60_3 ml_RX10_17 (Nat.le_of_ble_eq_true rfl) ⟨Nat.le_of_ble_eq_true rfl, Nat.le_of_ble_eq_true rfl⟩ ⟨Nat.le_of_ble_eq_true rfl, Nat.le_of_ble_eq_true rfl⟩ dX10_init_87 rfl (fun u87 => ?_)
  refine w_G (Γ' := (p, l, e, rX10_init, s, m, args, below, meth, c, D, cy, ad, A, 13, 313, _)) rfl ?_
  refine l_putF (j := 11) (C := RX10) (Tt := TX10) (N := 12) (ty := (.object RX9)) tyX10 hk rfl (by decide) inT_X10 fl_RX10_36 rfl tyX10_ok nmX10 rfl hin rfl (by decide +kernel) rfl rfl (Nat.le_of_ble_eq_true rfl) dX10_init_90 rfl ?_
  refine w_W (ws' := cf ws k (a, .inr (9, [.int 0, .int 0, .int 0, .int 0, .int 0, .ref q6, .ref q12, .ref q27, .ref q40, .ref q54, .ref q67, .ref q80])) [(q6, .inl (cy 13, 2, .inl dfI)), (q12, .inr (8, [.int (6 : Int32), .int (9 : Int32), .ref (u20 0), .int 0])), ((u20 0), .inl (cy 13, 54, .inl dfI)), (q27, .inr (8, [.int (2 : Int32), .int (4 : Int32), .ref (u33 0), .int 0])), ((u33 0), .inl (cy 13, 8, .inl dfI)), (q40, .inr (8, [.int (4 : Int32), .int (8 : Int32), .ref (u47 0), .int 0])), ((u47 0), .inl (cy 13, 32, .inl dfI)), (q54, .inr (8, [.int (2 : Int32), .int (4 : Int32), .ref (u60 0), .int 0])), ((u60 0), .inl (cy 13, 8, .inl dfI)), (q67, .inr (8, [.int (1 : Int32), .int (5 : Int32), .ref (u73 0), .int 0])), ((u73 0), .inl (cy 13, 5, .inl dfI)), (q80, .inr (8, [.int (3 : Int32), .int (60 : Int32), .ref (u87 0), .int 0])), ((u87 0), .inl (cy 13, 180, .inl dfI))]) rfl ?_
  exact l_return (fun i => [q6, q12, (u20 0), q27, (u33 0), q40, (u47 0), q54, (u60 0), q67, (u73 0), q80, (u87 0)].getD i 0) rfl rfl dX10_init_93
theorem k_X10_init {Γ : CX} {cc : ByteArray} {nL : Nat} {own : String} {ret : Option FieldType} {rm : Room} {ws L : va_W} {k q : Nat} {T : Nat × va_E} {pc pc' idx : Nat} {lv : List (Nat × Value)} {rest : List Value} (hl : SR (xd Γ) (xs Γ) → va_Nw (.methodLinkNest own idx yX10_init RX11) (xs Γ)) (hw : (rest.map fun v => v.category).sum ≤ 8) (hR : rX10_init.frames + 1 ≤ rm.frames ∧ 8 + (1 + 11) + rX10_init.locals ≤ rm.locals) (hR2 : xk Γ + rX10_init.cells ≤ rm.cells ∧ xn Γ + rX10_init.slots ≤ rm.slots) (hd : decode cc pc = .ok (.invokespecial idx, 3)) (hp : pc + 3 = pc') (h : ∀ qs : Nat → Nat, WL (bump Γ rX10_init.cells rX10_init.slots) cc nL own ret rm (cf ws k T (L ++ [(q, .inr (9, [.int 0, .int 0, .int 0, .int 0, .int 0, .ref (qs 0), .ref (qs 1), .ref (qs 3), .ref (qs 5), .ref (qs 7), .ref (qs 9), .ref (qs 11)]))] ++ [((qs 0), .inl (xy Γ 13, 2, .inl dfI)), ((qs 1), .inr (8, [.int (6 : Int32), .int (9 : Int32), .ref (qs 2), .int 0])), ((qs 2), .inl (xy Γ 13, 54, .inl dfI)), ((qs 3), .inr (8, [.int (2 : Int32), .int (4 : Int32), .ref (qs 4), .int 0])), ((qs 4), .inl (xy Γ 13, 8, .inl dfI)), ((qs 5), .inr (8, [.int (4 : Int32), .int (8 : Int32), .ref (qs 6), .int 0])), ((qs 6), .inl (xy Γ 13, 32, .inl dfI)), ((qs 7), .inr (8, [.int (2 : Int32), .int (4 : Int32), .ref (qs 8), .int 0])), ((qs 8), .inl (xy Γ 13, 8, .inl dfI)), ((qs 9), .inr (8, [.int (1 : Int32), .int (5 : Int32), .ref (qs 10), .int 0])), ((qs 10), .inl (xy Γ 13, 5, .inl dfI)), ((qs 11), .inr (8, [.int (3 : Int32), .int (60 : Int32), .ref (qs 12), .int 0])), ((qs 12), .inl (xy Γ 13, 180, .inl dfI))])) pc' lv rest) : WL Γ cc nL own ret rm (cf ws k T (L ++ [(q, .inr (9, [.int 0, .int 0, .int 0, .int 0, .int 0, .null, .null, .null, .null, .null, .null, .null]))])) pc lv (.ref q :: rest) := by
  have hc := c_X10_init (l := xl Γ) (D := xD Γ) (cy := xy Γ) (ad := xd Γ) (ws := cf ws k T (L ++ [(q, .inr (9, [.int 0, .int 0, .int 0, .int 0, .int 0, .null, .null, .null, .null, .null, .null, .null]))])) (k := (cf ws k T L).length) (a := q) (by simp [cf])
  rw [cf_self cf_last] at hc
  simp only [cf_last_set] at hc
  exact l_callN (host := RX11) (nn := 0) (As := []) (rest := rest) hc hl mw_X10_init rfl (by decide +kernel) hR hR2 rfl hw hd rfl hp h
def rX6_init : Room := { frames := 1, cells := 1, slots := 1200, locals := 20 }
set_option maxRecDepth 8000 in
theorem mw_X6_init : Cond.instanceMethod yX6_init ∈ TB ∧ Cond.initialized yX6_init.cls ∈ TB ∧ Cond.code yX6_init cX6_init 2 none ∈ TB := ⟨tb_m (bk_1 (List.mem_of_getElem? (i := 141) rfl)) rfl, tb_m (bk_1 (List.mem_of_getElem? (i := 5) rfl)) rfl, tb_m (bk_1 (List.mem_of_getElem? (i := 142) rfl)) rfl⟩
set_option maxHeartbeats 4000000 in
set_option maxRecDepth 40000 in
theorem c_X6_init {l : Launch} {D : va_G} {cy : Nat → ClassId} {ad : Nat → Nat} {ws : va_W} {k a : Nat} {r0 : Nat} (hk : k < ws.length) : CN l D cy ad yX6_init cX6_init 2 rX6_init [.ref a, .ref r0] (cf ws k (a, .inr (5, [.null, .int 0, .int 0, .int 0, .null, .int 0, .int 0, .int 0, .int 0])) []) (fun qs => cf ws k (a, .inr (5, [.ref (qs 0), .int 0, .int 0, .int (-1 : Int32), .ref r0, .int 0, .int 0, .int 0, .int 0])) [((qs 0), .inl (cy 12, 1200, .inl dfI))]) := by
  refine cn_of (by decide) rfl (Nat.le_of_ble_eq_true rfl) (fun p e s m args below meth c A hin => ?_)
  refine w_aload_n 0 dX6_init_0 rfl rfl rfl ?_
  refine l_obj ml_RX6_3 oi_w (Nat.le_of_ble_eq_true rfl) ⟨Nat.le_of_ble_eq_true rfl, Nat.le_of_ble_eq_true rfl⟩ dX6_init_1 rfl ?_
  refine w_aload_n 0 dX6_init_4 rfl rfl rfl ?_
  refine w_sipush (1200 : Int32) dX6_init_5 ic_sipush_1200 rfl ?_
  refine l_newB 1200 ac_byte (by decide) (by decide +kernel) (by decide) ⟨Nat.le_of_ble_eq_true rfl, Nat.le_of_ble_eq_true rfl⟩ dX6_init_8 rfl (fun q8 => ?_)
  refine w_G (Γ' := (p, l, e, rX6_init, s, m, args, below, meth, c, D, cy, ad, A, 1, 1200, _)) rfl ?_
  refine l_putF (j := 0) (C := RX6) (Tt := TX6) (N := 9) (ty := (.array .byte)) tyX6 hk rfl (by decide) inT_X6 fl_RX6_9 rfl tyX6_ok nmX6 rfl hin rfl (by decide +kernel) rfl rfl (Nat.le_of_ble_eq_true rfl) dX6_init_10 rfl ?_
  refine w_W (ws' := cf ws k (a, .inr (5, [.ref q8, .int 0, .int 0, .int 0, .null, .int 0, .int 0, .int 0, .int 0])) [(q8, .inl (cy 12, 1200, .inl dfI))]) rfl ?_
  refine w_aload_n 0 dX6_init_13 rfl rfl rfl ?_
  refine w_iconst (-1 : Int32) dX6_init_14 ic_iconst_m1 rfl ?_
  refine l_put (j := 3) (C := RX6) (Tt := TX6) (N := 9) (ty := .int) tyX6 hk rfl (by decide) inT_X6 fl_RX6_15 rfl tyX6_ok nmX6 rfl (by decide +kernel) rfl rfl (Nat.le_of_ble_eq_true rfl) dX6_init_15 rfl ?_
  refine w_W (ws' := cf ws k (a, .inr (5, [.ref q8, .int 0, .int 0, .int (-1 : Int32), .null, .int 0, .int 0, .int 0, .int 0])) [(q8, .inl (cy 12, 1200, .inl dfI))]) rfl ?_
  refine w_aload_n 0 dX6_init_18 rfl rfl rfl ?_
  refine w_aload_n 1 dX6_init_19 rfl rfl rfl ?_
  refine l_putF (j := 4) (C := RX6) (Tt := TX6) (N := 9) (ty := (.object RX10)) tyX6 hk rfl (by decide) inT_X6 fl_RX6_19 rfl tyX6_ok nmX6 rfl hin rfl (by decide +kernel) rfl rfl (Nat.le_of_ble_eq_true rfl) dX6_init_20 rfl ?_
  refine w_W (ws' := cf ws k (a, .inr (5, [.ref q8, .int 0, .int 0, .int (-1 : Int32), .ref r0, .int 0, .int 0, .int 0, .int 0])) [(q8, .inl (cy 12, 1200, .inl dfI))]) rfl ?_
  exact l_return (fun i => [q8].getD i 0) rfl rfl dX6_init_23
theorem k_X6_init {Γ : CX} {cc : ByteArray} {nL : Nat} {own : String} {ret : Option FieldType} {rm : Room} {ws L : va_W} {k q : Nat} {T : Nat × va_E} {pc pc' idx : Nat} {lv : List (Nat × Value)} {rest : List Value} {r0 : Nat} (hl : Cond.methodLink own idx yX6_init ∈ TB) (hw : (rest.map fun v => v.category).sum ≤ 8) (hR : rX6_init.frames + 1 ≤ rm.frames ∧ 8 + (2 + 11) + rX6_init.locals ≤ rm.locals) (hR2 : xk Γ + rX6_init.cells ≤ rm.cells ∧ xn Γ + rX6_init.slots ≤ rm.slots) (hd : decode cc pc = .ok (.invokespecial idx, 3)) (hp : pc + 3 = pc') (h : ∀ qs : Nat → Nat, WL (bump Γ rX6_init.cells rX6_init.slots) cc nL own ret rm (cf ws k T (L ++ [(q, .inr (5, [.ref (qs 0), .int 0, .int 0, .int (-1 : Int32), .ref r0, .int 0, .int 0, .int 0, .int 0]))] ++ [((qs 0), .inl (xy Γ 12, 1200, .inl dfI))])) pc' lv rest) : WL Γ cc nL own ret rm (cf ws k T (L ++ [(q, .inr (5, [.null, .int 0, .int 0, .int 0, .null, .int 0, .int 0, .int 0, .int 0]))])) pc lv (.ref r0 :: .ref q :: rest) := by
  have hc := c_X6_init (l := xl Γ) (D := xD Γ) (cy := xy Γ) (ad := xd Γ) (ws := cf ws k T (L ++ [(q, .inr (5, [.null, .int 0, .int 0, .int 0, .null, .int 0, .int 0, .int 0, .int 0]))])) (k := (cf ws k T L).length) (a := q) (r0 := r0) (by simp [cf])
  rw [cf_self cf_last] at hc
  simp only [cf_last_set] at hc
  exact l_callI (nn := 1) (As := [.ref r0]) (rest := rest) hc hl mw_X6_init rfl (by decide +kernel) hR hR2 rfl hw hd rfl hp h
def rX2_init : Room := { frames := 1, cells := 4, slots := 1597, locals := 20 }
set_option maxRecDepth 8000 in
theorem mw_X2_init : Cond.instanceMethod yX2_init ∈ TB ∧ Cond.initialized yX2_init.cls ∈ TB ∧ Cond.code yX2_init cX2_init 2 none ∈ TB := ⟨tb_m (bk_1 (List.mem_of_getElem? (i := 179) rfl)) rfl, tb_m (bk_1 (List.mem_of_getElem? (i := 6) rfl)) rfl, tb_m (bk_1 (List.mem_of_getElem? (i := 180) rfl)) rfl⟩
set_option maxHeartbeats 4000000 in
set_option maxRecDepth 40000 in
theorem c_X2_init {l : Launch} {D : va_G} {cy : Nat → ClassId} {ad : Nat → Nat} {ws : va_W} {k a : Nat} {r0 : Nat} (hk : k < ws.length) : CN l D cy ad yX2_init cX2_init 2 rX2_init [.ref a, .ref r0] (cf ws k (a, .inr (1, [.null, .null, .null, .null, .null, .int 0])) []) (fun qs => cf ws k (a, .inr (1, [.ref r0, .ref (qs 0), .ref (qs 1), .ref (qs 2), .ref (qs 3), .int 0])) [((qs 0), .inl (cy 13, 61, .inl dfI)), ((qs 1), .inl (cy 13, 512, .inl dfI)), ((qs 2), .inl (cy 13, 512, .inl dfI)), ((qs 3), .inl (cy 13, 512, .inl dfI))]) := by
  refine cn_of (by decide) rfl (Nat.le_of_ble_eq_true rfl) (fun p e s m args below meth c A hin => ?_)
  refine w_aload_n 0 dX2_init_0 rfl rfl rfl ?_
  refine l_obj ml_RX2_3 oi_w (Nat.le_of_ble_eq_true rfl) ⟨Nat.le_of_ble_eq_true rfl, Nat.le_of_ble_eq_true rfl⟩ dX2_init_1 rfl ?_
  refine w_aload_n 0 dX2_init_4 rfl rfl rfl ?_
  refine w_bipush (61 : Int32) dX2_init_5 ic_bipush_61 rfl ?_
  refine l_newI 61 ac_int (by decide) (by decide +kernel) (by decide) ⟨Nat.le_of_ble_eq_true rfl, Nat.le_of_ble_eq_true rfl⟩ dX2_init_7 rfl (fun q7 => ?_)
  refine w_G (Γ' := (p, l, e, rX2_init, s, m, args, below, meth, c, D, cy, ad, A, 1, 61, _)) rfl ?_
  refine l_putF (j := 1) (C := RX2) (Tt := TX2) (N := 6) (ty := (.array .int)) tyX2 hk rfl (by decide) inT_X2 fl_RX2_9 rfl tyX2_ok nmX2 rfl hin rfl (by decide +kernel) rfl rfl (Nat.le_of_ble_eq_true rfl) dX2_init_9 rfl ?_
  refine w_W (ws' := cf ws k (a, .inr (1, [.null, .ref q7, .null, .null, .null, .int 0])) [(q7, .inl (cy 13, 61, .inl dfI))]) rfl ?_
  refine w_aload_n 0 dX2_init_12 rfl rfl rfl ?_
  refine w_sipush (512 : Int32) dX2_init_13 ic_sipush_512 rfl ?_
  refine l_newI 512 ac_int (by decide) (by decide +kernel) (by decide) ⟨Nat.le_of_ble_eq_true rfl, Nat.le_of_ble_eq_true rfl⟩ dX2_init_16 rfl (fun q16 => ?_)
  refine w_G (Γ' := (p, l, e, rX2_init, s, m, args, below, meth, c, D, cy, ad, A, 2, 573, _)) rfl ?_
  refine l_putF (j := 2) (C := RX2) (Tt := TX2) (N := 6) (ty := (.array .int)) tyX2 hk rfl (by decide) inT_X2 fl_RX2_15 rfl tyX2_ok nmX2 rfl hin rfl (by decide +kernel) rfl rfl (Nat.le_of_ble_eq_true rfl) dX2_init_18 rfl ?_
  refine w_W (ws' := cf ws k (a, .inr (1, [.null, .ref q7, .ref q16, .null, .null, .int 0])) [(q7, .inl (cy 13, 61, .inl dfI)), (q16, .inl (cy 13, 512, .inl dfI))]) rfl ?_
  refine w_aload_n 0 dX2_init_21 rfl rfl rfl ?_
  refine w_sipush (512 : Int32) dX2_init_22 ic_sipush_512 rfl ?_
  refine l_newI 512 ac_int (by decide) (by decide +kernel) (by decide) ⟨Nat.le_of_ble_eq_true rfl, Nat.le_of_ble_eq_true rfl⟩ dX2_init_25 rfl (fun q25 => ?_)
  refine w_G (Γ' := (p, l, e, rX2_init, s, m, args, below, meth, c, D, cy, ad, A, 3, 1085, _)) rfl ?_
  refine l_putF (j := 3) (C := RX2) (Tt := TX2) (N := 6) (ty := (.array .int)) tyX2 hk rfl (by decide) inT_X2 fl_RX2_18 rfl tyX2_ok nmX2 rfl hin rfl (by decide +kernel) rfl rfl (Nat.le_of_ble_eq_true rfl) dX2_init_27 rfl ?_
  refine w_W (ws' := cf ws k (a, .inr (1, [.null, .ref q7, .ref q16, .ref q25, .null, .int 0])) [(q7, .inl (cy 13, 61, .inl dfI)), (q16, .inl (cy 13, 512, .inl dfI)), (q25, .inl (cy 13, 512, .inl dfI))]) rfl ?_
  refine w_aload_n 0 dX2_init_30 rfl rfl rfl ?_
  refine w_sipush (512 : Int32) dX2_init_31 ic_sipush_512 rfl ?_
  refine l_newI 512 ac_int (by decide) (by decide +kernel) (by decide) ⟨Nat.le_of_ble_eq_true rfl, Nat.le_of_ble_eq_true rfl⟩ dX2_init_34 rfl (fun q34 => ?_)
  refine w_G (Γ' := (p, l, e, rX2_init, s, m, args, below, meth, c, D, cy, ad, A, 4, 1597, _)) rfl ?_
  refine l_putF (j := 4) (C := RX2) (Tt := TX2) (N := 6) (ty := (.array .int)) tyX2 hk rfl (by decide) inT_X2 fl_RX2_21 rfl tyX2_ok nmX2 rfl hin rfl (by decide +kernel) rfl rfl (Nat.le_of_ble_eq_true rfl) dX2_init_36 rfl ?_
  refine w_W (ws' := cf ws k (a, .inr (1, [.null, .ref q7, .ref q16, .ref q25, .ref q34, .int 0])) [(q7, .inl (cy 13, 61, .inl dfI)), (q16, .inl (cy 13, 512, .inl dfI)), (q25, .inl (cy 13, 512, .inl dfI)), (q34, .inl (cy 13, 512, .inl dfI))]) rfl ?_
  refine w_aload_n 0 dX2_init_39 rfl rfl rfl ?_
  refine w_aload_n 1 dX2_init_40 rfl rfl rfl ?_
  refine l_putF (j := 0) (C := RX2) (Tt := TX2) (N := 6) (ty := (.object RX10)) tyX2 hk rfl (by decide) inT_X2 fl_RX2_24 rfl tyX2_ok nmX2 rfl hin rfl (by decide +kernel) rfl rfl (Nat.le_of_ble_eq_true rfl) dX2_init_41 rfl ?_
  refine w_W (ws' := cf ws k (a, .inr (1, [.ref r0, .ref q7, .ref q16, .ref q25, .ref q34, .int 0])) [(q7, .inl (cy 13, 61, .inl dfI)), (q16, .inl (cy 13, 512, .inl dfI)), (q25, .inl (cy 13, 512, .inl dfI)), (q34, .inl (cy 13, 512, .inl dfI))]) rfl ?_
  exact l_return (fun i => [q7, q16, q25, q34].getD i 0) rfl rfl dX2_init_44
theorem k_X2_init {Γ : CX} {cc : ByteArray} {nL : Nat} {own : String} {ret : Option FieldType} {rm : Room} {ws L : va_W} {k q : Nat} {T : Nat × va_E} {pc pc' idx : Nat} {lv : List (Nat × Value)} {rest : List Value} {r0 : Nat} (hl : Cond.methodLink own idx yX2_init ∈ TB) (hw : (rest.map fun v => v.category).sum ≤ 8) (hR : rX2_init.frames + 1 ≤ rm.frames ∧ 8 + (2 + 11) + rX2_init.locals ≤ rm.locals) (hR2 : xk Γ + rX2_init.cells ≤ rm.cells ∧ xn Γ + rX2_init.slots ≤ rm.slots) (hd : decode cc pc = .ok (.invokespecial idx, 3)) (hp : pc + 3 = pc') (h : ∀ qs : Nat → Nat, WL (bump Γ rX2_init.cells rX2_init.slots) cc nL own ret rm (cf ws k T (L ++ [(q, .inr (1, [.ref r0, .ref (qs 0), .ref (qs 1), .ref (qs 2), .ref (qs 3), .int 0]))] ++ [((qs 0), .inl (xy Γ 13, 61, .inl dfI)), ((qs 1), .inl (xy Γ 13, 512, .inl dfI)), ((qs 2), .inl (xy Γ 13, 512, .inl dfI)), ((qs 3), .inl (xy Γ 13, 512, .inl dfI))])) pc' lv rest) : WL Γ cc nL own ret rm (cf ws k T (L ++ [(q, .inr (1, [.null, .null, .null, .null, .null, .int 0]))])) pc lv (.ref r0 :: .ref q :: rest) := by
  have hc := c_X2_init (l := xl Γ) (D := xD Γ) (cy := xy Γ) (ad := xd Γ) (ws := cf ws k T (L ++ [(q, .inr (1, [.null, .null, .null, .null, .null, .int 0]))])) (k := (cf ws k T L).length) (a := q) (r0 := r0) (by simp [cf])
  rw [cf_self cf_last] at hc
  simp only [cf_last_set] at hc
  exact l_callI (nn := 1) (As := [.ref r0]) (rest := rest) hc hl mw_X2_init rfl (by decide +kernel) hR hR2 rfl hw hd rfl hp h
def rX3_init : Room := { frames := 1, cells := 6, slots := 3072, locals := 20 }
set_option maxRecDepth 8000 in
theorem mw_X3_init : Cond.instanceMethod yX3_init ∈ TB ∧ Cond.initialized yX3_init.cls ∈ TB ∧ Cond.code yX3_init cX3_init 3 none ∈ TB := ⟨tb_m (bk_1 (List.mem_of_getElem? (i := 204) rfl)) rfl, tb_m (bk_1 (List.mem_of_getElem? (i := 7) rfl)) rfl, tb_m (bk_1 (List.mem_of_getElem? (i := 205) rfl)) rfl⟩
set_option maxHeartbeats 4000000 in
set_option maxRecDepth 40000 in
theorem c_X3_init {l : Launch} {D : va_G} {cy : Nat → ClassId} {ad : Nat → Nat} {ws : va_W} {k a : Nat} {r0 : Nat} {r1 : Nat} (hk : k < ws.length) : CN l D cy ad yX3_init cX3_init 3 rX3_init [.ref a, .ref r0, .ref r1] (cf ws k (a, .inr (2, [.null, .null, .null, .null, .null, .null, .null, .null])) []) (fun qs => cf ws k (a, .inr (2, [.ref r0, .ref r1, .ref (qs 0), .ref (qs 1), .ref (qs 2), .ref (qs 3), .ref (qs 4), .ref (qs 5)])) [((qs 0), .inl (cy 13, 512, .inl dfI)), ((qs 1), .inl (cy 13, 512, .inl dfI)), ((qs 2), .inl (cy 14, 512, .inr (.inl dfJ))), ((qs 3), .inl (cy 15, 512, .inl dfI)), ((qs 4), .inl (cy 13, 512, .inl dfI)), ((qs 5), .inl (cy 13, 512, .inl dfI))]) := by
  refine cn_of (by decide) rfl (Nat.le_of_ble_eq_true rfl) (fun p e s m args below meth c A hin => ?_)
  refine w_aload_n 0 dX3_init_0 rfl rfl rfl ?_
  refine l_obj ml_RX3_3 oi_w (Nat.le_of_ble_eq_true rfl) ⟨Nat.le_of_ble_eq_true rfl, Nat.le_of_ble_eq_true rfl⟩ dX3_init_1 rfl ?_
  refine w_aload_n 0 dX3_init_4 rfl rfl rfl ?_
  refine w_sipush (512 : Int32) dX3_init_5 ic_sipush_512 rfl ?_
  refine l_newI 512 ac_int (by decide) (by decide +kernel) (by decide) ⟨Nat.le_of_ble_eq_true rfl, Nat.le_of_ble_eq_true rfl⟩ dX3_init_8 rfl (fun q8 => ?_)
  refine w_G (Γ' := (p, l, e, rX3_init, s, m, args, below, meth, c, D, cy, ad, A, 1, 512, _)) rfl ?_
  refine l_putF (j := 2) (C := RX3) (Tt := TX3) (N := 8) (ty := (.array .int)) tyX3 hk rfl (by decide) inT_X3 fl_RX3_9 rfl tyX3_ok nmX3 rfl hin rfl (by decide +kernel) rfl rfl (Nat.le_of_ble_eq_true rfl) dX3_init_10 rfl ?_
  refine w_W (ws' := cf ws k (a, .inr (2, [.null, .null, .ref q8, .null, .null, .null, .null, .null])) [(q8, .inl (cy 13, 512, .inl dfI))]) rfl ?_
  refine w_aload_n 0 dX3_init_13 rfl rfl rfl ?_
  refine w_sipush (512 : Int32) dX3_init_14 ic_sipush_512 rfl ?_
  refine l_newI 512 ac_int (by decide) (by decide +kernel) (by decide) ⟨Nat.le_of_ble_eq_true rfl, Nat.le_of_ble_eq_true rfl⟩ dX3_init_17 rfl (fun q17 => ?_)
  refine w_G (Γ' := (p, l, e, rX3_init, s, m, args, below, meth, c, D, cy, ad, A, 2, 1024, _)) rfl ?_
  refine l_putF (j := 3) (C := RX3) (Tt := TX3) (N := 8) (ty := (.array .int)) tyX3 hk rfl (by decide) inT_X3 fl_RX3_15 rfl tyX3_ok nmX3 rfl hin rfl (by decide +kernel) rfl rfl (Nat.le_of_ble_eq_true rfl) dX3_init_19 rfl ?_
  refine w_W (ws' := cf ws k (a, .inr (2, [.null, .null, .ref q8, .ref q17, .null, .null, .null, .null])) [(q8, .inl (cy 13, 512, .inl dfI)), (q17, .inl (cy 13, 512, .inl dfI))]) rfl ?_
  refine w_aload_n 0 dX3_init_22 rfl rfl rfl ?_
  refine w_sipush (512 : Int32) dX3_init_23 ic_sipush_512 rfl ?_
  refine l_newJ 512 ac_long (by decide) (by decide +kernel) (by decide) ⟨Nat.le_of_ble_eq_true rfl, Nat.le_of_ble_eq_true rfl⟩ dX3_init_26 rfl (fun q26 => ?_)
  refine w_G (Γ' := (p, l, e, rX3_init, s, m, args, below, meth, c, D, cy, ad, A, 3, 1536, _)) rfl ?_
  refine l_putF (j := 4) (C := RX3) (Tt := TX3) (N := 8) (ty := (.array .long)) tyX3 hk rfl (by decide) inT_X3 fl_RX3_18 rfl tyX3_ok nmX3 rfl hin rfl (by decide +kernel) rfl rfl (Nat.le_of_ble_eq_true rfl) dX3_init_28 rfl ?_
  refine w_W (ws' := cf ws k (a, .inr (2, [.null, .null, .ref q8, .ref q17, .ref q26, .null, .null, .null])) [(q8, .inl (cy 13, 512, .inl dfI)), (q17, .inl (cy 13, 512, .inl dfI)), (q26, .inl (cy 14, 512, .inr (.inl dfJ)))]) rfl ?_
  refine w_aload_n 0 dX3_init_31 rfl rfl rfl ?_
  refine w_sipush (512 : Int32) dX3_init_32 ic_sipush_512 rfl ?_
  refine l_newZ 512 ac_boolean (by decide) (by decide +kernel) (by decide) ⟨Nat.le_of_ble_eq_true rfl, Nat.le_of_ble_eq_true rfl⟩ dX3_init_35 rfl (fun q35 => ?_)
  refine w_G (Γ' := (p, l, e, rX3_init, s, m, args, below, meth, c, D, cy, ad, A, 4, 2048, _)) rfl ?_
  refine l_putF (j := 5) (C := RX3) (Tt := TX3) (N := 8) (ty := (.array .boolean)) tyX3 hk rfl (by decide) inT_X3 fl_RX3_22 rfl tyX3_ok nmX3 rfl hin rfl (by decide +kernel) rfl rfl (Nat.le_of_ble_eq_true rfl) dX3_init_37 rfl ?_
  refine w_W (ws' := cf ws k (a, .inr (2, [.null, .null, .ref q8, .ref q17, .ref q26, .ref q35, .null, .null])) [(q8, .inl (cy 13, 512, .inl dfI)), (q17, .inl (cy 13, 512, .inl dfI)), (q26, .inl (cy 14, 512, .inr (.inl dfJ))), (q35, .inl (cy 15, 512, .inl dfI))]) rfl ?_
  refine w_aload_n 0 dX3_init_40 rfl rfl rfl ?_
  refine w_sipush (512 : Int32) dX3_init_41 ic_sipush_512 rfl ?_
  refine l_newI 512 ac_int (by decide) (by decide +kernel) (by decide) ⟨Nat.le_of_ble_eq_true rfl, Nat.le_of_ble_eq_true rfl⟩ dX3_init_44 rfl (fun q44 => ?_)
  refine w_G (Γ' := (p, l, e, rX3_init, s, m, args, below, meth, c, D, cy, ad, A, 5, 2560, _)) rfl ?_
  refine l_putF (j := 6) (C := RX3) (Tt := TX3) (N := 8) (ty := (.array .int)) tyX3 hk rfl (by decide) inT_X3 fl_RX3_26 rfl tyX3_ok nmX3 rfl hin rfl (by decide +kernel) rfl rfl (Nat.le_of_ble_eq_true rfl) dX3_init_46 rfl ?_
  refine w_W (ws' := cf ws k (a, .inr (2, [.null, .null, .ref q8, .ref q17, .ref q26, .ref q35, .ref q44, .null])) [(q8, .inl (cy 13, 512, .inl dfI)), (q17, .inl (cy 13, 512, .inl dfI)), (q26, .inl (cy 14, 512, .inr (.inl dfJ))), (q35, .inl (cy 15, 512, .inl dfI)), (q44, .inl (cy 13, 512, .inl dfI))]) rfl ?_
  refine w_aload_n 0 dX3_init_49 rfl rfl rfl ?_
  refine w_sipush (512 : Int32) dX3_init_50 ic_sipush_512 rfl ?_
  refine l_newI 512 ac_int (by decide) (by decide +kernel) (by decide) ⟨Nat.le_of_ble_eq_true rfl, Nat.le_of_ble_eq_true rfl⟩ dX3_init_53 rfl (fun q53 => ?_)
  refine w_G (Γ' := (p, l, e, rX3_init, s, m, args, below, meth, c, D, cy, ad, A, 6, 3072, _)) rfl ?_
  refine l_putF (j := 7) (C := RX3) (Tt := TX3) (N := 8) (ty := (.array .int)) tyX3 hk rfl (by decide) inT_X3 fl_RX3_29 rfl tyX3_ok nmX3 rfl hin rfl (by decide +kernel) rfl rfl (Nat.le_of_ble_eq_true rfl) dX3_init_55 rfl ?_
  refine w_W (ws' := cf ws k (a, .inr (2, [.null, .null, .ref q8, .ref q17, .ref q26, .ref q35, .ref q44, .ref q53])) [(q8, .inl (cy 13, 512, .inl dfI)), (q17, .inl (cy 13, 512, .inl dfI)), (q26, .inl (cy 14, 512, .inr (.inl dfJ))), (q35, .inl (cy 15, 512, .inl dfI)), (q44, .inl (cy 13, 512, .inl dfI)), (q53, .inl (cy 13, 512, .inl dfI))]) rfl ?_
  refine w_aload_n 0 dX3_init_58 rfl rfl rfl ?_
  refine w_aload_n 1 dX3_init_59 rfl rfl rfl ?_
  refine l_putF (j := 0) (C := RX3) (Tt := TX3) (N := 8) (ty := (.object RX10)) tyX3 hk rfl (by decide) inT_X3 fl_RX3_32 rfl tyX3_ok nmX3 rfl hin rfl (by decide +kernel) rfl rfl (Nat.le_of_ble_eq_true rfl) dX3_init_60 rfl ?_
  refine w_W (ws' := cf ws k (a, .inr (2, [.ref r0, .null, .ref q8, .ref q17, .ref q26, .ref q35, .ref q44, .ref q53])) [(q8, .inl (cy 13, 512, .inl dfI)), (q17, .inl (cy 13, 512, .inl dfI)), (q26, .inl (cy 14, 512, .inr (.inl dfJ))), (q35, .inl (cy 15, 512, .inl dfI)), (q44, .inl (cy 13, 512, .inl dfI)), (q53, .inl (cy 13, 512, .inl dfI))]) rfl ?_
  refine w_aload_n 0 dX3_init_63 rfl rfl rfl ?_
  refine w_aload_n 2 dX3_init_64 rfl rfl rfl ?_
  refine l_putF (j := 1) (C := RX3) (Tt := TX3) (N := 8) (ty := (.object RX2)) tyX3 hk rfl (by decide) inT_X3 fl_RX3_36 rfl tyX3_ok nmX3 rfl hin rfl (by decide +kernel) rfl rfl (Nat.le_of_ble_eq_true rfl) dX3_init_65 rfl ?_
  refine w_W (ws' := cf ws k (a, .inr (2, [.ref r0, .ref r1, .ref q8, .ref q17, .ref q26, .ref q35, .ref q44, .ref q53])) [(q8, .inl (cy 13, 512, .inl dfI)), (q17, .inl (cy 13, 512, .inl dfI)), (q26, .inl (cy 14, 512, .inr (.inl dfJ))), (q35, .inl (cy 15, 512, .inl dfI)), (q44, .inl (cy 13, 512, .inl dfI)), (q53, .inl (cy 13, 512, .inl dfI))]) rfl ?_
  exact l_return (fun i => [q8, q17, q26, q35, q44, q53].getD i 0) rfl rfl dX3_init_68
theorem k_X3_init {Γ : CX} {cc : ByteArray} {nL : Nat} {own : String} {ret : Option FieldType} {rm : Room} {ws L : va_W} {k q : Nat} {T : Nat × va_E} {pc pc' idx : Nat} {lv : List (Nat × Value)} {rest : List Value} {r0 : Nat} {r1 : Nat} (hl : Cond.methodLink own idx yX3_init ∈ TB) (hw : (rest.map fun v => v.category).sum ≤ 8) (hR : rX3_init.frames + 1 ≤ rm.frames ∧ 8 + (3 + 11) + rX3_init.locals ≤ rm.locals) (hR2 : xk Γ + rX3_init.cells ≤ rm.cells ∧ xn Γ + rX3_init.slots ≤ rm.slots) (hd : decode cc pc = .ok (.invokespecial idx, 3)) (hp : pc + 3 = pc') (h : ∀ qs : Nat → Nat, WL (bump Γ rX3_init.cells rX3_init.slots) cc nL own ret rm (cf ws k T (L ++ [(q, .inr (2, [.ref r0, .ref r1, .ref (qs 0), .ref (qs 1), .ref (qs 2), .ref (qs 3), .ref (qs 4), .ref (qs 5)]))] ++ [((qs 0), .inl (xy Γ 13, 512, .inl dfI)), ((qs 1), .inl (xy Γ 13, 512, .inl dfI)), ((qs 2), .inl (xy Γ 14, 512, .inr (.inl dfJ))), ((qs 3), .inl (xy Γ 15, 512, .inl dfI)), ((qs 4), .inl (xy Γ 13, 512, .inl dfI)), ((qs 5), .inl (xy Γ 13, 512, .inl dfI))])) pc' lv rest) : WL Γ cc nL own ret rm (cf ws k T (L ++ [(q, .inr (2, [.null, .null, .null, .null, .null, .null, .null, .null]))])) pc lv (.ref r1 :: .ref r0 :: .ref q :: rest) := by
  have hc := c_X3_init (l := xl Γ) (D := xD Γ) (cy := xy Γ) (ad := xd Γ) (ws := cf ws k T (L ++ [(q, .inr (2, [.null, .null, .null, .null, .null, .null, .null, .null]))])) (k := (cf ws k T L).length) (a := q) (r0 := r0) (r1 := r1) (by simp [cf])
  rw [cf_self cf_last] at hc
  simp only [cf_last_set] at hc
  exact l_callI (nn := 2) (As := [.ref r0, .ref r1]) (rest := rest) hc hl mw_X3_init rfl (by decide +kernel) hR hR2 rfl hw hd rfl hp h
def rX5_init : Room := { frames := 1, cells := 4, slots := 12, locals := 20 }
set_option maxRecDepth 8000 in
theorem mw_X5_init : Cond.instanceMethod yX5_init ∈ TB ∧ Cond.initialized yX5_init.cls ∈ TB ∧ Cond.code yX5_init cX5_init 1 none ∈ TB := ⟨tb_m (bk_1 (List.mem_of_getElem? (i := 237) rfl)) rfl, tb_m (bk_1 (List.mem_of_getElem? (i := 8) rfl)) rfl, tb_m (bk_1 (List.mem_of_getElem? (i := 238) rfl)) rfl⟩
set_option maxHeartbeats 4000000 in
set_option maxRecDepth 40000 in
theorem c_X5_init {l : Launch} {D : va_G} {cy : Nat → ClassId} {ad : Nat → Nat} {ws : va_W} {k a : Nat} (hk : k < ws.length) : CN l D cy ad yX5_init cX5_init 1 rX5_init [.ref a] (cf ws k (a, .inr (4, [.int 0, .null, .null, .null, .null])) []) (fun qs => cf ws k (a, .inr (4, [.int 0, .ref (qs 0), .ref (qs 1), .ref (qs 2), .ref (qs 3)])) [((qs 0), .inl (cy 13, 3, .inl dfI)), ((qs 1), .inl (cy 13, 3, .inl dfI)), ((qs 2), .inl (cy 13, 3, .inl dfI)), ((qs 3), .inl (cy 13, 3, .inl dfI))]) := by
  refine cn_of (by decide) rfl (Nat.le_of_ble_eq_true rfl) (fun p e s m args below meth c A hin => ?_)
  refine w_aload_n 0 dX5_init_0 rfl rfl rfl ?_
  refine l_obj ml_RX5_1 oi_w (Nat.le_of_ble_eq_true rfl) ⟨Nat.le_of_ble_eq_true rfl, Nat.le_of_ble_eq_true rfl⟩ dX5_init_1 rfl ?_
  refine w_aload_n 0 dX5_init_4 rfl rfl rfl ?_
  refine w_iconst (3 : Int32) dX5_init_5 ic_iconst_3 rfl ?_
  refine l_newI 3 ac_int (by decide) (by decide +kernel) (by decide) ⟨Nat.le_of_ble_eq_true rfl, Nat.le_of_ble_eq_true rfl⟩ dX5_init_6 rfl (fun q6 => ?_)
  refine w_G (Γ' := (p, l, e, rX5_init, s, m, args, below, meth, c, D, cy, ad, A, 1, 3, _)) rfl ?_
  refine l_putF (j := 1) (C := RX5) (Tt := TX5) (N := 5) (ty := (.array .int)) tyX5 hk rfl (by decide) inT_X5 fl_RX5_9 rfl tyX5_ok nmX5 rfl hin rfl (by decide +kernel) rfl rfl (Nat.le_of_ble_eq_true rfl) dX5_init_8 rfl ?_
  refine w_W (ws' := cf ws k (a, .inr (4, [.int 0, .ref q6, .null, .null, .null])) [(q6, .inl (cy 13, 3, .inl dfI))]) rfl ?_
  refine w_aload_n 0 dX5_init_11 rfl rfl rfl ?_
  refine w_iconst (3 : Int32) dX5_init_12 ic_iconst_3 rfl ?_
  refine l_newI 3 ac_int (by decide) (by decide +kernel) (by decide) ⟨Nat.le_of_ble_eq_true rfl, Nat.le_of_ble_eq_true rfl⟩ dX5_init_13 rfl (fun q13 => ?_)
  refine w_G (Γ' := (p, l, e, rX5_init, s, m, args, below, meth, c, D, cy, ad, A, 2, 6, _)) rfl ?_
  refine l_putF (j := 2) (C := RX5) (Tt := TX5) (N := 5) (ty := (.array .int)) tyX5 hk rfl (by decide) inT_X5 fl_RX5_13 rfl tyX5_ok nmX5 rfl hin rfl (by decide +kernel) rfl rfl (Nat.le_of_ble_eq_true rfl) dX5_init_15 rfl ?_
  refine w_W (ws' := cf ws k (a, .inr (4, [.int 0, .ref q6, .ref q13, .null, .null])) [(q6, .inl (cy 13, 3, .inl dfI)), (q13, .inl (cy 13, 3, .inl dfI))]) rfl ?_
  refine w_aload_n 0 dX5_init_18 rfl rfl rfl ?_
  refine w_iconst (3 : Int32) dX5_init_19 ic_iconst_3 rfl ?_
  refine l_newI 3 ac_int (by decide) (by decide +kernel) (by decide) ⟨Nat.le_of_ble_eq_true rfl, Nat.le_of_ble_eq_true rfl⟩ dX5_init_20 rfl (fun q20 => ?_)
  refine w_G (Γ' := (p, l, e, rX5_init, s, m, args, below, meth, c, D, cy, ad, A, 3, 9, _)) rfl ?_
  refine l_putF (j := 3) (C := RX5) (Tt := TX5) (N := 5) (ty := (.array .int)) tyX5 hk rfl (by decide) inT_X5 fl_RX5_16 rfl tyX5_ok nmX5 rfl hin rfl (by decide +kernel) rfl rfl (Nat.le_of_ble_eq_true rfl) dX5_init_22 rfl ?_
  refine w_W (ws' := cf ws k (a, .inr (4, [.int 0, .ref q6, .ref q13, .ref q20, .null])) [(q6, .inl (cy 13, 3, .inl dfI)), (q13, .inl (cy 13, 3, .inl dfI)), (q20, .inl (cy 13, 3, .inl dfI))]) rfl ?_
  refine w_aload_n 0 dX5_init_25 rfl rfl rfl ?_
  refine w_iconst (3 : Int32) dX5_init_26 ic_iconst_3 rfl ?_
  refine l_newI 3 ac_int (by decide) (by decide +kernel) (by decide) ⟨Nat.le_of_ble_eq_true rfl, Nat.le_of_ble_eq_true rfl⟩ dX5_init_27 rfl (fun q27 => ?_)
  refine w_G (Γ' := (p, l, e, rX5_init, s, m, args, below, meth, c, D, cy, ad, A, 4, 12, _)) rfl ?_
  refine l_putF (j := 4) (C := RX5) (Tt := TX5) (N := 5) (ty := (.array .int)) tyX5 hk rfl (by decide) inT_X5 fl_RX5_19 rfl tyX5_ok nmX5 rfl hin rfl (by decide +kernel) rfl rfl (Nat.le_of_ble_eq_true rfl) dX5_init_29 rfl ?_
  refine w_W (ws' := cf ws k (a, .inr (4, [.int 0, .ref q6, .ref q13, .ref q20, .ref q27])) [(q6, .inl (cy 13, 3, .inl dfI)), (q13, .inl (cy 13, 3, .inl dfI)), (q20, .inl (cy 13, 3, .inl dfI)), (q27, .inl (cy 13, 3, .inl dfI))]) rfl ?_
  exact l_return (fun i => [q6, q13, q20, q27].getD i 0) rfl rfl dX5_init_32
theorem k_X5_init {Γ : CX} {cc : ByteArray} {nL : Nat} {own : String} {ret : Option FieldType} {rm : Room} {ws L : va_W} {k q : Nat} {T : Nat × va_E} {pc pc' idx : Nat} {lv : List (Nat × Value)} {rest : List Value} (hl : SR (xd Γ) (xs Γ) → va_Nw (.methodLinkNest own idx yX5_init RX11) (xs Γ)) (hw : (rest.map fun v => v.category).sum ≤ 8) (hR : rX5_init.frames + 1 ≤ rm.frames ∧ 8 + (1 + 11) + rX5_init.locals ≤ rm.locals) (hR2 : xk Γ + rX5_init.cells ≤ rm.cells ∧ xn Γ + rX5_init.slots ≤ rm.slots) (hd : decode cc pc = .ok (.invokespecial idx, 3)) (hp : pc + 3 = pc') (h : ∀ qs : Nat → Nat, WL (bump Γ rX5_init.cells rX5_init.slots) cc nL own ret rm (cf ws k T (L ++ [(q, .inr (4, [.int 0, .ref (qs 0), .ref (qs 1), .ref (qs 2), .ref (qs 3)]))] ++ [((qs 0), .inl (xy Γ 13, 3, .inl dfI)), ((qs 1), .inl (xy Γ 13, 3, .inl dfI)), ((qs 2), .inl (xy Γ 13, 3, .inl dfI)), ((qs 3), .inl (xy Γ 13, 3, .inl dfI))])) pc' lv rest) : WL Γ cc nL own ret rm (cf ws k T (L ++ [(q, .inr (4, [.int 0, .null, .null, .null, .null]))])) pc lv (.ref q :: rest) := by
  have hc := c_X5_init (l := xl Γ) (D := xD Γ) (cy := xy Γ) (ad := xd Γ) (ws := cf ws k T (L ++ [(q, .inr (4, [.int 0, .null, .null, .null, .null]))])) (k := (cf ws k T L).length) (a := q) (by simp [cf])
  rw [cf_self cf_last] at hc
  simp only [cf_last_set] at hc
  exact l_callN (host := RX11) (nn := 0) (As := []) (rest := rest) hc hl mw_X5_init rfl (by decide +kernel) hR hR2 rfl hw hd rfl hp h
def rX4_init : Room := { frames := 1, cells := 0, slots := 0, locals := 20 }
theorem mw_X4_init : Cond.instanceMethod yX4_init ∈ TB ∧ Cond.initialized yX4_init.cls ∈ TB ∧ Cond.code yX4_init cX4_init 2 none ∈ TB := ⟨tb_m (bk_2 (List.mem_of_getElem? (i := 22) rfl)) rfl, tb_m (bk_1 (List.mem_of_getElem? (i := 9) rfl)) rfl, tb_m (bk_2 (List.mem_of_getElem? (i := 23) rfl)) rfl⟩
set_option maxHeartbeats 4000000 in
set_option maxRecDepth 40000 in
theorem c_X4_init {l : Launch} {D : va_G} {cy : Nat → ClassId} {ad : Nat → Nat} {ws : va_W} {k a : Nat} {r0 : Nat} (hk : k < ws.length) : CN l D cy ad yX4_init cX4_init 2 rX4_init [.ref a, .ref r0] (cf ws k (a, .inr (3, [.null])) []) (fun qs => cf ws k (a, .inr (3, [.ref r0])) []) := by
  refine cn_of (by decide) rfl (Nat.le_of_ble_eq_true rfl) (fun p e s m args below meth c A hin => ?_)
  refine w_aload_n 0 dX4_init_0 rfl rfl rfl ?_
  refine l_obj ml_RX4_3 oi_w (Nat.le_of_ble_eq_true rfl) ⟨Nat.le_of_ble_eq_true rfl, Nat.le_of_ble_eq_true rfl⟩ dX4_init_1 rfl ?_
  refine w_aload_n 0 dX4_init_4 rfl rfl rfl ?_
  refine w_aload_n 1 dX4_init_5 rfl rfl rfl ?_
  refine l_putF (j := 0) (C := RX4) (Tt := TX4) (N := 1) (ty := (.object RX10)) tyX4 hk rfl (by decide) inT_X4 fl_RX4_9 rfl tyX4_ok nmX4 rfl hin rfl (by decide +kernel) rfl rfl (Nat.le_of_ble_eq_true rfl) dX4_init_6 rfl ?_
  refine w_W (ws' := cf ws k (a, .inr (3, [.ref r0])) []) rfl ?_
  exact l_return (fun i => [].getD i 0) rfl rfl dX4_init_9
theorem k_X4_init {Γ : CX} {cc : ByteArray} {nL : Nat} {own : String} {ret : Option FieldType} {rm : Room} {ws L : va_W} {k q : Nat} {T : Nat × va_E} {pc pc' idx : Nat} {lv : List (Nat × Value)} {rest : List Value} {r0 : Nat} (hl : Cond.methodLink own idx yX4_init ∈ TB) (hw : (rest.map fun v => v.category).sum ≤ 8) (hR : rX4_init.frames + 1 ≤ rm.frames ∧ 8 + (2 + 11) + rX4_init.locals ≤ rm.locals) (hR2 : xk Γ + rX4_init.cells ≤ rm.cells ∧ xn Γ + rX4_init.slots ≤ rm.slots) (hd : decode cc pc = .ok (.invokespecial idx, 3)) (hp : pc + 3 = pc') (h : ∀ qs : Nat → Nat, WL (bump Γ rX4_init.cells rX4_init.slots) cc nL own ret rm (cf ws k T (L ++ [(q, .inr (3, [.ref r0]))] ++ [])) pc' lv rest) : WL Γ cc nL own ret rm (cf ws k T (L ++ [(q, .inr (3, [.null]))])) pc lv (.ref r0 :: .ref q :: rest) := by
  have hc := c_X4_init (l := xl Γ) (D := xD Γ) (cy := xy Γ) (ad := xd Γ) (ws := cf ws k T (L ++ [(q, .inr (3, [.null]))])) (k := (cf ws k T L).length) (a := q) (r0 := r0) (by simp [cf])
  rw [cf_self cf_last] at hc
  simp only [cf_last_set] at hc
  exact l_callI (nn := 1) (As := [.ref r0]) (rest := rest) hc hl mw_X4_init rfl (by decide +kernel) hR hR2 rfl hw hd rfl hp h
def rX8_init : Room := { frames := 1, cells := 0, slots := 0, locals := 20 }
theorem mw_X8_init : Cond.instanceMethod yX8_init ∈ TB ∧ Cond.initialized yX8_init.cls ∈ TB ∧ Cond.code yX8_init cX8_init 2 none ∈ TB := ⟨tb_m (bk_2 (List.mem_of_getElem? (i := 32) rfl)) rfl, tb_m (bk_1 (List.mem_of_getElem? (i := 10) rfl)) rfl, tb_m (bk_2 (List.mem_of_getElem? (i := 33) rfl)) rfl⟩
set_option maxHeartbeats 4000000 in
set_option maxRecDepth 40000 in
theorem c_X8_init {l : Launch} {D : va_G} {cy : Nat → ClassId} {ad : Nat → Nat} {ws : va_W} {k a : Nat} {r0 : Nat} (hk : k < ws.length) : CN l D cy ad yX8_init cX8_init 2 rX8_init [.ref a, .ref r0] (cf ws k (a, .inr (7, [.null])) []) (fun qs => cf ws k (a, .inr (7, [.ref r0])) []) := by
  refine cn_of (by decide) rfl (Nat.le_of_ble_eq_true rfl) (fun p e s m args below meth c A hin => ?_)
  refine w_aload_n 0 dX8_init_0 rfl rfl rfl ?_
  refine l_obj ml_RX8_3 oi_w (Nat.le_of_ble_eq_true rfl) ⟨Nat.le_of_ble_eq_true rfl, Nat.le_of_ble_eq_true rfl⟩ dX8_init_1 rfl ?_
  refine w_aload_n 0 dX8_init_4 rfl rfl rfl ?_
  refine w_aload_n 1 dX8_init_5 rfl rfl rfl ?_
  refine l_putF (j := 0) (C := RX8) (Tt := TX8) (N := 1) (ty := (.object RX10)) tyX8 hk rfl (by decide) inT_X8 fl_RX8_9 rfl tyX8_ok nmX8 rfl hin rfl (by decide +kernel) rfl rfl (Nat.le_of_ble_eq_true rfl) dX8_init_6 rfl ?_
  refine w_W (ws' := cf ws k (a, .inr (7, [.ref r0])) []) rfl ?_
  exact l_return (fun i => [].getD i 0) rfl rfl dX8_init_9
theorem k_X8_init {Γ : CX} {cc : ByteArray} {nL : Nat} {own : String} {ret : Option FieldType} {rm : Room} {ws L : va_W} {k q : Nat} {T : Nat × va_E} {pc pc' idx : Nat} {lv : List (Nat × Value)} {rest : List Value} {r0 : Nat} (hl : Cond.methodLink own idx yX8_init ∈ TB) (hw : (rest.map fun v => v.category).sum ≤ 8) (hR : rX8_init.frames + 1 ≤ rm.frames ∧ 8 + (2 + 11) + rX8_init.locals ≤ rm.locals) (hR2 : xk Γ + rX8_init.cells ≤ rm.cells ∧ xn Γ + rX8_init.slots ≤ rm.slots) (hd : decode cc pc = .ok (.invokespecial idx, 3)) (hp : pc + 3 = pc') (h : ∀ qs : Nat → Nat, WL (bump Γ rX8_init.cells rX8_init.slots) cc nL own ret rm (cf ws k T (L ++ [(q, .inr (7, [.ref r0]))] ++ [])) pc' lv rest) : WL Γ cc nL own ret rm (cf ws k T (L ++ [(q, .inr (7, [.null]))])) pc lv (.ref r0 :: .ref q :: rest) := by
  have hc := c_X8_init (l := xl Γ) (D := xD Γ) (cy := xy Γ) (ad := xd Γ) (ws := cf ws k T (L ++ [(q, .inr (7, [.null]))])) (k := (cf ws k T L).length) (a := q) (r0 := r0) (by simp [cf])
  rw [cf_self cf_last] at hc
  simp only [cf_last_set] at hc
  exact l_callI (nn := 1) (As := [.ref r0]) (rest := rest) hc hl mw_X8_init rfl (by decide +kernel) hR hR2 rfl hw hd rfl hp h
def rX0_init : Room := { frames := 1, cells := 1, slots := 8, locals := 20 }
theorem mw_X0_init : Cond.instanceMethod yX0_init ∈ TB ∧ Cond.initialized yX0_init.cls ∈ TB ∧ Cond.code yX0_init cX0_init 2 none ∈ TB := ⟨tb_m (bk_2 (List.mem_of_getElem? (i := 42) rfl)) rfl, tb_m (bk_1 (List.mem_of_getElem? (i := 11) rfl)) rfl, tb_m (bk_2 (List.mem_of_getElem? (i := 43) rfl)) rfl⟩
set_option maxHeartbeats 4000000 in
set_option maxRecDepth 40000 in
theorem c_X0_init {l : Launch} {D : va_G} {cy : Nat → ClassId} {ad : Nat → Nat} {ws : va_W} {k a : Nat} {r0 : Nat} (hk : k < ws.length) : CN l D cy ad yX0_init cX0_init 2 rX0_init [.ref a, .ref r0] (cf ws k (a, .inr (0, [.null, .null])) []) (fun qs => cf ws k (a, .inr (0, [.ref r0, .ref (qs 0)])) [((qs 0), .inl (cy 13, 8, .inl dfI))]) := by
  refine cn_of (by decide) rfl (Nat.le_of_ble_eq_true rfl) (fun p e s m args below meth c A hin => ?_)
  refine w_aload_n 0 dX0_init_0 rfl rfl rfl ?_
  refine l_obj ml_RX0_3 oi_w (Nat.le_of_ble_eq_true rfl) ⟨Nat.le_of_ble_eq_true rfl, Nat.le_of_ble_eq_true rfl⟩ dX0_init_1 rfl ?_
  refine w_aload_n 0 dX0_init_4 rfl rfl rfl ?_
  refine w_bipush (8 : Int32) dX0_init_5 ic_bipush_8 rfl ?_
  refine l_newI 8 ac_int (by decide) (by decide +kernel) (by decide) ⟨Nat.le_of_ble_eq_true rfl, Nat.le_of_ble_eq_true rfl⟩ dX0_init_7 rfl (fun q7 => ?_)
  refine w_G (Γ' := (p, l, e, rX0_init, s, m, args, below, meth, c, D, cy, ad, A, 1, 8, _)) rfl ?_
  refine l_putF (j := 1) (C := RX0) (Tt := TX0) (N := 2) (ty := (.array .int)) tyX0 hk rfl (by decide) inT_X0 fl_RX0_9 rfl tyX0_ok nmX0 rfl hin rfl (by decide +kernel) rfl rfl (Nat.le_of_ble_eq_true rfl) dX0_init_9 rfl ?_
  refine w_W (ws' := cf ws k (a, .inr (0, [.null, .ref q7])) [(q7, .inl (cy 13, 8, .inl dfI))]) rfl ?_
  refine w_aload_n 0 dX0_init_12 rfl rfl rfl ?_
  refine w_aload_n 1 dX0_init_13 rfl rfl rfl ?_
  refine l_putF (j := 0) (C := RX0) (Tt := TX0) (N := 2) (ty := (.object RX10)) tyX0 hk rfl (by decide) inT_X0 fl_RX0_15 rfl tyX0_ok nmX0 rfl hin rfl (by decide +kernel) rfl rfl (Nat.le_of_ble_eq_true rfl) dX0_init_14 rfl ?_
  refine w_W (ws' := cf ws k (a, .inr (0, [.ref r0, .ref q7])) [(q7, .inl (cy 13, 8, .inl dfI))]) rfl ?_
  exact l_return (fun i => [q7].getD i 0) rfl rfl dX0_init_17
theorem k_X0_init {Γ : CX} {cc : ByteArray} {nL : Nat} {own : String} {ret : Option FieldType} {rm : Room} {ws L : va_W} {k q : Nat} {T : Nat × va_E} {pc pc' idx : Nat} {lv : List (Nat × Value)} {rest : List Value} {r0 : Nat} (hl : Cond.methodLink own idx yX0_init ∈ TB) (hw : (rest.map fun v => v.category).sum ≤ 8) (hR : rX0_init.frames + 1 ≤ rm.frames ∧ 8 + (2 + 11) + rX0_init.locals ≤ rm.locals) (hR2 : xk Γ + rX0_init.cells ≤ rm.cells ∧ xn Γ + rX0_init.slots ≤ rm.slots) (hd : decode cc pc = .ok (.invokespecial idx, 3)) (hp : pc + 3 = pc') (h : ∀ qs : Nat → Nat, WL (bump Γ rX0_init.cells rX0_init.slots) cc nL own ret rm (cf ws k T (L ++ [(q, .inr (0, [.ref r0, .ref (qs 0)]))] ++ [((qs 0), .inl (xy Γ 13, 8, .inl dfI))])) pc' lv rest) : WL Γ cc nL own ret rm (cf ws k T (L ++ [(q, .inr (0, [.null, .null]))])) pc lv (.ref r0 :: .ref q :: rest) := by
  have hc := c_X0_init (l := xl Γ) (D := xD Γ) (cy := xy Γ) (ad := xd Γ) (ws := cf ws k T (L ++ [(q, .inr (0, [.null, .null]))])) (k := (cf ws k T L).length) (a := q) (r0 := r0) (by simp [cf])
  rw [cf_self cf_last] at hc
  simp only [cf_last_set] at hc
  exact l_callI (nn := 1) (As := [.ref r0]) (rest := rest) hc hl mw_X0_init rfl (by decide +kernel) hR hR2 rfl hw hd rfl hp h
def rX7_init : Room := { frames := 1, cells := 4, slots := 252, locals := 20 }
theorem mw_X7_init : Cond.instanceMethod yX7_init ∈ TB ∧ Cond.initialized yX7_init.cls ∈ TB ∧ Cond.code yX7_init cX7_init 1 none ∈ TB := ⟨tb_m (bk_2 (List.mem_of_getElem? (i := 55) rfl)) rfl, tb_m (bk_1 (List.mem_of_getElem? (i := 12) rfl)) rfl, tb_m (bk_2 (List.mem_of_getElem? (i := 56) rfl)) rfl⟩
set_option maxHeartbeats 4000000 in
set_option maxRecDepth 40000 in
theorem c_X7_init {l : Launch} {D : va_G} {cy : Nat → ClassId} {ad : Nat → Nat} {ws : va_W} {k a : Nat} (hk : k < ws.length) : CN l D cy ad yX7_init cX7_init 1 rX7_init [.ref a] (cf ws k (a, .inr (6, [.null, .null, .null, .null])) []) (fun qs => cf ws k (a, .inr (6, [.ref (qs 0), .ref (qs 1), .ref (qs 2), .ref (qs 3)])) [((qs 0), .inl (cy 15, 4, .inl dfI)), ((qs 1), .inl (cy 13, 4, .inl dfI)), ((qs 2), .inl (cy 13, 4, .inl dfI)), ((qs 3), .inl (cy 14, 240, .inr (.inl dfJ)))]) := by
  refine cn_of (by decide) rfl (Nat.le_of_ble_eq_true rfl) (fun p e s m args below meth c A hin => ?_)
  refine w_aload_n 0 dX7_init_0 rfl rfl rfl ?_
  refine l_obj ml_RX7_3 oi_w (Nat.le_of_ble_eq_true rfl) ⟨Nat.le_of_ble_eq_true rfl, Nat.le_of_ble_eq_true rfl⟩ dX7_init_1 rfl ?_
  refine w_aload_n 0 dX7_init_4 rfl rfl rfl ?_
  refine w_iconst (4 : Int32) dX7_init_5 ic_iconst_4 rfl ?_
  refine l_newZ 4 ac_boolean (by decide) (by decide +kernel) (by decide) ⟨Nat.le_of_ble_eq_true rfl, Nat.le_of_ble_eq_true rfl⟩ dX7_init_6 rfl (fun q6 => ?_)
  refine w_G (Γ' := (p, l, e, rX7_init, s, m, args, below, meth, c, D, cy, ad, A, 1, 4, _)) rfl ?_
  refine l_putF (j := 0) (C := RX7) (Tt := TX7) (N := 4) (ty := (.array .boolean)) tyX7 hk rfl (by decide) inT_X7 fl_RX7_11 rfl tyX7_ok nmX7 rfl hin rfl (by decide +kernel) rfl rfl (Nat.le_of_ble_eq_true rfl) dX7_init_8 rfl ?_
  refine w_W (ws' := cf ws k (a, .inr (6, [.ref q6, .null, .null, .null])) [(q6, .inl (cy 15, 4, .inl dfI))]) rfl ?_
  refine w_aload_n 0 dX7_init_11 rfl rfl rfl ?_
  refine w_iconst (4 : Int32) dX7_init_12 ic_iconst_4 rfl ?_
  refine l_newI 4 ac_int (by decide) (by decide +kernel) (by decide) ⟨Nat.le_of_ble_eq_true rfl, Nat.le_of_ble_eq_true rfl⟩ dX7_init_13 rfl (fun q13 => ?_)
  refine w_G (Γ' := (p, l, e, rX7_init, s, m, args, below, meth, c, D, cy, ad, A, 2, 8, _)) rfl ?_
  refine l_putF (j := 1) (C := RX7) (Tt := TX7) (N := 4) (ty := (.array .int)) tyX7 hk rfl (by decide) inT_X7 fl_RX7_15 rfl tyX7_ok nmX7 rfl hin rfl (by decide +kernel) rfl rfl (Nat.le_of_ble_eq_true rfl) dX7_init_15 rfl ?_
  refine w_W (ws' := cf ws k (a, .inr (6, [.ref q6, .ref q13, .null, .null])) [(q6, .inl (cy 15, 4, .inl dfI)), (q13, .inl (cy 13, 4, .inl dfI))]) rfl ?_
  refine w_aload_n 0 dX7_init_18 rfl rfl rfl ?_
  refine w_iconst (4 : Int32) dX7_init_19 ic_iconst_4 rfl ?_
  refine l_newI 4 ac_int (by decide) (by decide +kernel) (by decide) ⟨Nat.le_of_ble_eq_true rfl, Nat.le_of_ble_eq_true rfl⟩ dX7_init_20 rfl (fun q20 => ?_)
  refine w_G (Γ' := (p, l, e, rX7_init, s, m, args, below, meth, c, D, cy, ad, A, 3, 12, _)) rfl ?_
  refine l_putF (j := 2) (C := RX7) (Tt := TX7) (N := 4) (ty := (.array .int)) tyX7 hk rfl (by decide) inT_X7 fl_RX7_19 rfl tyX7_ok nmX7 rfl hin rfl (by decide +kernel) rfl rfl (Nat.le_of_ble_eq_true rfl) dX7_init_22 rfl ?_
  refine w_W (ws' := cf ws k (a, .inr (6, [.ref q6, .ref q13, .ref q20, .null])) [(q6, .inl (cy 15, 4, .inl dfI)), (q13, .inl (cy 13, 4, .inl dfI)), (q20, .inl (cy 13, 4, .inl dfI))]) rfl ?_
  refine w_aload_n 0 dX7_init_25 rfl rfl rfl ?_
  refine w_sipush (240 : Int32) dX7_init_26 ic_sipush_240 rfl ?_
  refine l_newJ 240 ac_long (by decide) (by decide +kernel) (by decide) ⟨Nat.le_of_ble_eq_true rfl, Nat.le_of_ble_eq_true rfl⟩ dX7_init_29 rfl (fun q29 => ?_)
  refine w_G (Γ' := (p, l, e, rX7_init, s, m, args, below, meth, c, D, cy, ad, A, 4, 252, _)) rfl ?_
  refine l_putF (j := 3) (C := RX7) (Tt := TX7) (N := 4) (ty := (.array .long)) tyX7 hk rfl (by decide) inT_X7 fl_RX7_22 rfl tyX7_ok nmX7 rfl hin rfl (by decide +kernel) rfl rfl (Nat.le_of_ble_eq_true rfl) dX7_init_31 rfl ?_
  refine w_W (ws' := cf ws k (a, .inr (6, [.ref q6, .ref q13, .ref q20, .ref q29])) [(q6, .inl (cy 15, 4, .inl dfI)), (q13, .inl (cy 13, 4, .inl dfI)), (q20, .inl (cy 13, 4, .inl dfI)), (q29, .inl (cy 14, 240, .inr (.inl dfJ)))]) rfl ?_
  exact l_return (fun i => [q6, q13, q20, q29].getD i 0) rfl rfl dX7_init_34
theorem k_X7_init {Γ : CX} {cc : ByteArray} {nL : Nat} {own : String} {ret : Option FieldType} {rm : Room} {ws L : va_W} {k q : Nat} {T : Nat × va_E} {pc pc' idx : Nat} {lv : List (Nat × Value)} {rest : List Value} (hl : SR (xd Γ) (xs Γ) → va_Nw (.methodLinkNest own idx yX7_init RX11) (xs Γ)) (hw : (rest.map fun v => v.category).sum ≤ 8) (hR : rX7_init.frames + 1 ≤ rm.frames ∧ 8 + (1 + 11) + rX7_init.locals ≤ rm.locals) (hR2 : xk Γ + rX7_init.cells ≤ rm.cells ∧ xn Γ + rX7_init.slots ≤ rm.slots) (hd : decode cc pc = .ok (.invokespecial idx, 3)) (hp : pc + 3 = pc') (h : ∀ qs : Nat → Nat, WL (bump Γ rX7_init.cells rX7_init.slots) cc nL own ret rm (cf ws k T (L ++ [(q, .inr (6, [.ref (qs 0), .ref (qs 1), .ref (qs 2), .ref (qs 3)]))] ++ [((qs 0), .inl (xy Γ 15, 4, .inl dfI)), ((qs 1), .inl (xy Γ 13, 4, .inl dfI)), ((qs 2), .inl (xy Γ 13, 4, .inl dfI)), ((qs 3), .inl (xy Γ 14, 240, .inr (.inl dfJ)))])) pc' lv rest) : WL Γ cc nL own ret rm (cf ws k T (L ++ [(q, .inr (6, [.null, .null, .null, .null]))])) pc lv (.ref q :: rest) := by
  have hc := c_X7_init (l := xl Γ) (D := xD Γ) (cy := xy Γ) (ad := xd Γ) (ws := cf ws k T (L ++ [(q, .inr (6, [.null, .null, .null, .null]))])) (k := (cf ws k T L).length) (a := q) (by simp [cf])
  rw [cf_self cf_last] at hc
  simp only [cf_last_set] at hc
  exact l_callN (host := RX11) (nn := 0) (As := []) (rest := rest) hc hl mw_X7_init rfl (by decide +kernel) hR hR2 rfl hw hd rfl hp h
def rX11_init : Room := { frames := 3, cells := 57, slots := 6830, locals := 65 }
theorem mw_X11_init : Cond.instanceMethod yX11_init ∈ TB ∧ Cond.initialized yX11_init.cls ∈ TB ∧ Cond.code yX11_init cX11_init 1 none ∈ TB := ⟨tb_m (bk_1 (List.mem_of_getElem? (i := 25) rfl)) rfl, tb_m (bk_1 (List.mem_of_getElem? (i := 1) rfl)) rfl, tb_m (bk_1 (List.mem_of_getElem? (i := 26) rfl)) rfl⟩
set_option maxHeartbeats 4000000 in
set_option maxRecDepth 40000 in
theorem c_X11_init {l : Launch} {D : va_G} {cy : Nat → ClassId} {ad : Nat → Nat} {ws : va_W} {k a : Nat} (hk : k < ws.length) : CN l D cy ad yX11_init cX11_init 1 rX11_init [.ref a] (cf ws k (a, .inr (10, [.null, .null, .null, .null, .null, .null, .null, .null, .null, .null, .null])) []) (fun qs => cf ws k (a, .inr (10, [.ref (qs 0), .ref (qs 14), .ref (qs 28), .ref (qs 30), .ref (qs 35), .ref (qs 42), .ref (qs 47), .ref (qs 48), .ref (qs 49), .ref (qs 51), .ref (qs 56)])) [((qs 0), .inr (9, [.int 0, .int 0, .int 0, .int 0, .int 0, .ref (qs 1), .ref (qs 2), .ref (qs 4), .ref (qs 6), .ref (qs 8), .ref (qs 10), .ref (qs 12)])), ((qs 1), .inl (cy 13, 2, .inl dfI)), ((qs 2), .inr (8, [.int (6 : Int32), .int (9 : Int32), .ref (qs 3), .int 0])), ((qs 3), .inl (cy 13, 54, .inl dfI)), ((qs 4), .inr (8, [.int (2 : Int32), .int (4 : Int32), .ref (qs 5), .int 0])), ((qs 5), .inl (cy 13, 8, .inl dfI)), ((qs 6), .inr (8, [.int (4 : Int32), .int (8 : Int32), .ref (qs 7), .int 0])), ((qs 7), .inl (cy 13, 32, .inl dfI)), ((qs 8), .inr (8, [.int (2 : Int32), .int (4 : Int32), .ref (qs 9), .int 0])), ((qs 9), .inl (cy 13, 8, .inl dfI)), ((qs 10), .inr (8, [.int (1 : Int32), .int (5 : Int32), .ref (qs 11), .int 0])), ((qs 11), .inl (cy 13, 5, .inl dfI)), ((qs 12), .inr (8, [.int (3 : Int32), .int (60 : Int32), .ref (qs 13), .int 0])), ((qs 13), .inl (cy 13, 180, .inl dfI)), ((qs 14), .inr (9, [.int 0, .int 0, .int 0, .int 0, .int 0, .ref (qs 15), .ref (qs 16), .ref (qs 18), .ref (qs 20), .ref (qs 22), .ref (qs 24), .ref (qs 26)])), ((qs 15), .inl (cy 13, 2, .inl dfI)), ((qs 16), .inr (8, [.int (6 : Int32), .int (9 : Int32), .ref (qs 17), .int 0])), ((qs 17), .inl (cy 13, 54, .inl dfI)), ((qs 18), .inr (8, [.int (2 : Int32), .int (4 : Int32), .ref (qs 19), .int 0])), ((qs 19), .inl (cy 13, 8, .inl dfI)), ((qs 20), .inr (8, [.int (4 : Int32), .int (8 : Int32), .ref (qs 21), .int 0])), ((qs 21), .inl (cy 13, 32, .inl dfI)), ((qs 22), .inr (8, [.int (2 : Int32), .int (4 : Int32), .ref (qs 23), .int 0])), ((qs 23), .inl (cy 13, 8, .inl dfI)), ((qs 24), .inr (8, [.int (1 : Int32), .int (5 : Int32), .ref (qs 25), .int 0])), ((qs 25), .inl (cy 13, 5, .inl dfI)), ((qs 26), .inr (8, [.int (3 : Int32), .int (60 : Int32), .ref (qs 27), .int 0])), ((qs 27), .inl (cy 13, 180, .inl dfI)), ((qs 28), .inr (5, [.ref (qs 29), .int 0, .int 0, .int (-1 : Int32), .ref (qs 14), .int 0, .int 0, .int 0, .int 0])), ((qs 29), .inl (cy 12, 1200, .inl dfI)), ((qs 30), .inr (1, [.ref (qs 0), .ref (qs 31), .ref (qs 32), .ref (qs 33), .ref (qs 34), .int 0])), ((qs 31), .inl (cy 13, 61, .inl dfI)), ((qs 32), .inl (cy 13, 512, .inl dfI)), ((qs 33), .inl (cy 13, 512, .inl dfI)), ((qs 34), .inl (cy 13, 512, .inl dfI)), ((qs 35), .inr (2, [.ref (qs 0), .ref (qs 30), .ref (qs 36), .ref (qs 37), .ref (qs 38), .ref (qs 39), .ref (qs 40), .ref (qs 41)])), ((qs 36), .inl (cy 13, 512, .inl dfI)), ((qs 37), .inl (cy 13, 512, .inl dfI)), ((qs 38), .inl (cy 14, 512, .inr (.inl dfJ))), ((qs 39), .inl (cy 15, 512, .inl dfI)), ((qs 40), .inl (cy 13, 512, .inl dfI)), ((qs 41), .inl (cy 13, 512, .inl dfI)), ((qs 42), .inr (4, [.int 0, .ref (qs 43), .ref (qs 44), .ref (qs 45), .ref (qs 46)])), ((qs 43), .inl (cy 13, 3, .inl dfI)), ((qs 44), .inl (cy 13, 3, .inl dfI)), ((qs 45), .inl (cy 13, 3, .inl dfI)), ((qs 46), .inl (cy 13, 3, .inl dfI)), ((qs 47), .inr (3, [.ref (qs 0)])), ((qs 48), .inr (7, [.ref (qs 0)])), ((qs 49), .inr (0, [.ref (qs 0), .ref (qs 50)])), ((qs 50), .inl (cy 13, 8, .inl dfI)), ((qs 51), .inr (6, [.ref (qs 52), .ref (qs 53), .ref (qs 54), .ref (qs 55)])), ((qs 52), .inl (cy 15, 4, .inl dfI)), ((qs 53), .inl (cy 13, 4, .inl dfI)), ((qs 54), .inl (cy 13, 4, .inl dfI)), ((qs 55), .inl (cy 14, 240, .inr (.inl dfJ))), ((qs 56), .inl (cy 16, 3, .inr (.inr (.inr (.inr (fun _ => none))))))]) := by
  refine cn_of (by decide) rfl (Nat.le_of_ble_eq_true rfl) (fun p e s m args below meth c A hin => ?_)
  refine w_aload_n 0 dX11_init_0 rfl rfl rfl ?_
  refine l_obj ml_RX11_1 oi_w (Nat.le_of_ble_eq_true rfl) ⟨Nat.le_of_ble_eq_true rfl, Nat.le_of_ble_eq_true rfl⟩ dX11_init_1 rfl ?_
  refine w_aload_n 0 dX11_init_4 rfl rfl rfl ?_
  refine l_new (ci := 9) [.int 0, .int 0, .int 0, .int 0, .int 0, .null, .null, .null, .null, .null, .null, .null] tyX10 rfl inT_X10 tyX10_ok ⟨kl_RX11_7, is_X10⟩ df_X10 ⟨Nat.le_of_ble_eq_true rfl, Nat.le_of_ble_eq_true rfl⟩ dX11_init_5 rfl (fun q5 => ?_)
  refine w_G (Γ' := (p, l, e, rX11_init, s, m, args, below, meth, c, D, cy, ad, A, 1, 12, _)) rfl ?_
  refine w_dup dX11_init_8 rfl rfl ?_
  refine k_X10_init (fun h => h.2.1) (Nat.le_of_ble_eq_true rfl) ⟨Nat.le_of_ble_eq_true rfl, Nat.le_of_ble_eq_true rfl⟩ ⟨Nat.le_of_ble_eq_true rfl, Nat.le_of_ble_eq_true rfl⟩ dX11_init_9 rfl (fun u9 => ?_)
  refine w_G (Γ' := (p, l, e, rX11_init, s, m, args, below, meth, c, D, cy, ad, A, 14, 325, _)) rfl ?_
  refine l_putF (j := 0) (C := RX11) (Tt := TX11) (N := 11) (ty := (.object RX10)) tyX11 hk rfl (by decide) inT_X11 fl_RX11_10 rfl tyX11_ok nmX11 rfl hin rfl (by decide +kernel) rfl rfl (Nat.le_of_ble_eq_true rfl) dX11_init_12 rfl ?_
  refine w_W (ws' := cf ws k (a, .inr (10, [.ref q5, .null, .null, .null, .null, .null, .null, .null, .null, .null, .null])) [(q5, .inr (9, [.int 0, .int 0, .int 0, .int 0, .int 0, .ref (u9 0), .ref (u9 1), .ref (u9 3), .ref (u9 5), .ref (u9 7), .ref (u9 9), .ref (u9 11)])), ((u9 0), .inl (cy 13, 2, .inl dfI)), ((u9 1), .inr (8, [.int (6 : Int32), .int (9 : Int32), .ref (u9 2), .int 0])), ((u9 2), .inl (cy 13, 54, .inl dfI)), ((u9 3), .inr (8, [.int (2 : Int32), .int (4 : Int32), .ref (u9 4), .int 0])), ((u9 4), .inl (cy 13, 8, .inl dfI)), ((u9 5), .inr (8, [.int (4 : Int32), .int (8 : Int32), .ref (u9 6), .int 0])), ((u9 6), .inl (cy 13, 32, .inl dfI)), ((u9 7), .inr (8, [.int (2 : Int32), .int (4 : Int32), .ref (u9 8), .int 0])), ((u9 8), .inl (cy 13, 8, .inl dfI)), ((u9 9), .inr (8, [.int (1 : Int32), .int (5 : Int32), .ref (u9 10), .int 0])), ((u9 10), .inl (cy 13, 5, .inl dfI)), ((u9 11), .inr (8, [.int (3 : Int32), .int (60 : Int32), .ref (u9 12), .int 0])), ((u9 12), .inl (cy 13, 180, .inl dfI))]) rfl ?_
  refine w_aload_n 0 dX11_init_15 rfl rfl rfl ?_
  refine l_new (ci := 9) [.int 0, .int 0, .int 0, .int 0, .int 0, .null, .null, .null, .null, .null, .null, .null] tyX10 rfl inT_X10 tyX10_ok ⟨kl_RX11_7, is_X10⟩ df_X10 ⟨Nat.le_of_ble_eq_true rfl, Nat.le_of_ble_eq_true rfl⟩ dX11_init_16 rfl (fun q16 => ?_)
  refine w_G (Γ' := (p, l, e, rX11_init, s, m, args, below, meth, c, D, cy, ad, A, 15, 337, _)) rfl ?_
  refine w_dup dX11_init_19 rfl rfl ?_
  refine k_X10_init (fun h => h.2.1) (Nat.le_of_ble_eq_true rfl) ⟨Nat.le_of_ble_eq_true rfl, Nat.le_of_ble_eq_true rfl⟩ ⟨Nat.le_of_ble_eq_true rfl, Nat.le_of_ble_eq_true rfl⟩ dX11_init_20 rfl (fun u20 => ?_)
  refine w_G (Γ' := (p, l, e, rX11_init, s, m, args, below, meth, c, D, cy, ad, A, 28, 650, _)) rfl ?_
  refine l_putF (j := 1) (C := RX11) (Tt := TX11) (N := 11) (ty := (.object RX10)) tyX11 hk rfl (by decide) inT_X11 fl_RX11_16 rfl tyX11_ok nmX11 rfl hin rfl (by decide +kernel) rfl rfl (Nat.le_of_ble_eq_true rfl) dX11_init_23 rfl ?_
  refine w_W (ws' := cf ws k (a, .inr (10, [.ref q5, .ref q16, .null, .null, .null, .null, .null, .null, .null, .null, .null])) [(q5, .inr (9, [.int 0, .int 0, .int 0, .int 0, .int 0, .ref (u9 0), .ref (u9 1), .ref (u9 3), .ref (u9 5), .ref (u9 7), .ref (u9 9), .ref (u9 11)])), ((u9 0), .inl (cy 13, 2, .inl dfI)), ((u9 1), .inr (8, [.int (6 : Int32), .int (9 : Int32), .ref (u9 2), .int 0])), ((u9 2), .inl (cy 13, 54, .inl dfI)), ((u9 3), .inr (8, [.int (2 : Int32), .int (4 : Int32), .ref (u9 4), .int 0])), ((u9 4), .inl (cy 13, 8, .inl dfI)), ((u9 5), .inr (8, [.int (4 : Int32), .int (8 : Int32), .ref (u9 6), .int 0])), ((u9 6), .inl (cy 13, 32, .inl dfI)), ((u9 7), .inr (8, [.int (2 : Int32), .int (4 : Int32), .ref (u9 8), .int 0])), ((u9 8), .inl (cy 13, 8, .inl dfI)), ((u9 9), .inr (8, [.int (1 : Int32), .int (5 : Int32), .ref (u9 10), .int 0])), ((u9 10), .inl (cy 13, 5, .inl dfI)), ((u9 11), .inr (8, [.int (3 : Int32), .int (60 : Int32), .ref (u9 12), .int 0])), ((u9 12), .inl (cy 13, 180, .inl dfI)), (q16, .inr (9, [.int 0, .int 0, .int 0, .int 0, .int 0, .ref (u20 0), .ref (u20 1), .ref (u20 3), .ref (u20 5), .ref (u20 7), .ref (u20 9), .ref (u20 11)])), ((u20 0), .inl (cy 13, 2, .inl dfI)), ((u20 1), .inr (8, [.int (6 : Int32), .int (9 : Int32), .ref (u20 2), .int 0])), ((u20 2), .inl (cy 13, 54, .inl dfI)), ((u20 3), .inr (8, [.int (2 : Int32), .int (4 : Int32), .ref (u20 4), .int 0])), ((u20 4), .inl (cy 13, 8, .inl dfI)), ((u20 5), .inr (8, [.int (4 : Int32), .int (8 : Int32), .ref (u20 6), .int 0])), ((u20 6), .inl (cy 13, 32, .inl dfI)), ((u20 7), .inr (8, [.int (2 : Int32), .int (4 : Int32), .ref (u20 8), .int 0])), ((u20 8), .inl (cy 13, 8, .inl dfI)), ((u20 9), .inr (8, [.int (1 : Int32), .int (5 : Int32), .ref (u20 10), .int 0])), ((u20 10), .inl (cy 13, 5, .inl dfI)), ((u20 11), .inr (8, [.int (3 : Int32), .int (60 : Int32), .ref (u20 12), .int 0])), ((u20 12), .inl (cy 13, 180, .inl dfI))]) rfl ?_
  refine w_aload_n 0 dX11_init_26 rfl rfl rfl ?_
  refine l_new (ci := 5) [.null, .int 0, .int 0, .int 0, .null, .int 0, .int 0, .int 0, .int 0] tyX6 rfl inT_X6 tyX6_ok ⟨kl_RX11_19, is_X6⟩ df_X6 ⟨Nat.le_of_ble_eq_true rfl, Nat.le_of_ble_eq_true rfl⟩ dX11_init_27 rfl (fun q27 => ?_)
  refine w_G (Γ' := (p, l, e, rX11_init, s, m, args, below, meth, c, D, cy, ad, A, 29, 659, _)) rfl ?_
  refine w_dup dX11_init_30 rfl rfl ?_
  refine w_aload_n 0 dX11_init_31 rfl rfl rfl ?_
  refine l_get (j := 1) (C := RX11) (Tt := TX11) (N := 11) hk rfl (by decide) rfl inT_X11 fl_RX11_16 rfl dX11_init_32 rfl ?_
  refine k_X6_init ml_RX11_21 (Nat.le_of_ble_eq_true rfl) ⟨Nat.le_of_ble_eq_true rfl, Nat.le_of_ble_eq_true rfl⟩ ⟨Nat.le_of_ble_eq_true rfl, Nat.le_of_ble_eq_true rfl⟩ dX11_init_35 rfl (fun u35 => ?_)
  refine w_G (Γ' := (p, l, e, rX11_init, s, m, args, below, meth, c, D, cy, ad, A, 30, 1859, _)) rfl ?_
  refine l_putF (j := 2) (C := RX11) (Tt := TX11) (N := 11) (ty := (.object RX6)) tyX11 hk rfl (by decide) inT_X11 fl_RX11_24 rfl tyX11_ok nmX11 rfl hin rfl (by decide +kernel) rfl rfl (Nat.le_of_ble_eq_true rfl) dX11_init_38 rfl ?_
  refine w_W (ws' := cf ws k (a, .inr (10, [.ref q5, .ref q16, .ref q27, .null, .null, .null, .null, .null, .null, .null, .null])) [(q5, .inr (9, [.int 0, .int 0, .int 0, .int 0, .int 0, .ref (u9 0), .ref (u9 1), .ref (u9 3), .ref (u9 5), .ref (u9 7), .ref (u9 9), .ref (u9 11)])), ((u9 0), .inl (cy 13, 2, .inl dfI)), ((u9 1), .inr (8, [.int (6 : Int32), .int (9 : Int32), .ref (u9 2), .int 0])), ((u9 2), .inl (cy 13, 54, .inl dfI)), ((u9 3), .inr (8, [.int (2 : Int32), .int (4 : Int32), .ref (u9 4), .int 0])), ((u9 4), .inl (cy 13, 8, .inl dfI)), ((u9 5), .inr (8, [.int (4 : Int32), .int (8 : Int32), .ref (u9 6), .int 0])), ((u9 6), .inl (cy 13, 32, .inl dfI)), ((u9 7), .inr (8, [.int (2 : Int32), .int (4 : Int32), .ref (u9 8), .int 0])), ((u9 8), .inl (cy 13, 8, .inl dfI)), ((u9 9), .inr (8, [.int (1 : Int32), .int (5 : Int32), .ref (u9 10), .int 0])), ((u9 10), .inl (cy 13, 5, .inl dfI)), ((u9 11), .inr (8, [.int (3 : Int32), .int (60 : Int32), .ref (u9 12), .int 0])), ((u9 12), .inl (cy 13, 180, .inl dfI)), (q16, .inr (9, [.int 0, .int 0, .int 0, .int 0, .int 0, .ref (u20 0), .ref (u20 1), .ref (u20 3), .ref (u20 5), .ref (u20 7), .ref (u20 9), .ref (u20 11)])), ((u20 0), .inl (cy 13, 2, .inl dfI)), ((u20 1), .inr (8, [.int (6 : Int32), .int (9 : Int32), .ref (u20 2), .int 0])), ((u20 2), .inl (cy 13, 54, .inl dfI)), ((u20 3), .inr (8, [.int (2 : Int32), .int (4 : Int32), .ref (u20 4), .int 0])), ((u20 4), .inl (cy 13, 8, .inl dfI)), ((u20 5), .inr (8, [.int (4 : Int32), .int (8 : Int32), .ref (u20 6), .int 0])), ((u20 6), .inl (cy 13, 32, .inl dfI)), ((u20 7), .inr (8, [.int (2 : Int32), .int (4 : Int32), .ref (u20 8), .int 0])), ((u20 8), .inl (cy 13, 8, .inl dfI)), ((u20 9), .inr (8, [.int (1 : Int32), .int (5 : Int32), .ref (u20 10), .int 0])), ((u20 10), .inl (cy 13, 5, .inl dfI)), ((u20 11), .inr (8, [.int (3 : Int32), .int (60 : Int32), .ref (u20 12), .int 0])), ((u20 12), .inl (cy 13, 180, .inl dfI)), (q27, .inr (5, [.ref (u35 0), .int 0, .int 0, .int (-1 : Int32), .ref q16, .int 0, .int 0, .int 0, .int 0])), ((u35 0), .inl (cy 12, 1200, .inl dfI))]) rfl ?_
  refine w_aload_n 0 dX11_init_41 rfl rfl rfl ?_
  refine l_new (ci := 1) [.null, .null, .null, .null, .null, .int 0] tyX2 rfl inT_X2 tyX2_ok ⟨kl_RX11_28, is_X2⟩ df_X2 ⟨Nat.le_of_ble_eq_true rfl, Nat.le_of_ble_eq_true rfl⟩ dX11_init_42 rfl (fun q42 => ?_)
  refine w_G (Γ' := (p, l, e, rX11_init, s, m, args, below, meth, c, D, cy, ad, A, 31, 1865, _)) rfl ?_
  refine w_dup dX11_init_45 rfl rfl ?_
  refine w_aload_n 0 dX11_init_46 rfl rfl rfl ?_
  refine l_get (j := 0) (C := RX11) (Tt := TX11) (N := 11) hk rfl (by decide) rfl inT_X11 fl_RX11_10 rfl dX11_init_47 rfl ?_
  refine k_X2_init ml_RX11_30 (Nat.le_of_ble_eq_true rfl) ⟨Nat.le_of_ble_eq_true rfl, Nat.le_of_ble_eq_true rfl⟩ ⟨Nat.le_of_ble_eq_true rfl, Nat.le_of_ble_eq_true rfl⟩ dX11_init_50 rfl (fun u50 => ?_)
  refine w_G (Γ' := (p, l, e, rX11_init, s, m, args, below, meth, c, D, cy, ad, A, 35, 3462, _)) rfl ?_
  refine l_putF (j := 3) (C := RX11) (Tt := TX11) (N := 11) (ty := (.object RX2)) tyX11 hk rfl (by decide) inT_X11 fl_RX11_31 rfl tyX11_ok nmX11 rfl hin rfl (by decide +kernel) rfl rfl (Nat.le_of_ble_eq_true rfl) dX11_init_53 rfl ?_
  refine w_W (ws' := cf ws k (a, .inr (10, [.ref q5, .ref q16, .ref q27, .ref q42, .null, .null, .null, .null, .null, .null, .null])) [(q5, .inr (9, [.int 0, .int 0, .int 0, .int 0, .int 0, .ref (u9 0), .ref (u9 1), .ref (u9 3), .ref (u9 5), .ref (u9 7), .ref (u9 9), .ref (u9 11)])), ((u9 0), .inl (cy 13, 2, .inl dfI)), ((u9 1), .inr (8, [.int (6 : Int32), .int (9 : Int32), .ref (u9 2), .int 0])), ((u9 2), .inl (cy 13, 54, .inl dfI)), ((u9 3), .inr (8, [.int (2 : Int32), .int (4 : Int32), .ref (u9 4), .int 0])), ((u9 4), .inl (cy 13, 8, .inl dfI)), ((u9 5), .inr (8, [.int (4 : Int32), .int (8 : Int32), .ref (u9 6), .int 0])), ((u9 6), .inl (cy 13, 32, .inl dfI)), ((u9 7), .inr (8, [.int (2 : Int32), .int (4 : Int32), .ref (u9 8), .int 0])), ((u9 8), .inl (cy 13, 8, .inl dfI)), ((u9 9), .inr (8, [.int (1 : Int32), .int (5 : Int32), .ref (u9 10), .int 0])), ((u9 10), .inl (cy 13, 5, .inl dfI)), ((u9 11), .inr (8, [.int (3 : Int32), .int (60 : Int32), .ref (u9 12), .int 0])), ((u9 12), .inl (cy 13, 180, .inl dfI)), (q16, .inr (9, [.int 0, .int 0, .int 0, .int 0, .int 0, .ref (u20 0), .ref (u20 1), .ref (u20 3), .ref (u20 5), .ref (u20 7), .ref (u20 9), .ref (u20 11)])), ((u20 0), .inl (cy 13, 2, .inl dfI)), ((u20 1), .inr (8, [.int (6 : Int32), .int (9 : Int32), .ref (u20 2), .int 0])), ((u20 2), .inl (cy 13, 54, .inl dfI)), ((u20 3), .inr (8, [.int (2 : Int32), .int (4 : Int32), .ref (u20 4), .int 0])), ((u20 4), .inl (cy 13, 8, .inl dfI)), ((u20 5), .inr (8, [.int (4 : Int32), .int (8 : Int32), .ref (u20 6), .int 0])), ((u20 6), .inl (cy 13, 32, .inl dfI)), ((u20 7), .inr (8, [.int (2 : Int32), .int (4 : Int32), .ref (u20 8), .int 0])), ((u20 8), .inl (cy 13, 8, .inl dfI)), ((u20 9), .inr (8, [.int (1 : Int32), .int (5 : Int32), .ref (u20 10), .int 0])), ((u20 10), .inl (cy 13, 5, .inl dfI)), ((u20 11), .inr (8, [.int (3 : Int32), .int (60 : Int32), .ref (u20 12), .int 0])), ((u20 12), .inl (cy 13, 180, .inl dfI)), (q27, .inr (5, [.ref (u35 0), .int 0, .int 0, .int (-1 : Int32), .ref q16, .int 0, .int 0, .int 0, .int 0])), ((u35 0), .inl (cy 12, 1200, .inl dfI)), (q42, .inr (1, [.ref q5, .ref (u50 0), .ref (u50 1), .ref (u50 2), .ref (u50 3), .int 0])), ((u50 0), .inl (cy 13, 61, .inl dfI)), ((u50 1), .inl (cy 13, 512, .inl dfI)), ((u50 2), .inl (cy 13, 512, .inl dfI)), ((u50 3), .inl (cy 13, 512, .inl dfI))]) rfl ?_
  refine w_aload_n 0 dX11_init_56 rfl rfl rfl ?_
  refine l_new (ci := 2) [.null, .null, .null, .null, .null, .null, .null, .null] tyX3 rfl inT_X3 tyX3_ok ⟨kl_RX11_35, is_X3⟩ df_X3 ⟨Nat.le_of_ble_eq_true rfl, Nat.le_of_ble_eq_true rfl⟩ dX11_init_57 rfl (fun q57 => ?_)
  refine w_G (Γ' := (p, l, e, rX11_init, s, m, args, below, meth, c, D, cy, ad, A, 36, 3470, _)) rfl ?_
  refine w_dup dX11_init_60 rfl rfl ?_
  refine w_aload_n 0 dX11_init_61 rfl rfl rfl ?_
  refine l_get (j := 0) (C := RX11) (Tt := TX11) (N := 11) hk rfl (by decide) rfl inT_X11 fl_RX11_10 rfl dX11_init_62 rfl ?_
  refine w_aload_n 0 dX11_init_65 rfl rfl rfl ?_
  refine l_get (j := 3) (C := RX11) (Tt := TX11) (N := 11) hk rfl (by decide) rfl inT_X11 fl_RX11_31 rfl dX11_init_66 rfl ?_
  refine k_X3_init ml_RX11_37 (Nat.le_of_ble_eq_true rfl) ⟨Nat.le_of_ble_eq_true rfl, Nat.le_of_ble_eq_true rfl⟩ ⟨Nat.le_of_ble_eq_true rfl, Nat.le_of_ble_eq_true rfl⟩ dX11_init_69 rfl (fun u69 => ?_)
  refine w_G (Γ' := (p, l, e, rX11_init, s, m, args, below, meth, c, D, cy, ad, A, 42, 6542, _)) rfl ?_
  refine l_putF (j := 4) (C := RX11) (Tt := TX11) (N := 11) (ty := (.object RX3)) tyX11 hk rfl (by decide) inT_X11 fl_RX11_40 rfl tyX11_ok nmX11 rfl hin rfl (by decide +kernel) rfl rfl (Nat.le_of_ble_eq_true rfl) dX11_init_72 rfl ?_
  refine w_W (ws' := cf ws k (a, .inr (10, [.ref q5, .ref q16, .ref q27, .ref q42, .ref q57, .null, .null, .null, .null, .null, .null])) [(q5, .inr (9, [.int 0, .int 0, .int 0, .int 0, .int 0, .ref (u9 0), .ref (u9 1), .ref (u9 3), .ref (u9 5), .ref (u9 7), .ref (u9 9), .ref (u9 11)])), ((u9 0), .inl (cy 13, 2, .inl dfI)), ((u9 1), .inr (8, [.int (6 : Int32), .int (9 : Int32), .ref (u9 2), .int 0])), ((u9 2), .inl (cy 13, 54, .inl dfI)), ((u9 3), .inr (8, [.int (2 : Int32), .int (4 : Int32), .ref (u9 4), .int 0])), ((u9 4), .inl (cy 13, 8, .inl dfI)), ((u9 5), .inr (8, [.int (4 : Int32), .int (8 : Int32), .ref (u9 6), .int 0])), ((u9 6), .inl (cy 13, 32, .inl dfI)), ((u9 7), .inr (8, [.int (2 : Int32), .int (4 : Int32), .ref (u9 8), .int 0])), ((u9 8), .inl (cy 13, 8, .inl dfI)), ((u9 9), .inr (8, [.int (1 : Int32), .int (5 : Int32), .ref (u9 10), .int 0])), ((u9 10), .inl (cy 13, 5, .inl dfI)), ((u9 11), .inr (8, [.int (3 : Int32), .int (60 : Int32), .ref (u9 12), .int 0])), ((u9 12), .inl (cy 13, 180, .inl dfI)), (q16, .inr (9, [.int 0, .int 0, .int 0, .int 0, .int 0, .ref (u20 0), .ref (u20 1), .ref (u20 3), .ref (u20 5), .ref (u20 7), .ref (u20 9), .ref (u20 11)])), ((u20 0), .inl (cy 13, 2, .inl dfI)), ((u20 1), .inr (8, [.int (6 : Int32), .int (9 : Int32), .ref (u20 2), .int 0])), ((u20 2), .inl (cy 13, 54, .inl dfI)), ((u20 3), .inr (8, [.int (2 : Int32), .int (4 : Int32), .ref (u20 4), .int 0])), ((u20 4), .inl (cy 13, 8, .inl dfI)), ((u20 5), .inr (8, [.int (4 : Int32), .int (8 : Int32), .ref (u20 6), .int 0])), ((u20 6), .inl (cy 13, 32, .inl dfI)), ((u20 7), .inr (8, [.int (2 : Int32), .int (4 : Int32), .ref (u20 8), .int 0])), ((u20 8), .inl (cy 13, 8, .inl dfI)), ((u20 9), .inr (8, [.int (1 : Int32), .int (5 : Int32), .ref (u20 10), .int 0])), ((u20 10), .inl (cy 13, 5, .inl dfI)), ((u20 11), .inr (8, [.int (3 : Int32), .int (60 : Int32), .ref (u20 12), .int 0])), ((u20 12), .inl (cy 13, 180, .inl dfI)), (q27, .inr (5, [.ref (u35 0), .int 0, .int 0, .int (-1 : Int32), .ref q16, .int 0, .int 0, .int 0, .int 0])), ((u35 0), .inl (cy 12, 1200, .inl dfI)), (q42, .inr (1, [.ref q5, .ref (u50 0), .ref (u50 1), .ref (u50 2), .ref (u50 3), .int 0])), ((u50 0), .inl (cy 13, 61, .inl dfI)), ((u50 1), .inl (cy 13, 512, .inl dfI)), ((u50 2), .inl (cy 13, 512, .inl dfI)), ((u50 3), .inl (cy 13, 512, .inl dfI)), (q57, .inr (2, [.ref q5, .ref q42, .ref (u69 0), .ref (u69 1), .ref (u69 2), .ref (u69 3), .ref (u69 4), .ref (u69 5)])), ((u69 0), .inl (cy 13, 512, .inl dfI)), ((u69 1), .inl (cy 13, 512, .inl dfI)), ((u69 2), .inl (cy 14, 512, .inr (.inl dfJ))), ((u69 3), .inl (cy 15, 512, .inl dfI)), ((u69 4), .inl (cy 13, 512, .inl dfI)), ((u69 5), .inl (cy 13, 512, .inl dfI))]) rfl ?_
  refine w_aload_n 0 dX11_init_75 rfl rfl rfl ?_
  refine l_new (ci := 4) [.int 0, .null, .null, .null, .null] tyX5 rfl inT_X5 tyX5_ok ⟨kl_RX11_44, is_X5⟩ df_X5 ⟨Nat.le_of_ble_eq_true rfl, Nat.le_of_ble_eq_true rfl⟩ dX11_init_76 rfl (fun q76 => ?_)
  refine w_G (Γ' := (p, l, e, rX11_init, s, m, args, below, meth, c, D, cy, ad, A, 43, 6547, _)) rfl ?_
  refine w_dup dX11_init_79 rfl rfl ?_
  refine k_X5_init (fun h => h.2.2.1) (Nat.le_of_ble_eq_true rfl) ⟨Nat.le_of_ble_eq_true rfl, Nat.le_of_ble_eq_true rfl⟩ ⟨Nat.le_of_ble_eq_true rfl, Nat.le_of_ble_eq_true rfl⟩ dX11_init_80 rfl (fun u80 => ?_)
  refine w_G (Γ' := (p, l, e, rX11_init, s, m, args, below, meth, c, D, cy, ad, A, 47, 6559, _)) rfl ?_
  refine l_putF (j := 5) (C := RX11) (Tt := TX11) (N := 11) (ty := (.object RX5)) tyX11 hk rfl (by decide) inT_X11 fl_RX11_47 rfl tyX11_ok nmX11 rfl hin rfl (by decide +kernel) rfl rfl (Nat.le_of_ble_eq_true rfl) dX11_init_83 rfl ?_
  refine w_W (ws' := cf ws k (a, .inr (10, [.ref q5, .ref q16, .ref q27, .ref q42, .ref q57, .ref q76, .null, .null, .null, .null, .null])) [(q5, .inr (9, [.int 0, .int 0, .int 0, .int 0, .int 0, .ref (u9 0), .ref (u9 1), .ref (u9 3), .ref (u9 5), .ref (u9 7), .ref (u9 9), .ref (u9 11)])), ((u9 0), .inl (cy 13, 2, .inl dfI)), ((u9 1), .inr (8, [.int (6 : Int32), .int (9 : Int32), .ref (u9 2), .int 0])), ((u9 2), .inl (cy 13, 54, .inl dfI)), ((u9 3), .inr (8, [.int (2 : Int32), .int (4 : Int32), .ref (u9 4), .int 0])), ((u9 4), .inl (cy 13, 8, .inl dfI)), ((u9 5), .inr (8, [.int (4 : Int32), .int (8 : Int32), .ref (u9 6), .int 0])), ((u9 6), .inl (cy 13, 32, .inl dfI)), ((u9 7), .inr (8, [.int (2 : Int32), .int (4 : Int32), .ref (u9 8), .int 0])), ((u9 8), .inl (cy 13, 8, .inl dfI)), ((u9 9), .inr (8, [.int (1 : Int32), .int (5 : Int32), .ref (u9 10), .int 0])), ((u9 10), .inl (cy 13, 5, .inl dfI)), ((u9 11), .inr (8, [.int (3 : Int32), .int (60 : Int32), .ref (u9 12), .int 0])), ((u9 12), .inl (cy 13, 180, .inl dfI)), (q16, .inr (9, [.int 0, .int 0, .int 0, .int 0, .int 0, .ref (u20 0), .ref (u20 1), .ref (u20 3), .ref (u20 5), .ref (u20 7), .ref (u20 9), .ref (u20 11)])), ((u20 0), .inl (cy 13, 2, .inl dfI)), ((u20 1), .inr (8, [.int (6 : Int32), .int (9 : Int32), .ref (u20 2), .int 0])), ((u20 2), .inl (cy 13, 54, .inl dfI)), ((u20 3), .inr (8, [.int (2 : Int32), .int (4 : Int32), .ref (u20 4), .int 0])), ((u20 4), .inl (cy 13, 8, .inl dfI)), ((u20 5), .inr (8, [.int (4 : Int32), .int (8 : Int32), .ref (u20 6), .int 0])), ((u20 6), .inl (cy 13, 32, .inl dfI)), ((u20 7), .inr (8, [.int (2 : Int32), .int (4 : Int32), .ref (u20 8), .int 0])), ((u20 8), .inl (cy 13, 8, .inl dfI)), ((u20 9), .inr (8, [.int (1 : Int32), .int (5 : Int32), .ref (u20 10), .int 0])), ((u20 10), .inl (cy 13, 5, .inl dfI)), ((u20 11), .inr (8, [.int (3 : Int32), .int (60 : Int32), .ref (u20 12), .int 0])), ((u20 12), .inl (cy 13, 180, .inl dfI)), (q27, .inr (5, [.ref (u35 0), .int 0, .int 0, .int (-1 : Int32), .ref q16, .int 0, .int 0, .int 0, .int 0])), ((u35 0), .inl (cy 12, 1200, .inl dfI)), (q42, .inr (1, [.ref q5, .ref (u50 0), .ref (u50 1), .ref (u50 2), .ref (u50 3), .int 0])), ((u50 0), .inl (cy 13, 61, .inl dfI)), ((u50 1), .inl (cy 13, 512, .inl dfI)), ((u50 2), .inl (cy 13, 512, .inl dfI)), ((u50 3), .inl (cy 13, 512, .inl dfI)), (q57, .inr (2, [.ref q5, .ref q42, .ref (u69 0), .ref (u69 1), .ref (u69 2), .ref (u69 3), .ref (u69 4), .ref (u69 5)])), ((u69 0), .inl (cy 13, 512, .inl dfI)), ((u69 1), .inl (cy 13, 512, .inl dfI)), ((u69 2), .inl (cy 14, 512, .inr (.inl dfJ))), ((u69 3), .inl (cy 15, 512, .inl dfI)), ((u69 4), .inl (cy 13, 512, .inl dfI)), ((u69 5), .inl (cy 13, 512, .inl dfI)), (q76, .inr (4, [.int 0, .ref (u80 0), .ref (u80 1), .ref (u80 2), .ref (u80 3)])), ((u80 0), .inl (cy 13, 3, .inl dfI)), ((u80 1), .inl (cy 13, 3, .inl dfI)), ((u80 2), .inl (cy 13, 3, .inl dfI)), ((u80 3), .inl (cy 13, 3, .inl dfI))]) rfl ?_
  refine w_aload_n 0 dX11_init_86 rfl rfl rfl ?_
  refine l_new (ci := 3) [.null] tyX4 rfl inT_X4 tyX4_ok ⟨kl_RX11_51, is_X4⟩ df_X4 ⟨Nat.le_of_ble_eq_true rfl, Nat.le_of_ble_eq_true rfl⟩ dX11_init_87 rfl (fun q87 => ?_)
  refine w_G (Γ' := (p, l, e, rX11_init, s, m, args, below, meth, c, D, cy, ad, A, 48, 6560, _)) rfl ?_
  refine w_dup dX11_init_90 rfl rfl ?_
  refine w_aload_n 0 dX11_init_91 rfl rfl rfl ?_
  refine l_get (j := 0) (C := RX11) (Tt := TX11) (N := 11) hk rfl (by decide) rfl inT_X11 fl_RX11_10 rfl dX11_init_92 rfl ?_
  refine k_X4_init ml_RX11_53 (Nat.le_of_ble_eq_true rfl) ⟨Nat.le_of_ble_eq_true rfl, Nat.le_of_ble_eq_true rfl⟩ ⟨Nat.le_of_ble_eq_true rfl, Nat.le_of_ble_eq_true rfl⟩ dX11_init_95 rfl (fun u95 => ?_)
  refine w_G (Γ' := (p, l, e, rX11_init, s, m, args, below, meth, c, D, cy, ad, A, 48, 6560, _)) rfl ?_
  refine l_putF (j := 6) (C := RX11) (Tt := TX11) (N := 11) (ty := (.object RX4)) tyX11 hk rfl (by decide) inT_X11 fl_RX11_54 rfl tyX11_ok nmX11 rfl hin rfl (by decide +kernel) rfl rfl (Nat.le_of_ble_eq_true rfl) dX11_init_98 rfl ?_
  refine w_W (ws' := cf ws k (a, .inr (10, [.ref q5, .ref q16, .ref q27, .ref q42, .ref q57, .ref q76, .ref q87, .null, .null, .null, .null])) [(q5, .inr (9, [.int 0, .int 0, .int 0, .int 0, .int 0, .ref (u9 0), .ref (u9 1), .ref (u9 3), .ref (u9 5), .ref (u9 7), .ref (u9 9), .ref (u9 11)])), ((u9 0), .inl (cy 13, 2, .inl dfI)), ((u9 1), .inr (8, [.int (6 : Int32), .int (9 : Int32), .ref (u9 2), .int 0])), ((u9 2), .inl (cy 13, 54, .inl dfI)), ((u9 3), .inr (8, [.int (2 : Int32), .int (4 : Int32), .ref (u9 4), .int 0])), ((u9 4), .inl (cy 13, 8, .inl dfI)), ((u9 5), .inr (8, [.int (4 : Int32), .int (8 : Int32), .ref (u9 6), .int 0])), ((u9 6), .inl (cy 13, 32, .inl dfI)), ((u9 7), .inr (8, [.int (2 : Int32), .int (4 : Int32), .ref (u9 8), .int 0])), ((u9 8), .inl (cy 13, 8, .inl dfI)), ((u9 9), .inr (8, [.int (1 : Int32), .int (5 : Int32), .ref (u9 10), .int 0])), ((u9 10), .inl (cy 13, 5, .inl dfI)), ((u9 11), .inr (8, [.int (3 : Int32), .int (60 : Int32), .ref (u9 12), .int 0])), ((u9 12), .inl (cy 13, 180, .inl dfI)), (q16, .inr (9, [.int 0, .int 0, .int 0, .int 0, .int 0, .ref (u20 0), .ref (u20 1), .ref (u20 3), .ref (u20 5), .ref (u20 7), .ref (u20 9), .ref (u20 11)])), ((u20 0), .inl (cy 13, 2, .inl dfI)), ((u20 1), .inr (8, [.int (6 : Int32), .int (9 : Int32), .ref (u20 2), .int 0])), ((u20 2), .inl (cy 13, 54, .inl dfI)), ((u20 3), .inr (8, [.int (2 : Int32), .int (4 : Int32), .ref (u20 4), .int 0])), ((u20 4), .inl (cy 13, 8, .inl dfI)), ((u20 5), .inr (8, [.int (4 : Int32), .int (8 : Int32), .ref (u20 6), .int 0])), ((u20 6), .inl (cy 13, 32, .inl dfI)), ((u20 7), .inr (8, [.int (2 : Int32), .int (4 : Int32), .ref (u20 8), .int 0])), ((u20 8), .inl (cy 13, 8, .inl dfI)), ((u20 9), .inr (8, [.int (1 : Int32), .int (5 : Int32), .ref (u20 10), .int 0])), ((u20 10), .inl (cy 13, 5, .inl dfI)), ((u20 11), .inr (8, [.int (3 : Int32), .int (60 : Int32), .ref (u20 12), .int 0])), ((u20 12), .inl (cy 13, 180, .inl dfI)), (q27, .inr (5, [.ref (u35 0), .int 0, .int 0, .int (-1 : Int32), .ref q16, .int 0, .int 0, .int 0, .int 0])), ((u35 0), .inl (cy 12, 1200, .inl dfI)), (q42, .inr (1, [.ref q5, .ref (u50 0), .ref (u50 1), .ref (u50 2), .ref (u50 3), .int 0])), ((u50 0), .inl (cy 13, 61, .inl dfI)), ((u50 1), .inl (cy 13, 512, .inl dfI)), ((u50 2), .inl (cy 13, 512, .inl dfI)), ((u50 3), .inl (cy 13, 512, .inl dfI)), (q57, .inr (2, [.ref q5, .ref q42, .ref (u69 0), .ref (u69 1), .ref (u69 2), .ref (u69 3), .ref (u69 4), .ref (u69 5)])), ((u69 0), .inl (cy 13, 512, .inl dfI)), ((u69 1), .inl (cy 13, 512, .inl dfI)), ((u69 2), .inl (cy 14, 512, .inr (.inl dfJ))), ((u69 3), .inl (cy 15, 512, .inl dfI)), ((u69 4), .inl (cy 13, 512, .inl dfI)), ((u69 5), .inl (cy 13, 512, .inl dfI)), (q76, .inr (4, [.int 0, .ref (u80 0), .ref (u80 1), .ref (u80 2), .ref (u80 3)])), ((u80 0), .inl (cy 13, 3, .inl dfI)), ((u80 1), .inl (cy 13, 3, .inl dfI)), ((u80 2), .inl (cy 13, 3, .inl dfI)), ((u80 3), .inl (cy 13, 3, .inl dfI)), (q87, .inr (3, [.ref q5]))]) rfl ?_
  refine w_aload_n 0 dX11_init_101 rfl rfl rfl ?_
  refine l_new (ci := 7) [.null] tyX8 rfl inT_X8 tyX8_ok ⟨kl_RX11_58, is_X8⟩ df_X8 ⟨Nat.le_of_ble_eq_true rfl, Nat.le_of_ble_eq_true rfl⟩ dX11_init_102 rfl (fun q102 => ?_)
  refine w_G (Γ' := (p, l, e, rX11_init, s, m, args, below, meth, c, D, cy, ad, A, 49, 6561, _)) rfl ?_
  refine w_dup dX11_init_105 rfl rfl ?_
  refine w_aload_n 0 dX11_init_106 rfl rfl rfl ?_
  refine l_get (j := 0) (C := RX11) (Tt := TX11) (N := 11) hk rfl (by decide) rfl inT_X11 fl_RX11_10 rfl dX11_init_107 rfl ?_
  refine k_X8_init ml_RX11_60 (Nat.le_of_ble_eq_true rfl) ⟨Nat.le_of_ble_eq_true rfl, Nat.le_of_ble_eq_true rfl⟩ ⟨Nat.le_of_ble_eq_true rfl, Nat.le_of_ble_eq_true rfl⟩ dX11_init_110 rfl (fun u110 => ?_)
  refine w_G (Γ' := (p, l, e, rX11_init, s, m, args, below, meth, c, D, cy, ad, A, 49, 6561, _)) rfl ?_
  refine l_putF (j := 7) (C := RX11) (Tt := TX11) (N := 11) (ty := (.object RX8)) tyX11 hk rfl (by decide) inT_X11 fl_RX11_61 rfl tyX11_ok nmX11 rfl hin rfl (by decide +kernel) rfl rfl (Nat.le_of_ble_eq_true rfl) dX11_init_113 rfl ?_
  refine w_W (ws' := cf ws k (a, .inr (10, [.ref q5, .ref q16, .ref q27, .ref q42, .ref q57, .ref q76, .ref q87, .ref q102, .null, .null, .null])) [(q5, .inr (9, [.int 0, .int 0, .int 0, .int 0, .int 0, .ref (u9 0), .ref (u9 1), .ref (u9 3), .ref (u9 5), .ref (u9 7), .ref (u9 9), .ref (u9 11)])), ((u9 0), .inl (cy 13, 2, .inl dfI)), ((u9 1), .inr (8, [.int (6 : Int32), .int (9 : Int32), .ref (u9 2), .int 0])), ((u9 2), .inl (cy 13, 54, .inl dfI)), ((u9 3), .inr (8, [.int (2 : Int32), .int (4 : Int32), .ref (u9 4), .int 0])), ((u9 4), .inl (cy 13, 8, .inl dfI)), ((u9 5), .inr (8, [.int (4 : Int32), .int (8 : Int32), .ref (u9 6), .int 0])), ((u9 6), .inl (cy 13, 32, .inl dfI)), ((u9 7), .inr (8, [.int (2 : Int32), .int (4 : Int32), .ref (u9 8), .int 0])), ((u9 8), .inl (cy 13, 8, .inl dfI)), ((u9 9), .inr (8, [.int (1 : Int32), .int (5 : Int32), .ref (u9 10), .int 0])), ((u9 10), .inl (cy 13, 5, .inl dfI)), ((u9 11), .inr (8, [.int (3 : Int32), .int (60 : Int32), .ref (u9 12), .int 0])), ((u9 12), .inl (cy 13, 180, .inl dfI)), (q16, .inr (9, [.int 0, .int 0, .int 0, .int 0, .int 0, .ref (u20 0), .ref (u20 1), .ref (u20 3), .ref (u20 5), .ref (u20 7), .ref (u20 9), .ref (u20 11)])), ((u20 0), .inl (cy 13, 2, .inl dfI)), ((u20 1), .inr (8, [.int (6 : Int32), .int (9 : Int32), .ref (u20 2), .int 0])), ((u20 2), .inl (cy 13, 54, .inl dfI)), ((u20 3), .inr (8, [.int (2 : Int32), .int (4 : Int32), .ref (u20 4), .int 0])), ((u20 4), .inl (cy 13, 8, .inl dfI)), ((u20 5), .inr (8, [.int (4 : Int32), .int (8 : Int32), .ref (u20 6), .int 0])), ((u20 6), .inl (cy 13, 32, .inl dfI)), ((u20 7), .inr (8, [.int (2 : Int32), .int (4 : Int32), .ref (u20 8), .int 0])), ((u20 8), .inl (cy 13, 8, .inl dfI)), ((u20 9), .inr (8, [.int (1 : Int32), .int (5 : Int32), .ref (u20 10), .int 0])), ((u20 10), .inl (cy 13, 5, .inl dfI)), ((u20 11), .inr (8, [.int (3 : Int32), .int (60 : Int32), .ref (u20 12), .int 0])), ((u20 12), .inl (cy 13, 180, .inl dfI)), (q27, .inr (5, [.ref (u35 0), .int 0, .int 0, .int (-1 : Int32), .ref q16, .int 0, .int 0, .int 0, .int 0])), ((u35 0), .inl (cy 12, 1200, .inl dfI)), (q42, .inr (1, [.ref q5, .ref (u50 0), .ref (u50 1), .ref (u50 2), .ref (u50 3), .int 0])), ((u50 0), .inl (cy 13, 61, .inl dfI)), ((u50 1), .inl (cy 13, 512, .inl dfI)), ((u50 2), .inl (cy 13, 512, .inl dfI)), ((u50 3), .inl (cy 13, 512, .inl dfI)), (q57, .inr (2, [.ref q5, .ref q42, .ref (u69 0), .ref (u69 1), .ref (u69 2), .ref (u69 3), .ref (u69 4), .ref (u69 5)])), ((u69 0), .inl (cy 13, 512, .inl dfI)), ((u69 1), .inl (cy 13, 512, .inl dfI)), ((u69 2), .inl (cy 14, 512, .inr (.inl dfJ))), ((u69 3), .inl (cy 15, 512, .inl dfI)), ((u69 4), .inl (cy 13, 512, .inl dfI)), ((u69 5), .inl (cy 13, 512, .inl dfI)), (q76, .inr (4, [.int 0, .ref (u80 0), .ref (u80 1), .ref (u80 2), .ref (u80 3)])), ((u80 0), .inl (cy 13, 3, .inl dfI)), ((u80 1), .inl (cy 13, 3, .inl dfI)), ((u80 2), .inl (cy 13, 3, .inl dfI)), ((u80 3), .inl (cy 13, 3, .inl dfI)), (q87, .inr (3, [.ref q5])), (q102, .inr (7, [.ref q5]))]) rfl ?_
  refine w_aload_n 0 dX11_init_116 rfl rfl rfl ?_
  refine l_new (ci := 0) [.null, .null] tyX0 rfl inT_X0 tyX0_ok ⟨kl_RX11_65, is_X0⟩ df_X0 ⟨Nat.le_of_ble_eq_true rfl, Nat.le_of_ble_eq_true rfl⟩ dX11_init_117 rfl (fun q117 => ?_)
  refine w_G (Γ' := (p, l, e, rX11_init, s, m, args, below, meth, c, D, cy, ad, A, 50, 6563, _)) rfl ?_
  refine w_dup dX11_init_120 rfl rfl ?_
  refine w_aload_n 0 dX11_init_121 rfl rfl rfl ?_
  refine l_get (j := 0) (C := RX11) (Tt := TX11) (N := 11) hk rfl (by decide) rfl inT_X11 fl_RX11_10 rfl dX11_init_122 rfl ?_
  refine k_X0_init ml_RX11_67 (Nat.le_of_ble_eq_true rfl) ⟨Nat.le_of_ble_eq_true rfl, Nat.le_of_ble_eq_true rfl⟩ ⟨Nat.le_of_ble_eq_true rfl, Nat.le_of_ble_eq_true rfl⟩ dX11_init_125 rfl (fun u125 => ?_)
  refine w_G (Γ' := (p, l, e, rX11_init, s, m, args, below, meth, c, D, cy, ad, A, 51, 6571, _)) rfl ?_
  refine l_putF (j := 8) (C := RX11) (Tt := TX11) (N := 11) (ty := (.object RX0)) tyX11 hk rfl (by decide) inT_X11 fl_RX11_68 rfl tyX11_ok nmX11 rfl hin rfl (by decide +kernel) rfl rfl (Nat.le_of_ble_eq_true rfl) dX11_init_128 rfl ?_
  refine w_W (ws' := cf ws k (a, .inr (10, [.ref q5, .ref q16, .ref q27, .ref q42, .ref q57, .ref q76, .ref q87, .ref q102, .ref q117, .null, .null])) [(q5, .inr (9, [.int 0, .int 0, .int 0, .int 0, .int 0, .ref (u9 0), .ref (u9 1), .ref (u9 3), .ref (u9 5), .ref (u9 7), .ref (u9 9), .ref (u9 11)])), ((u9 0), .inl (cy 13, 2, .inl dfI)), ((u9 1), .inr (8, [.int (6 : Int32), .int (9 : Int32), .ref (u9 2), .int 0])), ((u9 2), .inl (cy 13, 54, .inl dfI)), ((u9 3), .inr (8, [.int (2 : Int32), .int (4 : Int32), .ref (u9 4), .int 0])), ((u9 4), .inl (cy 13, 8, .inl dfI)), ((u9 5), .inr (8, [.int (4 : Int32), .int (8 : Int32), .ref (u9 6), .int 0])), ((u9 6), .inl (cy 13, 32, .inl dfI)), ((u9 7), .inr (8, [.int (2 : Int32), .int (4 : Int32), .ref (u9 8), .int 0])), ((u9 8), .inl (cy 13, 8, .inl dfI)), ((u9 9), .inr (8, [.int (1 : Int32), .int (5 : Int32), .ref (u9 10), .int 0])), ((u9 10), .inl (cy 13, 5, .inl dfI)), ((u9 11), .inr (8, [.int (3 : Int32), .int (60 : Int32), .ref (u9 12), .int 0])), ((u9 12), .inl (cy 13, 180, .inl dfI)), (q16, .inr (9, [.int 0, .int 0, .int 0, .int 0, .int 0, .ref (u20 0), .ref (u20 1), .ref (u20 3), .ref (u20 5), .ref (u20 7), .ref (u20 9), .ref (u20 11)])), ((u20 0), .inl (cy 13, 2, .inl dfI)), ((u20 1), .inr (8, [.int (6 : Int32), .int (9 : Int32), .ref (u20 2), .int 0])), ((u20 2), .inl (cy 13, 54, .inl dfI)), ((u20 3), .inr (8, [.int (2 : Int32), .int (4 : Int32), .ref (u20 4), .int 0])), ((u20 4), .inl (cy 13, 8, .inl dfI)), ((u20 5), .inr (8, [.int (4 : Int32), .int (8 : Int32), .ref (u20 6), .int 0])), ((u20 6), .inl (cy 13, 32, .inl dfI)), ((u20 7), .inr (8, [.int (2 : Int32), .int (4 : Int32), .ref (u20 8), .int 0])), ((u20 8), .inl (cy 13, 8, .inl dfI)), ((u20 9), .inr (8, [.int (1 : Int32), .int (5 : Int32), .ref (u20 10), .int 0])), ((u20 10), .inl (cy 13, 5, .inl dfI)), ((u20 11), .inr (8, [.int (3 : Int32), .int (60 : Int32), .ref (u20 12), .int 0])), ((u20 12), .inl (cy 13, 180, .inl dfI)), (q27, .inr (5, [.ref (u35 0), .int 0, .int 0, .int (-1 : Int32), .ref q16, .int 0, .int 0, .int 0, .int 0])), ((u35 0), .inl (cy 12, 1200, .inl dfI)), (q42, .inr (1, [.ref q5, .ref (u50 0), .ref (u50 1), .ref (u50 2), .ref (u50 3), .int 0])), ((u50 0), .inl (cy 13, 61, .inl dfI)), ((u50 1), .inl (cy 13, 512, .inl dfI)), ((u50 2), .inl (cy 13, 512, .inl dfI)), ((u50 3), .inl (cy 13, 512, .inl dfI)), (q57, .inr (2, [.ref q5, .ref q42, .ref (u69 0), .ref (u69 1), .ref (u69 2), .ref (u69 3), .ref (u69 4), .ref (u69 5)])), ((u69 0), .inl (cy 13, 512, .inl dfI)), ((u69 1), .inl (cy 13, 512, .inl dfI)), ((u69 2), .inl (cy 14, 512, .inr (.inl dfJ))), ((u69 3), .inl (cy 15, 512, .inl dfI)), ((u69 4), .inl (cy 13, 512, .inl dfI)), ((u69 5), .inl (cy 13, 512, .inl dfI)), (q76, .inr (4, [.int 0, .ref (u80 0), .ref (u80 1), .ref (u80 2), .ref (u80 3)])), ((u80 0), .inl (cy 13, 3, .inl dfI)), ((u80 1), .inl (cy 13, 3, .inl dfI)), ((u80 2), .inl (cy 13, 3, .inl dfI)), ((u80 3), .inl (cy 13, 3, .inl dfI)), (q87, .inr (3, [.ref q5])), (q102, .inr (7, [.ref q5])), (q117, .inr (0, [.ref q5, .ref (u125 0)])), ((u125 0), .inl (cy 13, 8, .inl dfI))]) rfl ?_
  refine w_aload_n 0 dX11_init_131 rfl rfl rfl ?_
  refine l_new (ci := 6) [.null, .null, .null, .null] tyX7 rfl inT_X7 tyX7_ok ⟨kl_RX11_72, is_X7⟩ df_X7 ⟨Nat.le_of_ble_eq_true rfl, Nat.le_of_ble_eq_true rfl⟩ dX11_init_132 rfl (fun q132 => ?_)
  refine w_G (Γ' := (p, l, e, rX11_init, s, m, args, below, meth, c, D, cy, ad, A, 52, 6575, _)) rfl ?_
  refine w_dup dX11_init_135 rfl rfl ?_
  refine k_X7_init (fun h => h.2.2.2.1) (Nat.le_of_ble_eq_true rfl) ⟨Nat.le_of_ble_eq_true rfl, Nat.le_of_ble_eq_true rfl⟩ ⟨Nat.le_of_ble_eq_true rfl, Nat.le_of_ble_eq_true rfl⟩ dX11_init_136 rfl (fun u136 => ?_)
  refine w_G (Γ' := (p, l, e, rX11_init, s, m, args, below, meth, c, D, cy, ad, A, 56, 6827, _)) rfl ?_
  refine l_putF (j := 9) (C := RX11) (Tt := TX11) (N := 11) (ty := (.object RX7)) tyX11 hk rfl (by decide) inT_X11 fl_RX11_75 rfl tyX11_ok nmX11 rfl hin rfl (by decide +kernel) rfl rfl (Nat.le_of_ble_eq_true rfl) dX11_init_139 rfl ?_
  refine w_W (ws' := cf ws k (a, .inr (10, [.ref q5, .ref q16, .ref q27, .ref q42, .ref q57, .ref q76, .ref q87, .ref q102, .ref q117, .ref q132, .null])) [(q5, .inr (9, [.int 0, .int 0, .int 0, .int 0, .int 0, .ref (u9 0), .ref (u9 1), .ref (u9 3), .ref (u9 5), .ref (u9 7), .ref (u9 9), .ref (u9 11)])), ((u9 0), .inl (cy 13, 2, .inl dfI)), ((u9 1), .inr (8, [.int (6 : Int32), .int (9 : Int32), .ref (u9 2), .int 0])), ((u9 2), .inl (cy 13, 54, .inl dfI)), ((u9 3), .inr (8, [.int (2 : Int32), .int (4 : Int32), .ref (u9 4), .int 0])), ((u9 4), .inl (cy 13, 8, .inl dfI)), ((u9 5), .inr (8, [.int (4 : Int32), .int (8 : Int32), .ref (u9 6), .int 0])), ((u9 6), .inl (cy 13, 32, .inl dfI)), ((u9 7), .inr (8, [.int (2 : Int32), .int (4 : Int32), .ref (u9 8), .int 0])), ((u9 8), .inl (cy 13, 8, .inl dfI)), ((u9 9), .inr (8, [.int (1 : Int32), .int (5 : Int32), .ref (u9 10), .int 0])), ((u9 10), .inl (cy 13, 5, .inl dfI)), ((u9 11), .inr (8, [.int (3 : Int32), .int (60 : Int32), .ref (u9 12), .int 0])), ((u9 12), .inl (cy 13, 180, .inl dfI)), (q16, .inr (9, [.int 0, .int 0, .int 0, .int 0, .int 0, .ref (u20 0), .ref (u20 1), .ref (u20 3), .ref (u20 5), .ref (u20 7), .ref (u20 9), .ref (u20 11)])), ((u20 0), .inl (cy 13, 2, .inl dfI)), ((u20 1), .inr (8, [.int (6 : Int32), .int (9 : Int32), .ref (u20 2), .int 0])), ((u20 2), .inl (cy 13, 54, .inl dfI)), ((u20 3), .inr (8, [.int (2 : Int32), .int (4 : Int32), .ref (u20 4), .int 0])), ((u20 4), .inl (cy 13, 8, .inl dfI)), ((u20 5), .inr (8, [.int (4 : Int32), .int (8 : Int32), .ref (u20 6), .int 0])), ((u20 6), .inl (cy 13, 32, .inl dfI)), ((u20 7), .inr (8, [.int (2 : Int32), .int (4 : Int32), .ref (u20 8), .int 0])), ((u20 8), .inl (cy 13, 8, .inl dfI)), ((u20 9), .inr (8, [.int (1 : Int32), .int (5 : Int32), .ref (u20 10), .int 0])), ((u20 10), .inl (cy 13, 5, .inl dfI)), ((u20 11), .inr (8, [.int (3 : Int32), .int (60 : Int32), .ref (u20 12), .int 0])), ((u20 12), .inl (cy 13, 180, .inl dfI)), (q27, .inr (5, [.ref (u35 0), .int 0, .int 0, .int (-1 : Int32), .ref q16, .int 0, .int 0, .int 0, .int 0])), ((u35 0), .inl (cy 12, 1200, .inl dfI)), (q42, .inr (1, [.ref q5, .ref (u50 0), .ref (u50 1), .ref (u50 2), .ref (u50 3), .int 0])), ((u50 0), .inl (cy 13, 61, .inl dfI)), ((u50 1), .inl (cy 13, 512, .inl dfI)), ((u50 2), .inl (cy 13, 512, .inl dfI)), ((u50 3), .inl (cy 13, 512, .inl dfI)), (q57, .inr (2, [.ref q5, .ref q42, .ref (u69 0), .ref (u69 1), .ref (u69 2), .ref (u69 3), .ref (u69 4), .ref (u69 5)])), ((u69 0), .inl (cy 13, 512, .inl dfI)), ((u69 1), .inl (cy 13, 512, .inl dfI)), ((u69 2), .inl (cy 14, 512, .inr (.inl dfJ))), ((u69 3), .inl (cy 15, 512, .inl dfI)), ((u69 4), .inl (cy 13, 512, .inl dfI)), ((u69 5), .inl (cy 13, 512, .inl dfI)), (q76, .inr (4, [.int 0, .ref (u80 0), .ref (u80 1), .ref (u80 2), .ref (u80 3)])), ((u80 0), .inl (cy 13, 3, .inl dfI)), ((u80 1), .inl (cy 13, 3, .inl dfI)), ((u80 2), .inl (cy 13, 3, .inl dfI)), ((u80 3), .inl (cy 13, 3, .inl dfI)), (q87, .inr (3, [.ref q5])), (q102, .inr (7, [.ref q5])), (q117, .inr (0, [.ref q5, .ref (u125 0)])), ((u125 0), .inl (cy 13, 8, .inl dfI)), (q132, .inr (6, [.ref (u136 0), .ref (u136 1), .ref (u136 2), .ref (u136 3)])), ((u136 0), .inl (cy 15, 4, .inl dfI)), ((u136 1), .inl (cy 13, 4, .inl dfI)), ((u136 2), .inl (cy 13, 4, .inl dfI)), ((u136 3), .inl (cy 14, 240, .inr (.inl dfJ)))]) rfl ?_
  refine w_aload_n 0 dX11_init_142 rfl rfl rfl ?_
  refine w_iconst (3 : Int32) dX11_init_143 ic_iconst_3 rfl ?_
  refine l_newQ (N' := 3) kl_RX11_7 (by decide) (by decide +kernel) (by decide) ⟨Nat.le_of_ble_eq_true rfl, Nat.le_of_ble_eq_true rfl⟩ dX11_init_144 rfl (fun q144 => ?_)
  refine w_G (Γ' := (p, l, e, rX11_init, s, m, args, below, meth, c, D, cy, ad, A, 57, 6830, _)) rfl ?_
  refine l_putF (j := 10) (C := RX11) (Tt := TX11) (N := 11) (ty := (.array (.object RX10))) tyX11 hk rfl (by decide) inT_X11 fl_RX11_79 rfl tyX11_ok nmX11 rfl hin rfl (by decide +kernel) rfl rfl (Nat.le_of_ble_eq_true rfl) dX11_init_147 rfl ?_
  refine w_W (ws' := cf ws k (a, .inr (10, [.ref q5, .ref q16, .ref q27, .ref q42, .ref q57, .ref q76, .ref q87, .ref q102, .ref q117, .ref q132, .ref q144])) [(q5, .inr (9, [.int 0, .int 0, .int 0, .int 0, .int 0, .ref (u9 0), .ref (u9 1), .ref (u9 3), .ref (u9 5), .ref (u9 7), .ref (u9 9), .ref (u9 11)])), ((u9 0), .inl (cy 13, 2, .inl dfI)), ((u9 1), .inr (8, [.int (6 : Int32), .int (9 : Int32), .ref (u9 2), .int 0])), ((u9 2), .inl (cy 13, 54, .inl dfI)), ((u9 3), .inr (8, [.int (2 : Int32), .int (4 : Int32), .ref (u9 4), .int 0])), ((u9 4), .inl (cy 13, 8, .inl dfI)), ((u9 5), .inr (8, [.int (4 : Int32), .int (8 : Int32), .ref (u9 6), .int 0])), ((u9 6), .inl (cy 13, 32, .inl dfI)), ((u9 7), .inr (8, [.int (2 : Int32), .int (4 : Int32), .ref (u9 8), .int 0])), ((u9 8), .inl (cy 13, 8, .inl dfI)), ((u9 9), .inr (8, [.int (1 : Int32), .int (5 : Int32), .ref (u9 10), .int 0])), ((u9 10), .inl (cy 13, 5, .inl dfI)), ((u9 11), .inr (8, [.int (3 : Int32), .int (60 : Int32), .ref (u9 12), .int 0])), ((u9 12), .inl (cy 13, 180, .inl dfI)), (q16, .inr (9, [.int 0, .int 0, .int 0, .int 0, .int 0, .ref (u20 0), .ref (u20 1), .ref (u20 3), .ref (u20 5), .ref (u20 7), .ref (u20 9), .ref (u20 11)])), ((u20 0), .inl (cy 13, 2, .inl dfI)), ((u20 1), .inr (8, [.int (6 : Int32), .int (9 : Int32), .ref (u20 2), .int 0])), ((u20 2), .inl (cy 13, 54, .inl dfI)), ((u20 3), .inr (8, [.int (2 : Int32), .int (4 : Int32), .ref (u20 4), .int 0])), ((u20 4), .inl (cy 13, 8, .inl dfI)), ((u20 5), .inr (8, [.int (4 : Int32), .int (8 : Int32), .ref (u20 6), .int 0])), ((u20 6), .inl (cy 13, 32, .inl dfI)), ((u20 7), .inr (8, [.int (2 : Int32), .int (4 : Int32), .ref (u20 8), .int 0])), ((u20 8), .inl (cy 13, 8, .inl dfI)), ((u20 9), .inr (8, [.int (1 : Int32), .int (5 : Int32), .ref (u20 10), .int 0])), ((u20 10), .inl (cy 13, 5, .inl dfI)), ((u20 11), .inr (8, [.int (3 : Int32), .int (60 : Int32), .ref (u20 12), .int 0])), ((u20 12), .inl (cy 13, 180, .inl dfI)), (q27, .inr (5, [.ref (u35 0), .int 0, .int 0, .int (-1 : Int32), .ref q16, .int 0, .int 0, .int 0, .int 0])), ((u35 0), .inl (cy 12, 1200, .inl dfI)), (q42, .inr (1, [.ref q5, .ref (u50 0), .ref (u50 1), .ref (u50 2), .ref (u50 3), .int 0])), ((u50 0), .inl (cy 13, 61, .inl dfI)), ((u50 1), .inl (cy 13, 512, .inl dfI)), ((u50 2), .inl (cy 13, 512, .inl dfI)), ((u50 3), .inl (cy 13, 512, .inl dfI)), (q57, .inr (2, [.ref q5, .ref q42, .ref (u69 0), .ref (u69 1), .ref (u69 2), .ref (u69 3), .ref (u69 4), .ref (u69 5)])), ((u69 0), .inl (cy 13, 512, .inl dfI)), ((u69 1), .inl (cy 13, 512, .inl dfI)), ((u69 2), .inl (cy 14, 512, .inr (.inl dfJ))), ((u69 3), .inl (cy 15, 512, .inl dfI)), ((u69 4), .inl (cy 13, 512, .inl dfI)), ((u69 5), .inl (cy 13, 512, .inl dfI)), (q76, .inr (4, [.int 0, .ref (u80 0), .ref (u80 1), .ref (u80 2), .ref (u80 3)])), ((u80 0), .inl (cy 13, 3, .inl dfI)), ((u80 1), .inl (cy 13, 3, .inl dfI)), ((u80 2), .inl (cy 13, 3, .inl dfI)), ((u80 3), .inl (cy 13, 3, .inl dfI)), (q87, .inr (3, [.ref q5])), (q102, .inr (7, [.ref q5])), (q117, .inr (0, [.ref q5, .ref (u125 0)])), ((u125 0), .inl (cy 13, 8, .inl dfI)), (q132, .inr (6, [.ref (u136 0), .ref (u136 1), .ref (u136 2), .ref (u136 3)])), ((u136 0), .inl (cy 15, 4, .inl dfI)), ((u136 1), .inl (cy 13, 4, .inl dfI)), ((u136 2), .inl (cy 13, 4, .inl dfI)), ((u136 3), .inl (cy 14, 240, .inr (.inl dfJ))), (q144, .inl (cy 16, 3, .inr (.inr (.inr (.inr (fun _ => none))))))]) rfl ?_
  exact l_return (fun i => [q5, (u9 0), (u9 1), (u9 2), (u9 3), (u9 4), (u9 5), (u9 6), (u9 7), (u9 8), (u9 9), (u9 10), (u9 11), (u9 12), q16, (u20 0), (u20 1), (u20 2), (u20 3), (u20 4), (u20 5), (u20 6), (u20 7), (u20 8), (u20 9), (u20 10), (u20 11), (u20 12), q27, (u35 0), q42, (u50 0), (u50 1), (u50 2), (u50 3), q57, (u69 0), (u69 1), (u69 2), (u69 3), (u69 4), (u69 5), q76, (u80 0), (u80 1), (u80 2), (u80 3), q87, q102, q117, (u125 0), q132, (u136 0), (u136 1), (u136 2), (u136 3), q144].getD i 0) rfl rfl dX11_init_150
theorem k_X11_init {Γ : CX} {cc : ByteArray} {nL : Nat} {own : String} {ret : Option FieldType} {rm : Room} {ws L : va_W} {k q : Nat} {T : Nat × va_E} {pc pc' idx : Nat} {lv : List (Nat × Value)} {rest : List Value} (hl : Cond.methodLink own idx yX11_init ∈ TB) (hw : (rest.map fun v => v.category).sum ≤ 8) (hR : rX11_init.frames + 1 ≤ rm.frames ∧ 8 + (1 + 11) + rX11_init.locals ≤ rm.locals) (hR2 : xk Γ + rX11_init.cells ≤ rm.cells ∧ xn Γ + rX11_init.slots ≤ rm.slots) (hd : decode cc pc = .ok (.invokespecial idx, 3)) (hp : pc + 3 = pc') (h : ∀ qs : Nat → Nat, WL (bump Γ rX11_init.cells rX11_init.slots) cc nL own ret rm (cf ws k T (L ++ [(q, .inr (10, [.ref (qs 0), .ref (qs 14), .ref (qs 28), .ref (qs 30), .ref (qs 35), .ref (qs 42), .ref (qs 47), .ref (qs 48), .ref (qs 49), .ref (qs 51), .ref (qs 56)]))] ++ [((qs 0), .inr (9, [.int 0, .int 0, .int 0, .int 0, .int 0, .ref (qs 1), .ref (qs 2), .ref (qs 4), .ref (qs 6), .ref (qs 8), .ref (qs 10), .ref (qs 12)])), ((qs 1), .inl (xy Γ 13, 2, .inl dfI)), ((qs 2), .inr (8, [.int (6 : Int32), .int (9 : Int32), .ref (qs 3), .int 0])), ((qs 3), .inl (xy Γ 13, 54, .inl dfI)), ((qs 4), .inr (8, [.int (2 : Int32), .int (4 : Int32), .ref (qs 5), .int 0])), ((qs 5), .inl (xy Γ 13, 8, .inl dfI)), ((qs 6), .inr (8, [.int (4 : Int32), .int (8 : Int32), .ref (qs 7), .int 0])), ((qs 7), .inl (xy Γ 13, 32, .inl dfI)), ((qs 8), .inr (8, [.int (2 : Int32), .int (4 : Int32), .ref (qs 9), .int 0])), ((qs 9), .inl (xy Γ 13, 8, .inl dfI)), ((qs 10), .inr (8, [.int (1 : Int32), .int (5 : Int32), .ref (qs 11), .int 0])), ((qs 11), .inl (xy Γ 13, 5, .inl dfI)), ((qs 12), .inr (8, [.int (3 : Int32), .int (60 : Int32), .ref (qs 13), .int 0])), ((qs 13), .inl (xy Γ 13, 180, .inl dfI)), ((qs 14), .inr (9, [.int 0, .int 0, .int 0, .int 0, .int 0, .ref (qs 15), .ref (qs 16), .ref (qs 18), .ref (qs 20), .ref (qs 22), .ref (qs 24), .ref (qs 26)])), ((qs 15), .inl (xy Γ 13, 2, .inl dfI)), ((qs 16), .inr (8, [.int (6 : Int32), .int (9 : Int32), .ref (qs 17), .int 0])), ((qs 17), .inl (xy Γ 13, 54, .inl dfI)), ((qs 18), .inr (8, [.int (2 : Int32), .int (4 : Int32), .ref (qs 19), .int 0])), ((qs 19), .inl (xy Γ 13, 8, .inl dfI)), ((qs 20), .inr (8, [.int (4 : Int32), .int (8 : Int32), .ref (qs 21), .int 0])), ((qs 21), .inl (xy Γ 13, 32, .inl dfI)), ((qs 22), .inr (8, [.int (2 : Int32), .int (4 : Int32), .ref (qs 23), .int 0])), ((qs 23), .inl (xy Γ 13, 8, .inl dfI)), ((qs 24), .inr (8, [.int (1 : Int32), .int (5 : Int32), .ref (qs 25), .int 0])), ((qs 25), .inl (xy Γ 13, 5, .inl dfI)), ((qs 26), .inr (8, [.int (3 : Int32), .int (60 : Int32), .ref (qs 27), .int 0])), ((qs 27), .inl (xy Γ 13, 180, .inl dfI)), ((qs 28), .inr (5, [.ref (qs 29), .int 0, .int 0, .int (-1 : Int32), .ref (qs 14), .int 0, .int 0, .int 0, .int 0])), ((qs 29), .inl (xy Γ 12, 1200, .inl dfI)), ((qs 30), .inr (1, [.ref (qs 0), .ref (qs 31), .ref (qs 32), .ref (qs 33), .ref (qs 34), .int 0])), ((qs 31), .inl (xy Γ 13, 61, .inl dfI)), ((qs 32), .inl (xy Γ 13, 512, .inl dfI)), ((qs 33), .inl (xy Γ 13, 512, .inl dfI)), ((qs 34), .inl (xy Γ 13, 512, .inl dfI)), ((qs 35), .inr (2, [.ref (qs 0), .ref (qs 30), .ref (qs 36), .ref (qs 37), .ref (qs 38), .ref (qs 39), .ref (qs 40), .ref (qs 41)])), ((qs 36), .inl (xy Γ 13, 512, .inl dfI)), ((qs 37), .inl (xy Γ 13, 512, .inl dfI)), ((qs 38), .inl (xy Γ 14, 512, .inr (.inl dfJ))), ((qs 39), .inl (xy Γ 15, 512, .inl dfI)), ((qs 40), .inl (xy Γ 13, 512, .inl dfI)), ((qs 41), .inl (xy Γ 13, 512, .inl dfI)), ((qs 42), .inr (4, [.int 0, .ref (qs 43), .ref (qs 44), .ref (qs 45), .ref (qs 46)])), ((qs 43), .inl (xy Γ 13, 3, .inl dfI)), ((qs 44), .inl (xy Γ 13, 3, .inl dfI)), ((qs 45), .inl (xy Γ 13, 3, .inl dfI)), ((qs 46), .inl (xy Γ 13, 3, .inl dfI)), ((qs 47), .inr (3, [.ref (qs 0)])), ((qs 48), .inr (7, [.ref (qs 0)])), ((qs 49), .inr (0, [.ref (qs 0), .ref (qs 50)])), ((qs 50), .inl (xy Γ 13, 8, .inl dfI)), ((qs 51), .inr (6, [.ref (qs 52), .ref (qs 53), .ref (qs 54), .ref (qs 55)])), ((qs 52), .inl (xy Γ 15, 4, .inl dfI)), ((qs 53), .inl (xy Γ 13, 4, .inl dfI)), ((qs 54), .inl (xy Γ 13, 4, .inl dfI)), ((qs 55), .inl (xy Γ 14, 240, .inr (.inl dfJ))), ((qs 56), .inl (xy Γ 16, 3, .inr (.inr (.inr (.inr (fun _ => none))))))])) pc' lv rest) : WL Γ cc nL own ret rm (cf ws k T (L ++ [(q, .inr (10, [.null, .null, .null, .null, .null, .null, .null, .null, .null, .null, .null]))])) pc lv (.ref q :: rest) := by
  have hc := c_X11_init (l := xl Γ) (D := xD Γ) (cy := xy Γ) (ad := xd Γ) (ws := cf ws k T (L ++ [(q, .inr (10, [.null, .null, .null, .null, .null, .null, .null, .null, .null, .null, .null]))])) (k := (cf ws k T L).length) (a := q) (by simp [cf])
  rw [cf_self cf_last] at hc
  simp only [cf_last_set] at hc
  exact l_callI (nn := 0) (As := []) (rest := rest) hc hl mw_X11_init rfl (by decide +kernel) hR hR2 rfl hw hd rfl hp h
