/-! ===== rows of WW: an instruction, a row ===== -/
section RU
variable {Γ : CX} {cc : ByteArray} {nL : Nat} {own : String} {ret : Option FieldType} {rm : Room} {ws : va_W} {pc pc' : Nat} {lv lv' : List (Nat × Value)} {st : List Value}
/-- locals in another order, or fewer -/
theorem w_sub (ks : List Nat) (hl : lv_pick lv ks = lv') (h : WL Γ cc nL own ret rm ws pc lv' st) : WL Γ cc nL own ret rm ws pc lv st :=
  fun X H locs ls hP hD hS hls => h X H locs ls hP hD hS (lv_sub hls ks hl)
theorem w_nmI {x : Int32} (h : ∀ y : Int32, y = x → WL Γ cc nL own ret rm ws pc lv (.int y :: st)) : WL Γ cc nL own ret rm ws pc lv (.int x :: st) := h x rfl
theorem w_nmL {x : Int64} (h : ∀ y : Int64, y = x → WL Γ cc nL own ret rm ws pc lv (.long y :: st)) : WL Γ cc nL own ret rm ws pc lv (.long x :: st) := h x rfl
theorem w_iload_n {k : Fin 4} {i : Nat} {x : Int32} (j : Nat) (hd : decode cc pc = .ok (.iload_n k, 1)) (hi : (k : Nat) = i) (hv : lv[j]? = some (i, .int x)) (hp : pc + 1 = pc') (h : WL Γ cc nL own ret rm ws pc' lv (.int x :: st)) : WL Γ cc nL own ret rm ws pc lv st := by
  subst hp
  exact fun X H locs ls hP hD hS hl => lv_iload_n X.1 X.2.1 hd hi (lv_at hl j hv) (h X H locs ls hP hD hS hl)
theorem w_iload {i : Nat} {x : Int32} (j : Nat) (hd : decode cc pc = .ok (.iload i, 2)) (hv : lv[j]? = some (i, .int x)) (hp : pc + 2 = pc') (h : WL Γ cc nL own ret rm ws pc' lv (.int x :: st)) : WL Γ cc nL own ret rm ws pc lv st := by
  subst hp
  exact fun X H locs ls hP hD hS hl => lv_iload X.1 X.2.1 hd (lv_at hl j hv) (h X H locs ls hP hD hS hl)
theorem w_lload_n {k : Fin 4} {i : Nat} {x : Int64} (j : Nat) (hd : decode cc pc = .ok (.lload_n k, 1)) (hi : (k : Nat) = i) (hv : lv[j]? = some (i, .long x)) (hp : pc + 1 = pc') (h : WL Γ cc nL own ret rm ws pc' lv (.long x :: st)) : WL Γ cc nL own ret rm ws pc lv st := by
  subst hp
  exact fun X H locs ls hP hD hS hl => lv_lload_n X.1 X.2.1 hd hi (lv_at hl j hv) (h X H locs ls hP hD hS hl)
theorem w_lload {i : Nat} {x : Int64} (j : Nat) (hd : decode cc pc = .ok (.lload i, 2)) (hv : lv[j]? = some (i, .long x)) (hp : pc + 2 = pc') (h : WL Γ cc nL own ret rm ws pc' lv (.long x :: st)) : WL Γ cc nL own ret rm ws pc lv st := by
  subst hp
  exact fun X H locs ls hP hD hS hl => lv_lload X.1 X.2.1 hd (lv_at hl j hv) (h X H locs ls hP hD hS hl)
theorem w_aload_n {k : Fin 4} {i : Nat} {x : Nat} (j : Nat) (hd : decode cc pc = .ok (.aload_n k, 1)) (hi : (k : Nat) = i) (hv : lv[j]? = some (i, .ref x)) (hp : pc + 1 = pc') (h : WL Γ cc nL own ret rm ws pc' lv (.ref x :: st)) : WL Γ cc nL own ret rm ws pc lv st := by
  subst hp
  exact fun X H locs ls hP hD hS hl => lv_aload_n X.1 X.2.1 hd hi (lv_at hl j hv) (h X H locs ls hP hD hS hl)
theorem w_aload {i : Nat} {x : Nat} (j : Nat) (hd : decode cc pc = .ok (.aload i, 2)) (hv : lv[j]? = some (i, .ref x)) (hp : pc + 2 = pc') (h : WL Γ cc nL own ret rm ws pc' lv (.ref x :: st)) : WL Γ cc nL own ret rm ws pc lv st := by
  subst hp
  exact fun X H locs ls hP hD hS hl => lv_aload X.1 X.2.1 hd (lv_at hl j hv) (h X H locs ls hP hD hS hl)
theorem w_iconst {n : Int} (v : Int32) (hd : decode cc pc = .ok (.iconst n, 1)) (hv : Int32.ofInt n = v) (hp : pc + 1 = pc') (h : WL Γ cc nL own ret rm ws pc' lv (.int v :: st)) : WL Γ cc nL own ret rm ws pc lv st := by
  subst hp
  exact fun X H locs ls hP hD hS hl => lv_iconst X.1 X.2.1 hd hv (h X H locs ls hP hD hS hl)
theorem w_bipush {n : Int} (v : Int32) (hd : decode cc pc = .ok (.bipush n, 2)) (hv : (Int8.ofInt n).toInt32 = v) (hp : pc + 2 = pc') (h : WL Γ cc nL own ret rm ws pc' lv (.int v :: st)) : WL Γ cc nL own ret rm ws pc lv st := by
  subst hp
  exact fun X H locs ls hP hD hS hl => lv_bipush X.1 X.2.1 hd hv (h X H locs ls hP hD hS hl)
theorem w_sipush {n : Int} (v : Int32) (hd : decode cc pc = .ok (.sipush n, 3)) (hv : (Int16.ofInt n).toInt32 = v) (hp : pc + 3 = pc') (h : WL Γ cc nL own ret rm ws pc' lv (.int v :: st)) : WL Γ cc nL own ret rm ws pc lv st := by
  subst hp
  exact fun X H locs ls hP hD hS hl => lv_sipush X.1 X.2.1 hd hv (h X H locs ls hP hD hS hl)
theorem w_lconst {n : Fin 2} (v : Int64) (hd : decode cc pc = .ok (.lconst n, 1)) (hv : Int64.ofNat (n : Nat) = v) (hp : pc + 1 = pc') (h : WL Γ cc nL own ret rm ws pc' lv (.long v :: st)) : WL Γ cc nL own ret rm ws pc lv st := by
  subst hp
  exact fun X H locs ls hP hD hS hl => lv_lconst X.1 X.2.1 hd hv (h X H locs ls hP hD hS hl)
theorem w_ldc {index : Nat} (v : Int32) (hd : decode cc pc = .ok (.ldc index, 2)) (hw : Cond.constant own index v ∈ TB) (hp : pc + 2 = pc') (h : WL Γ cc nL own ret rm ws pc' lv (.int v :: st)) : WL Γ cc nL own ret rm ws pc lv st := by
  subst hp
  exact fun X H locs ls hP hD hS hl => lv_ldc X.1 X.2.1 X.2.2.2.1 (X.2.2.2.2.1 _ hw) hd (h X H locs ls hP hD hS hl)
theorem w_ldc_w {index : Nat} (v : Int32) (hd : decode cc pc = .ok (.ldc_w index, 3)) (hw : Cond.constant own index v ∈ TB) (hp : pc + 3 = pc') (h : WL Γ cc nL own ret rm ws pc' lv (.int v :: st)) : WL Γ cc nL own ret rm ws pc lv st := by
  subst hp
  exact fun X H locs ls hP hD hS hl => lv_ldcw X.1 X.2.1 X.2.2.2.1 (X.2.2.2.2.1 _ hw) hd (h X H locs ls hP hD hS hl)
theorem w_ldc2_w {index : Nat} (v : Int64) (hd : decode cc pc = .ok (.ldc2_w index, 3)) (hw : Cond.constantLong own index v ∈ TB) (hp : pc + 3 = pc') (h : WL Γ cc nL own ret rm ws pc' lv (.long v :: st)) : WL Γ cc nL own ret rm ws pc lv st := by
  subst hp
  exact fun X H locs ls hP hD hS hl => lv_ldc2 X.1 X.2.1 X.2.2.2.1 (X.2.2.2.2.1 _ hw) hd (h X H locs ls hP hD hS hl)
theorem w_istore_n {k : Fin 4} {i : Nat} {x : Int32} (lv' : List (Nat × Value)) (hd : decode cc pc = .ok (.istore_n k, 1)) (hi : (k : Nat) = i) (hn : i < nL) (hl' : (i, Value.int x) :: lv.filter (fun q => !(q.1 == i) && !(q.1 + 1 == i && q.2.category == 2)) = lv') (hp : pc + 1 = pc') (h : WL Γ cc nL own ret rm ws pc' lv' st) : WL Γ cc nL own ret rm ws pc lv (.int x :: st) := by
  subst hp
  exact fun X H locs ls hP hD hS hl => lv_istore_n X.1 X.2.1 hd hi hl hn hl' (fun ls' hls => h X H locs ls' hP hD hS hls)
theorem w_istore {i : Nat} {x : Int32} (lv' : List (Nat × Value)) (hd : decode cc pc = .ok (.istore i, 2)) (hn : i < nL) (hl' : (i, Value.int x) :: lv.filter (fun q => !(q.1 == i) && !(q.1 + 1 == i && q.2.category == 2)) = lv') (hp : pc + 2 = pc') (h : WL Γ cc nL own ret rm ws pc' lv' st) : WL Γ cc nL own ret rm ws pc lv (.int x :: st) := by
  subst hp
  exact fun X H locs ls hP hD hS hl => lv_istore X.1 X.2.1 hd hl hn hl' (fun ls' hls => h X H locs ls' hP hD hS hls)
theorem w_lstore_n {k : Fin 4} {i : Nat} {x : Int64} (lv' : List (Nat × Value)) (hd : decode cc pc = .ok (.lstore_n k, 1)) (hi : (k : Nat) = i) (hn : i + 1 < nL) (hl' : (i, Value.long x) :: lv.filter (fun q => !(q.1 == i) && (!(q.1 == i + 1) && !(q.1 + 1 == i && q.2.category == 2))) = lv') (hp : pc + 1 = pc') (h : WL Γ cc nL own ret rm ws pc' lv' st) : WL Γ cc nL own ret rm ws pc lv (.long x :: st) := by
  subst hp
  exact fun X H locs ls hP hD hS hl => lv_lstore_n X.1 X.2.1 hd hi hl hn hl' (fun ls' hls => h X H locs ls' hP hD hS hls)
theorem w_lstore {i : Nat} {x : Int64} (lv' : List (Nat × Value)) (hd : decode cc pc = .ok (.lstore i, 2)) (hn : i + 1 < nL) (hl' : (i, Value.long x) :: lv.filter (fun q => !(q.1 == i) && (!(q.1 == i + 1) && !(q.1 + 1 == i && q.2.category == 2))) = lv') (hp : pc + 2 = pc') (h : WL Γ cc nL own ret rm ws pc' lv' st) : WL Γ cc nL own ret rm ws pc lv (.long x :: st) := by
  subst hp
  exact fun X H locs ls hP hD hS hl => lv_lstore X.1 X.2.1 hd hl hn hl' (fun ls' hls => h X H locs ls' hP hD hS hls)
theorem w_astore_n {k : Fin 4} {i : Nat} {x : Nat} (lv' : List (Nat × Value)) (hd : decode cc pc = .ok (.astore_n k, 1)) (hi : (k : Nat) = i) (hn : i < nL) (hl' : (i, Value.ref x) :: lv.filter (fun q => !(q.1 == i) && !(q.1 + 1 == i && q.2.category == 2)) = lv') (hp : pc + 1 = pc') (h : WL Γ cc nL own ret rm ws pc' lv' st) : WL Γ cc nL own ret rm ws pc lv (.ref x :: st) := by
  subst hp
  exact fun X H locs ls hP hD hS hl => lv_astore_n X.1 X.2.1 hd hi hl hn hl' (fun ls' hls => h X H locs ls' hP hD hS hls)
theorem w_astore {i : Nat} {x : Nat} (lv' : List (Nat × Value)) (hd : decode cc pc = .ok (.astore i, 2)) (hn : i < nL) (hl' : (i, Value.ref x) :: lv.filter (fun q => !(q.1 == i) && !(q.1 + 1 == i && q.2.category == 2)) = lv') (hp : pc + 2 = pc') (h : WL Γ cc nL own ret rm ws pc' lv' st) : WL Γ cc nL own ret rm ws pc lv (.ref x :: st) := by
  subst hp
  exact fun X H locs ls hP hD hS hl => lv_astore X.1 X.2.1 hd hl hn hl' (fun ls' hls => h X H locs ls' hP hD hS hls)
theorem w_iinc {i : Nat} {n : Int} {x : Int32} (j : Nat) (v : Int32) (lv' : List (Nat × Value)) (hd : decode cc pc = .ok (.iinc i n, 3)) (hv : lv[j]? = some (i, .int x)) (hx : x + Int32.ofInt n = v) (hn : i < nL) (hl' : (i, Value.int v) :: lv.filter (fun q => !(q.1 == i) && !(q.1 + 1 == i && q.2.category == 2)) = lv') (hp : pc + 3 = pc') (h : WL Γ cc nL own ret rm ws pc' lv' st) : WL Γ cc nL own ret rm ws pc lv st := by
  subst hp
  exact fun X H locs ls hP hD hS hl => lv_iinc X.1 X.2.1 hd hl hv hx hn hl' (fun ls' hls => h X H locs ls' hP hD hS hls)
theorem w_iadd {x y : Int32} (hd : decode cc pc = .ok (.iadd, 1))  (hp : pc + 1 = pc') (h : WL Γ cc nL own ret rm ws pc' lv (.int (x + y) :: st)) : WL Γ cc nL own ret rm ws pc lv (.int y :: .int x :: st) := by
  subst hp
  exact fun X H locs ls hP hD hS hl => lv_iadd X.1 X.2.1 hd (h X H locs ls hP hD hS hl)
theorem w_isub {x y : Int32} (hd : decode cc pc = .ok (.isub, 1))  (hp : pc + 1 = pc') (h : WL Γ cc nL own ret rm ws pc' lv (.int (x - y) :: st)) : WL Γ cc nL own ret rm ws pc lv (.int y :: .int x :: st) := by
  subst hp
  exact fun X H locs ls hP hD hS hl => lv_isub X.1 X.2.1 hd (h X H locs ls hP hD hS hl)
theorem w_imul {x y : Int32} (hd : decode cc pc = .ok (.imul, 1))  (hp : pc + 1 = pc') (h : WL Γ cc nL own ret rm ws pc' lv (.int (x * y) :: st)) : WL Γ cc nL own ret rm ws pc lv (.int y :: .int x :: st) := by
  subst hp
  exact fun X H locs ls hP hD hS hl => lv_imul X.1 X.2.1 hd (h X H locs ls hP hD hS hl)
theorem w_iand {x y : Int32} (hd : decode cc pc = .ok (.iand, 1))  (hp : pc + 1 = pc') (h : WL Γ cc nL own ret rm ws pc' lv (.int (x &&& y) :: st)) : WL Γ cc nL own ret rm ws pc lv (.int y :: .int x :: st) := by
  subst hp
  exact fun X H locs ls hP hD hS hl => lv_iand X.1 X.2.1 hd (h X H locs ls hP hD hS hl)
theorem w_ior {x y : Int32} (hd : decode cc pc = .ok (.ior, 1))  (hp : pc + 1 = pc') (h : WL Γ cc nL own ret rm ws pc' lv (.int (x ||| y) :: st)) : WL Γ cc nL own ret rm ws pc lv (.int y :: .int x :: st) := by
  subst hp
  exact fun X H locs ls hP hD hS hl => lv_ior X.1 X.2.1 hd (h X H locs ls hP hD hS hl)
theorem w_ixor {x y : Int32} (hd : decode cc pc = .ok (.ixor, 1))  (hp : pc + 1 = pc') (h : WL Γ cc nL own ret rm ws pc' lv (.int (x ^^^ y) :: st)) : WL Γ cc nL own ret rm ws pc lv (.int y :: .int x :: st) := by
  subst hp
  exact fun X H locs ls hP hD hS hl => lv_ixor X.1 X.2.1 hd (h X H locs ls hP hD hS hl)
theorem w_ishl {x y : Int32} (hd : decode cc pc = .ok (.ishl, 1))  (hp : pc + 1 = pc') (h : WL Γ cc nL own ret rm ws pc' lv (.int (x <<< (y &&& 31)) :: st)) : WL Γ cc nL own ret rm ws pc lv (.int y :: .int x :: st) := by
  subst hp
  exact fun X H locs ls hP hD hS hl => lv_ishl X.1 X.2.1 hd (h X H locs ls hP hD hS hl)
theorem w_ishr {x y : Int32} (hd : decode cc pc = .ok (.ishr, 1))  (hp : pc + 1 = pc') (h : WL Γ cc nL own ret rm ws pc' lv (.int (x >>> (y &&& 31)) :: st)) : WL Γ cc nL own ret rm ws pc lv (.int y :: .int x :: st) := by
  subst hp
  exact fun X H locs ls hP hD hS hl => lv_ishr X.1 X.2.1 hd (h X H locs ls hP hD hS hl)
theorem w_iushr {x y : Int32} (hd : decode cc pc = .ok (.iushr, 1))  (hp : pc + 1 = pc') (h : WL Γ cc nL own ret rm ws pc' lv (.int ((x.toUInt32 >>> (y.toUInt32 &&& Int32.toUInt32 31)).toInt32) :: st)) : WL Γ cc nL own ret rm ws pc lv (.int y :: .int x :: st) := by
  subst hp
  exact fun X H locs ls hP hD hS hl => lv_iushr X.1 X.2.1 hd rfl (h X H locs ls hP hD hS hl)
theorem w_idiv {x y : Int32} (hd : decode cc pc = .ok (.idiv, 1)) (hne : ¬ y = 0) (hp : pc + 1 = pc') (h : WL Γ cc nL own ret rm ws pc' lv (.int (x / y) :: st)) : WL Γ cc nL own ret rm ws pc lv (.int y :: .int x :: st) := by
  subst hp
  exact fun X H locs ls hP hD hS hl => lv_idiv X.1 X.2.1 hd hne (h X H locs ls hP hD hS hl)
theorem w_irem {x y : Int32} (hd : decode cc pc = .ok (.irem, 1)) (hne : ¬ y = 0) (hp : pc + 1 = pc') (h : WL Γ cc nL own ret rm ws pc' lv (.int (x - x / y * y) :: st)) : WL Γ cc nL own ret rm ws pc lv (.int y :: .int x :: st) := by
  subst hp
  exact fun X H locs ls hP hD hS hl => lv_irem X.1 X.2.1 hd hne (h X H locs ls hP hD hS hl)
theorem w_ladd {x y : Int64} (hd : decode cc pc = .ok (.ladd, 1))  (hp : pc + 1 = pc') (h : WL Γ cc nL own ret rm ws pc' lv (.long (x + y) :: st)) : WL Γ cc nL own ret rm ws pc lv (.long y :: .long x :: st) := by
  subst hp
  exact fun X H locs ls hP hD hS hl => lv_ladd X.1 X.2.1 hd (h X H locs ls hP hD hS hl)
theorem w_lsub {x y : Int64} (hd : decode cc pc = .ok (.lsub, 1))  (hp : pc + 1 = pc') (h : WL Γ cc nL own ret rm ws pc' lv (.long (x - y) :: st)) : WL Γ cc nL own ret rm ws pc lv (.long y :: .long x :: st) := by
  subst hp
  exact fun X H locs ls hP hD hS hl => lv_lsub X.1 X.2.1 hd (h X H locs ls hP hD hS hl)
theorem w_lmul {x y : Int64} (hd : decode cc pc = .ok (.lmul, 1))  (hp : pc + 1 = pc') (h : WL Γ cc nL own ret rm ws pc' lv (.long (x * y) :: st)) : WL Γ cc nL own ret rm ws pc lv (.long y :: .long x :: st) := by
  subst hp
  exact fun X H locs ls hP hD hS hl => lv_lmul X.1 X.2.1 hd (h X H locs ls hP hD hS hl)
theorem w_land {x y : Int64} (hd : decode cc pc = .ok (.land, 1))  (hp : pc + 1 = pc') (h : WL Γ cc nL own ret rm ws pc' lv (.long (x &&& y) :: st)) : WL Γ cc nL own ret rm ws pc lv (.long y :: .long x :: st) := by
  subst hp
  exact fun X H locs ls hP hD hS hl => lv_land X.1 X.2.1 hd (h X H locs ls hP hD hS hl)
theorem w_lor {x y : Int64} (hd : decode cc pc = .ok (.lor, 1))  (hp : pc + 1 = pc') (h : WL Γ cc nL own ret rm ws pc' lv (.long (x ||| y) :: st)) : WL Γ cc nL own ret rm ws pc lv (.long y :: .long x :: st) := by
  subst hp
  exact fun X H locs ls hP hD hS hl => lv_lor X.1 X.2.1 hd (h X H locs ls hP hD hS hl)
theorem w_ldiv {x y : Int64} (hd : decode cc pc = .ok (.ldiv, 1)) (hne : ¬ y = 0) (hp : pc + 1 = pc') (h : WL Γ cc nL own ret rm ws pc' lv (.long (x / y) :: st)) : WL Γ cc nL own ret rm ws pc lv (.long y :: .long x :: st) := by
  subst hp
  exact fun X H locs ls hP hD hS hl => lv_ldiv X.1 X.2.1 hd hne (h X H locs ls hP hD hS hl)
theorem w_lrem {x y : Int64} (hd : decode cc pc = .ok (.lrem, 1)) (hne : ¬ y = 0) (hp : pc + 1 = pc') (h : WL Γ cc nL own ret rm ws pc' lv (.long (x - x / y * y) :: st)) : WL Γ cc nL own ret rm ws pc lv (.long y :: .long x :: st) := by
  subst hp
  exact fun X H locs ls hP hD hS hl => lv_lrem X.1 X.2.1 hd hne (h X H locs ls hP hD hS hl)
theorem w_ineg {x : Int32} (hd : decode cc pc = .ok (.ineg, 1))  (hp : pc + 1 = pc') (h : WL Γ cc nL own ret rm ws pc' lv (.int (-x) :: st)) : WL Γ cc nL own ret rm ws pc lv (.int x :: st) := by
  subst hp
  exact fun X H locs ls hP hD hS hl => lv_ineg X.1 X.2.1 hd (h X H locs ls hP hD hS hl)
theorem w_lshl {x : Int64} {y : Int32} (hd : decode cc pc = .ok (.lshl, 1))  (hp : pc + 1 = pc') (h : WL Γ cc nL own ret rm ws pc' lv (.long (x <<< (y.toInt64 &&& 63)) :: st)) : WL Γ cc nL own ret rm ws pc lv (.int y :: .long x :: st) := by
  subst hp
  exact fun X H locs ls hP hD hS hl => lv_lshl X.1 X.2.1 hd rfl (h X H locs ls hP hD hS hl)
theorem w_lshr {x : Int64} {y : Int32} (hd : decode cc pc = .ok (.lshr, 1))  (hp : pc + 1 = pc') (h : WL Γ cc nL own ret rm ws pc' lv (.long (x >>> (y.toInt64 &&& 63)) :: st)) : WL Γ cc nL own ret rm ws pc lv (.int y :: .long x :: st) := by
  subst hp
  exact fun X H locs ls hP hD hS hl => lv_lshr X.1 X.2.1 hd rfl (h X H locs ls hP hD hS hl)
theorem w_i2l {x : Int32} (hd : decode cc pc = .ok (.i2l, 1))  (hp : pc + 1 = pc') (h : WL Γ cc nL own ret rm ws pc' lv (.long x.toInt64 :: st)) : WL Γ cc nL own ret rm ws pc lv (.int x :: st) := by
  subst hp
  exact fun X H locs ls hP hD hS hl => lv_i2l X.1 X.2.1 hd rfl (h X H locs ls hP hD hS hl)
theorem w_l2i {x : Int64} (hd : decode cc pc = .ok (.l2i, 1))  (hp : pc + 1 = pc') (h : WL Γ cc nL own ret rm ws pc' lv (.int x.toInt32 :: st)) : WL Γ cc nL own ret rm ws pc lv (.long x :: st) := by
  subst hp
  exact fun X H locs ls hP hD hS hl => lv_l2i X.1 X.2.1 hd rfl (h X H locs ls hP hD hS hl)
theorem w_i2b {x : Int32} (hd : decode cc pc = .ok (.i2b, 1))  (hp : pc + 1 = pc') (h : WL Γ cc nL own ret rm ws pc' lv (.int x.toInt8.toInt32 :: st)) : WL Γ cc nL own ret rm ws pc lv (.int x :: st) := by
  subst hp
  exact fun X H locs ls hP hD hS hl => lv_i2b X.1 X.2.1 hd rfl (h X H locs ls hP hD hS hl)
theorem w_i2s {x : Int32} (hd : decode cc pc = .ok (.i2s, 1))  (hp : pc + 1 = pc') (h : WL Γ cc nL own ret rm ws pc' lv (.int x.toInt16.toInt32 :: st)) : WL Γ cc nL own ret rm ws pc lv (.int x :: st) := by
  subst hp
  exact fun X H locs ls hP hD hS hl => lv_i2s X.1 X.2.1 hd rfl (h X H locs ls hP hD hS hl)
theorem w_lcmp {x y : Int64} (hd : decode cc pc = .ok (.lcmp, 1))  (hp : pc + 1 = pc') (h : WL Γ cc nL own ret rm ws pc' lv (.int (lg_cmp x y) :: st)) : WL Γ cc nL own ret rm ws pc lv (.long y :: .long x :: st) := by
  subst hp
  exact fun X H locs ls hP hD hS hl => W.lcmp X.1 X.2.1 hd (h X H locs ls hP hD hS hl)
theorem w_dup {v : Value} (hd : decode cc pc = .ok (.dup, 1)) (hc : v.category = 1) (hp : pc + 1 = pc') (h : WL Γ cc nL own ret rm ws pc' lv (v :: v :: st)) : WL Γ cc nL own ret rm ws pc lv (v :: st) := by
  subst hp
  exact fun X H locs ls hP hD hS hl => lv_dup X.1 X.2.1 hd hc (h X H locs ls hP hD hS hl)
theorem w_dup2 {v u : Value} (hd : decode cc pc = .ok (.dup2, 1)) (hc : v.category = 1) (hu : u.category = 1) (hp : pc + 1 = pc') (h : WL Γ cc nL own ret rm ws pc' lv (v :: u :: v :: u :: st)) : WL Γ cc nL own ret rm ws pc lv (v :: u :: st) := by
  subst hp
  exact fun X H locs ls hP hD hS hl => lv_dup2_11 X.1 X.2.1 hd hc hu (h X H locs ls hP hD hS hl)
theorem w_pop {v : Value} (hd : decode cc pc = .ok (.pop, 1)) (hc : v.category = 1) (hp : pc + 1 = pc') (h : WL Γ cc nL own ret rm ws pc' lv st) : WL Γ cc nL own ret rm ws pc lv (v :: st) := by
  subst hp
  exact fun X H locs ls hP hD hS hl => lv_pop X.1 X.2.1 hd hc (h X H locs ls hP hD hS hl)
theorem w_icmp_eq {x y : Int32} {off : Int} {tgt : Nat} (hd : decode cc pc = .ok (.if_icmp .eq off, 3)) (ht : (pc : Int) + off = (tgt : Int)) (hp : pc + 3 = pc') (kt : x = y → WL Γ cc nL own ret rm ws tgt lv st) (kf : ¬ x = y → WL Γ cc nL own ret rm ws pc' lv st) : WL Γ cc nL own ret rm ws pc lv (.int y :: .int x :: st) := by
  subst hp
  exact fun X H locs ls hP hD hS hl => lv_icmp_eq X.1 X.2.1 hd ht (fun q => kt q X H locs ls hP hD hS hl) (fun q => kf q X H locs ls hP hD hS hl)
theorem w_icmp_ne {x y : Int32} {off : Int} {tgt : Nat} (hd : decode cc pc = .ok (.if_icmp .ne off, 3)) (ht : (pc : Int) + off = (tgt : Int)) (hp : pc + 3 = pc') (kt : ¬ x = y → WL Γ cc nL own ret rm ws tgt lv st) (kf : x = y → WL Γ cc nL own ret rm ws pc' lv st) : WL Γ cc nL own ret rm ws pc lv (.int y :: .int x :: st) := by
  subst hp
  exact fun X H locs ls hP hD hS hl => lv_icmp_ne X.1 X.2.1 hd ht (fun q => kt q X H locs ls hP hD hS hl) (fun q => kf q X H locs ls hP hD hS hl)
theorem w_icmp_lt {x y : Int32} {off : Int} {tgt : Nat} (hd : decode cc pc = .ok (.if_icmp .lt off, 3)) (ht : (pc : Int) + off = (tgt : Int)) (hp : pc + 3 = pc') (kt : x < y → WL Γ cc nL own ret rm ws tgt lv st) (kf : ¬ x < y → WL Γ cc nL own ret rm ws pc' lv st) : WL Γ cc nL own ret rm ws pc lv (.int y :: .int x :: st) := by
  subst hp
  exact fun X H locs ls hP hD hS hl => lv_icmp_lt X.1 X.2.1 hd ht (fun q => kt q X H locs ls hP hD hS hl) (fun q => kf q X H locs ls hP hD hS hl)
theorem w_icmp_ge {x y : Int32} {off : Int} {tgt : Nat} (hd : decode cc pc = .ok (.if_icmp .ge off, 3)) (ht : (pc : Int) + off = (tgt : Int)) (hp : pc + 3 = pc') (kt : y ≤ x → WL Γ cc nL own ret rm ws tgt lv st) (kf : ¬ y ≤ x → WL Γ cc nL own ret rm ws pc' lv st) : WL Γ cc nL own ret rm ws pc lv (.int y :: .int x :: st) := by
  subst hp
  exact fun X H locs ls hP hD hS hl => lv_icmp_ge X.1 X.2.1 hd ht (fun q => kt q X H locs ls hP hD hS hl) (fun q => kf q X H locs ls hP hD hS hl)
theorem w_icmp_gt {x y : Int32} {off : Int} {tgt : Nat} (hd : decode cc pc = .ok (.if_icmp .gt off, 3)) (ht : (pc : Int) + off = (tgt : Int)) (hp : pc + 3 = pc') (kt : y < x → WL Γ cc nL own ret rm ws tgt lv st) (kf : ¬ y < x → WL Γ cc nL own ret rm ws pc' lv st) : WL Γ cc nL own ret rm ws pc lv (.int y :: .int x :: st) := by
  subst hp
  exact fun X H locs ls hP hD hS hl => lv_icmp_gt X.1 X.2.1 hd ht (fun q => kt q X H locs ls hP hD hS hl) (fun q => kf q X H locs ls hP hD hS hl)
theorem w_icmp_le {x y : Int32} {off : Int} {tgt : Nat} (hd : decode cc pc = .ok (.if_icmp .le off, 3)) (ht : (pc : Int) + off = (tgt : Int)) (hp : pc + 3 = pc') (kt : x ≤ y → WL Γ cc nL own ret rm ws tgt lv st) (kf : ¬ x ≤ y → WL Γ cc nL own ret rm ws pc' lv st) : WL Γ cc nL own ret rm ws pc lv (.int y :: .int x :: st) := by
  subst hp
  exact fun X H locs ls hP hD hS hl => lv_icmp_le X.1 X.2.1 hd ht (fun q => kt q X H locs ls hP hD hS hl) (fun q => kf q X H locs ls hP hD hS hl)
theorem w_if_eq {x : Int32} {off : Int} {tgt : Nat} (hd : decode cc pc = .ok (.ifCond .eq off, 3)) (ht : (pc : Int) + off = (tgt : Int)) (hp : pc + 3 = pc') (kt : x = 0 → WL Γ cc nL own ret rm ws tgt lv st) (kf : ¬ x = 0 → WL Γ cc nL own ret rm ws pc' lv st) : WL Γ cc nL own ret rm ws pc lv (.int x :: st) := by
  subst hp
  exact fun X H locs ls hP hD hS hl => lv_if_eq X.1 X.2.1 hd ht (fun q => kt q X H locs ls hP hD hS hl) (fun q => kf q X H locs ls hP hD hS hl)
theorem w_if_ne {x : Int32} {off : Int} {tgt : Nat} (hd : decode cc pc = .ok (.ifCond .ne off, 3)) (ht : (pc : Int) + off = (tgt : Int)) (hp : pc + 3 = pc') (kt : ¬ x = 0 → WL Γ cc nL own ret rm ws tgt lv st) (kf : x = 0 → WL Γ cc nL own ret rm ws pc' lv st) : WL Γ cc nL own ret rm ws pc lv (.int x :: st) := by
  subst hp
  exact fun X H locs ls hP hD hS hl => lv_if_ne X.1 X.2.1 hd ht (fun q => kt q X H locs ls hP hD hS hl) (fun q => kf q X H locs ls hP hD hS hl)
theorem w_if_lt {x : Int32} {off : Int} {tgt : Nat} (hd : decode cc pc = .ok (.ifCond .lt off, 3)) (ht : (pc : Int) + off = (tgt : Int)) (hp : pc + 3 = pc') (kt : x < 0 → WL Γ cc nL own ret rm ws tgt lv st) (kf : ¬ x < 0 → WL Γ cc nL own ret rm ws pc' lv st) : WL Γ cc nL own ret rm ws pc lv (.int x :: st) := by
  subst hp
  exact fun X H locs ls hP hD hS hl => lv_if_lt X.1 X.2.1 hd ht (fun q => kt q X H locs ls hP hD hS hl) (fun q => kf q X H locs ls hP hD hS hl)
theorem w_if_ge {x : Int32} {off : Int} {tgt : Nat} (hd : decode cc pc = .ok (.ifCond .ge off, 3)) (ht : (pc : Int) + off = (tgt : Int)) (hp : pc + 3 = pc') (kt : 0 ≤ x → WL Γ cc nL own ret rm ws tgt lv st) (kf : ¬ 0 ≤ x → WL Γ cc nL own ret rm ws pc' lv st) : WL Γ cc nL own ret rm ws pc lv (.int x :: st) := by
  subst hp
  exact fun X H locs ls hP hD hS hl => lv_if_ge X.1 X.2.1 hd ht (fun q => kt q X H locs ls hP hD hS hl) (fun q => kf q X H locs ls hP hD hS hl)
theorem w_if_gt {x : Int32} {off : Int} {tgt : Nat} (hd : decode cc pc = .ok (.ifCond .gt off, 3)) (ht : (pc : Int) + off = (tgt : Int)) (hp : pc + 3 = pc') (kt : 0 < x → WL Γ cc nL own ret rm ws tgt lv st) (kf : ¬ 0 < x → WL Γ cc nL own ret rm ws pc' lv st) : WL Γ cc nL own ret rm ws pc lv (.int x :: st) := by
  subst hp
  exact fun X H locs ls hP hD hS hl => lv_if_gt X.1 X.2.1 hd ht (fun q => kt q X H locs ls hP hD hS hl) (fun q => kf q X H locs ls hP hD hS hl)
theorem w_if_le {x : Int32} {off : Int} {tgt : Nat} (hd : decode cc pc = .ok (.ifCond .le off, 3)) (ht : (pc : Int) + off = (tgt : Int)) (hp : pc + 3 = pc') (kt : x ≤ 0 → WL Γ cc nL own ret rm ws tgt lv st) (kf : ¬ x ≤ 0 → WL Γ cc nL own ret rm ws pc' lv st) : WL Γ cc nL own ret rm ws pc lv (.int x :: st) := by
  subst hp
  exact fun X H locs ls hP hD hS hl => lv_if_le X.1 X.2.1 hd ht (fun q => kt q X H locs ls hP hD hS hl) (fun q => kf q X H locs ls hP hD hS hl)
theorem w_goto {off : Int} {tgt : Nat} (hd : decode cc pc = .ok (.goto off, 3)) (ht : (pc : Int) + off = (tgt : Int)) (h : WL Γ cc nL own ret rm ws tgt lv st) : WL Γ cc nL own ret rm ws pc lv st :=
  fun X H locs ls hP hD hS hl => lv_goto X.1 X.2.1 hd ht (h X H locs ls hP hD hS hl)
theorem w_tableIn {dflt lo hi : Int} {offs : Array Int} {len : Nat} {x : Int32} {off : Int} {tgt : Nat} (hd : decode cc pc = .ok (.tableswitch dflt lo hi offs, len)) (h1 : ¬ x.toInt < lo) (h2 : ¬ hi < x.toInt) (ho : offs[(x.toInt - lo).toNat]? = some off) (ht : (pc : Int) + off = (tgt : Int)) (h : WL Γ cc nL own ret rm ws tgt lv st) : WL Γ cc nL own ret rm ws pc lv (.int x :: st) :=
  fun X H locs ls hP hD hS hl => lv_tableIn X.1 X.2.1 hd h1 h2 ho ht (h X H locs ls hP hD hS hl)
theorem w_tableOut {dflt lo hi : Int} {offs : Array Int} {len : Nat} {x : Int32} {tgt : Nat} (hd : decode cc pc = .ok (.tableswitch dflt lo hi offs, len)) (hx : x.toInt < lo ∨ hi < x.toInt) (ht : (pc : Int) + dflt = (tgt : Int)) (h : WL Γ cc nL own ret rm ws tgt lv st) : WL Γ cc nL own ret rm ws pc lv (.int x :: st) :=
  fun X H locs ls hP hD hS hl => lv_tableOut X.1 X.2.1 hd hx ht (h X H locs ls hP hD hS hl)
theorem w_lookup {dflt : Int} {ps : Array (Int × Int)} {len : Nat} {x : Int32} {off : Int} {tgt : Nat} (hd : decode cc pc = .ok (.lookupswitch dflt ps, len)) (hq : (ps.toList.zip (ps.toList.drop 1)).all (fun (a, next) => a.1 < next.1) = true) (ho : Op.lookupswitch.offset ps.toList dflt x.toInt = off) (ht : (pc : Int) + off = (tgt : Int)) (h : WL Γ cc nL own ret rm ws tgt lv st) : WL Γ cc nL own ret rm ws pc lv (.int x :: st) :=
  fun X H locs ls hP hD hS hl => lv_lookup X.1 X.2.1 hd hq ho ht (h X H locs ls hP hD hS hl)
end RU
