/-! ===== worlds that are being made: a list ws, the object at place k of it, what was made since ===== -/
def cf (ws : va_W) (k : Nat) (T : Nat × va_E) (L : va_W) : va_W := ws.set k T ++ L
theorem cf_at {ws : va_W} {k : Nat} {T : Nat × va_E} {L : va_W} (hk : k < ws.length) : (cf ws k T L)[k]? = some T := by
  unfold cf
  rw [List.getElem?_append_left (by simpa using hk)]
  simp [hk]
theorem cf_set {ws : va_W} {k : Nat} {T T' : Nat × va_E} {L : va_W} (hk : k < ws.length) : (cf ws k T L).set k T' = cf ws k T' L := by
  unfold cf
  rw [List.set_append_left _ _ (by simpa using hk)]
  simp
theorem cf_app {ws : va_W} {k : Nat} {T c : Nat × va_E} {L : va_W} : cf ws k T L ++ [c] = cf ws k T (L ++ [c]) := by
  unfold cf
  rw [List.append_assoc]
theorem cf_self {ws : va_W} {k : Nat} {T : Nat × va_E} (h : ws[k]? = some T) : cf ws k T [] = ws := by
  unfold cf
  rw [List.append_nil]
  apply List.ext_getElem?
  intro j
  rw [List.getElem?_set]
  by_cases e : k = j
  · subst e
    rw [if_pos rfl, h]
    have := (List.getElem?_eq_some_iff.mp h).1
    rw [if_pos this]
  · rw [if_neg e]
/-- the last of what was made -/
theorem cf_last {ws : va_W} {k : Nat} {T c : Nat × va_E} {L : va_W} : (cf ws k T (L ++ [c]))[(cf ws k T L).length]? = some c := by
  rw [← cf_app]
  simp
theorem cf_last_set {ws : va_W} {k : Nat} {T c c' : Nat × va_E} {L L' : va_W} : cf (cf ws k T (L ++ [c])) (cf ws k T L).length c' L' = cf ws k T (L ++ [c'] ++ L') := by
  rw [← cf_app]
  unfold cf
  simp
def bump (Γ : CX) (a b : Nat) : CX := (xp Γ, xl Γ, xE Γ, xR Γ, xs Γ, xm Γ, xa Γ, xb Γ, xM Γ, xc Γ, xD Γ, xy Γ, xd Γ, xA Γ, xk Γ + a, xn Γ + b, xQ Γ)
def dfI : Nat → Int32 := fun _ => 0
def dfJ : Nat → Int64 := fun _ => 0
section LI
variable {Γ : CX} {cc : ByteArray} {nL : Nat} {own : String} {ret : Option FieldType} {rm : Room} {ws : va_W} {k : Nat} {T : Nat × va_E} {L : va_W} {pc pc' : Nat} {lv lv' : List (Nat × Value)} {st rest st0 : List Value}
theorem okc_bump {a b : Nat} (X : Okc Γ cc nL own ret rm) (ha : xk Γ + a ≤ rm.cells) (hb : xn Γ + b ≤ rm.slots) : Okc (bump Γ a b) cc nL own ret rm := by
  obtain ⟨h1, h2, h3, h4, h5, h6, h7, h8, -, -, h11, h12, h13⟩ := X
  exact ⟨h1, h2, h3, h4, h5, h6, h7, h8, by show xk Γ + a ≤ (xR Γ).cells; rw [h12]; exact ha, by show xn Γ + b ≤ (xR Γ).slots; rw [h12]; exact hb, h11, h12, h13⟩
theorem l_new {ci index N : Nat} {C : String} {Tt : u_T} (fs : List Value) (ty : Nat → FieldType) (hcl : vwCl[ci]? = some (C, Tt, N)) (hin : ∀ w ∈ u_ws C Tt N, w ∈ TB) (hty : ∀ k, k < N → parseFieldDescriptor (Tt k).2.2.1 = some (ty k)) (hw : Cond.classLink own index C ∈ TB ∧ Cond.instantiable C N ∈ TB ∧ Cond.initialized C ∈ TB) (hfs : ∀ j, j < N → defaultValue (ty j) = vp_V fs j) (hR : xk Γ + 1 ≤ rm.cells ∧ xn Γ + N ≤ rm.slots)
    (hd : decode cc pc = .ok (.new index, 3)) (hp : pc + 3 = pc') (h : ∀ q : Nat, WL (bump Γ 1 N) cc nL own ret rm (cf ws k T (L ++ [(q, .inr (ci, fs))])) pc' lv (.ref q :: st)) : WL Γ cc nL own ret rm (cf ws k T L) pc lv st := by
  subst hp
  intro X H locs ls hP hD hS hl
  have X1 := okc_bump X hR.1 hR.2
  obtain ⟨hx, hb, hml, hown, hts, hK, -, hA, -, -, -, hRm, -⟩ := X
  refine va_new (ci := ci) (fs := fs) (C := C) (T := Tt) (N := N) hx hb hts hin ty hty hown (hts _ hw.1) (hts _ hw.2.1) (hts _ hw.2.2) hK hP hD hS hA hcl hfs (by rw [hRm]; exact hR.1) (by rw [hRm]; exact hR.2) hd (fun q H1 hP1 hD1 hS1 => ?_)
  rw [cf_app] at hP1 hD1
  exact h q X1 H1 locs ls hP1 hD1 hS1 hl
theorem l_newA {atype : ArrayType} {ty : FieldType} {n : Int32} {N' : Nat} (t0 no : Nat) (a0 : vp_A) (hty : newarray.typeOf atype = ty) (ht : (tyK (xy Γ))[t0]? = some (xy Γ no, ty)) (hprim : ∀ (U : State) (c : ClassId), va_RA U c ty → U.vm.findClass ("[" ++ ty.toString) = some c) (hw : Cond.arrayClass ty ∈ TB) (ha : ∀ cA : ClassId, vp_cell cA a0 = arrV cA N' (fun _ => defaultValue ty)) (hn : ¬ n < 0) (hN : n.toNatClampNeg = N') (hbytes : N' * componentBytes ty ≤ 536870912) (hR : xk Γ + 1 ≤ rm.cells ∧ xn Γ + N' ≤ rm.slots)
    (hd : decode cc pc = .ok (.newarray atype, 2)) (hp : pc + 2 = pc') (h : ∀ q : Nat, WL (bump Γ 1 N') cc nL own ret rm (cf ws k T (L ++ [(q, .inl (xy Γ no, a0))])) pc' lv (.ref q :: st)) : WL Γ cc nL own ret rm (cf ws k T L) pc lv (.int n :: st) := by
  subst hp
  intro X H locs ls hP hD hS hl
  have X1 := okc_bump X hR.1 hR.2
  obtain ⟨hx, hb, hml, hown, hts, hK, -, hA, -, -, -, hRm, -⟩ := X
  refine va_newa hx hb (by rw [hty]; exact hts _ hw) hty hK hP hD hS hA ha hn hN hbytes (by rw [hRm]; exact hR.1) (by rw [hRm]; exact hR.2) hd (fun q cA H1 hK1 hP1 hD1 hS1 => ?_)
  have e : cA = xy Γ no := by
    have e1 := hprim _ _ (hK1.2 5 (cA, ty) rfl).2
    have e2 := hprim _ _ (hK.2 t0 _ ht).2
    exact Option.some.inj (e1.symm.trans e2)
  subst e
  rw [cf_app] at hP1 hD1
  exact h q X1 H1 locs ls hP1 hD1 hS1 hl
theorem l_newQ {index N' : Nat} {n : Int32} (hw : Cond.classLink own index RX10 ∈ TB) (hn : ¬ n < 0) (hN : n.toNatClampNeg = N') (hbytes : N' * 4 ≤ 536870912) (hR : xk Γ + 1 ≤ rm.cells ∧ xn Γ + N' ≤ rm.slots) (hd : decode cc pc = .ok (.anewarray index, 3)) (hp : pc + 3 = pc')
    (h : ∀ q : Nat, WL (bump Γ 1 N') cc nL own ret rm (cf ws k T (L ++ [(q, .inl (xy Γ 16, N', .inr (.inr (.inr (.inr (fun _ => none))))))])) pc' lv (.ref q :: st)) : WL Γ cc nL own ret rm (cf ws k T L) pc lv (.int n :: st) := by
  subst hp
  intro X H locs ls hP hD hS hl
  have X1 := okc_bump X hR.1 hR.2
  obtain ⟨hx, hb, hml, hown, hts, hK, -, hA, -, -, -, hRm, -, hSR⟩ := X
  refine va_newq hx hb hown (hts _ hw) hSR.2.2.2.2 hK hP hD hS hA hn hN hbytes (by rw [hRm]; exact hR.1) (by rw [hRm]; exact hR.2) hd (fun q cA H1 hK1 hP1 hD1 hS1 => ?_)
  have e : cA = xy Γ 16 := by
    obtain ⟨_, _, _, _, _, e1⟩ := (hK1.2 5 (cA, .object RX10) rfl).2
    obtain ⟨_, _, _, _, _, e2⟩ := (hK.2 4 (xy Γ 16, .object RX10) rfl).2
    exact Option.some.inj (e1.symm.trans e2)
  subst e
  rw [cf_app] at hP1 hD1
  exact h q X1 H1 locs ls hP1 hD1 hS1 hl
theorem l_get {a ci j index N : Nat} {ref C : String} {Tt : u_T} {fs : List Value} {v : Value} (hk : k < ws.length) (hcl : vwCl[ci]? = some (C, Tt, N)) (hj : j < N) (hv : fs[j]? = some v) (hin : ∀ w ∈ u_ws C Tt N, w ∈ TB) (hlink : Cond.fieldLink own index ref (Tt j).2.1 (Tt j).2.2.1 ∈ TB) (hsame : (Tt j).1 = ref) (hd : decode cc pc = .ok (.getfield index, 3)) (hp : pc + 3 = pc')
    (h : WL Γ cc nL own ret rm (cf ws k (a, .inr (ci, fs)) L) pc' lv (v :: st)) : WL Γ cc nL own ret rm (cf ws k (a, .inr (ci, fs)) L) pc lv (.ref a :: st) := by
  subst hp
  subst hsame
  intro X H locs ls hP hD hS hl
  exact va_get (D := xD Γ) (ci := ci) (v := v) (C := C) (T := Tt) (N := N) X.1 X.2.1 X.2.2.2.2.1 hin X.2.2.2.1 X.2.2.2.2.2.1 hP k (cf_at hk) hcl j hj (X.2.2.2.2.1 _ hlink) (fun _ h9 => h9) hv hd (h X H locs ls hP hD hS hl)
theorem l_putF {a ci j index N : Nat} {ref C : String} {Tt : u_T} {fs : List Value} {v : Value} {ty : FieldType} (ty0 : Nat → FieldType) (hk : k < ws.length) (hcl : vwCl[ci]? = some (C, Tt, N)) (hj : j < N) (hin : ∀ w ∈ u_ws C Tt N, w ∈ TB) (hlink : Cond.fieldLink own index ref (Tt j).2.1 (Tt j).2.2.1 ∈ TB) (hsame : (Tt j).1 = ref) (hty : ∀ k, k < N → parseFieldDescriptor (Tt k).2.2.1 = some (ty0 k)) (hnm : ∀ a, a < N → ∀ b, b < N → a ≠ b → (Tt a).2.1 ≠ (Tt b).2.1) (hfin : (Tt j).2.2.2 = true) (hin2 : (xM Γ).name = "<init>") (hdecl : (Tt j).1 = own) (hdt : parseFieldDescriptor (Tt j).2.2.1 = some ty) (hn : narrow ty v = v) (hfit : fits ty v = true) (hl : j < fs.length)
    (hd : decode cc pc = .ok (.putfield index, 3)) (hp : pc + 3 = pc') (h : WL Γ cc nL own ret rm (cf ws k (a, .inr (ci, fs.set j v)) L) pc' lv st) : WL Γ cc nL own ret rm (cf ws k (a, .inr (ci, fs)) L) pc lv (v :: .ref a :: st) := by
  subst hp
  subst hsame
  intro X H locs ls hP hD hS hls
  refine va_putF (D := xD Γ) (ci := ci) (v := v) (ty := ty) (C := C) (T := Tt) (N := N) X.1 X.2.1 X.2.2.2.2.1 hin ty0 hty hnm X.2.2.2.1 X.2.2.2.2.2.1 hP hD hS k (cf_at hk) hcl j hj (X.2.2.2.2.1 _ hlink) (fun _ h9 => h9) hfin hin2 hdecl hdt hn hfit hl hd (fun H1 locs1 hP1 hD1 hS1 => ?_)
  rw [cf_set hk] at hP1 hD1
  exact h X H1 locs1 ls hP1 hD1 hS1 hls
theorem l_put {a ci j index N : Nat} {ref C : String} {Tt : u_T} {fs : List Value} {v : Value} {ty : FieldType} (ty0 : Nat → FieldType) (hk : k < ws.length) (hcl : vwCl[ci]? = some (C, Tt, N)) (hj : j < N) (hin : ∀ w ∈ u_ws C Tt N, w ∈ TB) (hlink : Cond.fieldLink own index ref (Tt j).2.1 (Tt j).2.2.1 ∈ TB) (hsame : (Tt j).1 = ref) (hty : ∀ k, k < N → parseFieldDescriptor (Tt k).2.2.1 = some (ty0 k)) (hnm : ∀ a, a < N → ∀ b, b < N → a ≠ b → (Tt a).2.1 ≠ (Tt b).2.1) (hfin : (Tt j).2.2.2 = false) (hdt : parseFieldDescriptor (Tt j).2.2.1 = some ty) (hn : narrow ty v = v) (hfit : fits ty v = true) (hl : j < fs.length)
    (hd : decode cc pc = .ok (.putfield index, 3)) (hp : pc + 3 = pc') (h : WL Γ cc nL own ret rm (cf ws k (a, .inr (ci, fs.set j v)) L) pc' lv st) : WL Γ cc nL own ret rm (cf ws k (a, .inr (ci, fs)) L) pc lv (v :: .ref a :: st) := by
  subst hp
  subst hsame
  intro X H locs ls hP hD hS hls
  refine va_put (D := xD Γ) (ci := ci) (v := v) (ty := ty) (C := C) (T := Tt) (N := N) X.1 X.2.1 X.2.2.2.2.1 hin ty0 hty hnm X.2.2.2.1 X.2.2.2.2.2.1 hP hD hS k (cf_at hk) hcl j hj (X.2.2.2.2.1 _ hlink) (fun _ h9 => h9) hfin hdt hn hfit hl hd (fun H1 locs1 hP1 hD1 hS1 => ?_)
  rw [cf_set hk] at hP1 hD1
  exact h X H1 locs1 ls hP1 hD1 hS1 hls
theorem l_iast {q n : Nat} {f : Nat → Int32} {i x : Int32} (hin : inb i n = true) (hd : decode cc pc = .ok (.iastore, 1)) (hp : pc + 1 = pc') (h : WL Γ cc nL own ret rm (cf ws k T (L ++ [(q, .inl (xy Γ 13, n, .inl (upd f i.toNatClampNeg x)))])) pc' lv st) : WL Γ cc nL own ret rm (cf ws k T (L ++ [(q, .inl (xy Γ 13, n, .inl f))])) pc lv (.int x :: .int i :: .ref q :: st) := by
  subst hp
  intro X H locs ls hP hD hS hls
  refine va_iast X.1 X.2.1 X.2.2.2.2.2.1 hP hD hS (cf ws k T L).length 1 cf_last rfl (inb_in hin) hd (fun H1 locs1 hP1 hD1 hS1 => ?_)
  have e : (cf ws k T (L ++ [(q, .inl (xy Γ 13, n, .inl f))])).set (cf ws k T L).length (q, .inl (xy Γ 13, n, .inl (upd f i.toNatClampNeg x))) = cf ws k T (L ++ [(q, .inl (xy Γ 13, n, .inl (upd f i.toNatClampNeg x)))]) := by
    have e := cf_last_set (ws := ws) (k := k) (T := T) (c := (q, .inl (xy Γ 13, n, .inl f))) (c' := (q, .inl (xy Γ 13, n, .inl (upd f i.toNatClampNeg x)))) (L := L) (L' := [])
    simpa [cf] using e
  rw [e] at hP1 hD1
  exact h X H1 locs1 ls hP1 hD1 hS1 hls
theorem l_obj {a idx : Nat} (hl : Cond.methodLink own idx objectInit ∈ TB) (hi : Cond.instanceMethod objectInit ∈ TB ∧ Cond.code objectInit ⟨#[0xb1]⟩ 1 none ∈ TB) (hw : (rest.map fun v => v.category).sum ≤ 8) (hR : 1 ≤ rm.frames ∧ 20 ≤ rm.locals) (hd : decode cc pc = .ok (.invokespecial idx, 3)) (hp : pc + 3 = pc') (h : WL Γ cc nL own ret rm ws pc' lv rest) : WL Γ cc nL own ret rm ws pc lv (.ref a :: rest) := by
  subst hp
  intro X H locs ls hP hD hS hls
  have X0 := X
  obtain ⟨hx, hb, hml, hown, hts, hK, -, -, -, -, -, hRm, -⟩ := X
  refine W.objInit hx hb hown (hts _ hl) (hts _ hi.1) (hts _ hi.2) rfl (by rw [hml]; exact hls.1) rfl hd (by rw [hRm]; exact hR.1) (by rw [hRm]; show 2 * 0 + _ + 12 ≤ _; omega) ?_
  exact h X0 H locs ls hP hD hS hls
end LI
theorem l_newI {Γ : CX} {cc : ByteArray} {nL : Nat} {own : String} {ret : Option FieldType} {rm : Room} {ws : va_W} {k : Nat} {T : Nat × va_E} {L : va_W} {pc pc' : Nat} {lv : List (Nat × Value)} {st : List Value} {n : Int32} (N' : Nat) (hw : Cond.arrayClass .int ∈ TB) (hn : ¬ n < 0) (hN : n.toNatClampNeg = N') (hbytes : N' * componentBytes .int ≤ 536870912) (hR : xk Γ + 1 ≤ rm.cells ∧ xn Γ + N' ≤ rm.slots)
    (hd : decode cc pc = .ok (.newarray .int, 2)) (hp : pc + 2 = pc') (h : ∀ q : Nat, WL (bump Γ 1 N') cc nL own ret rm (cf ws k T (L ++ [(q, .inl (xy Γ 13, N', .inl dfI))])) pc' lv (.ref q :: st)) : WL Γ cc nL own ret rm (cf ws k T L) pc lv (.int n :: st) :=
  l_newA (ty := .int) 1 13 (N', .inl dfI) rfl rfl (fun _ _ h => h) hw (fun _ => by rw [vp_cell_i]; rfl) hn hN hbytes hR hd hp h
theorem l_newB {Γ : CX} {cc : ByteArray} {nL : Nat} {own : String} {ret : Option FieldType} {rm : Room} {ws : va_W} {k : Nat} {T : Nat × va_E} {L : va_W} {pc pc' : Nat} {lv : List (Nat × Value)} {st : List Value} {n : Int32} (N' : Nat) (hw : Cond.arrayClass .byte ∈ TB) (hn : ¬ n < 0) (hN : n.toNatClampNeg = N') (hbytes : N' * componentBytes .byte ≤ 536870912) (hR : xk Γ + 1 ≤ rm.cells ∧ xn Γ + N' ≤ rm.slots)
    (hd : decode cc pc = .ok (.newarray .byte, 2)) (hp : pc + 2 = pc') (h : ∀ q : Nat, WL (bump Γ 1 N') cc nL own ret rm (cf ws k T (L ++ [(q, .inl (xy Γ 12, N', .inl dfI))])) pc' lv (.ref q :: st)) : WL Γ cc nL own ret rm (cf ws k T L) pc lv (.int n :: st) :=
  l_newA (ty := .byte) 0 12 (N', .inl dfI) rfl rfl (fun _ _ h => h) hw (fun _ => by rw [vp_cell_i]; rfl) hn hN hbytes hR hd hp h
theorem l_newJ {Γ : CX} {cc : ByteArray} {nL : Nat} {own : String} {ret : Option FieldType} {rm : Room} {ws : va_W} {k : Nat} {T : Nat × va_E} {L : va_W} {pc pc' : Nat} {lv : List (Nat × Value)} {st : List Value} {n : Int32} (N' : Nat) (hw : Cond.arrayClass .long ∈ TB) (hn : ¬ n < 0) (hN : n.toNatClampNeg = N') (hbytes : N' * componentBytes .long ≤ 536870912) (hR : xk Γ + 1 ≤ rm.cells ∧ xn Γ + N' ≤ rm.slots)
    (hd : decode cc pc = .ok (.newarray .long, 2)) (hp : pc + 2 = pc') (h : ∀ q : Nat, WL (bump Γ 1 N') cc nL own ret rm (cf ws k T (L ++ [(q, .inl (xy Γ 14, N', .inr (.inl dfJ)))])) pc' lv (.ref q :: st)) : WL Γ cc nL own ret rm (cf ws k T L) pc lv (.int n :: st) :=
  l_newA (ty := .long) 2 14 (N', .inr (.inl dfJ)) rfl rfl (fun _ _ h => h) hw (fun _ => by rw [vp_cell_l]; rfl) hn hN hbytes hR hd hp h
theorem l_newZ {Γ : CX} {cc : ByteArray} {nL : Nat} {own : String} {ret : Option FieldType} {rm : Room} {ws : va_W} {k : Nat} {T : Nat × va_E} {L : va_W} {pc pc' : Nat} {lv : List (Nat × Value)} {st : List Value} {n : Int32} (N' : Nat) (hw : Cond.arrayClass .boolean ∈ TB) (hn : ¬ n < 0) (hN : n.toNatClampNeg = N') (hbytes : N' * componentBytes .boolean ≤ 536870912) (hR : xk Γ + 1 ≤ rm.cells ∧ xn Γ + N' ≤ rm.slots)
    (hd : decode cc pc = .ok (.newarray .boolean, 2)) (hp : pc + 2 = pc') (h : ∀ q : Nat, WL (bump Γ 1 N') cc nL own ret rm (cf ws k T (L ++ [(q, .inl (xy Γ 15, N', .inl dfI))])) pc' lv (.ref q :: st)) : WL Γ cc nL own ret rm (cf ws k T L) pc lv (.int n :: st) :=
  l_newA (ty := .boolean) 3 15 (N', .inl dfI) rfl rfl (fun _ _ h => h) hw (fun _ => by rw [vp_cell_i]; rfl) hn hN hbytes hR hd hp h
/-! ===== a constructor's contract ===== -/
def QN (D : va_G) (cy : Nat → ClassId) (F : (Nat → Nat) → va_W) (A : Nat → Prop) : Array Value → State → Outcome → State → Prop := fun _ st oc t => (oc = .returned none ∧ ∃ qs : Nat → Nat, va_P D vwCl (F qs) t.heap ∧ va_K D vwCl (tyK cy) t ∧ va_D A (F qs)) ∧ va_F A st t
def PreN (D : va_G) (cy : Nat → ClassId) (ad : Nat → Nat) (ws : va_W) (sz : Nat) (U : State) : Prop := U.heap.size = sz ∧ va_P D vwCl ws U.heap ∧ va_K D vwCl (tyK cy) U ∧ va_D (fun _ => True) ws ∧ SK ad (va_A ws sz) U U.heap ∧ SR ad U
def CN (l : Launch) (D : va_G) (cy : Nat → ClassId) (ad : Nat → Nat) (y : MethodName) (b : ByteArray) (n : Nat) (rm : Room) (av : List Value) (ws : va_W) (F : (Nat → Nat) → va_W) : Prop :=
  ∀ sz : Nat, Met l y (Cond.code y b n none :: TB) rm (va_Pc av (PreN D cy ad ws sz)) (QN D cy F (va_A ws sz)) rm.cells rm.slots (va_A ws sz)
theorem cn_of {l : Launch} {D : va_G} {cy : Nat → ClassId} {ad : Nat → Nat} {y : MethodName} {b : ByteArray} {n : Nat} {rm : Room} {av : List Value} {ws : va_W} {F : (Nat → Nat) → va_W} (hy : plainName y.cls = true) (hi : y.name = "<init>") (hn : (lg_sl av).length ≤ n)
    (h : ∀ (p : Program) (e : Env) (s : State) (m : MethodId) (args : Array Value) (below : List Frame) (meth : Method) (c : Code) (A : Nat → Prop), meth.name = "<init>" → WL (p, l, e, rm, s, m, args, below, meth, c, D, cy, ad, A, 0, 0, MQ below (QN D cy F A) args s rm.cells rm.slots A) b n y.cls none rm ws 0 (lv_args 0 av) []) : CN l D cy ad y b n rm av ws F := by
  intro sz
  refine Met.ofW (cc := b) (maxL := n) (ret := none) hy rfl ?_
  intro p e s m args below meth c s₁ B hml hv
  obtain ⟨rfl, hsz, hP, hK, hD0, hSK, hSR⟩ := hv
  have hts := atoms_spec (ws := Cond.code y b n none :: TB) B.pre
  have hown : s.vm.findClass y.cls = some m.cls := findClass_of_methodNamed B.named
  have hin : meth.name = "<init>" := (name_of_methodNamed B.named B.method).1.trans hi
  subst hsz
  have hD := hD0.self (sz := s.heap.size)
  have hl := lv_entry av (n := n) hn
  rw [lg_entry_eq]
  exact h p e s m av.toArray below meth c (va_A ws s.heap.size) hin ⟨B.exec, B.bytes, hml, hown, fun w hw => hts w (List.mem_cons_of_mem _ hw), hK, B.notSynchronized, fun q hq => Or.inr hq, Nat.zero_le _, Nat.zero_le _, B.returns, rfl, hSK, hSR⟩ s.heap [] _ hP hD va_S.rf hl
section LC
variable {Γ : CX} {cc : ByteArray} {nL : Nat} {own : String} {ret : Option FieldType} {rm : Room} {ws : va_W} {k : Nat} {T : Nat × va_E} {L : va_W} {pc pc' : Nat} {lv lv' : List (Nat × Value)} {st rest st0 : List Value} {F : (Nat → Nat) → va_W}
theorem l_return (qs : Nat → Nat) (e : xQ Γ = MQ (xb Γ) (QN (xD Γ) (xy Γ) F (xA Γ)) (xa Γ) (xs Γ) (xk Γ) (xn Γ) (xA Γ)) (hF : F qs = ws) (hd : decode cc pc = .ok (.return_, 1)) : WL Γ cc nL own none rm ws pc lv [] := by
  intro X H locs ls hP hD hS hl
  obtain ⟨hx, hb, -, -, -, hK, hlk, -, -, -, hr, -⟩ := X
  rw [e]
  refine W.vret hx hb hr (fun t ht hW => ?_) hS.2.2 hd hlk
  exact ⟨⟨rfl, qs, by rw [ht, hF]; exact hP, va_K.moved hW.alike hK, by rw [hF]; exact hD⟩, hS.F ht⟩
theorem l_fc {H : Heap} {locs : List Loc} (hA : ∀ q : Nat, (xs Γ).heap.size ≤ q → xA Γ q) (hD : va_D (xA Γ) ws) (hS : va_S (xA Γ) (xs Γ).heap H locs) : ∀ q, va_A ws H.size q → xA Γ q := by
  intro q h
  rcases h with ⟨k, e, h⟩ | h
  · exact hD.2 k _ h
  · exact hA q (Nat.le_trans hS.1 h)
theorem l_blind {D : va_G} {cy : Nat → ClassId} {ad : Nat → Nat} {av : List Value} {sz : Nat} : FrameBlind (va_Pc av (PreN D cy ad ws sz)) := fun a U g mk q => by
  obtain ⟨q0, q1, qP, qK, qD, qS, qR⟩ := q
  exact ⟨q0, q1, qP, va_K.moved (u := U) (U := U.calling g mk a) (Vm.Alike.refl U.vm) qK, qD, SK.go (u := U) (U := U.calling g mk a) (Vm.Alike.refl U.vm) (fun _ h => h) (fun _ _ _ => rfl) qS, SR.same (u := U) (U := U.calling g mk a) rfl qR⟩
theorem l_pre {H : Heap} {locs : List Loc} {av : List Value} (X : Okc Γ cc nL own ret rm) (hS : va_S (xA Γ) (xs Γ).heap H locs) (hP : va_P (xD Γ) vwCl ws H) (hD : va_D (xA Γ) ws) (U : State) (hU : U.heap = H) (hW : (xs Γ).WarmedH U.vm) : va_Pc av (PreN (xD Γ) (xy Γ) (xd Γ) ws H.size) av.toArray U :=
  ⟨rfl, by rw [hU], by rw [hU]; exact hP, va_K.moved hW.alike X.2.2.2.2.2.1, hD.weaken (fun _ _ _ _ => trivial), by rw [hU]; exact SK.go hW.alike (l_fc X.2.2.2.2.2.2.2.1 hD hS) hS.2.1 X.2.2.2.2.2.2.2.2.2.2.2.2.1, SR.warm hW X.2.2.2.2.2.2.2.2.2.2.2.2.2⟩
/-- a constructor's call out of its run -/
theorem l_run {a : Array Value} {mc ms : Nat} (hrun : Okc Γ cc nL own ret rm → ∀ (H : Heap) (locs : List Loc) (ls : Array Slot), va_P (xD Γ) vwCl ws H → va_D (xA Γ) ws → va_S (xA Γ) (xs Γ).heap H locs → lv_has ls nL lv →
      va_Run (xp Γ) (xl Γ) (xE Γ) (xR Γ) (xs Γ) (xm Γ) (xa Γ) (xb Γ) (xM Γ) (xc Γ) H locs (xk Γ) (xn Γ) mc ms (F0 (xm Γ) pc ls st0) rest (QN (xD Γ) (xy Γ) F (va_A ws H.size) a) (va_A ws H.size))
    (hR : xk Γ + mc ≤ rm.cells ∧ xn Γ + ms ≤ rm.slots) (hp : pc + 3 = pc') (h : ∀ qs : Nat → Nat, WL (bump Γ mc ms) cc nL own ret rm (F qs) pc' lv rest) : WL Γ cc nL own ret rm ws pc lv st0 := by
  subst hp
  intro X H locs ls hP hD hS hl Tt hT Xs
  have hF := l_fc X.2.2.2.2.2.2.2.1 hD hS
  obtain ⟨v', st₀, t, T', L, h0, X', hL, e1, e2, ⟨⟨hv, qs, hP1, -, hD1⟩, hz, hk⟩, stp⟩ := hrun X H locs ls hP hD hS hl Tt hT Xs
  cases hv
  rw [h0] at hz hk
  obtain ⟨t2, a1, b1⟩ := h qs (okc_bump X hR.1 hR.2) T'.heap (locs ++ L) ls (by rw [e1]; exact hP1) (hD1.weaken (fun _ q _ z => hF q.1 z))
    ⟨Nat.le_trans hS.1 (by rw [e1]; exact hz), fun q h1 h2 => by rw [e1, hk q (Nat.lt_of_lt_of_le h1 hS.1) (fun z => h2 (hF q z))]; exact hS.2.1 q h1 h2, fun q hq => by
      rcases List.mem_append.mp hq with z | z
      · exact hS.2.2 q z
      · exact hF _ (hL q z)⟩ hl T' rfl X'
  exact ⟨t2, stp t2 a1, b1⟩
theorem g_I {y : MethodName} {b : ByteArray} {n : Nat} (hy : Cond.code y b n none ∈ TB) : GoodIn TB (Cond.code y b n none :: TB) := by
  intro w hw
  rcases List.mem_cons.mp hw with rfl | hw
  · exact tb_g hy
  · exact tb_g hw
theorem l_callI {y : MethodName} {b : ByteArray} {n nn idx a : Nat} {rmc : Room} {As : List Value} (hc : CN (xl Γ) (xD Γ) (xy Γ) (xd Γ) y b n rmc (.ref a :: As) ws F) (hl : Cond.methodLink own idx y ∈ TB) (hy : Cond.instanceMethod y ∈ TB ∧ Cond.initialized y.cls ∈ TB ∧ Cond.code y b n none ∈ TB) (hi : y.name = "<init>")
    (hd0 : y.cls ≠ "java/lang/invoke/MethodHandle" ∧ y.cls ≠ "java/lang/invoke/VarHandle" ∧ (parseMethodDescriptor y.desc).map (fun d => d.parameters.length) = some nn) (hR : rmc.frames + 1 ≤ rm.frames ∧ 8 + (n + 11) + rmc.locals ≤ rm.locals) (hR2 : xk Γ + rmc.cells ≤ rm.cells ∧ xn Γ + rmc.slots ≤ rm.slots)
    (hn : As.length = nn) (hw : (rest.map fun v => v.category).sum ≤ 8) (hd : decode cc pc = .ok (.invokespecial idx, 3)) (hst : As.reverse ++ .ref a :: rest = st0) (hp : pc + 3 = pc') (h : ∀ qs : Nat → Nat, WL (bump Γ rmc.cells rmc.slots) cc nL own ret rm (F qs) pc' lv rest) : WL Γ cc nL own ret rm ws pc lv st0 := by
  refine l_run (a := (Value.ref a :: As).toArray) (fun X H locs ls hP hD hS hls => ?_) hR2 hp h
  have X0 := X
  obtain ⟨hx, hb, hml, hown, hts, hK, -, -, hkc, hks, -, hRm, -⟩ := X
  rw [← hRm] at hR hR2
  exact va_runI (As := As) (rest := rest) ⟨hx, hb, hml, hown, hts⟩ (hc H.size) (cwI nn hts (g_I hy.2.2) rfl rfl rfl (hts _ hy.2.1) (hts _ hl) (hts _ hy.1) hi hd0 hR) ⟨l_blind, l_pre X0 hS hP hD⟩ rfl hn hls.1 hst.symm (lv_room hw) hd hR2
theorem l_callN {y : MethodName} {b : ByteArray} {n nn idx a : Nat} {host : String} {rmc : Room} {As : List Value} (hc : CN (xl Γ) (xD Γ) (xy Γ) (xd Γ) y b n rmc (.ref a :: As) ws F) (hl : SR (xd Γ) (xs Γ) → va_Nw (.methodLinkNest own idx y host) (xs Γ)) (hy : Cond.instanceMethod y ∈ TB ∧ Cond.initialized y.cls ∈ TB ∧ Cond.code y b n none ∈ TB) (hi : y.name = "<init>")
    (hd0 : y.cls ≠ "java/lang/invoke/MethodHandle" ∧ y.cls ≠ "java/lang/invoke/VarHandle" ∧ (parseMethodDescriptor y.desc).map (fun d => d.parameters.length) = some nn) (hR : rmc.frames + 1 ≤ rm.frames ∧ 8 + (n + 11) + rmc.locals ≤ rm.locals) (hR2 : xk Γ + rmc.cells ≤ rm.cells ∧ xn Γ + rmc.slots ≤ rm.slots)
    (hn : As.length = nn) (hw : (rest.map fun v => v.category).sum ≤ 8) (hd : decode cc pc = .ok (.invokespecial idx, 3)) (hst : As.reverse ++ .ref a :: rest = st0) (hp : pc + 3 = pc') (h : ∀ qs : Nat → Nat, WL (bump Γ rmc.cells rmc.slots) cc nL own ret rm (F qs) pc' lv rest) : WL Γ cc nL own ret rm ws pc lv st0 := by
  refine l_run (a := (Value.ref a :: As).toArray) (fun X H locs ls hP hD hS hls => ?_) hR2 hp h
  have X0 := X
  obtain ⟨hx, hb, hml, hown, hts, hK, -, -, hkc, hks, -, hRm, -, hSR⟩ := X
  rw [← hRm] at hR hR2
  exact va_runIN (As := As) (rest := rest) ⟨hx, hb, hml, hown, hts⟩ (hc H.size) ⟨va_cnB nn hts (g_I hy.2.2) rfl rfl rfl (hl hSR) (hts _ hy.2.1) hd0 hR, hi, hts _ hy.1⟩ ⟨l_blind, l_pre X0 hS hP hD⟩ rfl hn hls.1 hst.symm (lv_room hw) hd hR2
end LC
