/-! ===== entry and calls ===== -/
theorem ct_of {l : Launch} {D : va_G} {cy : Nat → ClassId} {ad : Nat → Nat} {y : MethodName} {b : ByteArray} {n : Nat} {ret : Option FieldType} {rm : Room} {av : List Value} {σ σ' : St} {v : Option Value} (hy : plainName y.cls = true) (hn : (lg_sl av).length ≤ n)
    (h : ∀ (p : Program) (e : Env) (s : State) (m : MethodId) (args : Array Value) (below : List Frame) (meth : Method) (c : Code) (A : Nat → Prop), WW (p, l, e, rm, s, m, args, below, meth, c, D, cy, ad, A, 0, 0, MQ below (QC D cy ad v σ' A) args s 0 0 A) b n y.cls ret rm σ 0 (lv_args 0 av) []) : CT l D cy ad y b n ret rm av σ v σ' := by
  intro sz
  refine Met.ofW (cc := b) (maxL := n) (ret := ret) hy rfl ?_
  intro p e s m args below meth c s₁ B hml hv
  obtain ⟨rfl, hsz, hP, hK, hD0, hSK, hSR⟩ := hv
  have hts := atoms_spec (ws := Cond.code y b n ret :: TB) B.pre
  have hown : s.vm.findClass y.cls = some m.cls := findClass_of_methodNamed B.named
  subst hsz
  have hD := hD0.self (sz := s.heap.size)
  have hl := lv_entry av (n := n) hn
  rw [lg_entry_eq]
  exact h p e s m av.toArray below meth c (va_A (Wd cy ad σ) s.heap.size) ⟨B.exec, B.bytes, hml, hown, fun w hw => hts w (List.mem_cons_of_mem _ hw), hK, B.notSynchronized, fun q hq => Or.inr hq, Nat.zero_le _, Nat.zero_le _, B.returns, rfl, hSK, hSR⟩ s.heap [] _ hP hD va_S.rf hl
section CL
variable {Γ : CX} {cc : ByteArray} {nL : Nat} {own : String} {ret : Option FieldType} {rm : Room} {σ σ' : St} {pc pc' : Nat} {lv lv' : List (Nat × Value)} {st rest st0 : List Value} {v : Option Value}
theorem w_fc {H : Heap} {locs : List Loc} (hA : ∀ q : Nat, (xs Γ).heap.size ≤ q → xA Γ q) (hD : va_D (xA Γ) (Wd (xy Γ) (xd Γ) σ)) (hS : va_S (xA Γ) (xs Γ).heap H locs) : ∀ q, va_A (Wd (xy Γ) (xd Γ) σ) H.size q → xA Γ q := by
  intro q h
  rcases h with ⟨k, e, h⟩ | h
  · exact hD.2 k _ h
  · exact hA q (Nat.le_trans hS.1 h)
theorem w_run {a : Array Value} (hrun : Okc Γ cc nL own ret rm → ∀ (H : Heap) (locs : List Loc) (ls : Array Slot), va_P (xD Γ) vwCl (Wd (xy Γ) (xd Γ) σ) H → va_D (xA Γ) (Wd (xy Γ) (xd Γ) σ) → va_S (xA Γ) (xs Γ).heap H locs → lv_has ls nL lv →
      va_Run (xp Γ) (xl Γ) (xE Γ) (xR Γ) (xs Γ) (xm Γ) (xa Γ) (xb Γ) (xM Γ) (xc Γ) H locs (xk Γ) (xn Γ) 0 0 (F0 (xm Γ) pc ls st0) rest (QC (xD Γ) (xy Γ) (xd Γ) v σ' (va_A (Wd (xy Γ) (xd Γ) σ) H.size) a) (va_A (Wd (xy Γ) (xd Γ) σ) H.size))
    (hp : pc + 3 = pc') (h : WW Γ cc nL own ret rm σ' pc' lv (v.toList ++ rest)) : WW Γ cc nL own ret rm σ pc lv st0 := by
  subst hp
  intro X H locs ls hP hD hS hl T hT Xs
  have hF := w_fc X.2.2.2.2.2.2.2.1 hD hS
  obtain ⟨v', st₀, t, T', L, h0, X', hL, e1, e2, ⟨⟨hv, hP1, -, hD1⟩, hz, hk⟩, stp⟩ := hrun X H locs ls hP hD hS hl T hT Xs
  cases hv
  rw [h0] at hz hk
  obtain ⟨t2, a1, b1⟩ := h X T'.heap (locs ++ L) ls (by rw [e1]; exact hP1) (hD1.weaken (fun _ q _ z => hF q.1 z))
    ⟨Nat.le_trans hS.1 (by rw [e1]; exact hz), fun q h1 h2 => by rw [e1, hk q (Nat.lt_of_lt_of_le h1 hS.1) (fun z => h2 (hF q z))]; exact hS.2.1 q h1 h2, fun q hq => by
      rcases List.mem_append.mp hq with z | z
      · exact hS.2.2 q z
      · exact hF _ (hL q z)⟩ hl T' rfl X'
  exact ⟨t2, stp t2 a1, b1⟩
theorem w_blind {D : va_G} {cy : Nat → ClassId} {ad : Nat → Nat} {av : List Value} {sz : Nat} : FrameBlind (va_Pc av (PreW D cy ad σ sz)) := fun a U g mk q => by
  obtain ⟨q0, q1, qP, qK, qD, qS, qR⟩ := q
  exact ⟨q0, q1, qP, va_K.moved (u := U) (U := U.calling g mk a) (Vm.Alike.refl U.vm) qK, qD, SK.go (u := U) (U := U.calling g mk a) (Vm.Alike.refl U.vm) (fun _ h => h) (fun _ _ _ => rfl) qS, SR.same (u := U) (U := U.calling g mk a) rfl qR⟩
theorem w_pre {H : Heap} {locs : List Loc} {av : List Value} (X : Okc Γ cc nL own ret rm) (hS : va_S (xA Γ) (xs Γ).heap H locs) (hK : va_K (xD Γ) vwCl (tyK (xy Γ)) (xs Γ)) (hP : va_P (xD Γ) vwCl (Wd (xy Γ) (xd Γ) σ) H) (hD : va_D (xA Γ) (Wd (xy Γ) (xd Γ) σ)) (U : State) (hU : U.heap = H) (hW : (xs Γ).WarmedH U.vm) : va_Pc av (PreW (xD Γ) (xy Γ) (xd Γ) σ H.size) av.toArray U :=
  ⟨rfl, by rw [hU], by rw [hU]; exact hP, va_K.moved hW.alike hK, hD.weaken (fun _ _ _ _ => trivial), by rw [hU]; exact SK.go hW.alike (w_fc X.2.2.2.2.2.2.2.1 hD hS) hS.2.1 X.2.2.2.2.2.2.2.2.2.2.2.2.1, SR.warm hW X.2.2.2.2.2.2.2.2.2.2.2.2.2⟩
/-- the words of a call, when caller and callee have the same -/
theorem g_V {idx : Nat} {C : String} {y : MethodName} {b : ByteArray} {n : Nat} {rt : Option FieldType} (hl : Cond.methodLink own idx y ∈ TB) (hy : Cond.instanceMethod y ∈ TB ∧ Cond.selects C y y ∈ TB ∧ Cond.initialized C ∈ TB ∧ Cond.code y b n rt ∈ TB) : GoodIn TB (wsV own idx C y (Cond.code y b n rt :: TB)) := by
  intro w hw
  simp only [wsV, List.cons_append, List.nil_append, List.mem_cons] at hw
  rcases hw with rfl | rfl | rfl | rfl | rfl | hw
  · exact tb_g hl
  · exact tb_g hy.1
  · exact tb_g hy.2.1
  · exact tb_g hy.2.2.1
  · exact tb_g hy.2.2.2
  · exact tb_g hw
theorem g_S {idx : Nat} {y : MethodName} {b : ByteArray} {n : Nat} {rt : Option FieldType} (hl : Cond.methodLink own idx y ∈ TB) (hy : Cond.static y ∈ TB ∧ Cond.initialized y.cls ∈ TB ∧ Cond.code y b n rt ∈ TB) : GoodIn TB (va_wsS own idx y (Cond.code y b n rt :: TB)) := by
  intro w hw
  simp only [va_wsS, List.cons_append, List.nil_append, List.mem_cons] at hw
  rcases hw with rfl | rfl | rfl | rfl | hw
  · exact tb_g hl
  · exact tb_g hy.1
  · exact tb_g hy.2.1
  · exact tb_g hy.2.2
  · exact tb_g hw
theorem w_callV {y : MethodName} {b : ByteArray} {n i ci nn idx : Nat} {rt : Option FieldType} {rmc : Room} {As : List Value} {C : String} {T : u_T} {N : Nat} {fs : List Value}
    (hc : CT (xl Γ) (xD Γ) (xy Γ) (xd Γ) y b n rt rmc (.ref (xd Γ i) :: As) σ v σ') (hl : Cond.methodLink own idx y ∈ TB) (hy : Cond.instanceMethod y ∈ TB ∧ Cond.selects C y y ∈ TB ∧ Cond.initialized C ∈ TB ∧ Cond.code y b n rt ∈ TB)
    (hd0 : y.cls = C ∧ y.cls ≠ "java/lang/invoke/MethodHandle" ∧ y.cls ≠ "java/lang/invoke/VarHandle" ∧ (parseMethodDescriptor y.desc).map (fun d => d.parameters.length) = some nn) (h0 : rmc.cells = 0 ∧ rmc.slots = 0) (hR : rmc.frames + 1 ≤ rm.frames ∧ 8 + (n + 11) + rmc.locals ≤ rm.locals)
    (hi : i < nA σ) (hcel : cel (xy Γ) (xd Γ) σ i = .inr (ci, fs)) (hcl : vwCl[ci]? = some (C, T, N)) (hn : As.length = nn) (hw : (rest.map fun v => v.category).sum ≤ 8) (hd : decode cc pc = .ok (.invokevirtual idx, 3)) (hst : As.reverse ++ .ref (xd Γ i) :: rest = st0)
    (hp : pc + 3 = pc') (h : WW Γ cc nL own ret rm σ' pc' lv (v.toList ++ rest)) : WW Γ cc nL own ret rm σ pc lv st0 := by
  refine w_run (a := (Value.ref (xd Γ i) :: As).toArray) (fun X H locs ls hP hD hS hls => ?_) hp h
  have X0 := X
  obtain ⟨hx, hb, hml, hown, hts, hK, -, -, hkc, hks, -, hRm, -⟩ := X
  rw [← hRm] at hR
  exact va_runV (As := As) (rest := rest) (C := C) ⟨hx, hb, hml, hown, hts⟩ (hc H.size) (cwV nn hts (g_V hl hy) rfl h0.1 h0.2 hd0 hR) ⟨w_blind, va_recv hK hP (ci := ci) (q0 := i) hcl (by rw [wd_at hi, hcel]), w_pre X0 hS hK hP hD⟩ rfl hn hls.1 hst.symm (lv_room hw) hd ⟨hkc, hks⟩
theorem w_callS {y : MethodName} {b : ByteArray} {n nn idx : Nat} {rt : Option FieldType} {rmc : Room} {As : List Value}
    (hc : CT (xl Γ) (xD Γ) (xy Γ) (xd Γ) y b n rt rmc As σ v σ') (hl : Cond.methodLink own idx y ∈ TB) (hy : Cond.static y ∈ TB ∧ Cond.initialized y.cls ∈ TB ∧ Cond.code y b n rt ∈ TB)
    (hd0 : y.cls ≠ "java/lang/invoke/MethodHandle" ∧ y.cls ≠ "java/lang/invoke/VarHandle" ∧ (parseMethodDescriptor y.desc).map (fun d => d.parameters.length) = some nn) (h0 : rmc.cells = 0 ∧ rmc.slots = 0) (hR : rmc.frames + 1 ≤ rm.frames ∧ 8 + (n + 11) + rmc.locals ≤ rm.locals)
    (hn : As.length = nn) (hw : (rest.map fun v => v.category).sum ≤ 8) (hd : decode cc pc = .ok (.invokestatic idx, 3)) (hst : As.reverse ++ rest = st0)
    (hp : pc + 3 = pc') (h : WW Γ cc nL own ret rm σ' pc' lv (v.toList ++ rest)) : WW Γ cc nL own ret rm σ pc lv st0 := by
  refine w_run (a := As.toArray) (fun X H locs ls hP hD hS hls => ?_) hp h
  have X0 := X
  obtain ⟨hx, hb, hml, hown, hts, hK, -, -, hkc, hks, -, hRm, -⟩ := X
  rw [← hRm] at hR
  exact va_runS (As := As) (rest := rest) ⟨hx, hb, hml, hown, hts⟩ (hc H.size) (va_cwS nn hts (g_S hl hy) rfl h0.1 h0.2 hd0 hR) ⟨w_blind, w_pre X0 hS hK hP hD⟩ rfl hn hls.1 hst.symm (lv_room hw) hd ⟨hkc, hks⟩
end CL
