/-! ===== functions out of the code: what they are made of ===== -/
def FU : Nat := 5000
def inb (i : Int32) (n : Nat) : Bool := decide (0 ≤ i.toInt) && decide (i.toInt < n)
def bz (x : Int32) : Bool := decide (x = 0) || decide (x = 1)
def gd {α : Type} (b : Bool) (k : Option α) : Option α := if b = true then k else none
def bnd {α β : Type} (a : α) (k : α → Option β) : Option β := k a
def bd {α β : Type} (o : Option (α × St)) (k : α → St → Option β) : Option β := match o with
  | some r => k r.1 r.2
  | none => none
def itr {α β : Type} (body : (α → Option β) → α → Option β) : Nat → α → Option β
  | 0, _ => none
  | n + 1, x => body (itr body n) x
theorem inb_in {i : Int32} {n : Nat} (h : inb i n = true) : vp_in i n := by
  simp only [inb, Bool.and_eq_true, decide_eq_true_eq] at h
  exact vp_in_iff.mpr h
/-- the function's value is what comes back -/
def RR {α : Type} (val : α → Option Value) (Γ : CX) (o : Option (α × St)) : Prop := ∃ r, o = some r ∧ xQ Γ = MQ (xb Γ) (QC (xD Γ) (xy Γ) (xd Γ) (val r.1) r.2 (xA Γ)) (xa Γ) (xs Γ) (xk Γ) (xn Γ) (xA Γ)
def vI (r : Int32) : Option Value := some (.int r)
def vL (r : Int64) : Option Value := some (.long r)
def vU (_ : Unit) : Option Value := none
section RRs
variable {α β : Type} {val : α → Option Value} {Γ : CX}
theorem RR.tt {c : Prop} {dc : Decidable c} {a b : Option (α × St)} (h : RR val Γ (@ite _ c dc a b)) (hc : c) : RR val Γ a := by rw [if_pos hc] at h; exact h
theorem RR.ff {c : Prop} {dc : Decidable c} {a b : Option (α × St)} (h : RR val Γ (@ite _ c dc a b)) (hc : ¬ c) : RR val Γ b := by rw [if_neg hc] at h; exact h
theorem RR.gd {b : Bool} {k : Option (α × St)} (h : RR val Γ (gd b k)) : b = true ∧ RR val Γ k := by
  cases b with
  | true => exact ⟨rfl, h⟩
  | false => obtain ⟨r, h1, -⟩ := h; cases h1
theorem RR.bnd {a y : β} {k : β → Option (α × St)} (h : RR val Γ (bnd a k)) (e : y = a) : RR val Γ (k y) := by subst e; exact h
theorem RR.bd {o : Option (β × St)} {k : β → St → Option (α × St)} (h : RR val Γ (bd o k)) : ∃ r s, o = some (r, s) ∧ RR val Γ (k r s) := by
  cases o with
  | none => obtain ⟨r, h1, -⟩ := h; cases h1
  | some q => exact ⟨q.1, q.2, rfl, h⟩
theorem RR.no {P : Prop} (h : RR val Γ none) : P := by obtain ⟨r, h1, -⟩ := h; cases h1
theorem RR.re {r : α} {s : St} (h : RR val Γ (some (r, s))) : xQ Γ = MQ (xb Γ) (QC (xD Γ) (xy Γ) (xd Γ) (val r) s (xA Γ)) (xa Γ) (xs Γ) (xk Γ) (xn Γ) (xA Γ) := by obtain ⟨q, h1, h2⟩ := h; cases h1; exact h2
end RRs
/-! ===== returns ===== -/
section RT
variable {Γ : CX} {cc : ByteArray} {nL : Nat} {own : String} {rm : Room} {σ : St} {pc pc' : Nat} {lv lv' : List (Nat × Value)} {st : List Value}
theorem w_end {v : Option Value} {H : Heap} {locs : List Loc} (hK : va_K (xD Γ) vwCl (tyK (xy Γ)) (xs Γ)) (hP : va_P (xD Γ) vwCl (Wd (xy Γ) (xd Γ) σ) H) (hD : va_D (xA Γ) (Wd (xy Γ) (xd Γ) σ)) (hS : va_S (xA Γ) (xs Γ).heap H locs) (t : State) (ht : t.heap = H) (hW : (xs Γ).WarmedH t.vm) : QC (xD Γ) (xy Γ) (xd Γ) v σ (xA Γ) (xa Γ) (xs Γ) (.returned v) t := by
  exact ⟨⟨rfl, by rw [ht]; exact hP, va_K.moved hW.alike hK, hD⟩, hS.F ht⟩
theorem w_ireturn {x : Int32} (hd : decode cc pc = .ok (.ireturn, 1)) (h : RR vI Γ (some (x, σ))) : WW Γ cc nL own (some .int) rm σ pc lv [.int x] := by
  have e := h.re
  intro X H locs ls hP hD hS hl
  obtain ⟨hx, hb, -, -, -, hK, hlk, -, -, -, hr, -⟩ := X
  rw [e]
  exact W.iret hx hb hr (w_end hK hP hD hS) hS.2.2 hd hlk
theorem w_zreturn {x : Int32} (hd : decode cc pc = .ok (.ireturn, 1)) (hz : bz x = true) (h : RR vI Γ (some (x, σ))) : WW Γ cc nL own (some .boolean) rm σ pc lv [.int x] := by
  have e := h.re
  intro X H locs ls hP hD hS hl
  obtain ⟨hx, hb, -, -, -, hK, hlk, -, -, -, hr, -⟩ := X
  rw [e]
  refine W.zret hx hb hr ?_ (w_end hK hP hD hS) hS.2.2 hd hlk
  simp only [bz, Bool.or_eq_true, decide_eq_true_eq] at hz
  rcases hz with rfl | rfl <;> rfl
theorem w_lreturn {x : Int64} (hd : decode cc pc = .ok (.lreturn, 1)) (h : RR vL Γ (some (x, σ))) : WW Γ cc nL own (some .long) rm σ pc lv [.long x] := by
  have e := h.re
  intro X H locs ls hP hD hS hl
  obtain ⟨hx, hb, -, -, -, hK, hlk, -, -, -, hr, -⟩ := X
  rw [e]
  exact W.lret hx hb hr (w_end hK hP hD hS) hS.2.2 hd hlk
theorem w_return {x : Unit} (hd : decode cc pc = .ok (.return_, 1)) (h : RR vU Γ (some (x, σ))) : WW Γ cc nL own none rm σ pc lv [] := by
  have e := h.re
  intro X H locs ls hP hD hS hl
  obtain ⟨hx, hb, -, -, -, hK, hlk, -, -, -, hr, -⟩ := X
  rw [e]
  exact W.vret hx hb hr (w_end hK hP hD hS) hS.2.2 hd hlk
end RT
/-! ===== fields and rows ===== -/
section HP
variable {Γ : CX} {cc : ByteArray} {nL : Nat} {own : String} {ret : Option FieldType} {rm : Room} {σ : St} {pc pc' : Nat} {lv lv' : List (Nat × Value)} {st : List Value}
theorem w_get {i ci k index N : Nat} {ref C : String} {T : u_T} {fs : List Value} {v : Value} (hi : i < nA σ) (hc : cel (xy Γ) (xd Γ) σ i = .inr (ci, fs)) (hcl : vwCl[ci]? = some (C, T, N)) (hk : k < N) (hv : fs[k]? = some v) (hin : ∀ w ∈ u_ws C T N, w ∈ TB) (hlink : Cond.fieldLink own index ref (T k).2.1 (T k).2.2.1 ∈ TB) (hsame : (T k).1 = ref)
    (hd : decode cc pc = .ok (.getfield index, 3)) (hp : pc + 3 = pc') (h : WW Γ cc nL own ret rm σ pc' lv (v :: st)) : WW Γ cc nL own ret rm σ pc lv (.ref (xd Γ i) :: st) := by
  subst hp
  subst hsame
  intro X H locs ls hP hD hS hl
  refine va_get (D := xD Γ) (ci := ci) (v := v) (C := C) (T := T) (N := N) X.1 X.2.1 X.2.2.2.2.1 hin X.2.2.2.1 X.2.2.2.2.2.1 hP i ?_ hcl k hk (X.2.2.2.2.1 _ hlink) (fun _ h9 => h9) hv hd (h X H locs ls hP hD hS hl)
  rw [wd_at hi, hc]
theorem w_put {i ci k index N : Nat} {ref C : String} {T : u_T} {fs : List Value} {v : Value} {ty : FieldType} {σ' : St} (ty0 : Nat → FieldType) (hi : i < nA σ) (hc : cel (xy Γ) (xd Γ) σ i = .inr (ci, fs)) (hcl : vwCl[ci]? = some (C, T, N)) (hk : k < N) (hin : ∀ w ∈ u_ws C T N, w ∈ TB) (hlink : Cond.fieldLink own index ref (T k).2.1 (T k).2.2.1 ∈ TB) (hsame : (T k).1 = ref)
    (hty : ∀ k, k < N → parseFieldDescriptor (T k).2.2.1 = some (ty0 k)) (hnm : ∀ a, a < N → ∀ b, b < N → a ≠ b → (T a).2.1 ≠ (T b).2.1) (hfin : (T k).2.2.2 = false) (hdt : parseFieldDescriptor (T k).2.2.1 = some ty) (hn : narrow ty v = v) (hfit : fits ty v = true) (hl : k < fs.length)
    (hs : gn σ' = gn σ ∧ cel (xy Γ) (xd Γ) σ' i = .inr (ci, fs.set k v) ∧ ∀ j, j ≠ i → cel (xy Γ) (xd Γ) σ' j = cel (xy Γ) (xd Γ) σ j)
    (hd : decode cc pc = .ok (.putfield index, 3)) (hp : pc + 3 = pc') (h : WW Γ cc nL own ret rm σ' pc' lv st) : WW Γ cc nL own ret rm σ pc lv (v :: .ref (xd Γ i) :: st) := by
  subst hp
  subst hsame
  intro X H locs ls hP hD hS hls
  refine va_put (D := xD Γ) (ci := ci) (v := v) (ty := ty) (C := C) (T := T) (N := N) X.1 X.2.1 X.2.2.2.2.1 hin ty0 hty hnm X.2.2.2.1 X.2.2.2.2.2.1 hP hD hS i (by rw [wd_at hi, hc]) hcl k hk (X.2.2.2.2.1 _ hlink) (fun _ h9 => h9) hfin hdt hn hfit hl hd (fun H1 locs1 hP1 hD1 hS1 => ?_)
  rw [wd_set hs.1 hs.2.1 hs.2.2] at hP1 hD1
  exact h X H1 locs1 ls hP1 hD1 hS1 hls
theorem w_iald {i : Nat} {x : Int32} (hi : i < nA σ) (hk : kd i = 13) (hin : inb x (ln i) = true) (hd : decode cc pc = .ok (.iaload, 1)) (hp : pc + 1 = pc') (h : WW Γ cc nL own ret rm σ pc' lv (.int (gr σ i x.toNatClampNeg) :: st)) : WW Γ cc nL own ret rm σ pc lv (.int x :: .ref (xd Γ i) :: st) := by
  subst hp
  intro X H locs ls hP hD hS hl
  exact va_iald X.1 X.2.1 X.2.2.2.2.2.1 hP i 1 (by rw [wd_at hi]; simp [cel, hk]) rfl (inb_in hin) hd (h X H locs ls hP hD hS hl)
theorem w_bald {i : Nat} {x : Int32} (hi : i < nA σ) (hk : kd i = 12) (hin : inb x (ln i) = true) (hd : decode cc pc = .ok (.baload, 1)) (hp : pc + 1 = pc') (h : WW Γ cc nL own ret rm σ pc' lv (.int (gr σ i x.toNatClampNeg) :: st)) : WW Γ cc nL own ret rm σ pc lv (.int x :: .ref (xd Γ i) :: st) := by
  subst hp
  intro X H locs ls hP hD hS hl
  exact va_bald X.1 X.2.1 X.2.2.2.2.2.1 hP i 0 (by rw [wd_at hi]; simp [cel, hk]) rfl (inb_in hin) hd (h X H locs ls hP hD hS hl)
theorem w_zald {i : Nat} {x : Int32} (hi : i < nA σ) (hk : kd i = 15) (hin : inb x (ln i) = true) (hd : decode cc pc = .ok (.baload, 1)) (hp : pc + 1 = pc') (h : WW Γ cc nL own ret rm σ pc' lv (.int (gr σ i x.toNatClampNeg) :: st)) : WW Γ cc nL own ret rm σ pc lv (.int x :: .ref (xd Γ i) :: st) := by
  subst hp
  intro X H locs ls hP hD hS hl
  exact va_zald X.1 X.2.1 X.2.2.2.2.2.1 hP i 3 (by rw [wd_at hi]; simp [cel, hk]) rfl (inb_in hin) hd (h X H locs ls hP hD hS hl)
theorem w_lald {i : Nat} {x : Int32} (hi : i < nA σ) (hk : kd i = 14) (hin : inb x (ln i) = true) (hd : decode cc pc = .ok (.laload, 1)) (hp : pc + 1 = pc') (h : WW Γ cc nL own ret rm σ pc' lv (.long (gj σ i x.toNatClampNeg) :: st)) : WW Γ cc nL own ret rm σ pc lv (.int x :: .ref (xd Γ i) :: st) := by
  subst hp
  intro X H locs ls hP hD hS hl
  exact va_lald X.1 X.2.1 X.2.2.2.2.2.1 hP i 2 (by rw [wd_at hi]; simp [cel, hk]) rfl (inb_in hin) hd (h X H locs ls hP hD hS hl)
theorem w_alen {i : Nat} (hi : i < nA σ) (hk : kd i = 13 ∨ kd i = 12 ∨ kd i = 14 ∨ kd i = 15) (hd : decode cc pc = .ok (.arraylength, 1)) (hp : pc + 1 = pc') (h : WW Γ cc nL own ret rm σ pc' lv (.int (nI (ln i)) :: st)) : WW Γ cc nL own ret rm σ pc lv (.ref (xd Γ i) :: st) := by
  subst hp
  intro X H locs ls hP hD hS hl
  rcases hk with hk | hk | hk | hk
  · exact va_alen X.1 X.2.1 X.2.2.2.2.2.1 hP i 1 (x := (ln i, .inl (gr σ i))) (by rw [wd_at hi]; simp [cel, hk]) rfl rfl hd (h X H locs ls hP hD hS hl)
  · exact va_alen X.1 X.2.1 X.2.2.2.2.2.1 hP i 0 (x := (ln i, .inl (gr σ i))) (by rw [wd_at hi]; simp [cel, hk]) rfl rfl hd (h X H locs ls hP hD hS hl)
  · exact va_alen X.1 X.2.1 X.2.2.2.2.2.1 hP i 2 (x := (ln i, .inr (.inl (gj σ i)))) (by rw [wd_at hi]; simp [cel, hk]) rfl rfl hd (h X H locs ls hP hD hS hl)
  · exact va_alen X.1 X.2.1 X.2.2.2.2.2.1 hP i 3 (x := (ln i, .inl (gr σ i))) (by rw [wd_at hi]; simp [cel, hk]) rfl rfl hd (h X H locs ls hP hD hS hl)
theorem wd_sr {cy : Nat → ClassId} {ad : Nat → Nat} {i k : Nat} {v : Int32} {e : va_E} (he : cel cy ad (sr σ i k v) i = e) : (Wd cy ad σ).set i (ad i, e) = Wd cy ad (sr σ i k v) := wd_set rfl he (fun _ hj => cel_sR hj)
theorem w_iast {i : Nat} {x v : Int32} (hi : i < nA σ) (hk : kd i = 13) (hin : inb x (ln i) = true) (hd : decode cc pc = .ok (.iastore, 1)) (hp : pc + 1 = pc') (h : WW Γ cc nL own ret rm (sr σ i x.toNatClampNeg v) pc' lv st) : WW Γ cc nL own ret rm σ pc lv (.int v :: .int x :: .ref (xd Γ i) :: st) := by
  subst hp
  intro X H locs ls hP hD hS hl
  refine va_iast X.1 X.2.1 X.2.2.2.2.2.1 hP hD hS i 1 (cA := xy Γ 13) (n := ln i) (f := gr σ i) (by rw [wd_at hi]; simp [cel, hk]) rfl (inb_in hin) hd (fun H1 locs1 hP1 hD1 hS1 => ?_)
  rw [wd_sr (k := x.toNatClampNeg) (v := v) (by simp [cel, hk, sr, gr_sR])] at hP1 hD1
  exact h X H1 locs1 ls hP1 hD1 hS1 hl
theorem w_bast {i : Nat} {x v : Int32} (hi : i < nA σ) (hk : kd i = 12) (hin : inb x (ln i) = true) (hd : decode cc pc = .ok (.bastore, 1)) (hp : pc + 1 = pc') (h : WW Γ cc nL own ret rm (sr σ i x.toNatClampNeg (vp_nar .byte v)) pc' lv st) : WW Γ cc nL own ret rm σ pc lv (.int v :: .int x :: .ref (xd Γ i) :: st) := by
  subst hp
  intro X H locs ls hP hD hS hl
  refine va_bast X.1 X.2.1 X.2.2.2.2.2.1 hP hD hS i 0 (cA := xy Γ 12) (n := ln i) (f := gr σ i) (by rw [wd_at hi]; simp [cel, hk]) rfl (inb_in hin) hd (fun H1 locs1 hP1 hD1 hS1 => ?_)
  rw [wd_sr (k := x.toNatClampNeg) (v := vp_nar .byte v) (by simp [cel, hk, sr, gr_sR])] at hP1 hD1
  exact h X H1 locs1 ls hP1 hD1 hS1 hl
theorem w_zast {i : Nat} {x v : Int32} (hi : i < nA σ) (hk : kd i = 15) (hin : inb x (ln i) = true) (hd : decode cc pc = .ok (.bastore, 1)) (hp : pc + 1 = pc') (h : WW Γ cc nL own ret rm (sr σ i x.toNatClampNeg (vp_nar .boolean v)) pc' lv st) : WW Γ cc nL own ret rm σ pc lv (.int v :: .int x :: .ref (xd Γ i) :: st) := by
  subst hp
  intro X H locs ls hP hD hS hl
  refine va_zast X.1 X.2.1 X.2.2.2.2.2.1 hP hD hS i 3 (cA := xy Γ 15) (n := ln i) (f := gr σ i) (by rw [wd_at hi]; simp [cel, hk]) rfl (inb_in hin) hd (fun H1 locs1 hP1 hD1 hS1 => ?_)
  rw [wd_sr (k := x.toNatClampNeg) (v := vp_nar .boolean v) (by simp [cel, hk, sr, gr_sR])] at hP1 hD1
  exact h X H1 locs1 ls hP1 hD1 hS1 hl
theorem w_last {i : Nat} {x : Int32} {v : Int64} (hi : i < nA σ) (hk : kd i = 14) (hin : inb x (ln i) = true) (hd : decode cc pc = .ok (.lastore, 1)) (hp : pc + 1 = pc') (h : WW Γ cc nL own ret rm (sj σ i x.toNatClampNeg v) pc' lv st) : WW Γ cc nL own ret rm σ pc lv (.long v :: .int x :: .ref (xd Γ i) :: st) := by
  subst hp
  intro X H locs ls hP hD hS hl
  refine va_last X.1 X.2.1 X.2.2.2.2.2.1 hP hD hS i 2 (cA := xy Γ 14) (n := ln i) (f := gj σ i) (by rw [wd_at hi]; simp [cel, hk]) rfl (inb_in hin) hd (fun H1 locs1 hP1 hD1 hS1 => ?_)
  rw [show (Wd (xy Γ) (xd Γ) σ).set i (xd Γ i, .inl (xy Γ 14, ln i, .inr (.inl (vp_updL (gj σ i) x.toNatClampNeg v)))) = Wd (xy Γ) (xd Γ) (sj σ i x.toNatClampNeg v) from wd_set rfl (by simp [cel, hk, sj, gj_sJ]) (fun _ hj => cel_sJ hj)] at hP1 hD1
  exact h X H1 locs1 ls hP1 hD1 hS1 hl
end HP
