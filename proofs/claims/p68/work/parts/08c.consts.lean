/-! ===== String constants, static rows, System.arraycopy ===== -/
def isS (_ : St) (k : Nat) : Bool := decide (k < sLen.length)
def sL (k : Nat) : Nat := sLen.getD k 0
def sB (k j : Nat) : Int32 := (sByt.getD k []).getD j 0
theorem isS_lt {σ : St} {k : Nat} (h : isS σ k = true) : k < sLen.length := by simpa [isS] using h
section CO
variable {Γ : CX} {cc : ByteArray} {nL : Nat} {own : String} {ret : Option FieldType} {rm : Room} {σ σ' : St} {pc pc' : Nat} {lv lv' : List (Nat × Value)} {st rest st0 : List Value} {v : Option Value}
theorem okc_SK (X : Okc Γ cc nL own ret rm) : SK (xd Γ) (xA Γ) (xs Γ) (xs Γ).heap := X.2.2.2.2.2.2.2.2.2.2.2.2.1
theorem okc_SR (X : Okc Γ cc nL own ret rm) : SR (xd Γ) (xs Γ) := X.2.2.2.2.2.2.2.2.2.2.2.2.2
theorem w_ldcS {index k : Nat} {tx : String} (hq : (own, index, tx, k) ∈ sTab) (hd : decode cc pc = .ok (.ldc index, 2)) (hp : pc + 2 = pc') (h : WW Γ cc nL own ret rm σ pc' lv (.ref (xd Γ (k + 1000)) :: st)) : WW Γ cc nL own ret rm σ pc lv st := by
  subst hp
  intro X H locs ls hP hD hS hl
  exact va_ldcS X.1 X.2.1 X.2.2.2.1 ((okc_SR X).1 (own, index, tx, k) hq) hd (h X H locs ls hP hD hS hl)
theorem w_sval {index k : Nat} (hk : isS σ k = true) (hl : Cond.fieldLink own index RJ0 "value" "[B" ∈ TB) (hd : decode cc pc = .ok (.getfield index, 3)) (hp : pc + 3 = pc') (h : WW Γ cc nL own ret rm σ pc' lv (.ref (xd Γ (k + 1100)) :: st)) : WW Γ cc nL own ret rm σ pc lv (.ref (xd Γ (k + 1000)) :: st) := by
  subst hp
  intro X H locs ls hP hD hS hls
  exact vk_getf X.1 X.2.1 ((okc_SK X).1.1 k (isS_lt hk)).2.2.1 hS X.2.2.2.1 (X.2.2.2.2.1 _ hl) (fun _ h9 => h9) hd (h X H locs ls hP hD hS hls)
theorem w_scod {index k : Nat} (hk : isS σ k = true) (hl : Cond.fieldLink own index RJ0 "coder" "B" ∈ TB) (hd : decode cc pc = .ok (.getfield index, 3)) (hp : pc + 3 = pc') (h : WW Γ cc nL own ret rm σ pc' lv (.int 0 :: st)) : WW Γ cc nL own ret rm σ pc lv (.ref (xd Γ (k + 1000)) :: st) := by
  subst hp
  intro X H locs ls hP hD hS hls
  exact vk_getf X.1 X.2.1 ((okc_SK X).1.1 k (isS_lt hk)).2.1 hS X.2.2.2.1 (X.2.2.2.2.1 _ hl) (fun _ h9 => h9) hd (h X H locs ls hP hD hS hls)
theorem w_slen {k : Nat} (hk : isS σ k = true) (hd : decode cc pc = .ok (.arraylength, 1)) (hp : pc + 1 = pc') (h : WW Γ cc nL own ret rm σ pc' lv (.int (nI (sL k)) :: st)) : WW Γ cc nL own ret rm σ pc lv (.ref (xd Γ (k + 1100)) :: st) := by
  subst hp
  intro X H locs ls hP hD hS hls
  exact va_tlen X.1 X.2.1 ((okc_SK X).1.1 k (isS_lt hk)).2.2.2 hS rfl hd (h X H locs ls hP hD hS hls)
theorem w_sbyt {k : Nat} {i : Int32} (hk : isS σ k = true) (hin : inb i (sL k) = true) (hd : decode cc pc = .ok (.baload, 1)) (hp : pc + 1 = pc') (h : WW Γ cc nL own ret rm σ pc' lv (.int (sB k i.toNatClampNeg) :: st)) : WW Γ cc nL own ret rm σ pc lv (.int i :: .ref (xd Γ (k + 1100)) :: st) := by
  subst hp
  intro X H locs ls hP hD hS hls
  exact va_tb X.1 X.2.1 ((okc_SK X).1.1 k (isS_lt hk)).2.2.2 hS (inb_in hin) rfl hd (h X H locs ls hP hD hS hls)
theorem w_gcs {index : Nat} (hl : Cond.fieldLink own index RJ0 "COMPACT_STRINGS" "Z" ∈ TB) (hd : decode cc pc = .ok (.getstatic index, 3)) (hp : pc + 3 = pc') (h : WW Γ cc nL own ret rm σ pc' lv (.int 1 :: st)) : WW Γ cc nL own ret rm σ pc lv st := by
  subst hp
  intro X H locs ls hP hD hS hls
  exact va_gets X.1 X.2.1 (okc_SK X).2.2.2.2.2.1 hS X.2.2.2.1 (X.2.2.2.2.1 _ hl) (fun _ h9 => h9) hd (h X H locs ls hP hD hS hls)
theorem w_gmt {index : Nat} (hl : Cond.fieldLink own index RX10 "MOST_TOLD" "[I" ∈ TB) (hd : decode cc pc = .ok (.getstatic index, 3)) (hp : pc + 3 = pc') (h : WW Γ cc nL own ret rm σ pc' lv (.ref (xd Γ 1200) :: st)) : WW Γ cc nL own ret rm σ pc lv st := by
  subst hp
  intro X H locs ls hP hD hS hls
  exact va_gets X.1 X.2.1 (okc_SK X).2.1 hS X.2.2.2.1 (X.2.2.2.2.1 _ hl) (fun _ h9 => h9) hd (h X H locs ls hP hD hS hls)
theorem w_gtc {index : Nat} (hl : Cond.fieldLink own index RX10 "TOLD_COLUMN" "[I" ∈ TB) (hd : decode cc pc = .ok (.getstatic index, 3)) (hp : pc + 3 = pc') (h : WW Γ cc nL own ret rm σ pc' lv (.ref (xd Γ 1201) :: st)) : WW Γ cc nL own ret rm σ pc lv st := by
  subst hp
  intro X H locs ls hP hD hS hls
  exact va_gets X.1 X.2.1 (okc_SK X).2.2.2.1 hS X.2.2.2.1 (X.2.2.2.2.1 _ hl) (fun _ h9 => h9) hd (h X H locs ls hP hD hS hls)
theorem w_imt {i : Int32} (hin : inb i 4 = true) (hd : decode cc pc = .ok (.iaload, 1)) (hp : pc + 1 = pc') (h : WW Γ cc nL own ret rm σ pc' lv (.int (mTold i.toNatClampNeg) :: st)) : WW Γ cc nL own ret rm σ pc lv (.int i :: .ref (xd Γ 1200) :: st) := by
  subst hp
  intro X H locs ls hP hD hS hls
  exact va_ti X.1 X.2.1 (okc_SK X).2.2.1 hS (inb_in hin) rfl hd (h X H locs ls hP hD hS hls)
theorem w_itc {i : Int32} (hin : inb i 3 = true) (hd : decode cc pc = .ok (.iaload, 1)) (hp : pc + 1 = pc') (h : WW Γ cc nL own ret rm σ pc' lv (.int (tColumn i.toNatClampNeg) :: st)) : WW Γ cc nL own ret rm σ pc lv (.int i :: .ref (xd Γ 1201) :: st) := by
  subst hp
  intro X H locs ls hP hD hS hls
  exact va_ti X.1 X.2.1 (okc_SK X).2.2.2.2.1 hS (inb_in hin) rfl hd (h X H locs ls hP hD hS hls)
theorem w_lmt (hd : decode cc pc = .ok (.arraylength, 1)) (hp : pc + 1 = pc') (h : WW Γ cc nL own ret rm σ pc' lv (.int (nI 4) :: st)) : WW Γ cc nL own ret rm σ pc lv (.ref (xd Γ 1200) :: st) := by
  subst hp
  intro X H locs ls hP hD hS hls
  exact va_tlen X.1 X.2.1 (okc_SK X).2.2.1 hS rfl hd (h X H locs ls hP hD hS hls)
theorem w_ltc (hd : decode cc pc = .ok (.arraylength, 1)) (hp : pc + 1 = pc') (h : WW Γ cc nL own ret rm σ pc' lv (.int (nI 3) :: st)) : WW Γ cc nL own ret rm σ pc lv (.ref (xd Γ 1201) :: st) := by
  subst hp
  intro X H locs ls hP hD hS hls
  exact va_tlen X.1 X.2.1 (okc_SK X).2.2.2.2.1 hS rfl hd (h X H locs ls hP hD hS hls)
theorem w_i2c {x : Int32} (hd : decode cc pc = .ok (.i2c, 1)) (hp : pc + 1 = pc') (h : WW Γ cc nL own ret rm σ pc' lv (.int (x.toUInt32 % 65536).toInt32 :: st)) : WW Γ cc nL own ret rm σ pc lv (.int x :: st) := by
  subst hp
  exact fun X H locs ls hP hD hS hl => lv_i2c X.1 X.2.1 hd rfl (h X H locs ls hP hD hS hl)
/-- the formatter of a bad index: a reference or null -/
theorem w_gfm {index : Nat} (hl : Cond.fieldLink own index RJ3 "SIOOBE_FORMATTER" "Ljava/util/function/BiFunction;" ∈ TB) (hd : decode cc pc = .ok (.getstatic index, 3)) (hp : pc + 3 = pc') (h0 : WW Γ cc nL own ret rm σ pc' lv (.null :: st)) (h1 : ∀ t : Nat, WW Γ cc nL own ret rm σ pc' lv (.ref t :: st)) : WW Γ cc nL own ret rm σ pc lv st := by
  subst hp
  intro X H locs ls hP hD hS hls
  rcases (okc_SK X).2.2.2.2.2.2 with z | ⟨t, z⟩
  · exact va_gets X.1 X.2.1 z hS X.2.2.2.1 (X.2.2.2.2.1 _ hl) (fun _ h9 => h9) hd (h0 X H locs ls hP hD hS hls)
  · exact va_gets X.1 X.2.1 z hS X.2.2.2.1 (X.2.2.2.2.1 _ hl) (fun _ h9 => h9) hd (h1 t X H locs ls hP hD hS hls)
def nby (x : Int32) : Bool := decide (x.toInt8.toInt32 = x)
def nch (x : Int32) : Bool := decide ((x.toUInt32 % 65536).toInt32 = x)
theorem w_breturn {x : Int32} (hd : decode cc pc = .ok (.ireturn, 1)) (hz : nby x = true) (h : RR vI Γ (some (x, σ))) : WW Γ cc nL own (some .byte) rm σ pc lv [.int x] := by
  have e := h.re
  intro X H locs ls hP hD hS hl
  obtain ⟨hx, hb, -, -, -, hK, hlk, -, -, -, hr, -⟩ := X
  rw [e]
  refine W.zret hx hb hr ?_ (w_end hK hP hD hS) hS.2.2 hd hlk
  have hz : x.toInt8.toInt32 = x := by simpa [nby] using hz
  rw [← hz]
  exact pk_nb x
theorem w_creturn {x : Int32} (hd : decode cc pc = .ok (.ireturn, 1)) (hz : nch x = true) (h : RR vI Γ (some (x, σ))) : WW Γ cc nL own (some .char) rm σ pc lv [.int x] := by
  have e := h.re
  intro X H locs ls hP hD hS hl
  obtain ⟨hx, hb, -, -, -, hK, hlk, -, -, -, hr, -⟩ := X
  rw [e]
  refine W.zret hx hb hr ?_ (w_end hK hP hD hS) hS.2.2 hd hlk
  have hz : (x.toUInt32 % 65536).toInt32 = x := by simpa [nch] using hz
  rw [← hz]
  exact pk_nc x
/-- a call on a String constant -/
theorem w_callT {y : MethodName} {b : ByteArray} {n k nn idx : Nat} {rt : Option FieldType} {rmc : Room} {As : List Value}
    (hc : CT (xl Γ) (xD Γ) (xy Γ) (xd Γ) y b n rt rmc (.ref (xd Γ (k + 1000)) :: As) σ v σ') (hk : isS σ k = true) (hl : Cond.methodLink own idx y ∈ TB) (hy : Cond.instanceMethod y ∈ TB ∧ Cond.selects RJ0 y y ∈ TB ∧ Cond.initialized RJ0 ∈ TB ∧ Cond.code y b n rt ∈ TB)
    (hd0 : y.cls = RJ0 ∧ y.cls ≠ "java/lang/invoke/MethodHandle" ∧ y.cls ≠ "java/lang/invoke/VarHandle" ∧ (parseMethodDescriptor y.desc).map (fun d => d.parameters.length) = some nn) (h0 : rmc.cells = 0 ∧ rmc.slots = 0) (hR : rmc.frames + 1 ≤ rm.frames ∧ 8 + (n + 11) + rmc.locals ≤ rm.locals)
    (hn : As.length = nn) (hw : (rest.map fun v => v.category).sum ≤ 8) (hd : decode cc pc = .ok (.invokevirtual idx, 3)) (hst : As.reverse ++ .ref (xd Γ (k + 1000)) :: rest = st0)
    (hp : pc + 3 = pc') (h : WW Γ cc nL own ret rm σ' pc' lv (v.toList ++ rest)) : WW Γ cc nL own ret rm σ pc lv st0 := by
  refine w_run (a := (Value.ref (xd Γ (k + 1000)) :: As).toArray) (fun X H locs ls hP hD hS hls => ?_) hp h
  have X0 := X
  obtain ⟨hx, hb, hml, hown, hts, hK, -, -, hkc, hks, -, hRm, -⟩ := X
  rw [← hRm] at hR
  exact va_runV (As := As) (rest := rest) (C := RJ0) ⟨hx, hb, hml, hown, hts⟩ (hc H.size) (cwV nn hts (g_V hl hy) rfl h0.1 h0.2 hd0 hR) ⟨w_blind, vk_recv (i := k) (adK := fun k => xd Γ (k + 1000)) (okc_SK X0).1 (isS_lt hk) hS, w_pre X0 hS hK hP hD⟩ rfl hn hls.1 hst.symm (lv_room hw) hd ⟨hkc, hks⟩
/-! System.arraycopy -/
theorem cpy_i {f g : Nat → Int32} {sp dp n : Nat} : va_cpy f g sp dp n = fun k => if dp ≤ k ∧ k < dp + n then f (sp + (k - dp)) else g k := rfl
end CO
def cpok (sp dp n : Int32) (a b : Nat) : Bool := decide (¬ sp < 0) && decide (¬ dp < 0) && decide (¬ n < 0) && decide (sp.toNatClampNeg + n.toNatClampNeg ≤ a) && decide (dp.toNatClampNeg + n.toNatClampNeg ≤ b)
theorem cpok_of {sp dp n : Int32} {a b : Nat} (h : cpok sp dp n a b = true) : ¬ sp < 0 ∧ ¬ dp < 0 ∧ ¬ n < 0 ∧ sp.toNatClampNeg + n.toNatClampNeg ≤ a ∧ dp.toNatClampNeg + n.toNatClampNeg ≤ b := by
  simp only [cpok, Bool.and_eq_true, decide_eq_true_eq] at h
  exact ⟨h.1.1.1.1, h.1.1.1.2, h.1.1.2, h.1.2, h.2⟩
