/-! ===== String constants and static rows: text k at number k + 1000, its bytes at k + 1100; MOST_TOLD 1200, TOLD_COLUMN 1201 ===== -/
def sByt : List (List Int32) := [[110, 101, 101, 100], [116, 114, 97, 105, 110], [116, 101, 97], [99, 97, 110, 110, 111, 110], [114, 117, 108, 101], [115, 112, 121], [119, 97, 114], [109, 105, 110, 117, 116, 101, 115], [108, 97, 116, 101], [112, 101, 97, 99, 101], [114, 97, 105, 110], [109, 101, 110], [100, 117, 101], [111, 100, 100, 115], [98, 121], [112, 114, 105, 99, 101], [116, 111], [97, 116], [102, 111, 114], [119, 111, 114, 116, 104], [107, 110, 111, 119, 115]]
def sLen : List Nat := [4, 5, 3, 6, 4, 3, 3, 7, 4, 5, 4, 3, 3, 4, 2, 5, 2, 2, 3, 5, 5]
def sTab : List (String × Nat × String × Nat) := [(RX6, 55, "need", 0), (RX6, 64, "train", 1), (RX6, 69, "tea", 2), (RX6, 79, "cannon", 3), (RX6, 84, "rule", 4), (RX6, 89, "spy", 5), (RX6, 98, "war", 6), (RX6, 103, "minutes", 7), (RX6, 111, "late", 8), (RX6, 116, "peace", 9), (RX6, 120, "rain", 10), (RX6, 138, "men", 11), (RX6, 140, "due", 12), (RX6, 142, "odds", 13), (RX6, 144, "by", 14), (RX6, 146, "price", 15), (RX6, 148, "to", 16), (RX6, 161, "at", 17), (RX6, 163, "for", 18), (RX6, 165, "worth", 19), (RX6, 170, "knows", 20), (RX12, 161, "war", 6), (RX12, 163, "minutes", 7), (RX12, 169, "late", 8), (RX12, 171, "peace", 9), (RX12, 173, "rain", 10), (RX12, 175, "men", 11), (RX12, 177, "due", 12), (RX12, 179, "odds", 13), (RX12, 181, "by", 14), (RX12, 183, "price", 15), (RX12, 185, "to", 16), (RX12, 187, "at", 17), (RX12, 188, "for", 18), (RX12, 190, "worth", 19), (RX12, 192, "knows", 20), (RX12, 194, "need", 0), (RX12, 196, "train", 1), (RX12, 198, "tea", 2), (RX12, 200, "cannon", 3), (RX12, 202, "rule", 4), (RX12, 204, "spy", 5)]
def mTold (j : Nat) : Int32 := [59, 100, 999, 999].getD j 0
def tColumn (j : Nat) : Int32 := [2, 3, 5].getD j 0
/-- what the Statement gives of the constants, at a state and a heap, outside what may change -/
def SK (ad : Nat → Nat) (A : Nat → Prop) (U : State) (H : Heap) : Prop :=
  vk_S 21 sLen sByt (fun k => ad (k + 1000)) (fun k => ad (k + 1100)) A U H ∧ va_Z RX10 "MOST_TOLD" "[I" (.ref (ad 1200)) A U H ∧ va_T .int (ad 1200) 4 (fun j => .int (mTold j)) A U H ∧ va_Z RX10 "TOLD_COLUMN" "[I" (.ref (ad 1201)) A U H ∧ va_T .int (ad 1201) 3 (fun j => .int (tColumn j)) A U H ∧ va_Z RJ0 "COMPACT_STRINGS" "Z" (.int 1) A U H ∧ va_Zq RJ3 "SIOOBE_FORMATTER" "Ljava/util/function/BiFunction;" A U H
def SR (ad : Nat → Nat) (U : State) : Prop := (∀ q ∈ sTab, vk_R q.1 q.2.1 q.2.2.1 (ad (q.2.2.2 + 1000)) U) ∧ va_Nw (.methodLinkNest RX11 9 yX10_init RX11) U ∧ va_Nw (.methodLinkNest RX11 46 yX5_init RX11) U ∧ va_Nw (.methodLinkNest RX11 74 yX7_init RX11) U ∧ va_AO RX10 U
theorem SK.go {ad : Nat → Nat} {A B : Nat → Prop} {u U : State} {H H1 : Heap} (hvm : u.vm.Alike U.vm) (hAB : ∀ q, B q → A q) (hq : ∀ a : Nat, a < H.size → ¬ A a → H1[a]? = H[a]?) (h : SK ad A u H) : SK ad B U H1 := by
  obtain ⟨h1, h2, h3, h4, h5, h6, h7⟩ := h
  exact ⟨((vk_S.moved hvm h1).kept hq).narrow hAB, ((va_Z.moved hvm h2).kept hq).narrow hAB, ((va_T.moved hvm h3).kept hq).narrow hAB, ((va_Z.moved hvm h4).kept hq).narrow hAB, ((va_T.moved hvm h5).kept hq).narrow hAB, ((va_Z.moved hvm h6).kept hq).narrow hAB, ((va_Zq.moved hvm h7).kept hq).narrow hAB⟩
theorem SR.warm {ad : Nat → Nat} {s U : State} (hW : s.WarmedH U.vm) (h : SR ad s) : SR ad U := ⟨fun q hq => vk_R.warm hW (h.1 q hq), va_Nw.warmM hW h.2.1, va_Nw.warmM hW h.2.2.1, va_Nw.warmM hW h.2.2.2.1, va_AO.moved hW.alike h.2.2.2.2⟩
theorem SR.same {ad : Nat → Nat} {u U : State} (hv : U.vm = u.vm) (h : SR ad u) : SR ad U := ⟨fun q hq => vk_R.same hv (h.1 q hq), va_Nw.same rfl hv.symm h.2.1, va_Nw.same rfl hv.symm h.2.2.1, va_Nw.same rfl hv.symm h.2.2.2.1, va_AO.moved (by rw [hv]; exact Vm.Alike.refl u.vm) h.2.2.2.2⟩
/-! ===== the state of all objects by numbers, and the world of it ===== -/
/-- the words that hold wherever the machine comes -/
def TB : List Cond := lw_tbl.filter goodWord
theorem tb_m {w : Cond} (h : w ∈ lw_tbl) (g : goodWord w = true) : w ∈ TB := List.mem_filter.mpr ⟨h, g⟩
theorem tb_g {w : Cond} (h : w ∈ TB) : w ∈ TB ∧ ((w.onTables && w.keeps) = true ∨ ∃ ty, w = .arrayClass ty) := ⟨h, good_of_word (List.mem_filter.mp h).2⟩
/-- int fields, int / byte / boolean rows, long rows, the images' row, how many images there are -/
abbrev St : Type := (Nat → Nat → Int32) × (Nat → Nat → Int32) × (Nat → Nat → Int64) × (Nat → Option Nat) × Nat
def gf (s : St) (i : Nat) : Nat → Int32 := s.1 i
def gr (s : St) (i : Nat) : Nat → Int32 := s.2.1 i
def gj (s : St) (i : Nat) : Nat → Int64 := s.2.2.1 i
def gm (s : St) : Nat → Option Nat := s.2.2.2.1
def gn (s : St) : Nat := s.2.2.2.2
def sF (s : St) (i : Nat) (f : Nat → Int32) : St := (va_up s.1 i f, s.2)
def sR (s : St) (i : Nat) (f : Nat → Int32) : St := (s.1, va_up s.2.1 i f, s.2.2)
def sJ (s : St) (i : Nat) (f : Nat → Int64) : St := (s.1, s.2.1, va_up s.2.2.1 i f, s.2.2.2)
def sf (s : St) (i k : Nat) (v : Int32) : St := sF s i (upd (gf s i) k v)
def sr (s : St) (i k : Nat) (v : Int32) : St := sR s i (upd (gr s i) k v)
def sj (s : St) (i k : Nat) (v : Int64) : St := sJ s i (vp_updL (gj s i) k v)
theorem gf_sF (s : St) (i j : Nat) (f : Nat → Int32) : gf (sF s i f) j = if j = i then f else gf s j := rfl
theorem gr_sR (s : St) (i j : Nat) (f : Nat → Int32) : gr (sR s i f) j = if j = i then f else gr s j := rfl
theorem gj_sJ (s : St) (i j : Nat) (f : Nat → Int64) : gj (sJ s i f) j = if j = i then f else gj s j := rfl
theorem gf_sR (s : St) (i j : Nat) (f : Nat → Int32) : gf (sR s i f) j = gf s j := rfl
theorem gf_sJ (s : St) (i j : Nat) (f : Nat → Int64) : gf (sJ s i f) j = gf s j := rfl
theorem gr_sF (s : St) (i j : Nat) (f : Nat → Int32) : gr (sF s i f) j = gr s j := rfl
theorem gr_sJ (s : St) (i j : Nat) (f : Nat → Int64) : gr (sJ s i f) j = gr s j := rfl
theorem gj_sF (s : St) (i j : Nat) (f : Nat → Int32) : gj (sF s i f) j = gj s j := rfl
theorem gj_sR (s : St) (i j : Nat) (f : Nat → Int32) : gj (sR s i f) j = gj s j := rfl
theorem gm_sF (s : St) (i : Nat) (f : Nat → Int32) : gm (sF s i f) = gm s := rfl
theorem gm_sR (s : St) (i : Nat) (f : Nat → Int32) : gm (sR s i f) = gm s := rfl
theorem gm_sJ (s : St) (i : Nat) (f : Nat → Int64) : gm (sJ s i f) = gm s := rfl
theorem gn_sF (s : St) (i : Nat) (f : Nat → Int32) : gn (sF s i f) = gn s := rfl
theorem gn_sR (s : St) (i : Nat) (f : Nat → Int32) : gn (sR s i f) = gn s := rfl
theorem gn_sJ (s : St) (i : Nat) (f : Nat → Int64) : gn (sJ s i f) = gn s := rfl
theorem gn_sf (s : St) (i k : Nat) (v : Int32) : gn (sf s i k v) = gn s := rfl
theorem gn_sr (s : St) (i k : Nat) (v : Int32) : gn (sr s i k v) = gn s := rfl
theorem gn_sj (s : St) (i k : Nat) (v : Int64) : gn (sj s i k v) = gn s := rfl
/-- kinds: 0 .. 11 the classes of vwCl, 12 bytes, 13 ints, 14 longs, 15 booleans, 16 the images' row -/
def kW (o : Nat) : Nat := if o = 0 then 9 else if o = 1 then 13 else if o % 2 = 0 then 8 else 13
def kS : List Nat := [5, 12, 1, 13, 13, 13, 13, 2, 13, 13, 14, 15, 13, 13, 4, 13, 13, 13, 13, 3, 7, 0, 13, 6, 15, 13, 13, 14, 16, 11, 13, 13, 15, 12, 13, 13, 13, 13, 13, 13, 13, 13, 13, 13, 14, 14]
def lS : List Nat := [0, 1200, 0, 61, 512, 512, 512, 0, 512, 512, 512, 512, 512, 512, 0, 3, 3, 3, 3, 0, 0, 0, 8, 0, 4, 4, 4, 240, 3, 0, 240, 720, 3, 1200, 5, 240, 61, 512, 512, 3, 3, 3, 4, 4, 240, 60]
/-- where in its WAR's block a number stands -/
def wo (i : Nat) : Nat := if i < 15 then i - 1 else if i < 29 then i - 15 else (i - 75) % 14
def kd (i : Nat) : Nat := if i = 0 then 10 else if 29 ≤ i ∧ i < 75 then kS.getD (i - 29) 0 else kW (wo i)
def lW (o : Nat) : Nat := if o = 1 then 2 else if o = 3 then 54 else if o = 5 then 8 else if o = 7 then 32 else if o = 9 then 8 else if o = 11 then 5 else 180
def ln (i : Nat) : Nat := if 29 ≤ i ∧ i < 75 then lS.getD (i - 29) 0 else lW (wo i)
/-- a table's width and room, by where it stands -/
def tw (i : Nat) : Int32 := if wo i = 2 then 6 else if wo i = 4 then 2 else if wo i = 6 then 4 else if wo i = 8 then 2 else if wo i = 10 then 1 else 3
def tm (i : Nat) : Int32 := if wo i = 2 then 9 else if wo i = 4 then 4 else if wo i = 6 then 8 else if wo i = 8 then 4 else if wo i = 10 then 5 else 60
def cel (cy : Nat → ClassId) (ad : Nat → Nat) (s : St) (i : Nat) : va_E :=
  if kd i = 13 then .inl (cy 13, ln i, .inl (gr s i))
  else if kd i = 8 then .inr (8, [.int (tw i), .int (tm i), .ref (ad (i + 1)), .int (gf s i 3)])
  else if kd i = 9 then .inr (9, [.int (gf s i 0), .int (gf s i 1), .int (gf s i 2), .int (gf s i 3), .int (gf s i 4), .ref (ad (i + 1)), .ref (ad (i + 2)), .ref (ad (i + 4)), .ref (ad (i + 6)), .ref (ad (i + 8)), .ref (ad (i + 10)), .ref (ad (i + 12))])
  else if kd i = 12 then .inl (cy 12, ln i, .inl (gr s i))
  else if kd i = 14 then .inl (cy 14, ln i, .inr (.inl (gj s i)))
  else if kd i = 15 then .inl (cy 15, ln i, .inl (gr s i))
  else if kd i = 16 then .inl (cy 16, ln i, .inr (.inr (.inr (.inr (fun k => (gm s k).map fun b => ad (75 + 14 * b))))))
  else if kd i = 0 then .inr (0, [.ref (ad 1), .ref (ad 51)])
  else if kd i = 1 then .inr (1, [.ref (ad 1), .ref (ad 32), .ref (ad 33), .ref (ad 34), .ref (ad 35), .int (gf s i 5)])
  else if kd i = 2 then .inr (2, [.ref (ad 1), .ref (ad 31), .ref (ad 37), .ref (ad 38), .ref (ad 39), .ref (ad 40), .ref (ad 41), .ref (ad 42)])
  else if kd i = 3 then .inr (3, [.ref (ad 1)])
  else if kd i = 4 then .inr (4, [.int (gf s i 0), .ref (ad 44), .ref (ad 45), .ref (ad 46), .ref (ad 47)])
  else if kd i = 5 then .inr (5, [.ref (ad 30), .int (gf s i 1), .int (gf s i 2), .int (gf s i 3), .ref (ad 15), .int (gf s i 5), .int (gf s i 6), .int (gf s i 7), .int (gf s i 8)])
  else if kd i = 6 then .inr (6, [.ref (ad 53), .ref (ad 54), .ref (ad 55), .ref (ad 56)])
  else if kd i = 7 then .inr (7, [.ref (ad 1)])
  else if kd i = 10 then .inr (10, [.ref (ad 1), .ref (ad 15), .ref (ad 29), .ref (ad 31), .ref (ad 36), .ref (ad 43), .ref (ad 48), .ref (ad 49), .ref (ad 50), .ref (ad 52), .ref (ad 57)])
  else .inr (11, [.int (gf s i 0), .ref (ad 59), .ref (ad 60), .ref (ad 61), .ref (ad 62), .int (gf s i 5), .ref (ad 63), .int (gf s i 7), .int (gf s i 8), .int (gf s i 9), .int (gf s i 10), .int (gf s i 11), .int (gf s i 12), .int (gf s i 13), .ref (ad 64), .ref (ad 65), .int (gf s i 16), .ref (ad 66), .int (gf s i 18), .int (gf s i 19), .int (gf s i 20), .ref (ad 67), .int (gf s i 22), .ref (ad 68), .ref (ad 69), .ref (ad 70), .int (gf s i 26), .int (gf s i 27), .ref (ad 71), .ref (ad 72), .ref (ad 73), .ref (ad 74)])
def nA (s : St) : Nat := 75 + 14 * gn s
def Wd (cy : Nat → ClassId) (ad : Nat → Nat) (s : St) : va_W := (List.range (nA s)).map (fun i => (ad i, cel cy ad s i))
theorem wd_at {cy : Nat → ClassId} {ad : Nat → Nat} {s : St} {i : Nat} (h : i < nA s) : (Wd cy ad s)[i]? = some (ad i, cel cy ad s i) := by
  simp [Wd, h]
theorem wd_set {cy : Nat → ClassId} {ad : Nat → Nat} {s s' : St} {i : Nat} {e : va_E} (hn : gn s' = gn s) (hi : cel cy ad s' i = e) (hj : ∀ j, j ≠ i → cel cy ad s' j = cel cy ad s j) : (Wd cy ad s).set i (ad i, e) = Wd cy ad s' := by
  apply List.ext_getElem?
  intro k
  have hN : nA s' = nA s := by simp [nA, hn]
  by_cases hk : k < nA s
  · rw [wd_at (s := s') (by rw [hN]; exact hk), List.getElem?_set]
    by_cases h : i = k
    · subst h
      simp [Wd, hk, hi]
    · rw [if_neg h, wd_at hk, hj k (fun e => h e.symm)]
  · have h1 : (Wd cy ad s').length ≤ k := by simp [Wd, hN]; omega
    have h2 : ((Wd cy ad s).set i (ad i, e)).length ≤ k := by simp [Wd]; omega
    rw [List.getElem?_eq_none h1, List.getElem?_eq_none h2]
theorem cel_sF {cy : Nat → ClassId} {ad : Nat → Nat} {s : St} {i j : Nat} {f : Nat → Int32} (h : j ≠ i) : cel cy ad (sF s i f) j = cel cy ad s j := by
  simp only [cel, gf_sF, if_neg h, gr_sF, gj_sF, gm_sF]
theorem cel_sR {cy : Nat → ClassId} {ad : Nat → Nat} {s : St} {i j : Nat} {f : Nat → Int32} (h : j ≠ i) : cel cy ad (sR s i f) j = cel cy ad s j := by
  simp only [cel, gr_sR, if_neg h, gf_sR, gj_sR, gm_sR]
theorem cel_sJ {cy : Nat → ClassId} {ad : Nat → Nat} {s : St} {i j : Nat} {f : Nat → Int64} (h : j ≠ i) : cel cy ad (sJ s i f) j = cel cy ad s j := by
  simp only [cel, gj_sJ, if_neg h, gf_sJ, gr_sJ, gm_sJ]
/-- the numbers of the worlds' arrays' classes -/
def tyK (cy : Nat → ClassId) : List (ClassId × FieldType) := [(cy 12, .byte), (cy 13, .int), (cy 14, .long), (cy 15, .boolean), (cy 16, .object RX10)]
/-! ===== the judgement ===== -/
/-- p, l, e, R, s, m, args, below, meth, c, D, cy, ad, A, cells, slots, what is to hold at the end -/
abbrev CX : Type := Program × Launch × Env × Room × State × MethodId × Array Value × List Frame × Method × Code × va_G × (Nat → ClassId) × (Nat → Nat) × (Nat → Prop) × Nat × Nat × (State → Prop)
def xp (Γ : CX) : Program := Γ.1
def xl (Γ : CX) : Launch := Γ.2.1
def xE (Γ : CX) : Env := Γ.2.2.1
def xR (Γ : CX) : Room := Γ.2.2.2.1
def xs (Γ : CX) : State := Γ.2.2.2.2.1
def xm (Γ : CX) : MethodId := Γ.2.2.2.2.2.1
def xa (Γ : CX) : Array Value := Γ.2.2.2.2.2.2.1
def xb (Γ : CX) : List Frame := Γ.2.2.2.2.2.2.2.1
def xM (Γ : CX) : Method := Γ.2.2.2.2.2.2.2.2.1
def xc (Γ : CX) : Code := Γ.2.2.2.2.2.2.2.2.2.1
def xD (Γ : CX) : va_G := Γ.2.2.2.2.2.2.2.2.2.2.1
def xy (Γ : CX) : Nat → ClassId := Γ.2.2.2.2.2.2.2.2.2.2.2.1
def xd (Γ : CX) : Nat → Nat := Γ.2.2.2.2.2.2.2.2.2.2.2.2.1
def xA (Γ : CX) : Nat → Prop := Γ.2.2.2.2.2.2.2.2.2.2.2.2.2.1
def xk (Γ : CX) : Nat := Γ.2.2.2.2.2.2.2.2.2.2.2.2.2.2.1
def xn (Γ : CX) : Nat := Γ.2.2.2.2.2.2.2.2.2.2.2.2.2.2.2.1
def xQ (Γ : CX) : State → Prop := Γ.2.2.2.2.2.2.2.2.2.2.2.2.2.2.2.2
/-- a method's start and end over the world -/
def PreW (D : va_G) (cy : Nat → ClassId) (ad : Nat → Nat) (σ : St) (sz : Nat) (U : State) : Prop := U.heap.size = sz ∧ va_P D vwCl (Wd cy ad σ) U.heap ∧ va_K D vwCl (tyK cy) U ∧ va_D (fun _ => True) (Wd cy ad σ) ∧ SK ad (va_A (Wd cy ad σ) sz) U U.heap ∧ SR ad U
def QC (D : va_G) (cy : Nat → ClassId) (ad : Nat → Nat) (v : Option Value) (σ : St) (A : Nat → Prop) : Array Value → State → Outcome → State → Prop := fun _ st oc t => (oc = .returned v ∧ va_P D vwCl (Wd cy ad σ) t.heap ∧ va_K D vwCl (tyK cy) t ∧ va_D A (Wd cy ad σ)) ∧ va_F A st t
def CT (l : Launch) (D : va_G) (cy : Nat → ClassId) (ad : Nat → Nat) (y : MethodName) (b : ByteArray) (n : Nat) (ret : Option FieldType) (rm : Room) (av : List Value) (σ : St) (v : Option Value) (σ' : St) : Prop :=
  ∀ sz : Nat, Met l y (Cond.code y b n ret :: TB) rm (va_Pc av (PreW D cy ad σ sz)) (QC D cy ad v σ' (va_A (Wd cy ad σ) sz)) 0 0 (va_A (Wd cy ad σ) sz)
/-- what holds all along a method's walk -/
def Okc (Γ : CX) (cc : ByteArray) (nL : Nat) (own : String) (ret : Option FieldType) (rm : Room) : Prop := (xp Γ).tables.exec = Jvm.exec ∧ (xc Γ).code = cc ∧ (xc Γ).maxLocals = nL ∧ (xs Γ).vm.findClass own = some (xm Γ).cls ∧ (∀ w ∈ TB, w.before (xa Γ) (xs Γ) = true) ∧ va_K (xD Γ) vwCl (tyK (xy Γ)) (xs Γ) ∧ (xM Γ).locks = false ∧ (∀ q : Nat, (xs Γ).heap.size ≤ q → xA Γ q) ∧ xk Γ ≤ (xR Γ).cells ∧ xn Γ ≤ (xR Γ).slots ∧ (xM Γ).sig.returnType = ret ∧ xR Γ = rm ∧ SK (xd Γ) (xA Γ) (xs Γ) (xs Γ).heap ∧ SR (xd Γ) (xs Γ)
/-- the machine's walk over a world that is a list -/
def WL (Γ : CX) (cc : ByteArray) (nL : Nat) (own : String) (ret : Option FieldType) (rm : Room) (ws : va_W) (pc : Nat) (lv : List (Nat × Value)) (st : List Value) : Prop :=
  Okc Γ cc nL own ret rm → ∀ (H : Heap) (locs : List Loc) (ls : Array Slot), va_P (xD Γ) vwCl ws H → va_D (xA Γ) ws → va_S (xA Γ) (xs Γ).heap H locs → lv_has ls nL lv →
    W (xp Γ) (xl Γ) (xE Γ) (xR Γ) (xs Γ) (xm Γ) (xa Γ) (xb Γ) (xM Γ) (xc Γ) H locs (xk Γ) (xn Γ) (xQ Γ) (F0 (xm Γ) pc ls st)
abbrev WW (Γ : CX) (cc : ByteArray) (nL : Nat) (own : String) (ret : Option FieldType) (rm : Room) (σ : St) (pc : Nat) (lv : List (Nat × Value)) (st : List Value) : Prop := WL Γ cc nL own ret rm (Wd (xy Γ) (xd Γ) σ) pc lv st
/-! ===== rows of WW: an instruction, a row ===== -/
section RU
variable {Γ : CX} {cc : ByteArray} {nL : Nat} {own : String} {ret : Option FieldType} {rm : Room} {ws : va_W} {pc pc' : Nat} {lv lv' : List (Nat × Value)} {st : List Value}
/-- locals in another order, or fewer -/
theorem w_sub (ks : List Nat) (hl : lv_pick lv ks = lv') (h : WL Γ cc nL own ret rm ws pc lv' st) : WL Γ cc nL own ret rm ws pc lv st :=
  fun X H locs ls hP hD hS hls => h X H locs ls hP hD hS (lv_sub hls ks hl)
theorem w_nmI {x : Int32} (h : ∀ y : Int32, y = x → WL Γ cc nL own ret rm ws pc lv (.int y :: st)) : WL Γ cc nL own ret rm ws pc lv (.int x :: st) := h x rfl
theorem w_nmL {x : Int64} (h : ∀ y : Int64, y = x → WL Γ cc nL own ret rm ws pc lv (.long y :: st)) : WL Γ cc nL own ret rm ws pc lv (.long x :: st) := h x rfl
theorem w_iload_n {k : Fin 4} {i : Nat} {x : Int32} (j : Nat) (hd : decode cc pc = .ok (.iload_n k, 1)) (hi : (k : Nat) = i) (hv : lv[j]? = some (i, .int x)) (hp : pc + 1 = pc') (h : WL Γ cc nL own ret rm ws pc' lv (.int x :: st)) : WL Γ cc nL own ret rm ws pc lv st := by
  subst hp
  exact fun X H locs ls hP hD hS hl => lv_iload_n X.1 X.2.1 hd hi (lv_at hl j hv) (h X H locs ls hP hD hS hl)
theorem w_iload {i : Nat} {x : Int32} (j : Nat) (hd : decode cc pc = .ok (.iload i, 2)) (hv : lv[j]? = some (i, .int x)) (hp : pc + 2 = pc') (h : WL Γ cc nL own ret rm ws pc' lv (.int x :: st)) : WL Γ cc nL own ret rm ws pc lv st := by
  subst hp
  exact fun X H locs ls hP hD hS hl => lv_iload X.1 X.2.1 hd (lv_at hl j hv) (h X H locs ls hP hD hS hl)
theorem w_lload_n {k : Fin 4} {i : Nat} {x : Int64} (j : Nat) (hd : decode cc pc = .ok (.lload_n k, 1)) (hi : (k : Nat) = i) (hv : lv[j]? = some (i, .long x)) (hp : pc + 1 = pc') (h : WL Γ cc nL own ret rm ws pc' lv (.long x :: st)) : WL Γ cc nL own ret rm ws pc lv st := by
  subst hp
  exact fun X H locs ls hP hD hS hl => lv_lload_n X.1 X.2.1 hd hi (lv_at hl j hv) (h X H locs ls hP hD hS hl)
theorem w_lload {i : Nat} {x : Int64} (j : Nat) (hd : decode cc pc = .ok (.lload i, 2)) (hv : lv[j]? = some (i, .long x)) (hp : pc + 2 = pc') (h : WL Γ cc nL own ret rm ws pc' lv (.long x :: st)) : WL Γ cc nL own ret rm ws pc lv st := by
  subst hp
  exact fun X H locs ls hP hD hS hl => lv_lload X.1 X.2.1 hd (lv_at hl j hv) (h X H locs ls hP hD hS hl)
theorem w_aload_n {k : Fin 4} {i : Nat} {x : Nat} (j : Nat) (hd : decode cc pc = .ok (.aload_n k, 1)) (hi : (k : Nat) = i) (hv : lv[j]? = some (i, .ref x)) (hp : pc + 1 = pc') (h : WL Γ cc nL own ret rm ws pc' lv (.ref x :: st)) : WL Γ cc nL own ret rm ws pc lv st := by
  subst hp
  exact fun X H locs ls hP hD hS hl => lv_aload_n X.1 X.2.1 hd hi (lv_at hl j hv) (h X H locs ls hP hD hS hl)
theorem w_aload {i : Nat} {x : Nat} (j : Nat) (hd : decode cc pc = .ok (.aload i, 2)) (hv : lv[j]? = some (i, .ref x)) (hp : pc + 2 = pc') (h : WL Γ cc nL own ret rm ws pc' lv (.ref x :: st)) : WL Γ cc nL own ret rm ws pc lv st := by
  subst hp
  exact fun X H locs ls hP hD hS hl => lv_aload X.1 X.2.1 hd (lv_at hl j hv) (h X H locs ls hP hD hS hl)
theorem w_iconst {n : Int} (v : Int32) (hd : decode cc pc = .ok (.iconst n, 1)) (hv : Int32.ofInt n = v) (hp : pc + 1 = pc') (h : WL Γ cc nL own ret rm ws pc' lv (.int v :: st)) : WL Γ cc nL own ret rm ws pc lv st := by
  subst hp
  exact fun X H locs ls hP hD hS hl => lv_iconst X.1 X.2.1 hd hv (h X H locs ls hP hD hS hl)
theorem w_bipush {n : Int} (v : Int32) (hd : decode cc pc = .ok (.bipush n, 2)) (hv : (Int8.ofInt n).toInt32 = v) (hp : pc + 2 = pc') (h : WL Γ cc nL own ret rm ws pc' lv (.int v :: st)) : WL Γ cc nL own ret rm ws pc lv st := by
  subst hp
  exact fun X H locs ls hP hD hS hl => lv_bipush X.1 X.2.1 hd hv (h X H locs ls hP hD hS hl)
theorem w_sipush {n : Int} (v : Int32) (hd : decode cc pc = .ok (.sipush n, 3)) (hv : (Int16.ofInt n).toInt32 = v) (hp : pc + 3 = pc') (h : WL Γ cc nL own ret rm ws pc' lv (.int v :: st)) : WL Γ cc nL own ret rm ws pc lv st := by
  subst hp
  exact fun X H locs ls hP hD hS hl => lv_sipush X.1 X.2.1 hd hv (h X H locs ls hP hD hS hl)
theorem w_lconst {n : Fin 2} (v : Int64) (hd : decode cc pc = .ok (.lconst n, 1)) (hv : Int64.ofNat (n : Nat) = v) (hp : pc + 1 = pc') (h : WL Γ cc nL own ret rm ws pc' lv (.long v :: st)) : WL Γ cc nL own ret rm ws pc lv st := by
  subst hp
  exact fun X H locs ls hP hD hS hl => lv_lconst X.1 X.2.1 hd hv (h X H locs ls hP hD hS hl)
theorem w_ldc {index : Nat} (v : Int32) (hd : decode cc pc = .ok (.ldc index, 2)) (hw : Cond.constant own index v ∈ TB) (hp : pc + 2 = pc') (h : WL Γ cc nL own ret rm ws pc' lv (.int v :: st)) : WL Γ cc nL own ret rm ws pc lv st := by
  subst hp
  exact fun X H locs ls hP hD hS hl => lv_ldc X.1 X.2.1 X.2.2.2.1 (X.2.2.2.2.1 _ hw) hd (h X H locs ls hP hD hS hl)
theorem w_ldc_w {index : Nat} (v : Int32) (hd : decode cc pc = .ok (.ldc_w index, 3)) (hw : Cond.constant own index v ∈ TB) (hp : pc + 3 = pc') (h : WL Γ cc nL own ret rm ws pc' lv (.int v :: st)) : WL Γ cc nL own ret rm ws pc lv st := by
  subst hp
  exact fun X H locs ls hP hD hS hl => lv_ldcw X.1 X.2.1 X.2.2.2.1 (X.2.2.2.2.1 _ hw) hd (h X H locs ls hP hD hS hl)
theorem w_ldc2_w {index : Nat} (v : Int64) (hd : decode cc pc = .ok (.ldc2_w index, 3)) (hw : Cond.constantLong own index v ∈ TB) (hp : pc + 3 = pc') (h : WL Γ cc nL own ret rm ws pc' lv (.long v :: st)) : WL Γ cc nL own ret rm ws pc lv st := by
  subst hp
  exact fun X H locs ls hP hD hS hl => lv_ldc2 X.1 X.2.1 X.2.2.2.1 (X.2.2.2.2.1 _ hw) hd (h X H locs ls hP hD hS hl)
theorem w_istore_n {k : Fin 4} {i : Nat} {x : Int32} (lv' : List (Nat × Value)) (hd : decode cc pc = .ok (.istore_n k, 1)) (hi : (k : Nat) = i) (hn : i < nL) (hl' : (i, Value.int x) :: lv.filter (fun q => !(q.1 == i) && !(q.1 + 1 == i && q.2.category == 2)) = lv') (hp : pc + 1 = pc') (h : WL Γ cc nL own ret rm ws pc' lv' st) : WL Γ cc nL own ret rm ws pc lv (.int x :: st) := by
  subst hp
  exact fun X H locs ls hP hD hS hl => lv_istore_n X.1 X.2.1 hd hi hl hn hl' (fun ls' hls => h X H locs ls' hP hD hS hls)
theorem w_istore {i : Nat} {x : Int32} (lv' : List (Nat × Value)) (hd : decode cc pc = .ok (.istore i, 2)) (hn : i < nL) (hl' : (i, Value.int x) :: lv.filter (fun q => !(q.1 == i) && !(q.1 + 1 == i && q.2.category == 2)) = lv') (hp : pc + 2 = pc') (h : WL Γ cc nL own ret rm ws pc' lv' st) : WL Γ cc nL own ret rm ws pc lv (.int x :: st) := by
  subst hp
  exact fun X H locs ls hP hD hS hl => lv_istore X.1 X.2.1 hd hl hn hl' (fun ls' hls => h X H locs ls' hP hD hS hls)
theorem w_lstore_n {k : Fin 4} {i : Nat} {x : Int64} (lv' : List (Nat × Value)) (hd : decode cc pc = .ok (.lstore_n k, 1)) (hi : (k : Nat) = i) (hn : i + 1 < nL) (hl' : (i, Value.long x) :: lv.filter (fun q => !(q.1 == i) && (!(q.1 == i + 1) && !(q.1 + 1 == i && q.2.category == 2))) = lv') (hp : pc + 1 = pc') (h : WL Γ cc nL own ret rm ws pc' lv' st) : WL Γ cc nL own ret rm ws pc lv (.long x :: st) := by
  subst hp
  exact fun X H locs ls hP hD hS hl => lv_lstore_n X.1 X.2.1 hd hi hl hn hl' (fun ls' hls => h X H locs ls' hP hD hS hls)
theorem w_lstore {i : Nat} {x : Int64} (lv' : List (Nat × Value)) (hd : decode cc pc = .ok (.lstore i, 2)) (hn : i + 1 < nL) (hl' : (i, Value.long x) :: lv.filter (fun q => !(q.1 == i) && (!(q.1 == i + 1) && !(q.1 + 1 == i && q.2.category == 2))) = lv') (hp : pc + 2 = pc') (h : WL Γ cc nL own ret rm ws pc' lv' st) : WL Γ cc nL own ret rm ws pc lv (.long x :: st) := by
  subst hp
  exact fun X H locs ls hP hD hS hl => lv_lstore X.1 X.2.1 hd hl hn hl' (fun ls' hls => h X H locs ls' hP hD hS hls)
theorem w_astore_n {k : Fin 4} {i : Nat} {x : Nat} (lv' : List (Nat × Value)) (hd : decode cc pc = .ok (.astore_n k, 1)) (hi : (k : Nat) = i) (hn : i < nL) (hl' : (i, Value.ref x) :: lv.filter (fun q => !(q.1 == i) && !(q.1 + 1 == i && q.2.category == 2)) = lv') (hp : pc + 1 = pc') (h : WL Γ cc nL own ret rm ws pc' lv' st) : WL Γ cc nL own ret rm ws pc lv (.ref x :: st) := by
  subst hp
  exact fun X H locs ls hP hD hS hl => lv_astore_n X.1 X.2.1 hd hi hl hn hl' (fun ls' hls => h X H locs ls' hP hD hS hls)
theorem w_astore {i : Nat} {x : Nat} (lv' : List (Nat × Value)) (hd : decode cc pc = .ok (.astore i, 2)) (hn : i < nL) (hl' : (i, Value.ref x) :: lv.filter (fun q => !(q.1 == i) && !(q.1 + 1 == i && q.2.category == 2)) = lv') (hp : pc + 2 = pc') (h : WL Γ cc nL own ret rm ws pc' lv' st) : WL Γ cc nL own ret rm ws pc lv (.ref x :: st) := by
  subst hp
  exact fun X H locs ls hP hD hS hl => lv_astore X.1 X.2.1 hd hl hn hl' (fun ls' hls => h X H locs ls' hP hD hS hls)
theorem w_iinc {i : Nat} {n : Int} {x : Int32} (j : Nat) (v : Int32) (lv' : List (Nat × Value)) (hd : decode cc pc = .ok (.iinc i n, 3)) (hv : lv[j]? = some (i, .int x)) (hx : x + Int32.ofInt n = v) (hn : i < nL) (hl' : (i, Value.int v) :: lv.filter (fun q => !(q.1 == i) && !(q.1 + 1 == i && q.2.category == 2)) = lv') (hp : pc + 3 = pc') (h : WL Γ cc nL own ret rm ws pc' lv' st) : WL Γ cc nL own ret rm ws pc lv st := by
  subst hp
  exact fun X H locs ls hP hD hS hl => lv_iinc X.1 X.2.1 hd hl hv hx hn hl' (fun ls' hls => h X H locs ls' hP hD hS hls)
theorem w_iadd {x y : Int32} (hd : decode cc pc = .ok (.iadd, 1))  (hp : pc + 1 = pc') (h : WL Γ cc nL own ret rm ws pc' lv (.int (x + y) :: st)) : WL Γ cc nL own ret rm ws pc lv (.int y :: .int x :: st) := by
  subst hp
  exact fun X H locs ls hP hD hS hl => lv_iadd X.1 X.2.1 hd (h X H locs ls hP hD hS hl)
theorem w_isub {x y : Int32} (hd : decode cc pc = .ok (.isub, 1))  (hp : pc + 1 = pc') (h : WL Γ cc nL own ret rm ws pc' lv (.int (x - y) :: st)) : WL Γ cc nL own ret rm ws pc lv (.int y :: .int x :: st) := by
  subst hp
  exact fun X H locs ls hP hD hS hl => lv_isub X.1 X.2.1 hd (h X H locs ls hP hD hS hl)
theorem w_imul {x y : Int32} (hd : decode cc pc = .ok (.imul, 1))  (hp : pc + 1 = pc') (h : WL Γ cc nL own ret rm ws pc' lv (.int (x * y) :: st)) : WL Γ cc nL own ret rm ws pc lv (.int y :: .int x :: st) := by
  subst hp
  exact fun X H locs ls hP hD hS hl => lv_imul X.1 X.2.1 hd (h X H locs ls hP hD hS hl)
theorem w_iand {x y : Int32} (hd : decode cc pc = .ok (.iand, 1))  (hp : pc + 1 = pc') (h : WL Γ cc nL own ret rm ws pc' lv (.int (x &&& y) :: st)) : WL Γ cc nL own ret rm ws pc lv (.int y :: .int x :: st) := by
  subst hp
  exact fun X H locs ls hP hD hS hl => lv_iand X.1 X.2.1 hd (h X H locs ls hP hD hS hl)
theorem w_ior {x y : Int32} (hd : decode cc pc = .ok (.ior, 1))  (hp : pc + 1 = pc') (h : WL Γ cc nL own ret rm ws pc' lv (.int (x ||| y) :: st)) : WL Γ cc nL own ret rm ws pc lv (.int y :: .int x :: st) := by
  subst hp
  exact fun X H locs ls hP hD hS hl => lv_ior X.1 X.2.1 hd (h X H locs ls hP hD hS hl)
theorem w_ixor {x y : Int32} (hd : decode cc pc = .ok (.ixor, 1))  (hp : pc + 1 = pc') (h : WL Γ cc nL own ret rm ws pc' lv (.int (x ^^^ y) :: st)) : WL Γ cc nL own ret rm ws pc lv (.int y :: .int x :: st) := by
  subst hp
  exact fun X H locs ls hP hD hS hl => lv_ixor X.1 X.2.1 hd (h X H locs ls hP hD hS hl)
theorem w_ishl {x y : Int32} (hd : decode cc pc = .ok (.ishl, 1))  (hp : pc + 1 = pc') (h : WL Γ cc nL own ret rm ws pc' lv (.int (x <<< (y &&& 31)) :: st)) : WL Γ cc nL own ret rm ws pc lv (.int y :: .int x :: st) := by
  subst hp
  exact fun X H locs ls hP hD hS hl => lv_ishl X.1 X.2.1 hd (h X H locs ls hP hD hS hl)
theorem w_ishr {x y : Int32} (hd : decode cc pc = .ok (.ishr, 1))  (hp : pc + 1 = pc') (h : WL Γ cc nL own ret rm ws pc' lv (.int (x >>> (y &&& 31)) :: st)) : WL Γ cc nL own ret rm ws pc lv (.int y :: .int x :: st) := by
  subst hp
  exact fun X H locs ls hP hD hS hl => lv_ishr X.1 X.2.1 hd (h X H locs ls hP hD hS hl)
theorem w_iushr {x y : Int32} (hd : decode cc pc = .ok (.iushr, 1))  (hp : pc + 1 = pc') (h : WL Γ cc nL own ret rm ws pc' lv (.int ((x.toUInt32 >>> (y.toUInt32 &&& Int32.toUInt32 31)).toInt32) :: st)) : WL Γ cc nL own ret rm ws pc lv (.int y :: .int x :: st) := by
  subst hp
  exact fun X H locs ls hP hD hS hl => lv_iushr X.1 X.2.1 hd rfl (h X H locs ls hP hD hS hl)
theorem w_idiv {x y : Int32} (hd : decode cc pc = .ok (.idiv, 1)) (hne : ¬ y = 0) (hp : pc + 1 = pc') (h : WL Γ cc nL own ret rm ws pc' lv (.int (x / y) :: st)) : WL Γ cc nL own ret rm ws pc lv (.int y :: .int x :: st) := by
  subst hp
  exact fun X H locs ls hP hD hS hl => lv_idiv X.1 X.2.1 hd hne (h X H locs ls hP hD hS hl)
theorem w_irem {x y : Int32} (hd : decode cc pc = .ok (.irem, 1)) (hne : ¬ y = 0) (hp : pc + 1 = pc') (h : WL Γ cc nL own ret rm ws pc' lv (.int (x - x / y * y) :: st)) : WL Γ cc nL own ret rm ws pc lv (.int y :: .int x :: st) := by
  subst hp
  exact fun X H locs ls hP hD hS hl => lv_irem X.1 X.2.1 hd hne (h X H locs ls hP hD hS hl)
theorem w_ladd {x y : Int64} (hd : decode cc pc = .ok (.ladd, 1))  (hp : pc + 1 = pc') (h : WL Γ cc nL own ret rm ws pc' lv (.long (x + y) :: st)) : WL Γ cc nL own ret rm ws pc lv (.long y :: .long x :: st) := by
  subst hp
  exact fun X H locs ls hP hD hS hl => lv_ladd X.1 X.2.1 hd (h X H locs ls hP hD hS hl)
theorem w_lsub {x y : Int64} (hd : decode cc pc = .ok (.lsub, 1))  (hp : pc + 1 = pc') (h : WL Γ cc nL own ret rm ws pc' lv (.long (x - y) :: st)) : WL Γ cc nL own ret rm ws pc lv (.long y :: .long x :: st) := by
  subst hp
  exact fun X H locs ls hP hD hS hl => lv_lsub X.1 X.2.1 hd (h X H locs ls hP hD hS hl)
theorem w_lmul {x y : Int64} (hd : decode cc pc = .ok (.lmul, 1))  (hp : pc + 1 = pc') (h : WL Γ cc nL own ret rm ws pc' lv (.long (x * y) :: st)) : WL Γ cc nL own ret rm ws pc lv (.long y :: .long x :: st) := by
  subst hp
  exact fun X H locs ls hP hD hS hl => lv_lmul X.1 X.2.1 hd (h X H locs ls hP hD hS hl)
theorem w_land {x y : Int64} (hd : decode cc pc = .ok (.land, 1))  (hp : pc + 1 = pc') (h : WL Γ cc nL own ret rm ws pc' lv (.long (x &&& y) :: st)) : WL Γ cc nL own ret rm ws pc lv (.long y :: .long x :: st) := by
  subst hp
  exact fun X H locs ls hP hD hS hl => lv_land X.1 X.2.1 hd (h X H locs ls hP hD hS hl)
theorem w_lor {x y : Int64} (hd : decode cc pc = .ok (.lor, 1))  (hp : pc + 1 = pc') (h : WL Γ cc nL own ret rm ws pc' lv (.long (x ||| y) :: st)) : WL Γ cc nL own ret rm ws pc lv (.long y :: .long x :: st) := by
  subst hp
  exact fun X H locs ls hP hD hS hl => lv_lor X.1 X.2.1 hd (h X H locs ls hP hD hS hl)
theorem w_ldiv {x y : Int64} (hd : decode cc pc = .ok (.ldiv, 1)) (hne : ¬ y = 0) (hp : pc + 1 = pc') (h : WL Γ cc nL own ret rm ws pc' lv (.long (x / y) :: st)) : WL Γ cc nL own ret rm ws pc lv (.long y :: .long x :: st) := by
  subst hp
  exact fun X H locs ls hP hD hS hl => lv_ldiv X.1 X.2.1 hd hne (h X H locs ls hP hD hS hl)
theorem w_lrem {x y : Int64} (hd : decode cc pc = .ok (.lrem, 1)) (hne : ¬ y = 0) (hp : pc + 1 = pc') (h : WL Γ cc nL own ret rm ws pc' lv (.long (x - x / y * y) :: st)) : WL Γ cc nL own ret rm ws pc lv (.long y :: .long x :: st) := by
  subst hp
  exact fun X H locs ls hP hD hS hl => lv_lrem X.1 X.2.1 hd hne (h X H locs ls hP hD hS hl)
theorem w_ineg {x : Int32} (hd : decode cc pc = .ok (.ineg, 1))  (hp : pc + 1 = pc') (h : WL Γ cc nL own ret rm ws pc' lv (.int (-x) :: st)) : WL Γ cc nL own ret rm ws pc lv (.int x :: st) := by
  subst hp
  exact fun X H locs ls hP hD hS hl => lv_ineg X.1 X.2.1 hd (h X H locs ls hP hD hS hl)
theorem w_lshl {x : Int64} {y : Int32} (hd : decode cc pc = .ok (.lshl, 1))  (hp : pc + 1 = pc') (h : WL Γ cc nL own ret rm ws pc' lv (.long (x <<< (y.toInt64 &&& 63)) :: st)) : WL Γ cc nL own ret rm ws pc lv (.int y :: .long x :: st) := by
  subst hp
  exact fun X H locs ls hP hD hS hl => lv_lshl X.1 X.2.1 hd rfl (h X H locs ls hP hD hS hl)
theorem w_lshr {x : Int64} {y : Int32} (hd : decode cc pc = .ok (.lshr, 1))  (hp : pc + 1 = pc') (h : WL Γ cc nL own ret rm ws pc' lv (.long (x >>> (y.toInt64 &&& 63)) :: st)) : WL Γ cc nL own ret rm ws pc lv (.int y :: .long x :: st) := by
  subst hp
  exact fun X H locs ls hP hD hS hl => lv_lshr X.1 X.2.1 hd rfl (h X H locs ls hP hD hS hl)
theorem w_i2l {x : Int32} (hd : decode cc pc = .ok (.i2l, 1))  (hp : pc + 1 = pc') (h : WL Γ cc nL own ret rm ws pc' lv (.long x.toInt64 :: st)) : WL Γ cc nL own ret rm ws pc lv (.int x :: st) := by
  subst hp
  exact fun X H locs ls hP hD hS hl => lv_i2l X.1 X.2.1 hd rfl (h X H locs ls hP hD hS hl)
theorem w_l2i {x : Int64} (hd : decode cc pc = .ok (.l2i, 1))  (hp : pc + 1 = pc') (h : WL Γ cc nL own ret rm ws pc' lv (.int x.toInt32 :: st)) : WL Γ cc nL own ret rm ws pc lv (.long x :: st) := by
  subst hp
  exact fun X H locs ls hP hD hS hl => lv_l2i X.1 X.2.1 hd rfl (h X H locs ls hP hD hS hl)
theorem w_i2b {x : Int32} (hd : decode cc pc = .ok (.i2b, 1))  (hp : pc + 1 = pc') (h : WL Γ cc nL own ret rm ws pc' lv (.int x.toInt8.toInt32 :: st)) : WL Γ cc nL own ret rm ws pc lv (.int x :: st) := by
  subst hp
  exact fun X H locs ls hP hD hS hl => lv_i2b X.1 X.2.1 hd rfl (h X H locs ls hP hD hS hl)
theorem w_i2s {x : Int32} (hd : decode cc pc = .ok (.i2s, 1))  (hp : pc + 1 = pc') (h : WL Γ cc nL own ret rm ws pc' lv (.int x.toInt16.toInt32 :: st)) : WL Γ cc nL own ret rm ws pc lv (.int x :: st) := by
  subst hp
  exact fun X H locs ls hP hD hS hl => lv_i2s X.1 X.2.1 hd rfl (h X H locs ls hP hD hS hl)
theorem w_lcmp {x y : Int64} (hd : decode cc pc = .ok (.lcmp, 1))  (hp : pc + 1 = pc') (h : WL Γ cc nL own ret rm ws pc' lv (.int (lg_cmp x y) :: st)) : WL Γ cc nL own ret rm ws pc lv (.long y :: .long x :: st) := by
  subst hp
  exact fun X H locs ls hP hD hS hl => W.lcmp X.1 X.2.1 hd (h X H locs ls hP hD hS hl)
theorem w_dup {v : Value} (hd : decode cc pc = .ok (.dup, 1)) (hc : v.category = 1) (hp : pc + 1 = pc') (h : WL Γ cc nL own ret rm ws pc' lv (v :: v :: st)) : WL Γ cc nL own ret rm ws pc lv (v :: st) := by
  subst hp
  exact fun X H locs ls hP hD hS hl => lv_dup X.1 X.2.1 hd hc (h X H locs ls hP hD hS hl)
theorem w_dup2 {v u : Value} (hd : decode cc pc = .ok (.dup2, 1)) (hc : v.category = 1) (hu : u.category = 1) (hp : pc + 1 = pc') (h : WL Γ cc nL own ret rm ws pc' lv (v :: u :: v :: u :: st)) : WL Γ cc nL own ret rm ws pc lv (v :: u :: st) := by
  subst hp
  exact fun X H locs ls hP hD hS hl => lv_dup2_11 X.1 X.2.1 hd hc hu (h X H locs ls hP hD hS hl)
theorem w_pop {v : Value} (hd : decode cc pc = .ok (.pop, 1)) (hc : v.category = 1) (hp : pc + 1 = pc') (h : WL Γ cc nL own ret rm ws pc' lv st) : WL Γ cc nL own ret rm ws pc lv (v :: st) := by
  subst hp
  exact fun X H locs ls hP hD hS hl => lv_pop X.1 X.2.1 hd hc (h X H locs ls hP hD hS hl)
theorem w_icmp_eq {x y : Int32} {off : Int} {tgt : Nat} (hd : decode cc pc = .ok (.if_icmp .eq off, 3)) (ht : (pc : Int) + off = (tgt : Int)) (hp : pc + 3 = pc') (kt : x = y → WL Γ cc nL own ret rm ws tgt lv st) (kf : ¬ x = y → WL Γ cc nL own ret rm ws pc' lv st) : WL Γ cc nL own ret rm ws pc lv (.int y :: .int x :: st) := by
  subst hp
  exact fun X H locs ls hP hD hS hl => lv_icmp_eq X.1 X.2.1 hd ht (fun q => kt q X H locs ls hP hD hS hl) (fun q => kf q X H locs ls hP hD hS hl)
theorem w_icmp_ne {x y : Int32} {off : Int} {tgt : Nat} (hd : decode cc pc = .ok (.if_icmp .ne off, 3)) (ht : (pc : Int) + off = (tgt : Int)) (hp : pc + 3 = pc') (kt : ¬ x = y → WL Γ cc nL own ret rm ws tgt lv st) (kf : x = y → WL Γ cc nL own ret rm ws pc' lv st) : WL Γ cc nL own ret rm ws pc lv (.int y :: .int x :: st) := by
  subst hp
  exact fun X H locs ls hP hD hS hl => lv_icmp_ne X.1 X.2.1 hd ht (fun q => kt q X H locs ls hP hD hS hl) (fun q => kf q X H locs ls hP hD hS hl)
theorem w_icmp_lt {x y : Int32} {off : Int} {tgt : Nat} (hd : decode cc pc = .ok (.if_icmp .lt off, 3)) (ht : (pc : Int) + off = (tgt : Int)) (hp : pc + 3 = pc') (kt : x < y → WL Γ cc nL own ret rm ws tgt lv st) (kf : ¬ x < y → WL Γ cc nL own ret rm ws pc' lv st) : WL Γ cc nL own ret rm ws pc lv (.int y :: .int x :: st) := by
  subst hp
  exact fun X H locs ls hP hD hS hl => lv_icmp_lt X.1 X.2.1 hd ht (fun q => kt q X H locs ls hP hD hS hl) (fun q => kf q X H locs ls hP hD hS hl)
theorem w_icmp_ge {x y : Int32} {off : Int} {tgt : Nat} (hd : decode cc pc = .ok (.if_icmp .ge off, 3)) (ht : (pc : Int) + off = (tgt : Int)) (hp : pc + 3 = pc') (kt : y ≤ x → WL Γ cc nL own ret rm ws tgt lv st) (kf : ¬ y ≤ x → WL Γ cc nL own ret rm ws pc' lv st) : WL Γ cc nL own ret rm ws pc lv (.int y :: .int x :: st) := by
  subst hp
  exact fun X H locs ls hP hD hS hl => lv_icmp_ge X.1 X.2.1 hd ht (fun q => kt q X H locs ls hP hD hS hl) (fun q => kf q X H locs ls hP hD hS hl)
theorem w_icmp_gt {x y : Int32} {off : Int} {tgt : Nat} (hd : decode cc pc = .ok (.if_icmp .gt off, 3)) (ht : (pc : Int) + off = (tgt : Int)) (hp : pc + 3 = pc') (kt : y < x → WL Γ cc nL own ret rm ws tgt lv st) (kf : ¬ y < x → WL Γ cc nL own ret rm ws pc' lv st) : WL Γ cc nL own ret rm ws pc lv (.int y :: .int x :: st) := by
  subst hp
  exact fun X H locs ls hP hD hS hl => lv_icmp_gt X.1 X.2.1 hd ht (fun q => kt q X H locs ls hP hD hS hl) (fun q => kf q X H locs ls hP hD hS hl)
theorem w_icmp_le {x y : Int32} {off : Int} {tgt : Nat} (hd : decode cc pc = .ok (.if_icmp .le off, 3)) (ht : (pc : Int) + off = (tgt : Int)) (hp : pc + 3 = pc') (kt : x ≤ y → WL Γ cc nL own ret rm ws tgt lv st) (kf : ¬ x ≤ y → WL Γ cc nL own ret rm ws pc' lv st) : WL Γ cc nL own ret rm ws pc lv (.int y :: .int x :: st) := by
  subst hp
  exact fun X H locs ls hP hD hS hl => lv_icmp_le X.1 X.2.1 hd ht (fun q => kt q X H locs ls hP hD hS hl) (fun q => kf q X H locs ls hP hD hS hl)
theorem w_if_eq {x : Int32} {off : Int} {tgt : Nat} (hd : decode cc pc = .ok (.ifCond .eq off, 3)) (ht : (pc : Int) + off = (tgt : Int)) (hp : pc + 3 = pc') (kt : x = 0 → WL Γ cc nL own ret rm ws tgt lv st) (kf : ¬ x = 0 → WL Γ cc nL own ret rm ws pc' lv st) : WL Γ cc nL own ret rm ws pc lv (.int x :: st) := by
  subst hp
  exact fun X H locs ls hP hD hS hl => lv_if_eq X.1 X.2.1 hd ht (fun q => kt q X H locs ls hP hD hS hl) (fun q => kf q X H locs ls hP hD hS hl)
theorem w_if_ne {x : Int32} {off : Int} {tgt : Nat} (hd : decode cc pc = .ok (.ifCond .ne off, 3)) (ht : (pc : Int) + off = (tgt : Int)) (hp : pc + 3 = pc') (kt : ¬ x = 0 → WL Γ cc nL own ret rm ws tgt lv st) (kf : x = 0 → WL Γ cc nL own ret rm ws pc' lv st) : WL Γ cc nL own ret rm ws pc lv (.int x :: st) := by
  subst hp
  exact fun X H locs ls hP hD hS hl => lv_if_ne X.1 X.2.1 hd ht (fun q => kt q X H locs ls hP hD hS hl) (fun q => kf q X H locs ls hP hD hS hl)
theorem w_if_lt {x : Int32} {off : Int} {tgt : Nat} (hd : decode cc pc = .ok (.ifCond .lt off, 3)) (ht : (pc : Int) + off = (tgt : Int)) (hp : pc + 3 = pc') (kt : x < 0 → WL Γ cc nL own ret rm ws tgt lv st) (kf : ¬ x < 0 → WL Γ cc nL own ret rm ws pc' lv st) : WL Γ cc nL own ret rm ws pc lv (.int x :: st) := by
  subst hp
  exact fun X H locs ls hP hD hS hl => lv_if_lt X.1 X.2.1 hd ht (fun q => kt q X H locs ls hP hD hS hl) (fun q => kf q X H locs ls hP hD hS hl)
theorem w_if_ge {x : Int32} {off : Int} {tgt : Nat} (hd : decode cc pc = .ok (.ifCond .ge off, 3)) (ht : (pc : Int) + off = (tgt : Int)) (hp : pc + 3 = pc') (kt : 0 ≤ x → WL Γ cc nL own ret rm ws tgt lv st) (kf : ¬ 0 ≤ x → WL Γ cc nL own ret rm ws pc' lv st) : WL Γ cc nL own ret rm ws pc lv (.int x :: st) := by
  subst hp
  exact fun X H locs ls hP hD hS hl => lv_if_ge X.1 X.2.1 hd ht (fun q => kt q X H locs ls hP hD hS hl) (fun q => kf q X H locs ls hP hD hS hl)
theorem w_if_gt {x : Int32} {off : Int} {tgt : Nat} (hd : decode cc pc = .ok (.ifCond .gt off, 3)) (ht : (pc : Int) + off = (tgt : Int)) (hp : pc + 3 = pc') (kt : 0 < x → WL Γ cc nL own ret rm ws tgt lv st) (kf : ¬ 0 < x → WL Γ cc nL own ret rm ws pc' lv st) : WL Γ cc nL own ret rm ws pc lv (.int x :: st) := by
  subst hp
  exact fun X H locs ls hP hD hS hl => lv_if_gt X.1 X.2.1 hd ht (fun q => kt q X H locs ls hP hD hS hl) (fun q => kf q X H locs ls hP hD hS hl)
theorem w_if_le {x : Int32} {off : Int} {tgt : Nat} (hd : decode cc pc = .ok (.ifCond .le off, 3)) (ht : (pc : Int) + off = (tgt : Int)) (hp : pc + 3 = pc') (kt : x ≤ 0 → WL Γ cc nL own ret rm ws tgt lv st) (kf : ¬ x ≤ 0 → WL Γ cc nL own ret rm ws pc' lv st) : WL Γ cc nL own ret rm ws pc lv (.int x :: st) := by
  subst hp
  exact fun X H locs ls hP hD hS hl => lv_if_le X.1 X.2.1 hd ht (fun q => kt q X H locs ls hP hD hS hl) (fun q => kf q X H locs ls hP hD hS hl)
theorem w_goto {off : Int} {tgt : Nat} (hd : decode cc pc = .ok (.goto off, 3)) (ht : (pc : Int) + off = (tgt : Int)) (h : WL Γ cc nL own ret rm ws tgt lv st) : WL Γ cc nL own ret rm ws pc lv st :=
  fun X H locs ls hP hD hS hl => lv_goto X.1 X.2.1 hd ht (h X H locs ls hP hD hS hl)
theorem w_tableIn {dflt lo hi : Int} {offs : Array Int} {len : Nat} {x : Int32} {off : Int} {tgt : Nat} (hd : decode cc pc = .ok (.tableswitch dflt lo hi offs, len)) (h1 : ¬ x.toInt < lo) (h2 : ¬ hi < x.toInt) (ho : offs[(x.toInt - lo).toNat]? = some off) (ht : (pc : Int) + off = (tgt : Int)) (h : WL Γ cc nL own ret rm ws tgt lv st) : WL Γ cc nL own ret rm ws pc lv (.int x :: st) :=
  fun X H locs ls hP hD hS hl => lv_tableIn X.1 X.2.1 hd h1 h2 ho ht (h X H locs ls hP hD hS hl)
theorem w_tableOut {dflt lo hi : Int} {offs : Array Int} {len : Nat} {x : Int32} {tgt : Nat} (hd : decode cc pc = .ok (.tableswitch dflt lo hi offs, len)) (hx : x.toInt < lo ∨ hi < x.toInt) (ht : (pc : Int) + dflt = (tgt : Int)) (h : WL Γ cc nL own ret rm ws tgt lv st) : WL Γ cc nL own ret rm ws pc lv (.int x :: st) :=
  fun X H locs ls hP hD hS hl => lv_tableOut X.1 X.2.1 hd hx ht (h X H locs ls hP hD hS hl)
theorem w_lookup {dflt : Int} {ps : Array (Int × Int)} {len : Nat} {x : Int32} {off : Int} {tgt : Nat} (hd : decode cc pc = .ok (.lookupswitch dflt ps, len)) (hq : (ps.toList.zip (ps.toList.drop 1)).all (fun (a, next) => a.1 < next.1) = true) (ho : Op.lookupswitch.offset ps.toList dflt x.toInt = off) (ht : (pc : Int) + off = (tgt : Int)) (h : WL Γ cc nL own ret rm ws tgt lv st) : WL Γ cc nL own ret rm ws pc lv (.int x :: st) :=
  fun X H locs ls hP hD hS hl => lv_lookup X.1 X.2.1 hd hq ho ht (h X H locs ls hP hD hS hl)
end RU
/-! ===== functions out of the code: what they are made of ===== -/
def FU : Nat := 5000
def inb (i : Int32) (n : Nat) : Bool := decide (0 ≤ i.toInt) && decide (i.toInt < n)
def bz (x : Int32) : Bool := decide (x = 0) || decide (x = 1)
def gd {α : Type} (b : Bool) (k : Option α) : Option α := if b = true then k else none
def bnd {α β : Type} (a : α) (k : α → Option β) : Option β := k a
def bd {α β : Type} (o : Option (α × St)) (k : α → St → Option β) : Option β := match o with
  | some r => k r.1 r.2
  | none => none
def itr {α β : Type} (body : (α → Option β) → α → Option β) : Nat → α → Option β
  | 0, _ => none
  | n + 1, x => body (itr body n) x
theorem inb_in {i : Int32} {n : Nat} (h : inb i n = true) : vp_in i n := by
  simp only [inb, Bool.and_eq_true, decide_eq_true_eq] at h
  exact vp_in_iff.mpr h
/-- the function's value is what comes back -/
def RR {α : Type} (val : α → Option Value) (Γ : CX) (o : Option (α × St)) : Prop := ∃ r, o = some r ∧ xQ Γ = MQ (xb Γ) (QC (xD Γ) (xy Γ) (xd Γ) (val r.1) r.2 (xA Γ)) (xa Γ) (xs Γ) (xk Γ) (xn Γ) (xA Γ)
def vI (r : Int32) : Option Value := some (.int r)
def vL (r : Int64) : Option Value := some (.long r)
def vU (_ : Unit) : Option Value := none
section RRs
variable {α β : Type} {val : α → Option Value} {Γ : CX}
theorem RR.tt {c : Prop} {dc : Decidable c} {a b : Option (α × St)} (h : RR val Γ (@ite _ c dc a b)) (hc : c) : RR val Γ a := by rw [if_pos hc] at h; exact h
theorem RR.ff {c : Prop} {dc : Decidable c} {a b : Option (α × St)} (h : RR val Γ (@ite _ c dc a b)) (hc : ¬ c) : RR val Γ b := by rw [if_neg hc] at h; exact h
theorem RR.gd {b : Bool} {k : Option (α × St)} (h : RR val Γ (gd b k)) : b = true ∧ RR val Γ k := by
  cases b with
  | true => exact ⟨rfl, h⟩
  | false => obtain ⟨r, h1, -⟩ := h; cases h1
theorem RR.bnd {a y : β} {k : β → Option (α × St)} (h : RR val Γ (bnd a k)) (e : y = a) : RR val Γ (k y) := by subst e; exact h
theorem RR.bd {o : Option (β × St)} {k : β → St → Option (α × St)} (h : RR val Γ (bd o k)) : ∃ r s, o = some (r, s) ∧ RR val Γ (k r s) := by
  cases o with
  | none => obtain ⟨r, h1, -⟩ := h; cases h1
  | some q => exact ⟨q.1, q.2, rfl, h⟩
theorem RR.no {P : Prop} (h : RR val Γ none) : P := by obtain ⟨r, h1, -⟩ := h; cases h1
theorem RR.re {r : α} {s : St} (h : RR val Γ (some (r, s))) : xQ Γ = MQ (xb Γ) (QC (xD Γ) (xy Γ) (xd Γ) (val r) s (xA Γ)) (xa Γ) (xs Γ) (xk Γ) (xn Γ) (xA Γ) := by obtain ⟨q, h1, h2⟩ := h; cases h1; exact h2
end RRs
/-! ===== returns ===== -/
section RT
variable {Γ : CX} {cc : ByteArray} {nL : Nat} {own : String} {rm : Room} {σ : St} {pc pc' : Nat} {lv lv' : List (Nat × Value)} {st : List Value}
theorem w_end {v : Option Value} {H : Heap} {locs : List Loc} (hK : va_K (xD Γ) vwCl (tyK (xy Γ)) (xs Γ)) (hP : va_P (xD Γ) vwCl (Wd (xy Γ) (xd Γ) σ) H) (hD : va_D (xA Γ) (Wd (xy Γ) (xd Γ) σ)) (hS : va_S (xA Γ) (xs Γ).heap H locs) (t : State) (ht : t.heap = H) (hW : (xs Γ).WarmedH t.vm) : QC (xD Γ) (xy Γ) (xd Γ) v σ (xA Γ) (xa Γ) (xs Γ) (.returned v) t := by
  exact ⟨⟨rfl, by rw [ht]; exact hP, va_K.moved hW.alike hK, hD⟩, hS.F ht⟩
theorem w_ireturn {x : Int32} (hd : decode cc pc = .ok (.ireturn, 1)) (h : RR vI Γ (some (x, σ))) : WW Γ cc nL own (some .int) rm σ pc lv [.int x] := by
  have e := h.re
  intro X H locs ls hP hD hS hl
  obtain ⟨hx, hb, -, -, -, hK, hlk, -, -, -, hr, -⟩ := X
  rw [e]
  exact W.iret hx hb hr (w_end hK hP hD hS) hS.2.2 hd hlk
theorem w_zreturn {x : Int32} (hd : decode cc pc = .ok (.ireturn, 1)) (hz : bz x = true) (h : RR vI Γ (some (x, σ))) : WW Γ cc nL own (some .boolean) rm σ pc lv [.int x] := by
  have e := h.re
  intro X H locs ls hP hD hS hl
  obtain ⟨hx, hb, -, -, -, hK, hlk, -, -, -, hr, -⟩ := X
  rw [e]
  refine W.zret hx hb hr ?_ (w_end hK hP hD hS) hS.2.2 hd hlk
  simp only [bz, Bool.or_eq_true, decide_eq_true_eq] at hz
  rcases hz with rfl | rfl <;> rfl
theorem w_lreturn {x : Int64} (hd : decode cc pc = .ok (.lreturn, 1)) (h : RR vL Γ (some (x, σ))) : WW Γ cc nL own (some .long) rm σ pc lv [.long x] := by
  have e := h.re
  intro X H locs ls hP hD hS hl
  obtain ⟨hx, hb, -, -, -, hK, hlk, -, -, -, hr, -⟩ := X
  rw [e]
  exact W.lret hx hb hr (w_end hK hP hD hS) hS.2.2 hd hlk
theorem w_return {x : Unit} (hd : decode cc pc = .ok (.return_, 1)) (h : RR vU Γ (some (x, σ))) : WW Γ cc nL own none rm σ pc lv [] := by
  have e := h.re
  intro X H locs ls hP hD hS hl
  obtain ⟨hx, hb, -, -, -, hK, hlk, -, -, -, hr, -⟩ := X
  rw [e]
  exact W.vret hx hb hr (w_end hK hP hD hS) hS.2.2 hd hlk
end RT
/-! ===== fields and rows ===== -/
section HP
variable {Γ : CX} {cc : ByteArray} {nL : Nat} {own : String} {ret : Option FieldType} {rm : Room} {σ : St} {pc pc' : Nat} {lv lv' : List (Nat × Value)} {st : List Value}
theorem w_get {i ci k index N : Nat} {ref C : String} {T : u_T} {fs : List Value} {v : Value} (hi : i < nA σ) (hc : cel (xy Γ) (xd Γ) σ i = .inr (ci, fs)) (hcl : vwCl[ci]? = some (C, T, N)) (hk : k < N) (hv : fs[k]? = some v) (hin : ∀ w ∈ u_ws C T N, w ∈ TB) (hlink : Cond.fieldLink own index ref (T k).2.1 (T k).2.2.1 ∈ TB) (hsame : (T k).1 = ref)
    (hd : decode cc pc = .ok (.getfield index, 3)) (hp : pc + 3 = pc') (h : WW Γ cc nL own ret rm σ pc' lv (v :: st)) : WW Γ cc nL own ret rm σ pc lv (.ref (xd Γ i) :: st) := by
  subst hp
  subst hsame
  intro X H locs ls hP hD hS hl
  refine va_get (D := xD Γ) (ci := ci) (v := v) (C := C) (T := T) (N := N) X.1 X.2.1 X.2.2.2.2.1 hin X.2.2.2.1 X.2.2.2.2.2.1 hP i ?_ hcl k hk (X.2.2.2.2.1 _ hlink) (fun _ h9 => h9) hv hd (h X H locs ls hP hD hS hl)
  rw [wd_at hi, hc]
theorem w_put {i ci k index N : Nat} {ref C : String} {T : u_T} {fs : List Value} {v : Value} {ty : FieldType} {σ' : St} (ty0 : Nat → FieldType) (hi : i < nA σ) (hc : cel (xy Γ) (xd Γ) σ i = .inr (ci, fs)) (hcl : vwCl[ci]? = some (C, T, N)) (hk : k < N) (hin : ∀ w ∈ u_ws C T N, w ∈ TB) (hlink : Cond.fieldLink own index ref (T k).2.1 (T k).2.2.1 ∈ TB) (hsame : (T k).1 = ref)
    (hty : ∀ k, k < N → parseFieldDescriptor (T k).2.2.1 = some (ty0 k)) (hnm : ∀ a, a < N → ∀ b, b < N → a ≠ b → (T a).2.1 ≠ (T b).2.1) (hfin : (T k).2.2.2 = false) (hdt : parseFieldDescriptor (T k).2.2.1 = some ty) (hn : narrow ty v = v) (hfit : fits ty v = true) (hl : k < fs.length)
    (hs : gn σ' = gn σ ∧ cel (xy Γ) (xd Γ) σ' i = .inr (ci, fs.set k v) ∧ ∀ j, j ≠ i → cel (xy Γ) (xd Γ) σ' j = cel (xy Γ) (xd Γ) σ j)
    (hd : decode cc pc = .ok (.putfield index, 3)) (hp : pc + 3 = pc') (h : WW Γ cc nL own ret rm σ' pc' lv st) : WW Γ cc nL own ret rm σ pc lv (v :: .ref (xd Γ i) :: st) := by
  subst hp
  subst hsame
  intro X H locs ls hP hD hS hls
  refine va_put (D := xD Γ) (ci := ci) (v := v) (ty := ty) (C := C) (T := T) (N := N) X.1 X.2.1 X.2.2.2.2.1 hin ty0 hty hnm X.2.2.2.1 X.2.2.2.2.2.1 hP hD hS i (by rw [wd_at hi, hc]) hcl k hk (X.2.2.2.2.1 _ hlink) (fun _ h9 => h9) hfin hdt hn hfit hl hd (fun H1 locs1 hP1 hD1 hS1 => ?_)
  rw [wd_set hs.1 hs.2.1 hs.2.2] at hP1 hD1
  exact h X H1 locs1 ls hP1 hD1 hS1 hls
theorem w_iald {i : Nat} {x : Int32} (hi : i < nA σ) (hk : kd i = 13) (hin : inb x (ln i) = true) (hd : decode cc pc = .ok (.iaload, 1)) (hp : pc + 1 = pc') (h : WW Γ cc nL own ret rm σ pc' lv (.int (gr σ i x.toNatClampNeg) :: st)) : WW Γ cc nL own ret rm σ pc lv (.int x :: .ref (xd Γ i) :: st) := by
  subst hp
  intro X H locs ls hP hD hS hl
  exact va_iald X.1 X.2.1 X.2.2.2.2.2.1 hP i 1 (by rw [wd_at hi]; simp [cel, hk]) rfl (inb_in hin) hd (h X H locs ls hP hD hS hl)
theorem w_bald {i : Nat} {x : Int32} (hi : i < nA σ) (hk : kd i = 12) (hin : inb x (ln i) = true) (hd : decode cc pc = .ok (.baload, 1)) (hp : pc + 1 = pc') (h : WW Γ cc nL own ret rm σ pc' lv (.int (gr σ i x.toNatClampNeg) :: st)) : WW Γ cc nL own ret rm σ pc lv (.int x :: .ref (xd Γ i) :: st) := by
  subst hp
  intro X H locs ls hP hD hS hl
  exact va_bald X.1 X.2.1 X.2.2.2.2.2.1 hP i 0 (by rw [wd_at hi]; simp [cel, hk]) rfl (inb_in hin) hd (h X H locs ls hP hD hS hl)
theorem w_zald {i : Nat} {x : Int32} (hi : i < nA σ) (hk : kd i = 15) (hin : inb x (ln i) = true) (hd : decode cc pc = .ok (.baload, 1)) (hp : pc + 1 = pc') (h : WW Γ cc nL own ret rm σ pc' lv (.int (gr σ i x.toNatClampNeg) :: st)) : WW Γ cc nL own ret rm σ pc lv (.int x :: .ref (xd Γ i) :: st) := by
  subst hp
  intro X H locs ls hP hD hS hl
  exact va_zald X.1 X.2.1 X.2.2.2.2.2.1 hP i 3 (by rw [wd_at hi]; simp [cel, hk]) rfl (inb_in hin) hd (h X H locs ls hP hD hS hl)
theorem w_lald {i : Nat} {x : Int32} (hi : i < nA σ) (hk : kd i = 14) (hin : inb x (ln i) = true) (hd : decode cc pc = .ok (.laload, 1)) (hp : pc + 1 = pc') (h : WW Γ cc nL own ret rm σ pc' lv (.long (gj σ i x.toNatClampNeg) :: st)) : WW Γ cc nL own ret rm σ pc lv (.int x :: .ref (xd Γ i) :: st) := by
  subst hp
  intro X H locs ls hP hD hS hl
  exact va_lald X.1 X.2.1 X.2.2.2.2.2.1 hP i 2 (by rw [wd_at hi]; simp [cel, hk]) rfl (inb_in hin) hd (h X H locs ls hP hD hS hl)
theorem w_alen {i : Nat} (hi : i < nA σ) (hk : kd i = 13 ∨ kd i = 12 ∨ kd i = 14 ∨ kd i = 15) (hd : decode cc pc = .ok (.arraylength, 1)) (hp : pc + 1 = pc') (h : WW Γ cc nL own ret rm σ pc' lv (.int (nI (ln i)) :: st)) : WW Γ cc nL own ret rm σ pc lv (.ref (xd Γ i) :: st) := by
  subst hp
  intro X H locs ls hP hD hS hl
  rcases hk with hk | hk | hk | hk
  · exact va_alen X.1 X.2.1 X.2.2.2.2.2.1 hP i 1 (x := (ln i, .inl (gr σ i))) (by rw [wd_at hi]; simp [cel, hk]) rfl rfl hd (h X H locs ls hP hD hS hl)
  · exact va_alen X.1 X.2.1 X.2.2.2.2.2.1 hP i 0 (x := (ln i, .inl (gr σ i))) (by rw [wd_at hi]; simp [cel, hk]) rfl rfl hd (h X H locs ls hP hD hS hl)
  · exact va_alen X.1 X.2.1 X.2.2.2.2.2.1 hP i 2 (x := (ln i, .inr (.inl (gj σ i)))) (by rw [wd_at hi]; simp [cel, hk]) rfl rfl hd (h X H locs ls hP hD hS hl)
  · exact va_alen X.1 X.2.1 X.2.2.2.2.2.1 hP i 3 (x := (ln i, .inl (gr σ i))) (by rw [wd_at hi]; simp [cel, hk]) rfl rfl hd (h X H locs ls hP hD hS hl)
theorem wd_sr {cy : Nat → ClassId} {ad : Nat → Nat} {i k : Nat} {v : Int32} {e : va_E} (he : cel cy ad (sr σ i k v) i = e) : (Wd cy ad σ).set i (ad i, e) = Wd cy ad (sr σ i k v) := wd_set rfl he (fun _ hj => cel_sR hj)
theorem w_iast {i : Nat} {x v : Int32} (hi : i < nA σ) (hk : kd i = 13) (hin : inb x (ln i) = true) (hd : decode cc pc = .ok (.iastore, 1)) (hp : pc + 1 = pc') (h : WW Γ cc nL own ret rm (sr σ i x.toNatClampNeg v) pc' lv st) : WW Γ cc nL own ret rm σ pc lv (.int v :: .int x :: .ref (xd Γ i) :: st) := by
  subst hp
  intro X H locs ls hP hD hS hl
  refine va_iast X.1 X.2.1 X.2.2.2.2.2.1 hP hD hS i 1 (cA := xy Γ 13) (n := ln i) (f := gr σ i) (by rw [wd_at hi]; simp [cel, hk]) rfl (inb_in hin) hd (fun H1 locs1 hP1 hD1 hS1 => ?_)
  rw [wd_sr (k := x.toNatClampNeg) (v := v) (by simp [cel, hk, sr, gr_sR])] at hP1 hD1
  exact h X H1 locs1 ls hP1 hD1 hS1 hl
theorem w_bast {i : Nat} {x v : Int32} (hi : i < nA σ) (hk : kd i = 12) (hin : inb x (ln i) = true) (hd : decode cc pc = .ok (.bastore, 1)) (hp : pc + 1 = pc') (h : WW Γ cc nL own ret rm (sr σ i x.toNatClampNeg (vp_nar .byte v)) pc' lv st) : WW Γ cc nL own ret rm σ pc lv (.int v :: .int x :: .ref (xd Γ i) :: st) := by
  subst hp
  intro X H locs ls hP hD hS hl
  refine va_bast X.1 X.2.1 X.2.2.2.2.2.1 hP hD hS i 0 (cA := xy Γ 12) (n := ln i) (f := gr σ i) (by rw [wd_at hi]; simp [cel, hk]) rfl (inb_in hin) hd (fun H1 locs1 hP1 hD1 hS1 => ?_)
  rw [wd_sr (k := x.toNatClampNeg) (v := vp_nar .byte v) (by simp [cel, hk, sr, gr_sR])] at hP1 hD1
  exact h X H1 locs1 ls hP1 hD1 hS1 hl
theorem w_zast {i : Nat} {x v : Int32} (hi : i < nA σ) (hk : kd i = 15) (hin : inb x (ln i) = true) (hd : decode cc pc = .ok (.bastore, 1)) (hp : pc + 1 = pc') (h : WW Γ cc nL own ret rm (sr σ i x.toNatClampNeg (vp_nar .boolean v)) pc' lv st) : WW Γ cc nL own ret rm σ pc lv (.int v :: .int x :: .ref (xd Γ i) :: st) := by
  subst hp
  intro X H locs ls hP hD hS hl
  refine va_zast X.1 X.2.1 X.2.2.2.2.2.1 hP hD hS i 3 (cA := xy Γ 15) (n := ln i) (f := gr σ i) (by rw [wd_at hi]; simp [cel, hk]) rfl (inb_in hin) hd (fun H1 locs1 hP1 hD1 hS1 => ?_)
  rw [wd_sr (k := x.toNatClampNeg) (v := vp_nar .boolean v) (by simp [cel, hk, sr, gr_sR])] at hP1 hD1
  exact h X H1 locs1 ls hP1 hD1 hS1 hl
theorem w_last {i : Nat} {x : Int32} {v : Int64} (hi : i < nA σ) (hk : kd i = 14) (hin : inb x (ln i) = true) (hd : decode cc pc = .ok (.lastore, 1)) (hp : pc + 1 = pc') (h : WW Γ cc nL own ret rm (sj σ i x.toNatClampNeg v) pc' lv st) : WW Γ cc nL own ret rm σ pc lv (.long v :: .int x :: .ref (xd Γ i) :: st) := by
  subst hp
  intro X H locs ls hP hD hS hl
  refine va_last X.1 X.2.1 X.2.2.2.2.2.1 hP hD hS i 2 (cA := xy Γ 14) (n := ln i) (f := gj σ i) (by rw [wd_at hi]; simp [cel, hk]) rfl (inb_in hin) hd (fun H1 locs1 hP1 hD1 hS1 => ?_)
  rw [show (Wd (xy Γ) (xd Γ) σ).set i (xd Γ i, .inl (xy Γ 14, ln i, .inr (.inl (vp_updL (gj σ i) x.toNatClampNeg v)))) = Wd (xy Γ) (xd Γ) (sj σ i x.toNatClampNeg v) from wd_set rfl (by simp [cel, hk, sj, gj_sJ]) (fun _ hj => cel_sJ hj)] at hP1 hD1
  exact h X H1 locs1 ls hP1 hD1 hS1 hl
end HP
/-! ===== entry and calls ===== -/
theorem ct_of {l : Launch} {D : va_G} {cy : Nat → ClassId} {ad : Nat → Nat} {y : MethodName} {b : ByteArray} {n : Nat} {ret : Option FieldType} {rm : Room} {av : List Value} {σ σ' : St} {v : Option Value} (hy : plainName y.cls = true) (hn : (lg_sl av).length ≤ n)
    (h : ∀ (p : Program) (e : Env) (s : State) (m : MethodId) (args : Array Value) (below : List Frame) (meth : Method) (c : Code) (A : Nat → Prop), WW (p, l, e, rm, s, m, args, below, meth, c, D, cy, ad, A, 0, 0, MQ below (QC D cy ad v σ' A) args s 0 0 A) b n y.cls ret rm σ 0 (lv_args 0 av) []) : CT l D cy ad y b n ret rm av σ v σ' := by
  intro sz
  refine Met.ofW (cc := b) (maxL := n) (ret := ret) hy rfl ?_
  intro p e s m args below meth c s₁ B hml hv
  obtain ⟨rfl, hsz, hP, hK, hD0, hSK, hSR⟩ := hv
  have hts := atoms_spec (ws := Cond.code y b n ret :: TB) B.pre
  have hown : s.vm.findClass y.cls = some m.cls := findClass_of_methodNamed B.named
  subst hsz
  have hD := hD0.self (sz := s.heap.size)
  have hl := lv_entry av (n := n) hn
  rw [lg_entry_eq]
  exact h p e s m av.toArray below meth c (va_A (Wd cy ad σ) s.heap.size) ⟨B.exec, B.bytes, hml, hown, fun w hw => hts w (List.mem_cons_of_mem _ hw), hK, B.notSynchronized, fun q hq => Or.inr hq, Nat.zero_le _, Nat.zero_le _, B.returns, rfl, hSK, hSR⟩ s.heap [] _ hP hD va_S.rf hl
section CL
variable {Γ : CX} {cc : ByteArray} {nL : Nat} {own : String} {ret : Option FieldType} {rm : Room} {σ σ' : St} {pc pc' : Nat} {lv lv' : List (Nat × Value)} {st rest st0 : List Value} {v : Option Value}
theorem w_fc {H : Heap} {locs : List Loc} (hA : ∀ q : Nat, (xs Γ).heap.size ≤ q → xA Γ q) (hD : va_D (xA Γ) (Wd (xy Γ) (xd Γ) σ)) (hS : va_S (xA Γ) (xs Γ).heap H locs) : ∀ q, va_A (Wd (xy Γ) (xd Γ) σ) H.size q → xA Γ q := by
  intro q h
  rcases h with ⟨k, e, h⟩ | h
  · exact hD.2 k _ h
  · exact hA q (Nat.le_trans hS.1 h)
theorem w_run {a : Array Value} (hrun : Okc Γ cc nL own ret rm → ∀ (H : Heap) (locs : List Loc) (ls : Array Slot), va_P (xD Γ) vwCl (Wd (xy Γ) (xd Γ) σ) H → va_D (xA Γ) (Wd (xy Γ) (xd Γ) σ) → va_S (xA Γ) (xs Γ).heap H locs → lv_has ls nL lv →
      va_Run (xp Γ) (xl Γ) (xE Γ) (xR Γ) (xs Γ) (xm Γ) (xa Γ) (xb Γ) (xM Γ) (xc Γ) H locs (xk Γ) (xn Γ) 0 0 (F0 (xm Γ) pc ls st0) rest (QC (xD Γ) (xy Γ) (xd Γ) v σ' (va_A (Wd (xy Γ) (xd Γ) σ) H.size) a) (va_A (Wd (xy Γ) (xd Γ) σ) H.size))
    (hp : pc + 3 = pc') (h : WW Γ cc nL own ret rm σ' pc' lv (v.toList ++ rest)) : WW Γ cc nL own ret rm σ pc lv st0 := by
  subst hp
  intro X H locs ls hP hD hS hl T hT Xs
  have hF := w_fc X.2.2.2.2.2.2.2.1 hD hS
  obtain ⟨v', st₀, t, T', L, h0, X', hL, e1, e2, ⟨⟨hv, hP1, -, hD1⟩, hz, hk⟩, stp⟩ := hrun X H locs ls hP hD hS hl T hT Xs
  cases hv
  rw [h0] at hz hk
  obtain ⟨t2, a1, b1⟩ := h X T'.heap (locs ++ L) ls (by rw [e1]; exact hP1) (hD1.weaken (fun _ q _ z => hF q.1 z))
    ⟨Nat.le_trans hS.1 (by rw [e1]; exact hz), fun q h1 h2 => by rw [e1, hk q (Nat.lt_of_lt_of_le h1 hS.1) (fun z => h2 (hF q z))]; exact hS.2.1 q h1 h2, fun q hq => by
      rcases List.mem_append.mp hq with z | z
      · exact hS.2.2 q z
      · exact hF _ (hL q z)⟩ hl T' rfl X'
  exact ⟨t2, stp t2 a1, b1⟩
theorem w_blind {D : va_G} {cy : Nat → ClassId} {ad : Nat → Nat} {av : List Value} {sz : Nat} : FrameBlind (va_Pc av (PreW D cy ad σ sz)) := fun a U g mk q => by
  obtain ⟨q0, q1, qP, qK, qD, qS, qR⟩ := q
  exact ⟨q0, q1, qP, va_K.moved (u := U) (U := U.calling g mk a) (Vm.Alike.refl U.vm) qK, qD, SK.go (u := U) (U := U.calling g mk a) (Vm.Alike.refl U.vm) (fun _ h => h) (fun _ _ _ => rfl) qS, SR.same (u := U) (U := U.calling g mk a) rfl qR⟩
theorem w_pre {H : Heap} {locs : List Loc} {av : List Value} (X : Okc Γ cc nL own ret rm) (hS : va_S (xA Γ) (xs Γ).heap H locs) (hK : va_K (xD Γ) vwCl (tyK (xy Γ)) (xs Γ)) (hP : va_P (xD Γ) vwCl (Wd (xy Γ) (xd Γ) σ) H) (hD : va_D (xA Γ) (Wd (xy Γ) (xd Γ) σ)) (U : State) (hU : U.heap = H) (hW : (xs Γ).WarmedH U.vm) : va_Pc av (PreW (xD Γ) (xy Γ) (xd Γ) σ H.size) av.toArray U :=
  ⟨rfl, by rw [hU], by rw [hU]; exact hP, va_K.moved hW.alike hK, hD.weaken (fun _ _ _ _ => trivial), by rw [hU]; exact SK.go hW.alike (w_fc X.2.2.2.2.2.2.2.1 hD hS) hS.2.1 X.2.2.2.2.2.2.2.2.2.2.2.2.1, SR.warm hW X.2.2.2.2.2.2.2.2.2.2.2.2.2⟩
/-- the words of a call, when caller and callee have the same -/
theorem g_V {idx : Nat} {C : String} {y : MethodName} {b : ByteArray} {n : Nat} {rt : Option FieldType} (hl : Cond.methodLink own idx y ∈ TB) (hy : Cond.instanceMethod y ∈ TB ∧ Cond.selects C y y ∈ TB ∧ Cond.initialized C ∈ TB ∧ Cond.code y b n rt ∈ TB) : GoodIn TB (wsV own idx C y (Cond.code y b n rt :: TB)) := by
  intro w hw
  simp only [wsV, List.cons_append, List.nil_append, List.mem_cons] at hw
  rcases hw with rfl | rfl | rfl | rfl | rfl | hw
  · exact tb_g hl
  · exact tb_g hy.1
  · exact tb_g hy.2.1
  · exact tb_g hy.2.2.1
  · exact tb_g hy.2.2.2
  · exact tb_g hw
theorem g_S {idx : Nat} {y : MethodName} {b : ByteArray} {n : Nat} {rt : Option FieldType} (hl : Cond.methodLink own idx y ∈ TB) (hy : Cond.static y ∈ TB ∧ Cond.initialized y.cls ∈ TB ∧ Cond.code y b n rt ∈ TB) : GoodIn TB (va_wsS own idx y (Cond.code y b n rt :: TB)) := by
  intro w hw
  simp only [va_wsS, List.cons_append, List.nil_append, List.mem_cons] at hw
  rcases hw with rfl | rfl | rfl | rfl | hw
  · exact tb_g hl
  · exact tb_g hy.1
  · exact tb_g hy.2.1
  · exact tb_g hy.2.2
  · exact tb_g hw
theorem w_callV {y : MethodName} {b : ByteArray} {n i ci nn idx : Nat} {rt : Option FieldType} {rmc : Room} {As : List Value} {C : String} {T : u_T} {N : Nat} {fs : List Value}
    (hc : CT (xl Γ) (xD Γ) (xy Γ) (xd Γ) y b n rt rmc (.ref (xd Γ i) :: As) σ v σ') (hl : Cond.methodLink own idx y ∈ TB) (hy : Cond.instanceMethod y ∈ TB ∧ Cond.selects C y y ∈ TB ∧ Cond.initialized C ∈ TB ∧ Cond.code y b n rt ∈ TB)
    (hd0 : y.cls = C ∧ y.cls ≠ "java/lang/invoke/MethodHandle" ∧ y.cls ≠ "java/lang/invoke/VarHandle" ∧ (parseMethodDescriptor y.desc).map (fun d => d.parameters.length) = some nn) (h0 : rmc.cells = 0 ∧ rmc.slots = 0) (hR : rmc.frames + 1 ≤ rm.frames ∧ 8 + (n + 11) + rmc.locals ≤ rm.locals)
    (hi : i < nA σ) (hcel : cel (xy Γ) (xd Γ) σ i = .inr (ci, fs)) (hcl : vwCl[ci]? = some (C, T, N)) (hn : As.length = nn) (hw : (rest.map fun v => v.category).sum ≤ 8) (hd : decode cc pc = .ok (.invokevirtual idx, 3)) (hst : As.reverse ++ .ref (xd Γ i) :: rest = st0)
    (hp : pc + 3 = pc') (h : WW Γ cc nL own ret rm σ' pc' lv (v.toList ++ rest)) : WW Γ cc nL own ret rm σ pc lv st0 := by
  refine w_run (a := (Value.ref (xd Γ i) :: As).toArray) (fun X H locs ls hP hD hS hls => ?_) hp h
  have X0 := X
  obtain ⟨hx, hb, hml, hown, hts, hK, -, -, hkc, hks, -, hRm, -⟩ := X
  rw [← hRm] at hR
  exact va_runV (As := As) (rest := rest) (C := C) ⟨hx, hb, hml, hown, hts⟩ (hc H.size) (cwV nn hts (g_V hl hy) rfl h0.1 h0.2 hd0 hR) ⟨w_blind, va_recv hK hP (ci := ci) (q0 := i) hcl (by rw [wd_at hi, hcel]), w_pre X0 hS hK hP hD⟩ rfl hn hls.1 hst.symm (lv_room hw) hd ⟨hkc, hks⟩
theorem w_callS {y : MethodName} {b : ByteArray} {n nn idx : Nat} {rt : Option FieldType} {rmc : Room} {As : List Value}
    (hc : CT (xl Γ) (xD Γ) (xy Γ) (xd Γ) y b n rt rmc As σ v σ') (hl : Cond.methodLink own idx y ∈ TB) (hy : Cond.static y ∈ TB ∧ Cond.initialized y.cls ∈ TB ∧ Cond.code y b n rt ∈ TB)
    (hd0 : y.cls ≠ "java/lang/invoke/MethodHandle" ∧ y.cls ≠ "java/lang/invoke/VarHandle" ∧ (parseMethodDescriptor y.desc).map (fun d => d.parameters.length) = some nn) (h0 : rmc.cells = 0 ∧ rmc.slots = 0) (hR : rmc.frames + 1 ≤ rm.frames ∧ 8 + (n + 11) + rmc.locals ≤ rm.locals)
    (hn : As.length = nn) (hw : (rest.map fun v => v.category).sum ≤ 8) (hd : decode cc pc = .ok (.invokestatic idx, 3)) (hst : As.reverse ++ rest = st0)
    (hp : pc + 3 = pc') (h : WW Γ cc nL own ret rm σ' pc' lv (v.toList ++ rest)) : WW Γ cc nL own ret rm σ pc lv st0 := by
  refine w_run (a := As.toArray) (fun X H locs ls hP hD hS hls => ?_) hp h
  have X0 := X
  obtain ⟨hx, hb, hml, hown, hts, hK, -, -, hkc, hks, -, hRm, -⟩ := X
  rw [← hRm] at hR
  exact va_runS (As := As) (rest := rest) ⟨hx, hb, hml, hown, hts⟩ (hc H.size) (va_cwS nn hts (g_S hl hy) rfl h0.1 h0.2 hd0 hR) ⟨w_blind, w_pre X0 hS hK hP hD⟩ rfl hn hls.1 hst.symm (lv_room hw) hd ⟨hkc, hks⟩
end CL
/-! ===== numbers of objects, switches, constants ===== -/
def isW (σ : St) (w : Nat) : Bool := decide (w = 1) || decide (w = 15) || (decide (75 ≤ w) && decide ((w - 75) % 14 = 0) && decide (w + 13 < nA σ))
def isT (σ : St) (t : Nat) : Bool := decide (kd t = 8) && decide (kd (t + 1) = 13) && decide (t + 1 < nA σ)
def isA (σ : St) (a : Nat) : Bool := decide (kd a = 13) && decide (a < nA σ)
theorem lt_lit {σ : St} {i : Nat} (h : i < 75) : i < nA σ := by unfold nA; omega
theorem isW_wo {σ : St} {w : Nat} (h : isW σ w = true) (k : Nat) (hk : k < 14) : wo (w + k) = k ∧ w + k < nA σ ∧ ¬ w + k = 0 ∧ ¬ (29 ≤ w + k ∧ w + k < 75) := by
  simp only [isW, Bool.or_eq_true, Bool.and_eq_true, decide_eq_true_eq] at h
  have h75 : 75 ≤ nA σ := by unfold nA; omega
  rcases h with (h | h) | h
  · subst h
    refine ⟨?_, by omega, by omega, by omega⟩
    unfold wo
    rw [if_pos (by omega)]
    omega
  · subst h
    refine ⟨?_, by omega, by omega, by omega⟩
    unfold wo
    rw [if_neg (by omega), if_pos (by omega)]
    omega
  · refine ⟨?_, by omega, by omega, by omega⟩
    unfold wo
    rw [if_neg (by omega), if_neg (by omega)]
    omega
theorem isW_kd {σ : St} {w : Nat} (h : isW σ w = true) (k : Nat) (hk : k < 14) : kd (w + k) = kW k := by
  obtain ⟨h1, -, h3, h4⟩ := isW_wo h k hk
  unfold kd
  rw [if_neg h3, if_neg h4, h1]
theorem isW_ln {σ : St} {w : Nat} (h : isW σ w = true) (k : Nat) (hk : k < 14) : ln (w + k) = lW k := by
  obtain ⟨h1, -, h3, h4⟩ := isW_wo h k hk
  unfold ln
  rw [if_neg h4, h1]
theorem isW_lt {σ : St} {w : Nat} (h : isW σ w = true) (k : Nat) (hk : k < 14) : w + k < nA σ := (isW_wo h k hk).2.1
theorem isW_T {σ : St} {w : Nat} (h : isW σ w = true) (k : Nat) (hk : k + 1 < 14 ∧ kW k = 8 ∧ kW (k + 1) = 13) : isT σ (w + k) = true := by
  have a := isW_kd h k (by omega)
  have b := isW_kd h (k + 1) hk.1
  have c := isW_lt h (k + 1) hk.1
  simp only [isT, Bool.and_eq_true, decide_eq_true_eq]
  exact ⟨⟨a.trans hk.2.1, b.trans hk.2.2⟩, c⟩
theorem isW_lit {σ : St} {w : Nat} (h : w = 1 ∨ w = 15) : isW σ w = true := by
  simp only [isW, Bool.or_eq_true, Bool.and_eq_true, decide_eq_true_eq]
  exact Or.inl h
theorem isT_lit {σ : St} {t : Nat} (h : kd t = 8 ∧ kd (t + 1) = 13 ∧ t + 1 < 75) : isT σ t = true := by
  simp only [isT, Bool.and_eq_true, decide_eq_true_eq]
  exact ⟨⟨h.1, h.2.1⟩, lt_lit h.2.2⟩
theorem isA_lit {σ : St} {a : Nat} (h : kd a = 13 ∧ a < 75) : isA σ a = true := by
  simp only [isA, Bool.and_eq_true, decide_eq_true_eq]
  exact ⟨h.1, lt_lit h.2⟩
theorem isT_kd0 {σ : St} {t : Nat} (h : isT σ t = true) : kd t = 8 := by
  simp only [isT, Bool.and_eq_true, decide_eq_true_eq] at h
  exact h.1.1
theorem isT_kd {σ : St} {t : Nat} (h : isT σ t = true) : kd (t + 1) = 13 := by
  simp only [isT, Bool.and_eq_true, decide_eq_true_eq] at h
  exact h.1.2
theorem isT_lt {σ : St} {t : Nat} (h : isT σ t = true) : t + 1 < nA σ := by
  simp only [isT, Bool.and_eq_true, decide_eq_true_eq] at h
  exact h.2
theorem isT_lt0 {σ : St} {t : Nat} (h : isT σ t = true) : t < nA σ := Nat.lt_of_succ_lt (isT_lt h)
theorem isA_kd {σ : St} {a : Nat} (h : isA σ a = true) : kd a = 13 := by
  simp only [isA, Bool.and_eq_true, decide_eq_true_eq] at h
  exact h.1
theorem isA_lt {σ : St} {a : Nat} (h : isA σ a = true) : a < nA σ := by
  simp only [isA, Bool.and_eq_true, decide_eq_true_eq] at h
  exact h.2
theorem cel_T {cy : Nat → ClassId} {ad : Nat → Nat} {σ : St} {i : Nat} (h : isT σ i = true) : cel cy ad σ i = .inr (8, [.int (tw i), .int (tm i), .ref (ad (i + 1)), .int (gf σ i 3)]) := by
  simp [cel, isT_kd0 h]
theorem cel_W {cy : Nat → ClassId} {ad : Nat → Nat} {σ : St} {i : Nat} (h : isW σ i = true) : cel cy ad σ i = .inr (9, [.int (gf σ i 0), .int (gf σ i 1), .int (gf σ i 2), .int (gf σ i 3), .int (gf σ i 4), .ref (ad (i + 1)), .ref (ad (i + 2)), .ref (ad (i + 4)), .ref (ad (i + 6)), .ref (ad (i + 8)), .ref (ad (i + 10)), .ref (ad (i + 12))]) := by
  simp [cel, show kd i = 9 from isW_kd h 0 (by decide)]
theorem ne_of_gd {α : Type} {x y : α} {d : Decidable (x = y)} (h : (!decide (x = y)) = true) : ¬ x = y := by simpa using h
theorem i32_ne {x c : Int32} {z : Int} (q : ¬ x = c) (hz : c.toInt = z) : ¬ x.toInt = z := fun e => q (Int32.toInt_inj.mp (e.trans hz.symm))
theorem bz_nar {x : Int32} (h : bz x = true) : narrow .boolean (.int x) = .int x ∧ fits .boolean (.int x) = true := by
  simp only [bz, Bool.or_eq_true, decide_eq_true_eq] at h
  rcases h with rfl | rfl <;> exact ⟨rfl, rfl⟩
section SW
variable {Γ : CX} {cc : ByteArray} {nL : Nat} {own : String} {ret : Option FieldType} {rm : Room} {σ : St} {pc pc' : Nat} {lv lv' : List (Nat × Value)} {st : List Value}
theorem w_tsw {dflt lo hi : Int} {offs : Array Int} {len : Nat} {x : Int32} {off : Int} {tgt : Nat} (c : Int32) (q : x = c) (hd : decode cc pc = .ok (.tableswitch dflt lo hi offs, len)) (h1 : ¬ c.toInt < lo) (h2 : ¬ hi < c.toInt) (ho : offs[(c.toInt - lo).toNat]? = some off) (ht : (pc : Int) + off = (tgt : Int)) (h : WW Γ cc nL own ret rm σ tgt lv st) : WW Γ cc nL own ret rm σ pc lv (.int x :: st) := by
  subst q
  exact w_tableIn hd h1 h2 ho ht h
theorem w_lsw {dflt : Int} {ps : Array (Int × Int)} {len : Nat} {x : Int32} {off : Int} {tgt : Nat} (c : Int32) (q : x = c) (hd : decode cc pc = .ok (.lookupswitch dflt ps, len)) (hq : (ps.toList.zip (ps.toList.drop 1)).all (fun (a, next) => a.1 < next.1) = true) (ho : Op.lookupswitch.offset ps.toList dflt c.toInt = off) (ht : (pc : Int) + off = (tgt : Int)) (h : WW Γ cc nL own ret rm σ tgt lv st) : WW Γ cc nL own ret rm σ pc lv (.int x :: st) := by
  subst q
  exact w_lookup hd hq ho ht h
end SW
theorem gd_of {α : Type} {b : Bool} {k : Option α} {x : α} (h : gd b k = some x) : b = true := by
  cases b with
  | true => rfl
  | false => cases h
theorem tb_in {ws : List Cond} (ps : List Nat) (hp : ws = ps.filterMap (fun i => lw_tbl[i]?)) (hg : ws.all goodWord = true) : ∀ w ∈ ws, w ∈ TB := by
  intro w hw
  have h1 := List.all_eq_true.mp hg w hw
  rw [hp] at hw
  obtain ⟨i, -, hi⟩ := List.mem_filterMap.mp hw
  exact tb_m (List.mem_of_getElem? hi) h1
theorem i32_en {x c : Int32} {z : Int} (q : ¬ x = c) (hz : c.toInt = z) : ¬ z = x.toInt := fun e => i32_ne q hz e.symm
/-! ===== String constants, static rows, System.arraycopy ===== -/
def isS (_ : St) (k : Nat) : Bool := decide (k < sLen.length)
def sL (k : Nat) : Nat := sLen.getD k 0
def sB (k j : Nat) : Int32 := (sByt.getD k []).getD j 0
theorem isS_lt {σ : St} {k : Nat} (h : isS σ k = true) : k < sLen.length := by simpa [isS] using h
section CO
variable {Γ : CX} {cc : ByteArray} {nL : Nat} {own : String} {ret : Option FieldType} {rm : Room} {σ σ' : St} {pc pc' : Nat} {lv lv' : List (Nat × Value)} {st rest st0 : List Value} {v : Option Value}
theorem okc_SK (X : Okc Γ cc nL own ret rm) : SK (xd Γ) (xA Γ) (xs Γ) (xs Γ).heap := X.2.2.2.2.2.2.2.2.2.2.2.2.1
theorem okc_SR (X : Okc Γ cc nL own ret rm) : SR (xd Γ) (xs Γ) := X.2.2.2.2.2.2.2.2.2.2.2.2.2
theorem w_ldcS {index k : Nat} {tx : String} (hq : (own, index, tx, k) ∈ sTab) (hd : decode cc pc = .ok (.ldc index, 2)) (hp : pc + 2 = pc') (h : WW Γ cc nL own ret rm σ pc' lv (.ref (xd Γ (k + 1000)) :: st)) : WW Γ cc nL own ret rm σ pc lv st := by
  subst hp
  intro X H locs ls hP hD hS hl
  exact va_ldcS X.1 X.2.1 X.2.2.2.1 ((okc_SR X).1 (own, index, tx, k) hq) hd (h X H locs ls hP hD hS hl)
theorem w_sval {index k : Nat} (hk : isS σ k = true) (hl : Cond.fieldLink own index RJ0 "value" "[B" ∈ TB) (hd : decode cc pc = .ok (.getfield index, 3)) (hp : pc + 3 = pc') (h : WW Γ cc nL own ret rm σ pc' lv (.ref (xd Γ (k + 1100)) :: st)) : WW Γ cc nL own ret rm σ pc lv (.ref (xd Γ (k + 1000)) :: st) := by
  subst hp
  intro X H locs ls hP hD hS hls
  exact vk_getf X.1 X.2.1 ((okc_SK X).1.1 k (isS_lt hk)).2.2.1 hS X.2.2.2.1 (X.2.2.2.2.1 _ hl) (fun _ h9 => h9) hd (h X H locs ls hP hD hS hls)
theorem w_scod {index k : Nat} (hk : isS σ k = true) (hl : Cond.fieldLink own index RJ0 "coder" "B" ∈ TB) (hd : decode cc pc = .ok (.getfield index, 3)) (hp : pc + 3 = pc') (h : WW Γ cc nL own ret rm σ pc' lv (.int 0 :: st)) : WW Γ cc nL own ret rm σ pc lv (.ref (xd Γ (k + 1000)) :: st) := by
  subst hp
  intro X H locs ls hP hD hS hls
  exact vk_getf X.1 X.2.1 ((okc_SK X).1.1 k (isS_lt hk)).2.1 hS X.2.2.2.1 (X.2.2.2.2.1 _ hl) (fun _ h9 => h9) hd (h X H locs ls hP hD hS hls)
theorem w_slen {k : Nat} (hk : isS σ k = true) (hd : decode cc pc = .ok (.arraylength, 1)) (hp : pc + 1 = pc') (h : WW Γ cc nL own ret rm σ pc' lv (.int (nI (sL k)) :: st)) : WW Γ cc nL own ret rm σ pc lv (.ref (xd Γ (k + 1100)) :: st) := by
  subst hp
  intro X H locs ls hP hD hS hls
  exact va_tlen X.1 X.2.1 ((okc_SK X).1.1 k (isS_lt hk)).2.2.2 hS rfl hd (h X H locs ls hP hD hS hls)
theorem w_sbyt {k : Nat} {i : Int32} (hk : isS σ k = true) (hin : inb i (sL k) = true) (hd : decode cc pc = .ok (.baload, 1)) (hp : pc + 1 = pc') (h : WW Γ cc nL own ret rm σ pc' lv (.int (sB k i.toNatClampNeg) :: st)) : WW Γ cc nL own ret rm σ pc lv (.int i :: .ref (xd Γ (k + 1100)) :: st) := by
  subst hp
  intro X H locs ls hP hD hS hls
  exact va_tb X.1 X.2.1 ((okc_SK X).1.1 k (isS_lt hk)).2.2.2 hS (inb_in hin) rfl hd (h X H locs ls hP hD hS hls)
theorem w_gcs {index : Nat} (hl : Cond.fieldLink own index RJ0 "COMPACT_STRINGS" "Z" ∈ TB) (hd : decode cc pc = .ok (.getstatic index, 3)) (hp : pc + 3 = pc') (h : WW Γ cc nL own ret rm σ pc' lv (.int 1 :: st)) : WW Γ cc nL own ret rm σ pc lv st := by
  subst hp
  intro X H locs ls hP hD hS hls
  exact va_gets X.1 X.2.1 (okc_SK X).2.2.2.2.2.1 hS X.2.2.2.1 (X.2.2.2.2.1 _ hl) (fun _ h9 => h9) hd (h X H locs ls hP hD hS hls)
theorem w_gmt {index : Nat} (hl : Cond.fieldLink own index RX10 "MOST_TOLD" "[I" ∈ TB) (hd : decode cc pc = .ok (.getstatic index, 3)) (hp : pc + 3 = pc') (h : WW Γ cc nL own ret rm σ pc' lv (.ref (xd Γ 1200) :: st)) : WW Γ cc nL own ret rm σ pc lv st := by
  subst hp
  intro X H locs ls hP hD hS hls
  exact va_gets X.1 X.2.1 (okc_SK X).2.1 hS X.2.2.2.1 (X.2.2.2.2.1 _ hl) (fun _ h9 => h9) hd (h X H locs ls hP hD hS hls)
theorem w_gtc {index : Nat} (hl : Cond.fieldLink own index RX10 "TOLD_COLUMN" "[I" ∈ TB) (hd : decode cc pc = .ok (.getstatic index, 3)) (hp : pc + 3 = pc') (h : WW Γ cc nL own ret rm σ pc' lv (.ref (xd Γ 1201) :: st)) : WW Γ cc nL own ret rm σ pc lv st := by
  subst hp
  intro X H locs ls hP hD hS hls
  exact va_gets X.1 X.2.1 (okc_SK X).2.2.2.1 hS X.2.2.2.1 (X.2.2.2.2.1 _ hl) (fun _ h9 => h9) hd (h X H locs ls hP hD hS hls)
theorem w_imt {i : Int32} (hin : inb i 4 = true) (hd : decode cc pc = .ok (.iaload, 1)) (hp : pc + 1 = pc') (h : WW Γ cc nL own ret rm σ pc' lv (.int (mTold i.toNatClampNeg) :: st)) : WW Γ cc nL own ret rm σ pc lv (.int i :: .ref (xd Γ 1200) :: st) := by
  subst hp
  intro X H locs ls hP hD hS hls
  exact va_ti X.1 X.2.1 (okc_SK X).2.2.1 hS (inb_in hin) rfl hd (h X H locs ls hP hD hS hls)
theorem w_itc {i : Int32} (hin : inb i 3 = true) (hd : decode cc pc = .ok (.iaload, 1)) (hp : pc + 1 = pc') (h : WW Γ cc nL own ret rm σ pc' lv (.int (tColumn i.toNatClampNeg) :: st)) : WW Γ cc nL own ret rm σ pc lv (.int i :: .ref (xd Γ 1201) :: st) := by
  subst hp
  intro X H locs ls hP hD hS hls
  exact va_ti X.1 X.2.1 (okc_SK X).2.2.2.2.1 hS (inb_in hin) rfl hd (h X H locs ls hP hD hS hls)
theorem w_lmt (hd : decode cc pc = .ok (.arraylength, 1)) (hp : pc + 1 = pc') (h : WW Γ cc nL own ret rm σ pc' lv (.int (nI 4) :: st)) : WW Γ cc nL own ret rm σ pc lv (.ref (xd Γ 1200) :: st) := by
  subst hp
  intro X H locs ls hP hD hS hls
  exact va_tlen X.1 X.2.1 (okc_SK X).2.2.1 hS rfl hd (h X H locs ls hP hD hS hls)
theorem w_ltc (hd : decode cc pc = .ok (.arraylength, 1)) (hp : pc + 1 = pc') (h : WW Γ cc nL own ret rm σ pc' lv (.int (nI 3) :: st)) : WW Γ cc nL own ret rm σ pc lv (.ref (xd Γ 1201) :: st) := by
  subst hp
  intro X H locs ls hP hD hS hls
  exact va_tlen X.1 X.2.1 (okc_SK X).2.2.2.2.1 hS rfl hd (h X H locs ls hP hD hS hls)
theorem w_i2c {x : Int32} (hd : decode cc pc = .ok (.i2c, 1)) (hp : pc + 1 = pc') (h : WW Γ cc nL own ret rm σ pc' lv (.int (x.toUInt32 % 65536).toInt32 :: st)) : WW Γ cc nL own ret rm σ pc lv (.int x :: st) := by
  subst hp
  exact fun X H locs ls hP hD hS hl => lv_i2c X.1 X.2.1 hd rfl (h X H locs ls hP hD hS hl)
/-- the formatter of a bad index: a reference or null -/
theorem w_gfm {index : Nat} (hl : Cond.fieldLink own index RJ3 "SIOOBE_FORMATTER" "Ljava/util/function/BiFunction;" ∈ TB) (hd : decode cc pc = .ok (.getstatic index, 3)) (hp : pc + 3 = pc') (h0 : WW Γ cc nL own ret rm σ pc' lv (.null :: st)) (h1 : ∀ t : Nat, WW Γ cc nL own ret rm σ pc' lv (.ref t :: st)) : WW Γ cc nL own ret rm σ pc lv st := by
  subst hp
  intro X H locs ls hP hD hS hls
  rcases (okc_SK X).2.2.2.2.2.2 with z | ⟨t, z⟩
  · exact va_gets X.1 X.2.1 z hS X.2.2.2.1 (X.2.2.2.2.1 _ hl) (fun _ h9 => h9) hd (h0 X H locs ls hP hD hS hls)
  · exact va_gets X.1 X.2.1 z hS X.2.2.2.1 (X.2.2.2.2.1 _ hl) (fun _ h9 => h9) hd (h1 t X H locs ls hP hD hS hls)
def nby (x : Int32) : Bool := decide (x.toInt8.toInt32 = x)
def nch (x : Int32) : Bool := decide ((x.toUInt32 % 65536).toInt32 = x)
theorem w_breturn {x : Int32} (hd : decode cc pc = .ok (.ireturn, 1)) (hz : nby x = true) (h : RR vI Γ (some (x, σ))) : WW Γ cc nL own (some .byte) rm σ pc lv [.int x] := by
  have e := h.re
  intro X H locs ls hP hD hS hl
  obtain ⟨hx, hb, -, -, -, hK, hlk, -, -, -, hr, -⟩ := X
  rw [e]
  refine W.zret hx hb hr ?_ (w_end hK hP hD hS) hS.2.2 hd hlk
  have hz : x.toInt8.toInt32 = x := by simpa [nby] using hz
  rw [← hz]
  exact pk_nb x
theorem w_creturn {x : Int32} (hd : decode cc pc = .ok (.ireturn, 1)) (hz : nch x = true) (h : RR vI Γ (some (x, σ))) : WW Γ cc nL own (some .char) rm σ pc lv [.int x] := by
  have e := h.re
  intro X H locs ls hP hD hS hl
  obtain ⟨hx, hb, -, -, -, hK, hlk, -, -, -, hr, -⟩ := X
  rw [e]
  refine W.zret hx hb hr ?_ (w_end hK hP hD hS) hS.2.2 hd hlk
  have hz : (x.toUInt32 % 65536).toInt32 = x := by simpa [nch] using hz
  rw [← hz]
  exact pk_nc x
/-- a call on a String constant -/
theorem w_callT {y : MethodName} {b : ByteArray} {n k nn idx : Nat} {rt : Option FieldType} {rmc : Room} {As : List Value}
    (hc : CT (xl Γ) (xD Γ) (xy Γ) (xd Γ) y b n rt rmc (.ref (xd Γ (k + 1000)) :: As) σ v σ') (hk : isS σ k = true) (hl : Cond.methodLink own idx y ∈ TB) (hy : Cond.instanceMethod y ∈ TB ∧ Cond.selects RJ0 y y ∈ TB ∧ Cond.initialized RJ0 ∈ TB ∧ Cond.code y b n rt ∈ TB)
    (hd0 : y.cls = RJ0 ∧ y.cls ≠ "java/lang/invoke/MethodHandle" ∧ y.cls ≠ "java/lang/invoke/VarHandle" ∧ (parseMethodDescriptor y.desc).map (fun d => d.parameters.length) = some nn) (h0 : rmc.cells = 0 ∧ rmc.slots = 0) (hR : rmc.frames + 1 ≤ rm.frames ∧ 8 + (n + 11) + rmc.locals ≤ rm.locals)
    (hn : As.length = nn) (hw : (rest.map fun v => v.category).sum ≤ 8) (hd : decode cc pc = .ok (.invokevirtual idx, 3)) (hst : As.reverse ++ .ref (xd Γ (k + 1000)) :: rest = st0)
    (hp : pc + 3 = pc') (h : WW Γ cc nL own ret rm σ' pc' lv (v.toList ++ rest)) : WW Γ cc nL own ret rm σ pc lv st0 := by
  refine w_run (a := (Value.ref (xd Γ (k + 1000)) :: As).toArray) (fun X H locs ls hP hD hS hls => ?_) hp h
  have X0 := X
  obtain ⟨hx, hb, hml, hown, hts, hK, -, -, hkc, hks, -, hRm, -⟩ := X
  rw [← hRm] at hR
  exact va_runV (As := As) (rest := rest) (C := RJ0) ⟨hx, hb, hml, hown, hts⟩ (hc H.size) (cwV nn hts (g_V hl hy) rfl h0.1 h0.2 hd0 hR) ⟨w_blind, vk_recv (i := k) (adK := fun k => xd Γ (k + 1000)) (okc_SK X0).1 (isS_lt hk) hS, w_pre X0 hS hK hP hD⟩ rfl hn hls.1 hst.symm (lv_room hw) hd ⟨hkc, hks⟩
/-! System.arraycopy -/
theorem cpy_i {f g : Nat → Int32} {sp dp n : Nat} : va_cpy f g sp dp n = fun k => if dp ≤ k ∧ k < dp + n then f (sp + (k - dp)) else g k := rfl
end CO
def cpok (sp dp n : Int32) (a b : Nat) : Bool := decide (¬ sp < 0) && decide (¬ dp < 0) && decide (¬ n < 0) && decide (sp.toNatClampNeg + n.toNatClampNeg ≤ a) && decide (dp.toNatClampNeg + n.toNatClampNeg ≤ b)
theorem cpok_of {sp dp n : Int32} {a b : Nat} (h : cpok sp dp n a b = true) : ¬ sp < 0 ∧ ¬ dp < 0 ∧ ¬ n < 0 ∧ sp.toNatClampNeg + n.toNatClampNeg ≤ a ∧ dp.toNatClampNeg + n.toNatClampNeg ≤ b := by
  simp only [cpok, Bool.and_eq_true, decide_eq_true_eq] at h
  exact ⟨h.1.1.1.1, h.1.1.1.2, h.1.1.2, h.1.2, h.2⟩
/-! ===== worlds that are being made: a list ws, the object at place k of it, what was made since ===== -/
def cf (ws : va_W) (k : Nat) (T : Nat × va_E) (L : va_W) : va_W := ws.set k T ++ L
theorem cf_at {ws : va_W} {k : Nat} {T : Nat × va_E} {L : va_W} (hk : k < ws.length) : (cf ws k T L)[k]? = some T := by
  unfold cf
  rw [List.getElem?_append_left (by simpa using hk)]
  simp [hk]
theorem cf_set {ws : va_W} {k : Nat} {T T' : Nat × va_E} {L : va_W} (hk : k < ws.length) : (cf ws k T L).set k T' = cf ws k T' L := by
  unfold cf
  rw [List.set_append_left _ _ (by simpa using hk)]
  simp
theorem cf_app {ws : va_W} {k : Nat} {T c : Nat × va_E} {L : va_W} : cf ws k T L ++ [c] = cf ws k T (L ++ [c]) := by
  unfold cf
  rw [List.append_assoc]
theorem cf_self {ws : va_W} {k : Nat} {T : Nat × va_E} (h : ws[k]? = some T) : cf ws k T [] = ws := by
  unfold cf
  rw [List.append_nil]
  apply List.ext_getElem?
  intro j
  rw [List.getElem?_set]
  by_cases e : k = j
  · subst e
    rw [if_pos rfl, h]
    have := (List.getElem?_eq_some_iff.mp h).1
    rw [if_pos this]
  · rw [if_neg e]
/-- the last of what was made -/
theorem cf_last {ws : va_W} {k : Nat} {T c : Nat × va_E} {L : va_W} : (cf ws k T (L ++ [c]))[(cf ws k T L).length]? = some c := by
  rw [← cf_app]
  simp
theorem cf_last_set {ws : va_W} {k : Nat} {T c c' : Nat × va_E} {L L' : va_W} : cf (cf ws k T (L ++ [c])) (cf ws k T L).length c' L' = cf ws k T (L ++ [c'] ++ L') := by
  rw [← cf_app]
  unfold cf
  simp
def bump (Γ : CX) (a b : Nat) : CX := (xp Γ, xl Γ, xE Γ, xR Γ, xs Γ, xm Γ, xa Γ, xb Γ, xM Γ, xc Γ, xD Γ, xy Γ, xd Γ, xA Γ, xk Γ + a, xn Γ + b, xQ Γ)
def dfI : Nat → Int32 := fun _ => 0
def dfJ : Nat → Int64 := fun _ => 0
section LI
variable {Γ : CX} {cc : ByteArray} {nL : Nat} {own : String} {ret : Option FieldType} {rm : Room} {ws : va_W} {k : Nat} {T : Nat × va_E} {L : va_W} {pc pc' : Nat} {lv lv' : List (Nat × Value)} {st rest st0 : List Value}
theorem okc_bump {a b : Nat} (X : Okc Γ cc nL own ret rm) (ha : xk Γ + a ≤ rm.cells) (hb : xn Γ + b ≤ rm.slots) : Okc (bump Γ a b) cc nL own ret rm := by
  obtain ⟨h1, h2, h3, h4, h5, h6, h7, h8, -, -, h11, h12, h13⟩ := X
  exact ⟨h1, h2, h3, h4, h5, h6, h7, h8, by show xk Γ + a ≤ (xR Γ).cells; rw [h12]; exact ha, by show xn Γ + b ≤ (xR Γ).slots; rw [h12]; exact hb, h11, h12, h13⟩
theorem l_new {ci index N : Nat} {C : String} {Tt : u_T} (fs : List Value) (ty : Nat → FieldType) (hcl : vwCl[ci]? = some (C, Tt, N)) (hin : ∀ w ∈ u_ws C Tt N, w ∈ TB) (hty : ∀ k, k < N → parseFieldDescriptor (Tt k).2.2.1 = some (ty k)) (hw : Cond.classLink own index C ∈ TB ∧ Cond.instantiable C N ∈ TB ∧ Cond.initialized C ∈ TB) (hfs : ∀ j, j < N → defaultValue (ty j) = vp_V fs j) (hR : xk Γ + 1 ≤ rm.cells ∧ xn Γ + N ≤ rm.slots)
    (hd : decode cc pc = .ok (.new index, 3)) (hp : pc + 3 = pc') (h : ∀ q : Nat, WL (bump Γ 1 N) cc nL own ret rm (cf ws k T (L ++ [(q, .inr (ci, fs))])) pc' lv (.ref q :: st)) : WL Γ cc nL own ret rm (cf ws k T L) pc lv st := by
  subst hp
  intro X H locs ls hP hD hS hl
  have X1 := okc_bump X hR.1 hR.2
  obtain ⟨hx, hb, hml, hown, hts, hK, -, hA, -, -, -, hRm, -⟩ := X
  refine va_new (ci := ci) (fs := fs) (C := C) (T := Tt) (N := N) hx hb hts hin ty hty hown (hts _ hw.1) (hts _ hw.2.1) (hts _ hw.2.2) hK hP hD hS hA hcl hfs (by rw [hRm]; exact hR.1) (by rw [hRm]; exact hR.2) hd (fun q H1 hP1 hD1 hS1 => ?_)
  rw [cf_app] at hP1 hD1
  exact h q X1 H1 locs ls hP1 hD1 hS1 hl
theorem l_newA {atype : ArrayType} {ty : FieldType} {n : Int32} {N' : Nat} (t0 no : Nat) (a0 : vp_A) (hty : newarray.typeOf atype = ty) (ht : (tyK (xy Γ))[t0]? = some (xy Γ no, ty)) (hprim : ∀ (U : State) (c : ClassId), va_RA U c ty → U.vm.findClass ("[" ++ ty.toString) = some c) (hw : Cond.arrayClass ty ∈ TB) (ha : ∀ cA : ClassId, vp_cell cA a0 = arrV cA N' (fun _ => defaultValue ty)) (hn : ¬ n < 0) (hN : n.toNatClampNeg = N') (hbytes : N' * componentBytes ty ≤ 536870912) (hR : xk Γ + 1 ≤ rm.cells ∧ xn Γ + N' ≤ rm.slots)
    (hd : decode cc pc = .ok (.newarray atype, 2)) (hp : pc + 2 = pc') (h : ∀ q : Nat, WL (bump Γ 1 N') cc nL own ret rm (cf ws k T (L ++ [(q, .inl (xy Γ no, a0))])) pc' lv (.ref q :: st)) : WL Γ cc nL own ret rm (cf ws k T L) pc lv (.int n :: st) := by
  subst hp
  intro X H locs ls hP hD hS hl
  have X1 := okc_bump X hR.1 hR.2
  obtain ⟨hx, hb, hml, hown, hts, hK, -, hA, -, -, -, hRm, -⟩ := X
  refine va_newa hx hb (by rw [hty]; exact hts _ hw) hty hK hP hD hS hA ha hn hN hbytes (by rw [hRm]; exact hR.1) (by rw [hRm]; exact hR.2) hd (fun q cA H1 hK1 hP1 hD1 hS1 => ?_)
  have e : cA = xy Γ no := by
    have e1 := hprim _ _ (hK1.2 5 (cA, ty) rfl).2
    have e2 := hprim _ _ (hK.2 t0 _ ht).2
    exact Option.some.inj (e1.symm.trans e2)
  subst e
  rw [cf_app] at hP1 hD1
  exact h q X1 H1 locs ls hP1 hD1 hS1 hl
theorem l_newQ {index N' : Nat} {n : Int32} (hw : Cond.classLink own index RX10 ∈ TB) (hn : ¬ n < 0) (hN : n.toNatClampNeg = N') (hbytes : N' * 4 ≤ 536870912) (hR : xk Γ + 1 ≤ rm.cells ∧ xn Γ + N' ≤ rm.slots) (hd : decode cc pc = .ok (.anewarray index, 3)) (hp : pc + 3 = pc')
    (h : ∀ q : Nat, WL (bump Γ 1 N') cc nL own ret rm (cf ws k T (L ++ [(q, .inl (xy Γ 16, N', .inr (.inr (.inr (.inr (fun _ => none))))))])) pc' lv (.ref q :: st)) : WL Γ cc nL own ret rm (cf ws k T L) pc lv (.int n :: st) := by
  subst hp
  intro X H locs ls hP hD hS hl
  have X1 := okc_bump X hR.1 hR.2
  obtain ⟨hx, hb, hml, hown, hts, hK, -, hA, -, -, -, hRm, -, hSR⟩ := X
  refine va_newq hx hb hown (hts _ hw) hSR.2.2.2.2 hK hP hD hS hA hn hN hbytes (by rw [hRm]; exact hR.1) (by rw [hRm]; exact hR.2) hd (fun q cA H1 hK1 hP1 hD1 hS1 => ?_)
  have e : cA = xy Γ 16 := by
    obtain ⟨_, _, _, _, _, e1⟩ := (hK1.2 5 (cA, .object RX10) rfl).2
    obtain ⟨_, _, _, _, _, e2⟩ := (hK.2 4 (xy Γ 16, .object RX10) rfl).2
    exact Option.some.inj (e1.symm.trans e2)
  subst e
  rw [cf_app] at hP1 hD1
  exact h q X1 H1 locs ls hP1 hD1 hS1 hl
theorem l_get {a ci j index N : Nat} {ref C : String} {Tt : u_T} {fs : List Value} {v : Value} (hk : k < ws.length) (hcl : vwCl[ci]? = some (C, Tt, N)) (hj : j < N) (hv : fs[j]? = some v) (hin : ∀ w ∈ u_ws C Tt N, w ∈ TB) (hlink : Cond.fieldLink own index ref (Tt j).2.1 (Tt j).2.2.1 ∈ TB) (hsame : (Tt j).1 = ref) (hd : decode cc pc = .ok (.getfield index, 3)) (hp : pc + 3 = pc')
    (h : WL Γ cc nL own ret rm (cf ws k (a, .inr (ci, fs)) L) pc' lv (v :: st)) : WL Γ cc nL own ret rm (cf ws k (a, .inr (ci, fs)) L) pc lv (.ref a :: st) := by
  subst hp
  subst hsame
  intro X H locs ls hP hD hS hl
  exact va_get (D := xD Γ) (ci := ci) (v := v) (C := C) (T := Tt) (N := N) X.1 X.2.1 X.2.2.2.2.1 hin X.2.2.2.1 X.2.2.2.2.2.1 hP k (cf_at hk) hcl j hj (X.2.2.2.2.1 _ hlink) (fun _ h9 => h9) hv hd (h X H locs ls hP hD hS hl)
theorem l_putF {a ci j index N : Nat} {ref C : String} {Tt : u_T} {fs : List Value} {v : Value} {ty : FieldType} (ty0 : Nat → FieldType) (hk : k < ws.length) (hcl : vwCl[ci]? = some (C, Tt, N)) (hj : j < N) (hin : ∀ w ∈ u_ws C Tt N, w ∈ TB) (hlink : Cond.fieldLink own index ref (Tt j).2.1 (Tt j).2.2.1 ∈ TB) (hsame : (Tt j).1 = ref) (hty : ∀ k, k < N → parseFieldDescriptor (Tt k).2.2.1 = some (ty0 k)) (hnm : ∀ a, a < N → ∀ b, b < N → a ≠ b → (Tt a).2.1 ≠ (Tt b).2.1) (hfin : (Tt j).2.2.2 = true) (hin2 : (xM Γ).name = "<init>") (hdecl : (Tt j).1 = own) (hdt : parseFieldDescriptor (Tt j).2.2.1 = some ty) (hn : narrow ty v = v) (hfit : fits ty v = true) (hl : j < fs.length)
    (hd : decode cc pc = .ok (.putfield index, 3)) (hp : pc + 3 = pc') (h : WL Γ cc nL own ret rm (cf ws k (a, .inr (ci, fs.set j v)) L) pc' lv st) : WL Γ cc nL own ret rm (cf ws k (a, .inr (ci, fs)) L) pc lv (v :: .ref a :: st) := by
  subst hp
  subst hsame
  intro X H locs ls hP hD hS hls
  refine va_putF (D := xD Γ) (ci := ci) (v := v) (ty := ty) (C := C) (T := Tt) (N := N) X.1 X.2.1 X.2.2.2.2.1 hin ty0 hty hnm X.2.2.2.1 X.2.2.2.2.2.1 hP hD hS k (cf_at hk) hcl j hj (X.2.2.2.2.1 _ hlink) (fun _ h9 => h9) hfin hin2 hdecl hdt hn hfit hl hd (fun H1 locs1 hP1 hD1 hS1 => ?_)
  rw [cf_set hk] at hP1 hD1
  exact h X H1 locs1 ls hP1 hD1 hS1 hls
theorem l_put {a ci j index N : Nat} {ref C : String} {Tt : u_T} {fs : List Value} {v : Value} {ty : FieldType} (ty0 : Nat → FieldType) (hk : k < ws.length) (hcl : vwCl[ci]? = some (C, Tt, N)) (hj : j < N) (hin : ∀ w ∈ u_ws C Tt N, w ∈ TB) (hlink : Cond.fieldLink own index ref (Tt j).2.1 (Tt j).2.2.1 ∈ TB) (hsame : (Tt j).1 = ref) (hty : ∀ k, k < N → parseFieldDescriptor (Tt k).2.2.1 = some (ty0 k)) (hnm : ∀ a, a < N → ∀ b, b < N → a ≠ b → (Tt a).2.1 ≠ (Tt b).2.1) (hfin : (Tt j).2.2.2 = false) (hdt : parseFieldDescriptor (Tt j).2.2.1 = some ty) (hn : narrow ty v = v) (hfit : fits ty v = true) (hl : j < fs.length)
    (hd : decode cc pc = .ok (.putfield index, 3)) (hp : pc + 3 = pc') (h : WL Γ cc nL own ret rm (cf ws k (a, .inr (ci, fs.set j v)) L) pc' lv st) : WL Γ cc nL own ret rm (cf ws k (a, .inr (ci, fs)) L) pc lv (v :: .ref a :: st) := by
  subst hp
  subst hsame
  intro X H locs ls hP hD hS hls
  refine va_put (D := xD Γ) (ci := ci) (v := v) (ty := ty) (C := C) (T := Tt) (N := N) X.1 X.2.1 X.2.2.2.2.1 hin ty0 hty hnm X.2.2.2.1 X.2.2.2.2.2.1 hP hD hS k (cf_at hk) hcl j hj (X.2.2.2.2.1 _ hlink) (fun _ h9 => h9) hfin hdt hn hfit hl hd (fun H1 locs1 hP1 hD1 hS1 => ?_)
  rw [cf_set hk] at hP1 hD1
  exact h X H1 locs1 ls hP1 hD1 hS1 hls
theorem l_iast {q n : Nat} {f : Nat → Int32} {i x : Int32} (hin : inb i n = true) (hd : decode cc pc = .ok (.iastore, 1)) (hp : pc + 1 = pc') (h : WL Γ cc nL own ret rm (cf ws k T (L ++ [(q, .inl (xy Γ 13, n, .inl (upd f i.toNatClampNeg x)))])) pc' lv st) : WL Γ cc nL own ret rm (cf ws k T (L ++ [(q, .inl (xy Γ 13, n, .inl f))])) pc lv (.int x :: .int i :: .ref q :: st) := by
  subst hp
  intro X H locs ls hP hD hS hls
  refine va_iast X.1 X.2.1 X.2.2.2.2.2.1 hP hD hS (cf ws k T L).length 1 cf_last rfl (inb_in hin) hd (fun H1 locs1 hP1 hD1 hS1 => ?_)
  have e : (cf ws k T (L ++ [(q, .inl (xy Γ 13, n, .inl f))])).set (cf ws k T L).length (q, .inl (xy Γ 13, n, .inl (upd f i.toNatClampNeg x))) = cf ws k T (L ++ [(q, .inl (xy Γ 13, n, .inl (upd f i.toNatClampNeg x)))]) := by
    have e := cf_last_set (ws := ws) (k := k) (T := T) (c := (q, .inl (xy Γ 13, n, .inl f))) (c' := (q, .inl (xy Γ 13, n, .inl (upd f i.toNatClampNeg x)))) (L := L) (L' := [])
    simpa [cf] using e
  rw [e] at hP1 hD1
  exact h X H1 locs1 ls hP1 hD1 hS1 hls
theorem l_obj {a idx : Nat} (hl : Cond.methodLink own idx objectInit ∈ TB) (hi : Cond.instanceMethod objectInit ∈ TB ∧ Cond.code objectInit ⟨#[0xb1]⟩ 1 none ∈ TB) (hw : (rest.map fun v => v.category).sum ≤ 8) (hR : 1 ≤ rm.frames ∧ 20 ≤ rm.locals) (hd : decode cc pc = .ok (.invokespecial idx, 3)) (hp : pc + 3 = pc') (h : WL Γ cc nL own ret rm ws pc' lv rest) : WL Γ cc nL own ret rm ws pc lv (.ref a :: rest) := by
  subst hp
  intro X H locs ls hP hD hS hls
  have X0 := X
  obtain ⟨hx, hb, hml, hown, hts, hK, -, -, -, -, -, hRm, -⟩ := X
  refine W.objInit hx hb hown (hts _ hl) (hts _ hi.1) (hts _ hi.2) rfl (by rw [hml]; exact hls.1) rfl hd (by rw [hRm]; exact hR.1) (by rw [hRm]; show 2 * 0 + _ + 12 ≤ _; omega) ?_
  exact h X0 H locs ls hP hD hS hls
end LI
theorem l_newI {Γ : CX} {cc : ByteArray} {nL : Nat} {own : String} {ret : Option FieldType} {rm : Room} {ws : va_W} {k : Nat} {T : Nat × va_E} {L : va_W} {pc pc' : Nat} {lv : List (Nat × Value)} {st : List Value} {n : Int32} (N' : Nat) (hw : Cond.arrayClass .int ∈ TB) (hn : ¬ n < 0) (hN : n.toNatClampNeg = N') (hbytes : N' * componentBytes .int ≤ 536870912) (hR : xk Γ + 1 ≤ rm.cells ∧ xn Γ + N' ≤ rm.slots)
    (hd : decode cc pc = .ok (.newarray .int, 2)) (hp : pc + 2 = pc') (h : ∀ q : Nat, WL (bump Γ 1 N') cc nL own ret rm (cf ws k T (L ++ [(q, .inl (xy Γ 13, N', .inl dfI))])) pc' lv (.ref q :: st)) : WL Γ cc nL own ret rm (cf ws k T L) pc lv (.int n :: st) :=
  l_newA (ty := .int) 1 13 (N', .inl dfI) rfl rfl (fun _ _ h => h) hw (fun _ => by rw [vp_cell_i]; rfl) hn hN hbytes hR hd hp h
theorem l_newB {Γ : CX} {cc : ByteArray} {nL : Nat} {own : String} {ret : Option FieldType} {rm : Room} {ws : va_W} {k : Nat} {T : Nat × va_E} {L : va_W} {pc pc' : Nat} {lv : List (Nat × Value)} {st : List Value} {n : Int32} (N' : Nat) (hw : Cond.arrayClass .byte ∈ TB) (hn : ¬ n < 0) (hN : n.toNatClampNeg = N') (hbytes : N' * componentBytes .byte ≤ 536870912) (hR : xk Γ + 1 ≤ rm.cells ∧ xn Γ + N' ≤ rm.slots)
    (hd : decode cc pc = .ok (.newarray .byte, 2)) (hp : pc + 2 = pc') (h : ∀ q : Nat, WL (bump Γ 1 N') cc nL own ret rm (cf ws k T (L ++ [(q, .inl (xy Γ 12, N', .inl dfI))])) pc' lv (.ref q :: st)) : WL Γ cc nL own ret rm (cf ws k T L) pc lv (.int n :: st) :=
  l_newA (ty := .byte) 0 12 (N', .inl dfI) rfl rfl (fun _ _ h => h) hw (fun _ => by rw [vp_cell_i]; rfl) hn hN hbytes hR hd hp h
theorem l_newJ {Γ : CX} {cc : ByteArray} {nL : Nat} {own : String} {ret : Option FieldType} {rm : Room} {ws : va_W} {k : Nat} {T : Nat × va_E} {L : va_W} {pc pc' : Nat} {lv : List (Nat × Value)} {st : List Value} {n : Int32} (N' : Nat) (hw : Cond.arrayClass .long ∈ TB) (hn : ¬ n < 0) (hN : n.toNatClampNeg = N') (hbytes : N' * componentBytes .long ≤ 536870912) (hR : xk Γ + 1 ≤ rm.cells ∧ xn Γ + N' ≤ rm.slots)
    (hd : decode cc pc = .ok (.newarray .long, 2)) (hp : pc + 2 = pc') (h : ∀ q : Nat, WL (bump Γ 1 N') cc nL own ret rm (cf ws k T (L ++ [(q, .inl (xy Γ 14, N', .inr (.inl dfJ)))])) pc' lv (.ref q :: st)) : WL Γ cc nL own ret rm (cf ws k T L) pc lv (.int n :: st) :=
  l_newA (ty := .long) 2 14 (N', .inr (.inl dfJ)) rfl rfl (fun _ _ h => h) hw (fun _ => by rw [vp_cell_l]; rfl) hn hN hbytes hR hd hp h
theorem l_newZ {Γ : CX} {cc : ByteArray} {nL : Nat} {own : String} {ret : Option FieldType} {rm : Room} {ws : va_W} {k : Nat} {T : Nat × va_E} {L : va_W} {pc pc' : Nat} {lv : List (Nat × Value)} {st : List Value} {n : Int32} (N' : Nat) (hw : Cond.arrayClass .boolean ∈ TB) (hn : ¬ n < 0) (hN : n.toNatClampNeg = N') (hbytes : N' * componentBytes .boolean ≤ 536870912) (hR : xk Γ + 1 ≤ rm.cells ∧ xn Γ + N' ≤ rm.slots)
    (hd : decode cc pc = .ok (.newarray .boolean, 2)) (hp : pc + 2 = pc') (h : ∀ q : Nat, WL (bump Γ 1 N') cc nL own ret rm (cf ws k T (L ++ [(q, .inl (xy Γ 15, N', .inl dfI))])) pc' lv (.ref q :: st)) : WL Γ cc nL own ret rm (cf ws k T L) pc lv (.int n :: st) :=
  l_newA (ty := .boolean) 3 15 (N', .inl dfI) rfl rfl (fun _ _ h => h) hw (fun _ => by rw [vp_cell_i]; rfl) hn hN hbytes hR hd hp h
/-! ===== a constructor's contract ===== -/
def QN (D : va_G) (cy : Nat → ClassId) (F : (Nat → Nat) → va_W) (A : Nat → Prop) : Array Value → State → Outcome → State → Prop := fun _ st oc t => (oc = .returned none ∧ ∃ qs : Nat → Nat, va_P D vwCl (F qs) t.heap ∧ va_K D vwCl (tyK cy) t ∧ va_D A (F qs)) ∧ va_F A st t
def PreN (D : va_G) (cy : Nat → ClassId) (ad : Nat → Nat) (ws : va_W) (sz : Nat) (U : State) : Prop := U.heap.size = sz ∧ va_P D vwCl ws U.heap ∧ va_K D vwCl (tyK cy) U ∧ va_D (fun _ => True) ws ∧ SK ad (va_A ws sz) U U.heap ∧ SR ad U
def CN (l : Launch) (D : va_G) (cy : Nat → ClassId) (ad : Nat → Nat) (y : MethodName) (b : ByteArray) (n : Nat) (rm : Room) (av : List Value) (ws : va_W) (F : (Nat → Nat) → va_W) : Prop :=
  ∀ sz : Nat, Met l y (Cond.code y b n none :: TB) rm (va_Pc av (PreN D cy ad ws sz)) (QN D cy F (va_A ws sz)) rm.cells rm.slots (va_A ws sz)
theorem cn_of {l : Launch} {D : va_G} {cy : Nat → ClassId} {ad : Nat → Nat} {y : MethodName} {b : ByteArray} {n : Nat} {rm : Room} {av : List Value} {ws : va_W} {F : (Nat → Nat) → va_W} (hy : plainName y.cls = true) (hi : y.name = "<init>") (hn : (lg_sl av).length ≤ n)
    (h : ∀ (p : Program) (e : Env) (s : State) (m : MethodId) (args : Array Value) (below : List Frame) (meth : Method) (c : Code) (A : Nat → Prop), meth.name = "<init>" → WL (p, l, e, rm, s, m, args, below, meth, c, D, cy, ad, A, 0, 0, MQ below (QN D cy F A) args s rm.cells rm.slots A) b n y.cls none rm ws 0 (lv_args 0 av) []) : CN l D cy ad y b n rm av ws F := by
  intro sz
  refine Met.ofW (cc := b) (maxL := n) (ret := none) hy rfl ?_
  intro p e s m args below meth c s₁ B hml hv
  obtain ⟨rfl, hsz, hP, hK, hD0, hSK, hSR⟩ := hv
  have hts := atoms_spec (ws := Cond.code y b n none :: TB) B.pre
  have hown : s.vm.findClass y.cls = some m.cls := findClass_of_methodNamed B.named
  have hin : meth.name = "<init>" := (name_of_methodNamed B.named B.method).1.trans hi
  subst hsz
  have hD := hD0.self (sz := s.heap.size)
  have hl := lv_entry av (n := n) hn
  rw [lg_entry_eq]
  exact h p e s m av.toArray below meth c (va_A ws s.heap.size) hin ⟨B.exec, B.bytes, hml, hown, fun w hw => hts w (List.mem_cons_of_mem _ hw), hK, B.notSynchronized, fun q hq => Or.inr hq, Nat.zero_le _, Nat.zero_le _, B.returns, rfl, hSK, hSR⟩ s.heap [] _ hP hD va_S.rf hl
section LC
variable {Γ : CX} {cc : ByteArray} {nL : Nat} {own : String} {ret : Option FieldType} {rm : Room} {ws : va_W} {k : Nat} {T : Nat × va_E} {L : va_W} {pc pc' : Nat} {lv lv' : List (Nat × Value)} {st rest st0 : List Value} {F : (Nat → Nat) → va_W}
theorem l_return (qs : Nat → Nat) (e : xQ Γ = MQ (xb Γ) (QN (xD Γ) (xy Γ) F (xA Γ)) (xa Γ) (xs Γ) (xk Γ) (xn Γ) (xA Γ)) (hF : F qs = ws) (hd : decode cc pc = .ok (.return_, 1)) : WL Γ cc nL own none rm ws pc lv [] := by
  intro X H locs ls hP hD hS hl
  obtain ⟨hx, hb, -, -, -, hK, hlk, -, -, -, hr, -⟩ := X
  rw [e]
  refine W.vret hx hb hr (fun t ht hW => ?_) hS.2.2 hd hlk
  exact ⟨⟨rfl, qs, by rw [ht, hF]; exact hP, va_K.moved hW.alike hK, by rw [hF]; exact hD⟩, hS.F ht⟩
theorem l_fc {H : Heap} {locs : List Loc} (hA : ∀ q : Nat, (xs Γ).heap.size ≤ q → xA Γ q) (hD : va_D (xA Γ) ws) (hS : va_S (xA Γ) (xs Γ).heap H locs) : ∀ q, va_A ws H.size q → xA Γ q := by
  intro q h
  rcases h with ⟨k, e, h⟩ | h
  · exact hD.2 k _ h
  · exact hA q (Nat.le_trans hS.1 h)
theorem l_blind {D : va_G} {cy : Nat → ClassId} {ad : Nat → Nat} {av : List Value} {sz : Nat} : FrameBlind (va_Pc av (PreN D cy ad ws sz)) := fun a U g mk q => by
  obtain ⟨q0, q1, qP, qK, qD, qS, qR⟩ := q
  exact ⟨q0, q1, qP, va_K.moved (u := U) (U := U.calling g mk a) (Vm.Alike.refl U.vm) qK, qD, SK.go (u := U) (U := U.calling g mk a) (Vm.Alike.refl U.vm) (fun _ h => h) (fun _ _ _ => rfl) qS, SR.same (u := U) (U := U.calling g mk a) rfl qR⟩
theorem l_pre {H : Heap} {locs : List Loc} {av : List Value} (X : Okc Γ cc nL own ret rm) (hS : va_S (xA Γ) (xs Γ).heap H locs) (hP : va_P (xD Γ) vwCl ws H) (hD : va_D (xA Γ) ws) (U : State) (hU : U.heap = H) (hW : (xs Γ).WarmedH U.vm) : va_Pc av (PreN (xD Γ) (xy Γ) (xd Γ) ws H.size) av.toArray U :=
  ⟨rfl, by rw [hU], by rw [hU]; exact hP, va_K.moved hW.alike X.2.2.2.2.2.1, hD.weaken (fun _ _ _ _ => trivial), by rw [hU]; exact SK.go hW.alike (l_fc X.2.2.2.2.2.2.2.1 hD hS) hS.2.1 X.2.2.2.2.2.2.2.2.2.2.2.2.1, SR.warm hW X.2.2.2.2.2.2.2.2.2.2.2.2.2⟩
/-- a constructor's call out of its run -/
theorem l_run {a : Array Value} {mc ms : Nat} (hrun : Okc Γ cc nL own ret rm → ∀ (H : Heap) (locs : List Loc) (ls : Array Slot), va_P (xD Γ) vwCl ws H → va_D (xA Γ) ws → va_S (xA Γ) (xs Γ).heap H locs → lv_has ls nL lv →
      va_Run (xp Γ) (xl Γ) (xE Γ) (xR Γ) (xs Γ) (xm Γ) (xa Γ) (xb Γ) (xM Γ) (xc Γ) H locs (xk Γ) (xn Γ) mc ms (F0 (xm Γ) pc ls st0) rest (QN (xD Γ) (xy Γ) F (va_A ws H.size) a) (va_A ws H.size))
    (hR : xk Γ + mc ≤ rm.cells ∧ xn Γ + ms ≤ rm.slots) (hp : pc + 3 = pc') (h : ∀ qs : Nat → Nat, WL (bump Γ mc ms) cc nL own ret rm (F qs) pc' lv rest) : WL Γ cc nL own ret rm ws pc lv st0 := by
  subst hp
  intro X H locs ls hP hD hS hl Tt hT Xs
  have hF := l_fc X.2.2.2.2.2.2.2.1 hD hS
  obtain ⟨v', st₀, t, T', L, h0, X', hL, e1, e2, ⟨⟨hv, qs, hP1, -, hD1⟩, hz, hk⟩, stp⟩ := hrun X H locs ls hP hD hS hl Tt hT Xs
  cases hv
  rw [h0] at hz hk
  obtain ⟨t2, a1, b1⟩ := h qs (okc_bump X hR.1 hR.2) T'.heap (locs ++ L) ls (by rw [e1]; exact hP1) (hD1.weaken (fun _ q _ z => hF q.1 z))
    ⟨Nat.le_trans hS.1 (by rw [e1]; exact hz), fun q h1 h2 => by rw [e1, hk q (Nat.lt_of_lt_of_le h1 hS.1) (fun z => h2 (hF q z))]; exact hS.2.1 q h1 h2, fun q hq => by
      rcases List.mem_append.mp hq with z | z
      · exact hS.2.2 q z
      · exact hF _ (hL q z)⟩ hl T' rfl X'
  exact ⟨t2, stp t2 a1, b1⟩
theorem g_I {y : MethodName} {b : ByteArray} {n : Nat} (hy : Cond.code y b n none ∈ TB) : GoodIn TB (Cond.code y b n none :: TB) := by
  intro w hw
  rcases List.mem_cons.mp hw with rfl | hw
  · exact tb_g hy
  · exact tb_g hw
theorem l_callI {y : MethodName} {b : ByteArray} {n nn idx a : Nat} {rmc : Room} {As : List Value} (hc : CN (xl Γ) (xD Γ) (xy Γ) (xd Γ) y b n rmc (.ref a :: As) ws F) (hl : Cond.methodLink own idx y ∈ TB) (hy : Cond.instanceMethod y ∈ TB ∧ Cond.initialized y.cls ∈ TB ∧ Cond.code y b n none ∈ TB) (hi : y.name = "<init>")
    (hd0 : y.cls ≠ "java/lang/invoke/MethodHandle" ∧ y.cls ≠ "java/lang/invoke/VarHandle" ∧ (parseMethodDescriptor y.desc).map (fun d => d.parameters.length) = some nn) (hR : rmc.frames + 1 ≤ rm.frames ∧ 8 + (n + 11) + rmc.locals ≤ rm.locals) (hR2 : xk Γ + rmc.cells ≤ rm.cells ∧ xn Γ + rmc.slots ≤ rm.slots)
    (hn : As.length = nn) (hw : (rest.map fun v => v.category).sum ≤ 8) (hd : decode cc pc = .ok (.invokespecial idx, 3)) (hst : As.reverse ++ .ref a :: rest = st0) (hp : pc + 3 = pc') (h : ∀ qs : Nat → Nat, WL (bump Γ rmc.cells rmc.slots) cc nL own ret rm (F qs) pc' lv rest) : WL Γ cc nL own ret rm ws pc lv st0 := by
  refine l_run (a := (Value.ref a :: As).toArray) (fun X H locs ls hP hD hS hls => ?_) hR2 hp h
  have X0 := X
  obtain ⟨hx, hb, hml, hown, hts, hK, -, -, hkc, hks, -, hRm, -⟩ := X
  rw [← hRm] at hR hR2
  exact va_runI (As := As) (rest := rest) ⟨hx, hb, hml, hown, hts⟩ (hc H.size) (cwI nn hts (g_I hy.2.2) rfl rfl rfl (hts _ hy.2.1) (hts _ hl) (hts _ hy.1) hi hd0 hR) ⟨l_blind, l_pre X0 hS hP hD⟩ rfl hn hls.1 hst.symm (lv_room hw) hd hR2
theorem l_callN {y : MethodName} {b : ByteArray} {n nn idx a : Nat} {host : String} {rmc : Room} {As : List Value} (hc : CN (xl Γ) (xD Γ) (xy Γ) (xd Γ) y b n rmc (.ref a :: As) ws F) (hl : SR (xd Γ) (xs Γ) → va_Nw (.methodLinkNest own idx y host) (xs Γ)) (hy : Cond.instanceMethod y ∈ TB ∧ Cond.initialized y.cls ∈ TB ∧ Cond.code y b n none ∈ TB) (hi : y.name = "<init>")
    (hd0 : y.cls ≠ "java/lang/invoke/MethodHandle" ∧ y.cls ≠ "java/lang/invoke/VarHandle" ∧ (parseMethodDescriptor y.desc).map (fun d => d.parameters.length) = some nn) (hR : rmc.frames + 1 ≤ rm.frames ∧ 8 + (n + 11) + rmc.locals ≤ rm.locals) (hR2 : xk Γ + rmc.cells ≤ rm.cells ∧ xn Γ + rmc.slots ≤ rm.slots)
    (hn : As.length = nn) (hw : (rest.map fun v => v.category).sum ≤ 8) (hd : decode cc pc = .ok (.invokespecial idx, 3)) (hst : As.reverse ++ .ref a :: rest = st0) (hp : pc + 3 = pc') (h : ∀ qs : Nat → Nat, WL (bump Γ rmc.cells rmc.slots) cc nL own ret rm (F qs) pc' lv rest) : WL Γ cc nL own ret rm ws pc lv st0 := by
  refine l_run (a := (Value.ref a :: As).toArray) (fun X H locs ls hP hD hS hls => ?_) hR2 hp h
  have X0 := X
  obtain ⟨hx, hb, hml, hown, hts, hK, -, -, hkc, hks, -, hRm, -, hSR⟩ := X
  rw [← hRm] at hR hR2
  exact va_runIN (As := As) (rest := rest) ⟨hx, hb, hml, hown, hts⟩ (hc H.size) ⟨va_cnB nn hts (g_I hy.2.2) rfl rfl rfl (hl hSR) (hts _ hy.2.1) hd0 hR, hi, hts _ hy.1⟩ ⟨l_blind, l_pre X0 hS hP hD⟩ rfl hn hls.1 hst.symm (lv_room hw) hd hR2
end LC
