/-! ===== the state of all objects by numbers, and the world of it ===== -/
/-- the words that hold wherever the machine comes -/
def TB : List Cond := lw_tbl.filter goodWord
theorem tb_m {w : Cond} (h : w ∈ lw_tbl) (g : goodWord w = true) : w ∈ TB := List.mem_filter.mpr ⟨h, g⟩
theorem tb_g {w : Cond} (h : w ∈ TB) : w ∈ TB ∧ ((w.onTables && w.keeps) = true ∨ ∃ ty, w = .arrayClass ty) := ⟨h, good_of_word (List.mem_filter.mp h).2⟩
/-- int fields, int / byte / boolean rows, long rows, the images' row, how many images there are -/
abbrev St : Type := (Nat → Nat → Int32) × (Nat → Nat → Int32) × (Nat → Nat → Int64) × (Nat → Option Nat) × Nat
def gf (s : St) (i : Nat) : Nat → Int32 := s.1 i
def gr (s : St) (i : Nat) : Nat → Int32 := s.2.1 i
def gj (s : St) (i : Nat) : Nat → Int64 := s.2.2.1 i
def gm (s : St) : Nat → Option Nat := s.2.2.2.1
def gn (s : St) : Nat := s.2.2.2.2
def sF (s : St) (i : Nat) (f : Nat → Int32) : St := (va_up s.1 i f, s.2)
def sR (s : St) (i : Nat) (f : Nat → Int32) : St := (s.1, va_up s.2.1 i f, s.2.2)
def sJ (s : St) (i : Nat) (f : Nat → Int64) : St := (s.1, s.2.1, va_up s.2.2.1 i f, s.2.2.2)
def sf (s : St) (i k : Nat) (v : Int32) : St := sF s i (upd (gf s i) k v)
def sr (s : St) (i k : Nat) (v : Int32) : St := sR s i (upd (gr s i) k v)
def sj (s : St) (i k : Nat) (v : Int64) : St := sJ s i (vp_updL (gj s i) k v)
theorem gf_sF (s : St) (i j : Nat) (f : Nat → Int32) : gf (sF s i f) j = if j = i then f else gf s j := rfl
theorem gr_sR (s : St) (i j : Nat) (f : Nat → Int32) : gr (sR s i f) j = if j = i then f else gr s j := rfl
theorem gj_sJ (s : St) (i j : Nat) (f : Nat → Int64) : gj (sJ s i f) j = if j = i then f else gj s j := rfl
theorem gf_sR (s : St) (i j : Nat) (f : Nat → Int32) : gf (sR s i f) j = gf s j := rfl
theorem gf_sJ (s : St) (i j : Nat) (f : Nat → Int64) : gf (sJ s i f) j = gf s j := rfl
theorem gr_sF (s : St) (i j : Nat) (f : Nat → Int32) : gr (sF s i f) j = gr s j := rfl
theorem gr_sJ (s : St) (i j : Nat) (f : Nat → Int64) : gr (sJ s i f) j = gr s j := rfl
theorem gj_sF (s : St) (i j : Nat) (f : Nat → Int32) : gj (sF s i f) j = gj s j := rfl
theorem gj_sR (s : St) (i j : Nat) (f : Nat → Int32) : gj (sR s i f) j = gj s j := rfl
theorem gm_sF (s : St) (i : Nat) (f : Nat → Int32) : gm (sF s i f) = gm s := rfl
theorem gm_sR (s : St) (i : Nat) (f : Nat → Int32) : gm (sR s i f) = gm s := rfl
theorem gm_sJ (s : St) (i : Nat) (f : Nat → Int64) : gm (sJ s i f) = gm s := rfl
theorem gn_sF (s : St) (i : Nat) (f : Nat → Int32) : gn (sF s i f) = gn s := rfl
theorem gn_sR (s : St) (i : Nat) (f : Nat → Int32) : gn (sR s i f) = gn s := rfl
theorem gn_sJ (s : St) (i : Nat) (f : Nat → Int64) : gn (sJ s i f) = gn s := rfl
theorem gn_sf (s : St) (i k : Nat) (v : Int32) : gn (sf s i k v) = gn s := rfl
theorem gn_sr (s : St) (i k : Nat) (v : Int32) : gn (sr s i k v) = gn s := rfl
theorem gn_sj (s : St) (i k : Nat) (v : Int64) : gn (sj s i k v) = gn s := rfl
/-- kinds: 0 .. 11 the classes of vwCl, 12 bytes, 13 ints, 14 longs, 15 booleans, 16 the images' row -/
def kW (o : Nat) : Nat := if o = 0 then 9 else if o = 1 then 13 else if o % 2 = 0 then 8 else 13
def kS : List Nat := [5, 12, 1, 13, 13, 13, 13, 2, 13, 13, 14, 15, 13, 13, 4, 13, 13, 13, 13, 3, 7, 0, 13, 6, 15, 13, 13, 14, 16, 11, 13, 13, 15, 12, 13, 13, 13, 13, 13, 13, 13, 13, 13, 13, 14, 14]
def lS : List Nat := [0, 1200, 0, 61, 512, 512, 512, 0, 512, 512, 512, 512, 512, 512, 0, 3, 3, 3, 3, 0, 0, 0, 8, 0, 4, 4, 4, 240, 3, 0, 240, 720, 3, 1200, 5, 240, 61, 512, 512, 3, 3, 3, 4, 4, 240, 60]
/-- where in its WAR's block a number stands -/
def wo (i : Nat) : Nat := if i < 15 then i - 1 else if i < 29 then i - 15 else (i - 75) % 14
def kd (i : Nat) : Nat := if i = 0 then 10 else if 29 ≤ i ∧ i < 75 then kS.getD (i - 29) 0 else kW (wo i)
def lW (o : Nat) : Nat := if o = 1 then 2 else if o = 3 then 54 else if o = 5 then 8 else if o = 7 then 32 else if o = 9 then 8 else if o = 11 then 5 else 180
def ln (i : Nat) : Nat := if 29 ≤ i ∧ i < 75 then lS.getD (i - 29) 0 else lW (wo i)
/-- a table's width and room, by where it stands -/
def tw (i : Nat) : Int32 := if wo i = 2 then 6 else if wo i = 4 then 2 else if wo i = 6 then 4 else if wo i = 8 then 2 else if wo i = 10 then 1 else 3
def tm (i : Nat) : Int32 := if wo i = 2 then 9 else if wo i = 4 then 4 else if wo i = 6 then 8 else if wo i = 8 then 4 else if wo i = 10 then 5 else 60
def cel (cy : Nat → ClassId) (ad : Nat → Nat) (s : St) (i : Nat) : va_E :=
  if kd i = 13 then .inl (cy 13, ln i, .inl (gr s i))
  else if kd i = 8 then .inr (8, [.int (tw i), .int (tm i), .ref (ad (i + 1)), .int (gf s i 3)])
  else if kd i = 9 then .inr (9, [.int (gf s i 0), .int (gf s i 1), .int (gf s i 2), .int (gf s i 3), .int (gf s i 4), .ref (ad (i + 1)), .ref (ad (i + 2)), .ref (ad (i + 4)), .ref (ad (i + 6)), .ref (ad (i + 8)), .ref (ad (i + 10)), .ref (ad (i + 12))])
  else if kd i = 12 then .inl (cy 12, ln i, .inl (gr s i))
  else if kd i = 14 then .inl (cy 14, ln i, .inr (.inl (gj s i)))
  else if kd i = 15 then .inl (cy 15, ln i, .inl (gr s i))
  else if kd i = 16 then .inl (cy 16, ln i, .inr (.inr (.inr (.inr (fun k => (gm s k).map fun b => ad (75 + 14 * b))))))
  else if kd i = 0 then .inr (0, [.ref (ad 1), .ref (ad 51)])
  else if kd i = 1 then .inr (1, [.ref (ad 1), .ref (ad 32), .ref (ad 33), .ref (ad 34), .ref (ad 35), .int (gf s i 5)])
  else if kd i = 2 then .inr (2, [.ref (ad 1), .ref (ad 31), .ref (ad 37), .ref (ad 38), .ref (ad 39), .ref (ad 40), .ref (ad 41), .ref (ad 42)])
  else if kd i = 3 then .inr (3, [.ref (ad 1)])
  else if kd i = 4 then .inr (4, [.int (gf s i 0), .ref (ad 44), .ref (ad 45), .ref (ad 46), .ref (ad 47)])
  else if kd i = 5 then .inr (5, [.ref (ad 30), .int (gf s i 1), .int (gf s i 2), .int (gf s i 3), .ref (ad 15), .int (gf s i 5), .int (gf s i 6), .int (gf s i 7), .int (gf s i 8)])
  else if kd i = 6 then .inr (6, [.ref (ad 53), .ref (ad 54), .ref (ad 55), .ref (ad 56)])
  else if kd i = 7 then .inr (7, [.ref (ad 1)])
  else if kd i = 10 then .inr (10, [.ref (ad 1), .ref (ad 15), .ref (ad 29), .ref (ad 31), .ref (ad 36), .ref (ad 43), .ref (ad 48), .ref (ad 49), .ref (ad 50), .ref (ad 52), .ref (ad 57)])
  else .inr (11, [.int (gf s i 0), .ref (ad 59), .ref (ad 60), .ref (ad 61), .ref (ad 62), .int (gf s i 5), .ref (ad 63), .int (gf s i 7), .int (gf s i 8), .int (gf s i 9), .int (gf s i 10), .int (gf s i 11), .int (gf s i 12), .int (gf s i 13), .ref (ad 64), .ref (ad 65), .int (gf s i 16), .ref (ad 66), .int (gf s i 18), .int (gf s i 19), .int (gf s i 20), .ref (ad 67), .int (gf s i 22), .ref (ad 68), .ref (ad 69), .ref (ad 70), .int (gf s i 26), .int (gf s i 27), .ref (ad 71), .ref (ad 72), .ref (ad 73), .ref (ad 74)])
def nA (s : St) : Nat := 75 + 14 * gn s
def Wd (cy : Nat → ClassId) (ad : Nat → Nat) (s : St) : va_W := (List.range (nA s)).map (fun i => (ad i, cel cy ad s i))
theorem wd_at {cy : Nat → ClassId} {ad : Nat → Nat} {s : St} {i : Nat} (h : i < nA s) : (Wd cy ad s)[i]? = some (ad i, cel cy ad s i) := by
  simp [Wd, h]
theorem wd_set {cy : Nat → ClassId} {ad : Nat → Nat} {s s' : St} {i : Nat} {e : va_E} (hn : gn s' = gn s) (hi : cel cy ad s' i = e) (hj : ∀ j, j ≠ i → cel cy ad s' j = cel cy ad s j) : (Wd cy ad s).set i (ad i, e) = Wd cy ad s' := by
  apply List.ext_getElem?
  intro k
  have hN : nA s' = nA s := by simp [nA, hn]
  by_cases hk : k < nA s
  · rw [wd_at (s := s') (by rw [hN]; exact hk), List.getElem?_set]
    by_cases h : i = k
    · subst h
      simp [Wd, hk, hi]
    · rw [if_neg h, wd_at hk, hj k (fun e => h e.symm)]
  · have h1 : (Wd cy ad s').length ≤ k := by simp [Wd, hN]; omega
    have h2 : ((Wd cy ad s).set i (ad i, e)).length ≤ k := by simp [Wd]; omega
    rw [List.getElem?_eq_none h1, List.getElem?_eq_none h2]
theorem cel_sF {cy : Nat → ClassId} {ad : Nat → Nat} {s : St} {i j : Nat} {f : Nat → Int32} (h : j ≠ i) : cel cy ad (sF s i f) j = cel cy ad s j := by
  simp only [cel, gf_sF, if_neg h, gr_sF, gj_sF, gm_sF]
theorem cel_sR {cy : Nat → ClassId} {ad : Nat → Nat} {s : St} {i j : Nat} {f : Nat → Int32} (h : j ≠ i) : cel cy ad (sR s i f) j = cel cy ad s j := by
  simp only [cel, gr_sR, if_neg h, gf_sR, gj_sR, gm_sR]
theorem cel_sJ {cy : Nat → ClassId} {ad : Nat → Nat} {s : St} {i j : Nat} {f : Nat → Int64} (h : j ≠ i) : cel cy ad (sJ s i f) j = cel cy ad s j := by
  simp only [cel, gj_sJ, if_neg h, gf_sJ, gr_sJ, gm_sJ]
/-- the numbers of the worlds' arrays' classes -/
def tyK (cy : Nat → ClassId) : List (ClassId × FieldType) := [(cy 12, .byte), (cy 13, .int), (cy 14, .long), (cy 15, .boolean), (cy 16, .object RX10)]
/-! ===== the judgement ===== -/
/-- p, l, e, R, s, m, args, below, meth, c, D, cy, ad, A, cells, slots, what is to hold at the end -/
abbrev CX : Type := Program × Launch × Env × Room × State × MethodId × Array Value × List Frame × Method × Code × va_G × (Nat → ClassId) × (Nat → Nat) × (Nat → Prop) × Nat × Nat × (State → Prop)
def xp (Γ : CX) : Program := Γ.1
def xl (Γ : CX) : Launch := Γ.2.1
def xE (Γ : CX) : Env := Γ.2.2.1
def xR (Γ : CX) : Room := Γ.2.2.2.1
def xs (Γ : CX) : State := Γ.2.2.2.2.1
def xm (Γ : CX) : MethodId := Γ.2.2.2.2.2.1
def xa (Γ : CX) : Array Value := Γ.2.2.2.2.2.2.1
def xb (Γ : CX) : List Frame := Γ.2.2.2.2.2.2.2.1
def xM (Γ : CX) : Method := Γ.2.2.2.2.2.2.2.2.1
def xc (Γ : CX) : Code := Γ.2.2.2.2.2.2.2.2.2.1
def xD (Γ : CX) : va_G := Γ.2.2.2.2.2.2.2.2.2.2.1
def xy (Γ : CX) : Nat → ClassId := Γ.2.2.2.2.2.2.2.2.2.2.2.1
def xd (Γ : CX) : Nat → Nat := Γ.2.2.2.2.2.2.2.2.2.2.2.2.1
def xA (Γ : CX) : Nat → Prop := Γ.2.2.2.2.2.2.2.2.2.2.2.2.2.1
def xk (Γ : CX) : Nat := Γ.2.2.2.2.2.2.2.2.2.2.2.2.2.2.1
def xn (Γ : CX) : Nat := Γ.2.2.2.2.2.2.2.2.2.2.2.2.2.2.2.1
def xQ (Γ : CX) : State → Prop := Γ.2.2.2.2.2.2.2.2.2.2.2.2.2.2.2.2
/-- a method's start and end over the world -/
def PreW (D : va_G) (cy : Nat → ClassId) (ad : Nat → Nat) (σ : St) (sz : Nat) (U : State) : Prop := U.heap.size = sz ∧ va_P D vwCl (Wd cy ad σ) U.heap ∧ va_K D vwCl (tyK cy) U ∧ va_D (fun _ => True) (Wd cy ad σ) ∧ SK ad (va_A (Wd cy ad σ) sz) U U.heap ∧ SR ad U
def QC (D : va_G) (cy : Nat → ClassId) (ad : Nat → Nat) (v : Option Value) (σ : St) (A : Nat → Prop) : Array Value → State → Outcome → State → Prop := fun _ st oc t => (oc = .returned v ∧ va_P D vwCl (Wd cy ad σ) t.heap ∧ va_K D vwCl (tyK cy) t ∧ va_D A (Wd cy ad σ)) ∧ va_F A st t
def CT (l : Launch) (D : va_G) (cy : Nat → ClassId) (ad : Nat → Nat) (y : MethodName) (b : ByteArray) (n : Nat) (ret : Option FieldType) (rm : Room) (av : List Value) (σ : St) (v : Option Value) (σ' : St) : Prop :=
  ∀ sz : Nat, Met l y (Cond.code y b n ret :: TB) rm (va_Pc av (PreW D cy ad σ sz)) (QC D cy ad v σ' (va_A (Wd cy ad σ) sz)) 0 0 (va_A (Wd cy ad σ) sz)
/-- what holds all along a method's walk -/
def Okc (Γ : CX) (cc : ByteArray) (nL : Nat) (own : String) (ret : Option FieldType) (rm : Room) : Prop := (xp Γ).tables.exec = Jvm.exec ∧ (xc Γ).code = cc ∧ (xc Γ).maxLocals = nL ∧ (xs Γ).vm.findClass own = some (xm Γ).cls ∧ (∀ w ∈ TB, w.before (xa Γ) (xs Γ) = true) ∧ va_K (xD Γ) vwCl (tyK (xy Γ)) (xs Γ) ∧ (xM Γ).locks = false ∧ (∀ q : Nat, (xs Γ).heap.size ≤ q → xA Γ q) ∧ xk Γ ≤ (xR Γ).cells ∧ xn Γ ≤ (xR Γ).slots ∧ (xM Γ).sig.returnType = ret ∧ xR Γ = rm ∧ SK (xd Γ) (xA Γ) (xs Γ) (xs Γ).heap ∧ SR (xd Γ) (xs Γ)
/-- the machine's walk over a world that is a list -/
def WL (Γ : CX) (cc : ByteArray) (nL : Nat) (own : String) (ret : Option FieldType) (rm : Room) (ws : va_W) (pc : Nat) (lv : List (Nat × Value)) (st : List Value) : Prop :=
  Okc Γ cc nL own ret rm → ∀ (H : Heap) (locs : List Loc) (ls : Array Slot), va_P (xD Γ) vwCl ws H → va_D (xA Γ) ws → va_S (xA Γ) (xs Γ).heap H locs → lv_has ls nL lv →
    W (xp Γ) (xl Γ) (xE Γ) (xR Γ) (xs Γ) (xm Γ) (xa Γ) (xb Γ) (xM Γ) (xc Γ) H locs (xk Γ) (xn Γ) (xQ Γ) (F0 (xm Γ) pc ls st)
abbrev WW (Γ : CX) (cc : ByteArray) (nL : Nat) (own : String) (ret : Option FieldType) (rm : Room) (σ : St) (pc : Nat) (lv : List (Nat × Value)) (st : List Value) : Prop := WL Γ cc nL own ret rm (Wd (xy Γ) (xd Γ) σ) pc lv st
