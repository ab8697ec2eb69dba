/-! ===== numbers of objects, switches, constants ===== -/
def isW (σ : St) (w : Nat) : Bool := decide (w = 1) || decide (w = 15) || (decide (75 ≤ w) && decide ((w - 75) % 14 = 0) && decide (w + 13 < nA σ))
def isT (σ : St) (t : Nat) : Bool := decide (kd t = 8) && decide (kd (t + 1) = 13) && decide (t + 1 < nA σ)
def isA (σ : St) (a : Nat) : Bool := decide (kd a = 13) && decide (a < nA σ)
theorem lt_lit {σ : St} {i : Nat} (h : i < 75) : i < nA σ := by unfold nA; omega
theorem isW_wo {σ : St} {w : Nat} (h : isW σ w = true) (k : Nat) (hk : k < 14) : wo (w + k) = k ∧ w + k < nA σ ∧ ¬ w + k = 0 ∧ ¬ (29 ≤ w + k ∧ w + k < 75) := by
  simp only [isW, Bool.or_eq_true, Bool.and_eq_true, decide_eq_true_eq] at h
  have h75 : 75 ≤ nA σ := by unfold nA; omega
  rcases h with (h | h) | h
  · subst h
    refine ⟨?_, by omega, by omega, by omega⟩
    unfold wo
    rw [if_pos (by omega)]
    omega
  · subst h
    refine ⟨?_, by omega, by omega, by omega⟩
    unfold wo
    rw [if_neg (by omega), if_pos (by omega)]
    omega
  · refine ⟨?_, by omega, by omega, by omega⟩
    unfold wo
    rw [if_neg (by omega), if_neg (by omega)]
    omega
theorem isW_kd {σ : St} {w : Nat} (h : isW σ w = true) (k : Nat) (hk : k < 14) : kd (w + k) = kW k := by
  obtain ⟨h1, -, h3, h4⟩ := isW_wo h k hk
  unfold kd
  rw [if_neg h3, if_neg h4, h1]
theorem isW_ln {σ : St} {w : Nat} (h : isW σ w = true) (k : Nat) (hk : k < 14) : ln (w + k) = lW k := by
  obtain ⟨h1, -, h3, h4⟩ := isW_wo h k hk
  unfold ln
  rw [if_neg h4, h1]
theorem isW_lt {σ : St} {w : Nat} (h : isW σ w = true) (k : Nat) (hk : k < 14) : w + k < nA σ := (isW_wo h k hk).2.1
theorem isW_T {σ : St} {w : Nat} (h : isW σ w = true) (k : Nat) (hk : k + 1 < 14 ∧ kW k = 8 ∧ kW (k + 1) = 13) : isT σ (w + k) = true := by
  have a := isW_kd h k (by omega)
  have b := isW_kd h (k + 1) hk.1
  have c := isW_lt h (k + 1) hk.1
  simp only [isT, Bool.and_eq_true, decide_eq_true_eq]
  exact ⟨⟨a.trans hk.2.1, b.trans hk.2.2⟩, c⟩
theorem isW_lit {σ : St} {w : Nat} (h : w = 1 ∨ w = 15) : isW σ w = true := by
  simp only [isW, Bool.or_eq_true, Bool.and_eq_true, decide_eq_true_eq]
  exact Or.inl h
theorem isT_lit {σ : St} {t : Nat} (h : kd t = 8 ∧ kd (t + 1) = 13 ∧ t + 1 < 75) : isT σ t = true := by
  simp only [isT, Bool.and_eq_true, decide_eq_true_eq]
  exact ⟨⟨h.1, h.2.1⟩, lt_lit h.2.2⟩
theorem isA_lit {σ : St} {a : Nat} (h : kd a = 13 ∧ a < 75) : isA σ a = true := by
  simp only [isA, Bool.and_eq_true, decide_eq_true_eq]
  exact ⟨h.1, lt_lit h.2⟩
theorem isT_kd0 {σ : St} {t : Nat} (h : isT σ t = true) : kd t = 8 := by
  simp only [isT, Bool.and_eq_true, decide_eq_true_eq] at h
  exact h.1.1
theorem isT_kd {σ : St} {t : Nat} (h : isT σ t = true) : kd (t + 1) = 13 := by
  simp only [isT, Bool.and_eq_true, decide_eq_true_eq] at h
  exact h.1.2
theorem isT_lt {σ : St} {t : Nat} (h : isT σ t = true) : t + 1 < nA σ := by
  simp only [isT, Bool.and_eq_true, decide_eq_true_eq] at h
  exact h.2
theorem isT_lt0 {σ : St} {t : Nat} (h : isT σ t = true) : t < nA σ := Nat.lt_of_succ_lt (isT_lt h)
theorem isA_kd {σ : St} {a : Nat} (h : isA σ a = true) : kd a = 13 := by
  simp only [isA, Bool.and_eq_true, decide_eq_true_eq] at h
  exact h.1
theorem isA_lt {σ : St} {a : Nat} (h : isA σ a = true) : a < nA σ := by
  simp only [isA, Bool.and_eq_true, decide_eq_true_eq] at h
  exact h.2
theorem cel_T {cy : Nat → ClassId} {ad : Nat → Nat} {σ : St} {i : Nat} (h : isT σ i = true) : cel cy ad σ i = .inr (8, [.int (tw i), .int (tm i), .ref (ad (i + 1)), .int (gf σ i 3)]) := by
  simp [cel, isT_kd0 h]
theorem cel_W {cy : Nat → ClassId} {ad : Nat → Nat} {σ : St} {i : Nat} (h : isW σ i = true) : cel cy ad σ i = .inr (9, [.int (gf σ i 0), .int (gf σ i 1), .int (gf σ i 2), .int (gf σ i 3), .int (gf σ i 4), .ref (ad (i + 1)), .ref (ad (i + 2)), .ref (ad (i + 4)), .ref (ad (i + 6)), .ref (ad (i + 8)), .ref (ad (i + 10)), .ref (ad (i + 12))]) := by
  simp [cel, show kd i = 9 from isW_kd h 0 (by decide)]
theorem ne_of_gd {α : Type} {x y : α} {d : Decidable (x = y)} (h : (!decide (x = y)) = true) : ¬ x = y := by simpa using h
theorem i32_ne {x c : Int32} {z : Int} (q : ¬ x = c) (hz : c.toInt = z) : ¬ x.toInt = z := fun e => q (Int32.toInt_inj.mp (e.trans hz.symm))
theorem bz_nar {x : Int32} (h : bz x = true) : narrow .boolean (.int x) = .int x ∧ fits .boolean (.int x) = true := by
  simp only [bz, Bool.or_eq_true, decide_eq_true_eq] at h
  rcases h with rfl | rfl <;> exact ⟨rfl, rfl⟩
section SW
variable {Γ : CX} {cc : ByteArray} {nL : Nat} {own : String} {ret : Option FieldType} {rm : Room} {σ : St} {pc pc' : Nat} {lv lv' : List (Nat × Value)} {st : List Value}
theorem w_tsw {dflt lo hi : Int} {offs : Array Int} {len : Nat} {x : Int32} {off : Int} {tgt : Nat} (c : Int32) (q : x = c) (hd : decode cc pc = .ok (.tableswitch dflt lo hi offs, len)) (h1 : ¬ c.toInt < lo) (h2 : ¬ hi < c.toInt) (ho : offs[(c.toInt - lo).toNat]? = some off) (ht : (pc : Int) + off = (tgt : Int)) (h : WW Γ cc nL own ret rm σ tgt lv st) : WW Γ cc nL own ret rm σ pc lv (.int x :: st) := by
  subst q
  exact w_tableIn hd h1 h2 ho ht h
theorem w_lsw {dflt : Int} {ps : Array (Int × Int)} {len : Nat} {x : Int32} {off : Int} {tgt : Nat} (c : Int32) (q : x = c) (hd : decode cc pc = .ok (.lookupswitch dflt ps, len)) (hq : (ps.toList.zip (ps.toList.drop 1)).all (fun (a, next) => a.1 < next.1) = true) (ho : Op.lookupswitch.offset ps.toList dflt c.toInt = off) (ht : (pc : Int) + off = (tgt : Int)) (h : WW Γ cc nL own ret rm σ tgt lv st) : WW Γ cc nL own ret rm σ pc lv (.int x :: st) := by
  subst q
  exact w_lookup hd hq ho ht h
end SW
theorem gd_of {α : Type} {b : Bool} {k : Option α} {x : α} (h : gd b k = some x) : b = true := by
  cases b with
  | true => rfl
  | false => cases h
theorem tb_in {ws : List Cond} (ps : List Nat) (hp : ws = ps.filterMap (fun i => lw_tbl[i]?)) (hg : ws.all goodWord = true) : ∀ w ∈ ws, w ∈ TB := by
  intro w hw
  have h1 := List.all_eq_true.mp hg w hw
  rw [hp] at hw
  obtain ⟨i, -, hi⟩ := List.mem_filterMap.mp hw
  exact tb_m (List.mem_of_getElem? hi) h1
theorem i32_en {x c : Int32} {z : Int} (q : ¬ x = c) (hz : c.toInt = z) : ¬ z = x.toInt := fun e => i32_ne q hz e.symm
