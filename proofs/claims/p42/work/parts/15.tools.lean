/-! ===== tools over functions ===== -/
theorem itr_succ {α β : Type} (body : (α → Option β) → α → Option β) (n : Nat) (x : α) : itr body (n + 1) x = body (itr body n) x := rfl
theorem bd_mk {α β : Type} (r : α) (s : St) (k : α → St → Option β) : bd (some (r, s)) k = k r s := rfl
theorem bnd_mk {α β : Type} (a : α) (k : α → Option β) : bnd a k = k a := rfl
theorem gd_tt {α : Type} (k : Option α) : gd true k = k := rfl
theorem bz_0 : bz 0 = true := rfl
theorem bz_1 : bz 1 = true := rfl
/-- 1 or 0 -/
def b2 (p : Prop) [Decidable p] : Int32 := if p then 1 else 0
theorem b2_t {p : Prop} [Decidable p] (h : p) : b2 p = 1 := if_pos h
theorem b2_f {p : Prop} [Decidable p] (h : ¬ p) : b2 p = 0 := if_neg h
theorem b2_0 {p : Prop} [Decidable p] : b2 p = 0 ↔ ¬ p := by
  unfold b2
  split
  · rename_i h
    simp [h]
  · rename_i h
    simp [h]
theorem bz_b2 {p : Prop} [Decidable p] : bz (b2 p) = true := by
  unfold b2
  split <;> rfl
theorem lt_toInt {a b : Int32} : a < b ↔ a.toInt < b.toInt := Int32.lt_iff_toInt_lt
theorem le_toInt {a b : Int32} : a ≤ b ↔ a.toInt ≤ b.toInt := Int32.le_iff_toInt_le
theorem lcmp_lt {x y : Int64} : lg_cmp x y < 0 ↔ x.toInt < y.toInt := by
  rw [← Int64.lt_iff_toInt_lt]
  unfold lg_cmp
  by_cases h : x > y
  · rw [if_pos h]
    exact ⟨fun q => absurd q (by decide), fun q => absurd q (Int64.lt_asymm h)⟩
  · rw [if_neg h]
    by_cases h2 : x = y
    · rw [if_pos h2]
      exact ⟨fun q => absurd q (by decide), fun q => absurd h2 (Int64.ne_of_lt q)⟩
    · rw [if_neg h2]
      exact ⟨fun _ => Int64.lt_of_le_of_ne (Int64.not_lt.mp h) h2, fun _ => by decide⟩
theorem lcmp_gt {x y : Int64} : 0 < lg_cmp x y ↔ y.toInt < x.toInt := by
  rw [← Int64.lt_iff_toInt_lt]
  unfold lg_cmp
  by_cases h : x > y
  · rw [if_pos h]
    exact ⟨fun _ => h, fun _ => by decide⟩
  · rw [if_neg h]
    by_cases h2 : x = y
    · rw [if_pos h2]
      exact ⟨fun q => absurd q (by decide), fun q => absurd q h⟩
    · rw [if_neg h2]
      exact ⟨fun q => absurd q (by decide), fun q => absurd q h⟩
theorem S_in (v lo hi : Int64) (σ : St) : f_X12_in v lo hi σ = some (b2 (lo.toInt ≤ v.toInt ∧ v.toInt ≤ hi.toInt), σ) := by
  unfold f_X12_in f_X12_in_17 f_X12_in_18
  rw [bz_0, bz_1, gd_tt, gd_tt]
  by_cases h1 : lg_cmp v lo < 0
  · rw [if_pos h1, b2_f (fun q => by have := lcmp_lt.mp h1; omega)]
  · rw [if_neg h1]
    have h1 : ¬ v.toInt < lo.toInt := fun q => h1 (lcmp_lt.mpr q)
    by_cases h2 : 0 < lg_cmp v hi
    · rw [if_pos h2, b2_f (fun q => by have := lcmp_gt.mp h2; omega)]
    · rw [if_neg h2]
      have h2 : ¬ hi.toInt < v.toInt := fun q => h2 (lcmp_gt.mpr q)
      rw [b2_t ⟨by omega, by omega⟩]
theorem S_in32 (v lo hi : Int32) (σ : St) : f_X12_in v.toInt64 lo.toInt64 hi.toInt64 σ = some (b2 (lo.toInt ≤ v.toInt ∧ v.toInt ≤ hi.toInt), σ) := by
  rw [S_in]
  simp only [Int32.toInt_toInt64]
/-! ===== which objects change ===== -/
def Fr (l : List Nat) (σ σ' : St) : Prop := (∀ i, i ∉ l → gf σ' i = gf σ i ∧ gr σ' i = gr σ i ∧ gj σ' i = gj σ i) ∧ gm σ' = gm σ ∧ gn σ' = gn σ
theorem Fr.rf {l : List Nat} {σ : St} : Fr l σ σ := ⟨fun _ _ => ⟨rfl, rfl, rfl⟩, rfl, rfl⟩
theorem Fr.tr {l : List Nat} {σ σ' σ'' : St} (h : Fr l σ σ') (g : Fr l σ' σ'') : Fr l σ σ'' := ⟨fun i hi => ⟨(g.1 i hi).1.trans (h.1 i hi).1, (g.1 i hi).2.1.trans (h.1 i hi).2.1, (g.1 i hi).2.2.trans (h.1 i hi).2.2⟩, g.2.1.trans h.2.1, g.2.2.trans h.2.2⟩
theorem Fr.mo {l l' : List Nat} {σ σ' : St} (h : Fr l σ σ') (hl : ∀ i, i ∈ l → i ∈ l') : Fr l' σ σ' := ⟨fun i hi => h.1 i (fun q => hi (hl i q)), h.2⟩
theorem Fr.cF {l : List Nat} {σ : St} {i : Nat} {f : Nat → Int32} (hi : i ∈ l) : Fr l σ (sF σ i f) := ⟨fun j hj => ⟨by rw [gf_sF, if_neg (fun e : j = i => hj (e ▸ hi))], rfl, rfl⟩, rfl, rfl⟩
theorem Fr.cR {l : List Nat} {σ : St} {i : Nat} {f : Nat → Int32} (hi : i ∈ l) : Fr l σ (sR σ i f) := ⟨fun j hj => ⟨rfl, by rw [gr_sR, if_neg (fun e : j = i => hj (e ▸ hi))], rfl⟩, rfl, rfl⟩
theorem Fr.cJ {l : List Nat} {σ : St} {i : Nat} {f : Nat → Int64} (hi : i ∈ l) : Fr l σ (sJ σ i f) := ⟨fun j hj => ⟨rfl, rfl, by rw [gj_sJ, if_neg (fun e : j = i => hj (e ▸ hi))]⟩, rfl, rfl⟩
theorem Fr.c1 {l : List Nat} {σ : St} {i k : Nat} {v : Int32} (hi : i ∈ l) : Fr l σ (sf σ i k v) := Fr.cF hi
theorem Fr.c2 {l : List Nat} {σ : St} {i k : Nat} {v : Int32} (hi : i ∈ l) : Fr l σ (sr σ i k v) := Fr.cR hi
theorem Fr.c3 {l : List Nat} {σ : St} {i k : Nat} {v : Int64} (hi : i ∈ l) : Fr l σ (sj σ i k v) := Fr.cJ hi
/-- three numbers at the head of a row -/
def W3 (f : Nat → Int32) (a b c : Int32) : Nat → Int32 := upd (upd (upd f 0 a) 1 b) 2 c
theorem sr3 (σ : St) (i : Nat) (a b c : Int32) : sr (sr (sr σ i 0 a) i 1 b) i 2 c = sR σ i (W3 (gr σ i) a b c) := by
  have e1 : gr (sr σ i 0 a) i = upd (gr σ i) 0 a := by unfold sr; rw [gr_sR, if_pos rfl]
  have e2 : gr (sr (sr σ i 0 a) i 1 b) i = upd (upd (gr σ i) 0 a) 1 b := by
    rw [← e1]
    show gr (sR _ i _) i = _
    rw [gr_sR, if_pos rfl]
  show sR (sr (sr σ i 0 a) i 1 b) i (upd (gr (sr (sr σ i 0 a) i 1 b) i) 2 c) = _
  rw [e2]
  unfold sr sR
  refine Prod.ext rfl (Prod.ext ?_ rfl)
  funext j
  show va_up (va_up (va_up σ.2.1 i _) i _) i _ j = va_up σ.2.1 i _ j
  unfold va_up W3
  by_cases h : j = i
  · simp [h]
  · simp [h]
theorem gr_sRs (σ : St) (i : Nat) (f : Nat → Int32) : gr (sR σ i f) i = f := by rw [gr_sR, if_pos rfl]
theorem gr_sRn (σ : St) {i j : Nat} (f : Nat → Int32) (h : j ≠ i) : gr (sR σ i f) j = gr σ j := by rw [gr_sR, if_neg h]
theorem W3_0 (f : Nat → Int32) (a b c : Int32) : W3 f a b c 0 = a := by simp [W3, upd]
theorem W3_1 (f : Nat → Int32) (a b c : Int32) : W3 f a b c 1 = b := by simp [W3, upd]
theorem W3_2 (f : Nat → Int32) (a b c : Int32) : W3 f a b c 2 = c := by simp [W3, upd]
theorem W3_W3 (f : Nat → Int32) (a b c x y z : Int32) : W3 (W3 f a b c) x y z = W3 f x y z := by
  funext j
  unfold W3 upd
  by_cases h0 : j = 2
  · simp [h0]
  · by_cases h1 : j = 1
    · simp [h1]
    · by_cases h2 : j = 0
      · simp [h2]
      · simp [h0, h1, h2]
theorem sR_sR (σ : St) (i : Nat) (f g : Nat → Int32) : sR (sR σ i f) i g = sR σ i g := by
  unfold sR
  refine Prod.ext rfl (Prod.ext ?_ rfl)
  funext j
  show va_up (va_up σ.2.1 i f) i g j = va_up σ.2.1 i g j
  unfold va_up
  by_cases h : j = i
  · simp [h]
  · simp [h]
