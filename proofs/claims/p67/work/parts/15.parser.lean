/-! ===== tools over functions ===== -/
theorem itr_succ {α β : Type} (body : (α → Option β) → α → Option β) (n : Nat) (x : α) : itr body (n + 1) x = body (itr body n) x := rfl
theorem bd_mk {α β : Type} (r : α) (s : St) (k : α → St → Option β) : bd (some (r, s)) k = k r s := rfl
theorem bnd_mk {α β : Type} (a : α) (k : α → Option β) : bnd a k = k a := rfl
theorem gd_tt {α : Type} (k : Option α) : gd true k = k := rfl
theorem bz_0 : bz 0 = true := rfl
theorem bz_1 : bz 1 = true := rfl
/-- 1 or 0 -/
def b2 (p : Prop) [Decidable p] : Int32 := if p then 1 else 0
theorem b2_t {p : Prop} [Decidable p] (h : p) : b2 p = 1 := if_pos h
theorem b2_f {p : Prop} [Decidable p] (h : ¬ p) : b2 p = 0 := if_neg h
theorem b2_0 {p : Prop} [Decidable p] : b2 p = 0 ↔ ¬ p := by
  unfold b2
  split
  · rename_i h
    simp [h]
  · rename_i h
    simp [h]
theorem bz_b2 {p : Prop} [Decidable p] : bz (b2 p) = true := by
  unfold b2
  split <;> rfl
theorem lt_toInt {a b : Int32} : a < b ↔ a.toInt < b.toInt := Int32.lt_iff_toInt_lt
theorem le_toInt {a b : Int32} : a ≤ b ↔ a.toInt ≤ b.toInt := Int32.le_iff_toInt_le
theorem lcmp_lt {x y : Int64} : lg_cmp x y < 0 ↔ x.toInt < y.toInt := by
  rw [← Int64.lt_iff_toInt_lt]
  unfold lg_cmp
  by_cases h : x > y
  · rw [if_pos h]
    exact ⟨fun q => absurd q (by decide), fun q => absurd q (Int64.lt_asymm h)⟩
  · rw [if_neg h]
    by_cases h2 : x = y
    · rw [if_pos h2]
      exact ⟨fun q => absurd q (by decide), fun q => absurd h2 (Int64.ne_of_lt q)⟩
    · rw [if_neg h2]
      exact ⟨fun _ => Int64.lt_of_le_of_ne (Int64.not_lt.mp h) h2, fun _ => by decide⟩
theorem lcmp_gt {x y : Int64} : 0 < lg_cmp x y ↔ y.toInt < x.toInt := by
  rw [← Int64.lt_iff_toInt_lt]
  unfold lg_cmp
  by_cases h : x > y
  · rw [if_pos h]
    exact ⟨fun _ => h, fun _ => by decide⟩
  · rw [if_neg h]
    by_cases h2 : x = y
    · rw [if_pos h2]
      exact ⟨fun q => absurd q (by decide), fun q => absurd q h⟩
    · rw [if_neg h2]
      exact ⟨fun q => absurd q (by decide), fun q => absurd q h⟩
theorem S_in (v lo hi : Int64) (σ : St) : f_X12_in v lo hi σ = some (b2 (lo.toInt ≤ v.toInt ∧ v.toInt ≤ hi.toInt), σ) := by
  unfold f_X12_in f_X12_in_17 f_X12_in_18
  rw [bz_0, bz_1, gd_tt, gd_tt]
  by_cases h1 : lg_cmp v lo < 0
  · rw [if_pos h1, b2_f (fun q => by have := lcmp_lt.mp h1; omega)]
  · rw [if_neg h1]
    have h1 : ¬ v.toInt < lo.toInt := fun q => h1 (lcmp_lt.mpr q)
    by_cases h2 : 0 < lg_cmp v hi
    · rw [if_pos h2, b2_f (fun q => by have := lcmp_gt.mp h2; omega)]
    · rw [if_neg h2]
      have h2 : ¬ hi.toInt < v.toInt := fun q => h2 (lcmp_gt.mpr q)
      rw [b2_t ⟨by omega, by omega⟩]
theorem S_in32 (v lo hi : Int32) (σ : St) : f_X12_in v.toInt64 lo.toInt64 hi.toInt64 σ = some (b2 (lo.toInt ≤ v.toInt ∧ v.toInt ≤ hi.toInt), σ) := by
  rw [S_in]
  simp only [Int32.toInt_toInt64]
/-! ===== which objects change ===== -/
def Fr (l : List Nat) (σ σ' : St) : Prop := (∀ i, i ∉ l → gf σ' i = gf σ i ∧ gr σ' i = gr σ i ∧ gj σ' i = gj σ i) ∧ gm σ' = gm σ ∧ gn σ' = gn σ
theorem Fr.rf {l : List Nat} {σ : St} : Fr l σ σ := ⟨fun _ _ => ⟨rfl, rfl, rfl⟩, rfl, rfl⟩
theorem Fr.tr {l : List Nat} {σ σ' σ'' : St} (h : Fr l σ σ') (g : Fr l σ' σ'') : Fr l σ σ'' := ⟨fun i hi => ⟨(g.1 i hi).1.trans (h.1 i hi).1, (g.1 i hi).2.1.trans (h.1 i hi).2.1, (g.1 i hi).2.2.trans (h.1 i hi).2.2⟩, g.2.1.trans h.2.1, g.2.2.trans h.2.2⟩
theorem Fr.mo {l l' : List Nat} {σ σ' : St} (h : Fr l σ σ') (hl : ∀ i, i ∈ l → i ∈ l') : Fr l' σ σ' := ⟨fun i hi => h.1 i (fun q => hi (hl i q)), h.2⟩
theorem Fr.cF {l : List Nat} {σ : St} {i : Nat} {f : Nat → Int32} (hi : i ∈ l) : Fr l σ (sF σ i f) := ⟨fun j hj => ⟨by rw [gf_sF, if_neg (fun e : j = i => hj (e ▸ hi))], rfl, rfl⟩, rfl, rfl⟩
theorem Fr.cR {l : List Nat} {σ : St} {i : Nat} {f : Nat → Int32} (hi : i ∈ l) : Fr l σ (sR σ i f) := ⟨fun j hj => ⟨rfl, by rw [gr_sR, if_neg (fun e : j = i => hj (e ▸ hi))], rfl⟩, rfl, rfl⟩
theorem Fr.cJ {l : List Nat} {σ : St} {i : Nat} {f : Nat → Int64} (hi : i ∈ l) : Fr l σ (sJ σ i f) := ⟨fun j hj => ⟨rfl, rfl, by rw [gj_sJ, if_neg (fun e : j = i => hj (e ▸ hi))]⟩, rfl, rfl⟩
theorem Fr.c1 {l : List Nat} {σ : St} {i k : Nat} {v : Int32} (hi : i ∈ l) : Fr l σ (sf σ i k v) := Fr.cF hi
theorem Fr.c2 {l : List Nat} {σ : St} {i k : Nat} {v : Int32} (hi : i ∈ l) : Fr l σ (sr σ i k v) := Fr.cR hi
theorem Fr.c3 {l : List Nat} {σ : St} {i k : Nat} {v : Int64} (hi : i ∈ l) : Fr l σ (sj σ i k v) := Fr.cJ hi
/-- three numbers at the head of a row -/
def W3 (f : Nat → Int32) (a b c : Int32) : Nat → Int32 := upd (upd (upd f 0 a) 1 b) 2 c
theorem sr3 (σ : St) (i : Nat) (a b c : Int32) : sr (sr (sr σ i 0 a) i 1 b) i 2 c = sR σ i (W3 (gr σ i) a b c) := by
  have e1 : gr (sr σ i 0 a) i = upd (gr σ i) 0 a := by unfold sr; rw [gr_sR, if_pos rfl]
  have e2 : gr (sr (sr σ i 0 a) i 1 b) i = upd (upd (gr σ i) 0 a) 1 b := by
    rw [← e1]
    show gr (sR _ i _) i = _
    rw [gr_sR, if_pos rfl]
  show sR (sr (sr σ i 0 a) i 1 b) i (upd (gr (sr (sr σ i 0 a) i 1 b) i) 2 c) = _
  rw [e2]
  unfold sr sR
  refine Prod.ext rfl (Prod.ext ?_ rfl)
  funext j
  show va_up (va_up (va_up σ.2.1 i _) i _) i _ j = va_up σ.2.1 i _ j
  unfold va_up W3
  by_cases h : j = i
  · simp [h]
  · simp [h]
theorem gr_sRs (σ : St) (i : Nat) (f : Nat → Int32) : gr (sR σ i f) i = f := by rw [gr_sR, if_pos rfl]
theorem gr_sRn (σ : St) {i j : Nat} (f : Nat → Int32) (h : j ≠ i) : gr (sR σ i f) j = gr σ j := by rw [gr_sR, if_neg h]
theorem W3_0 (f : Nat → Int32) (a b c : Int32) : W3 f a b c 0 = a := by simp [W3, upd]
theorem W3_1 (f : Nat → Int32) (a b c : Int32) : W3 f a b c 1 = b := by simp [W3, upd]
theorem W3_2 (f : Nat → Int32) (a b c : Int32) : W3 f a b c 2 = c := by simp [W3, upd]
theorem W3_W3 (f : Nat → Int32) (a b c x y z : Int32) : W3 (W3 f a b c) x y z = W3 f x y z := by
  funext j
  unfold W3 upd
  by_cases h0 : j = 2
  · simp [h0]
  · by_cases h1 : j = 1
    · simp [h1]
    · by_cases h2 : j = 0
      · simp [h2]
      · simp [h0, h1, h2]
theorem sR_sR (σ : St) (i : Nat) (f g : Nat → Int32) : sR (sR σ i f) i g = sR σ i g := by
  unfold sR
  refine Prod.ext rfl (Prod.ext ?_ rfl)
  funext j
  show va_up (va_up σ.2.1 i f) i g j = va_up σ.2.1 i g j
  unfold va_up
  by_cases h : j = i
  · simp [h]
  · simp [h]
/-! ===== PLACES: hold, holds, reply ===== -/
def vl (x : Int32) : Int32 := if x ≤ 0 then (if 0 ≤ x then 0 else -1) else 1
theorem S_sign (x : Int32) (σ : St) : f_X2_signOf x σ = some (vl x, σ) := by
  unfold f_X2_signOf f_X2_signOf_17 vl
  split
  · split <;> rfl
  · rfl
theorem S_value (x : Int32) (σ : St) : f_X12_valueOf x σ = some (vl x, σ) := by
  unfold f_X12_valueOf f_X12_valueOf_17 vl
  split
  · split <;> rfl
  · rfl
theorem vl_3 (x : Int32) : vl x = 0 ∨ vl x = -1 ∨ vl x = 1 := by
  unfold vl
  split
  · split
    · exact Or.inl rfl
    · exact Or.inr (Or.inl rfl)
  · exact Or.inr (Or.inr rfl)
/-- what a way has got by a reply -/
def gt (m : Nat) (x0 x1 x2 : Int32) (a b : Nat) : Int32 := vl (x0 - nI a) + vl (x1 - nI b) + vl (x2 - (nI m - nI a - nI b))
theorem gt_3 (m : Nat) (x0 x1 x2 : Int32) (a b : Nat) : -3 ≤ (gt m x0 x1 x2 a b).toInt ∧ (gt m x0 x1 x2 a b).toInt ≤ 3 := by
  unfold gt
  rcases vl_3 (x0 - nI a) with h | h | h <;> rcases vl_3 (x1 - nI b) with g | g | g <;> rcases vl_3 (x2 - (nI m - nI a - nI b)) with k | k | k <;> rw [h, g, k] <;> decide
def st1 (m : Nat) (x0 x1 x2 : Int32) (a : Nat) (B : Int32 × Int32 × Int32) (b : Nat) : Int32 × Int32 × Int32 := if B.1 ≤ gt m x0 x1 x2 a b then B else (gt m x0 x1 x2 a b, nI a, nI b)
def in1 (m : Nat) (x0 x1 x2 : Int32) (B : Int32 × Int32 × Int32) (a : Nat) : Int32 × Int32 × Int32 := (List.range' 0 (m + 1 - a)).foldl (st1 m x0 x1 x2 a) B
/-- the first of the best replies, behind some that were looked at -/
def mt (m : Nat) (x0 x1 x2 : Int32) (B : Int32 × Int32 × Int32) : Int32 × Int32 × Int32 := (List.range' 0 (m + 1)).foldl (in1 m x0 x1 x2) B
theorem mt_far {m : Nat} {x0 x1 x2 : Int32} {B C : Int32 × Int32 × Int32} (hB : 3 < B.1.toInt) (hC : 3 < C.1.toInt) : mt m x0 x1 x2 B = mt m x0 x1 x2 C := by
  have e : ∀ D : Int32 × Int32 × Int32, 3 < D.1.toInt → st1 m x0 x1 x2 0 D 0 = (gt m x0 x1 x2 0 0, nI 0, nI 0) := fun D hD => by
    unfold st1
    rw [if_neg]
    rw [le_toInt]
    have := gt_3 m x0 x1 x2 0 0
    omega
  have f : in1 m x0 x1 x2 B 0 = in1 m x0 x1 x2 C 0 := by
    unfold in1
    rw [show m + 1 - 0 = m + 1 from rfl, List.range'_succ, List.foldl_cons, List.foldl_cons, e B hB, e C hC]
  unfold mt
  rw [List.range'_succ, List.foldl_cons, List.foldl_cons, f]
/-- the numbers that a fold leaves are bounded -/
theorem mt_bd {m : Nat} {x0 x1 x2 : Int32} {B : Int32 × Int32 × Int32} (hB : 3 < B.1.toInt) : -3 ≤ (mt m x0 x1 x2 B).1.toInt ∧ (mt m x0 x1 x2 B).1.toInt ≤ 3 := by
  have h1 : ∀ (a : Nat) (l : List Nat) (D : Int32 × Int32 × Int32), -3 ≤ D.1.toInt ∧ D.1.toInt ≤ 3 → -3 ≤ (l.foldl (st1 m x0 x1 x2 a) D).1.toInt ∧ (l.foldl (st1 m x0 x1 x2 a) D).1.toInt ≤ 3 := by
    intro a l
    induction l with
    | nil => intro D h; exact h
    | cons b l ih =>
      intro D h
      rw [List.foldl_cons]
      apply ih
      unfold st1
      split
      · exact h
      · exact gt_3 m x0 x1 x2 a b
  have h2 : ∀ (l : List Nat) (D : Int32 × Int32 × Int32), -3 ≤ D.1.toInt ∧ D.1.toInt ≤ 3 → -3 ≤ (l.foldl (in1 m x0 x1 x2) D).1.toInt ∧ (l.foldl (in1 m x0 x1 x2) D).1.toInt ≤ 3 := by
    intro l
    induction l with
    | nil => intro D h; exact h
    | cons a l ih =>
      intro D h
      rw [List.foldl_cons]
      exact ih _ (h1 a _ D h)
  unfold mt
  rw [List.range'_succ, List.foldl_cons]
  apply h2
  unfold in1
  rw [show m + 1 - 0 = m + 1 from rfl, List.range'_succ, List.foldl_cons]
  apply h1
  unfold st1
  split
  · rename_i q
    rw [le_toInt] at q
    have := gt_3 m x0 x1 x2 0 0
    omega
  · exact gt_3 m x0 x1 x2 0 0
/-! the class -/
theorem S_put {σ : St} (u : Nat) (hu : isA σ u = true) (hl : ln u = 3) (a b c : Int32) : f_X5_put u a b c σ = some ((), sR σ u (W3 (gr σ u) a b (c - a - b))) := by
  unfold f_X5_put f_X5_put_22
  rw [hu, hl, if_pos (show nI 3 = (3 : Int32) from rfl), show inb (0 : Int32) 3 = true from rfl, show inb (1 : Int32) 3 = true from rfl, show inb (2 : Int32) 3 = true from rfl]
  show some ((), sr (sr (sr σ u 0 a) u 1 b) u 2 (c - a - b)) = _
  rw [sr3]
theorem meet_in {m a : Nat} (hm : m ≤ 9) (K : Int32 × Int32 × Int32 × Int32 × Int32 × St → Option (Int32 × St)) (σ : St) : ∀ (k b n : Nat) (v2 v3 v4 : Int32), a + b + k = m + 1 → k < n →
    itr (g_X5_meet_19 K) n (nI m, v2, v3, v4, nI a, nI b, σ) = K (nI m, ((List.range' b k).foldl (st1 m (gr σ 46 0) (gr σ 46 1) (gr σ 46 2) a) (v2, v3, v4)).1, ((List.range' b k).foldl (st1 m (gr σ 46 0) (gr σ 46 1) (gr σ 46 2) a) (v2, v3, v4)).2.1, ((List.range' b k).foldl (st1 m (gr σ 46 0) (gr σ 46 1) (gr σ 46 2) a) (v2, v3, v4)).2.2, nI (a + 1), σ) := by
  intro k
  induction k with
  | zero =>
    intro b n v2 v3 v4 h hn
    obtain ⟨n, rfl⟩ : ∃ q, n = q + 1 := ⟨n - 1, by omega⟩
    rw [itr_succ]
    unfold g_X5_meet_19
    dsimp only
    rw [nI_add, if_pos (nI_lt (by omega) (by omega)), bnd_mk, nI_1]
    rfl
  | succ k ih =>
    intro b n v2 v3 v4 h hn
    obtain ⟨n, rfl⟩ : ∃ q, n = q + 1 := ⟨n - 1, by omega⟩
    rw [itr_succ]
    unfold g_X5_meet_19
    dsimp only
    rw [nI_add, if_neg (nI_nlt (by omega) (by omega))]
    rw [show inb (0 : Int32) (ln 46) = true from rfl, show inb (1 : Int32) (ln 46) = true from rfl, show inb (2 : Int32) (ln 46) = true from rfl, gd_tt, S_sign, bd_mk, gd_tt, S_sign, bd_mk, gd_tt, S_sign, bd_mk, bnd_mk]
    rw [List.range'_succ, List.foldl_cons]
    have e : vl (gr σ 46 (0 : Int32).toNatClampNeg - nI a) + vl (gr σ 46 (1 : Int32).toNatClampNeg - nI b) + vl (gr σ 46 (2 : Int32).toNatClampNeg - (nI m - nI a - nI b)) = gt m (gr σ 46 0) (gr σ 46 1) (gr σ 46 2) a b := rfl
    rw [e]
    unfold f_X5_meet_89
    rw [bnd_mk, bnd_mk, nI_1]
    by_cases q : v2 ≤ gt m (gr σ 46 0) (gr σ 46 1) (gr σ 46 2) a b
    · rw [if_pos q, show st1 m (gr σ 46 0) (gr σ 46 1) (gr σ 46 2) a (v2, v3, v4) b = (v2, v3, v4) from if_pos q]
      exact ih (b + 1) n v2 v3 v4 (by omega) (by omega)
    · rw [if_neg q, show st1 m (gr σ 46 0) (gr σ 46 1) (gr σ 46 2) a (v2, v3, v4) b = (gt m (gr σ 46 0) (gr σ 46 1) (gr σ 46 2) a b, nI a, nI b) from if_neg q]
      exact ih (b + 1) n _ _ _ (by omega) (by omega)
theorem meet_out {m : Nat} (hm : m ≤ 9) (σ : St) : ∀ (k a n : Nat) (B : Int32 × Int32 × Int32), a + k = m + 1 → k < n →
    itr g_X5_meet_10 n (nI m, B.1, B.2.1, B.2.2, nI a, σ) = some (((List.range' a k).foldl (in1 m (gr σ 46 0) (gr σ 46 1) (gr σ 46 2)) B).1, sR σ 47 (W3 (gr σ 47) ((List.range' a k).foldl (in1 m (gr σ 46 0) (gr σ 46 1) (gr σ 46 2)) B).2.1 ((List.range' a k).foldl (in1 m (gr σ 46 0) (gr σ 46 1) (gr σ 46 2)) B).2.2 (nI m - ((List.range' a k).foldl (in1 m (gr σ 46 0) (gr σ 46 1) (gr σ 46 2)) B).2.1 - ((List.range' a k).foldl (in1 m (gr σ 46 0) (gr σ 46 1) (gr σ 46 2)) B).2.2))) := by
  intro k
  induction k with
  | zero =>
    intro a n B h hn
    obtain ⟨n, rfl⟩ : ∃ q, n = q + 1 := ⟨n - 1, by omega⟩
    rw [itr_succ]
    unfold g_X5_meet_10
    dsimp only
    rw [if_pos (nI_lt (by omega) (by omega)), S_put 47 (isA_lit (by decide)) rfl, bd_mk]
    rfl
  | succ k ih =>
    intro a n B h hn
    obtain ⟨n, rfl⟩ : ∃ q, n = q + 1 := ⟨n - 1, by omega⟩
    rw [itr_succ]
    unfold g_X5_meet_10
    dsimp only
    rw [if_neg (nI_nlt (by omega) (by omega))]
    have e0 : (0 : Int32) = nI 0 := rfl
    rw [e0, meet_in hm _ σ (m + 1 - a) 0 FU B.1 B.2.1 B.2.2 (by omega) (by unfold FU; omega)]
    have := ih (a + 1) n (in1 m (gr σ 46 0) (gr σ 46 1) (gr σ 46 2) B a) (by omega) (by omega)
    unfold in1 at this
    rw [List.range'_succ, List.foldl_cons]
    exact this
theorem S_meet {m : Nat} (hm : m ≤ 9) (σ : St) : f_X5_meet (nI m) σ = some ((mt m (gr σ 46 0) (gr σ 46 1) (gr σ 46 2) (4, 0, 0)).1, sR σ 47 (W3 (gr σ 47) (mt m (gr σ 46 0) (gr σ 46 1) (gr σ 46 2) (4, 0, 0)).2.1 (mt m (gr σ 46 0) (gr σ 46 1) (gr σ 46 2) (4, 0, 0)).2.2 (nI m - (mt m (gr σ 46 0) (gr σ 46 1) (gr σ 46 2) (4, 0, 0)).2.1 - (mt m (gr σ 46 0) (gr σ 46 1) (gr σ 46 2) (4, 0, 0)).2.2))) :=
  meet_out hm σ (m + 1) 0 FU (4, 0, 0) (by omega) (by unfold FU; omega)
/-! the reference -/
theorem held_in {m a : Nat} (hm : m ≤ 9) (K : Int32 × Int32 × Int32 × St → Option (Int32 × St)) (σ : St) : ∀ (k b n : Nat) (B : Int32 × Int32 × Int32) (f : Nat → Int32), a + b + k = m + 1 → k < n → (B.1 = 1000000 ∨ f = W3 f B.2.1 B.2.2 (nI m - B.2.1 - B.2.2)) →
    ∃ g, itr (g_X12_heldBy_14 K) n (nI m, B.1, nI a, nI b, sR σ 70 f) = K (nI m, ((List.range' b k).foldl (st1 m (gr σ 68 0) (gr σ 68 1) (gr σ 68 2) a) B).1, nI (a + 1), sR σ 70 g) ∧ (((List.range' b k).foldl (st1 m (gr σ 68 0) (gr σ 68 1) (gr σ 68 2) a) B).1 = 1000000 ∨ g = W3 g ((List.range' b k).foldl (st1 m (gr σ 68 0) (gr σ 68 1) (gr σ 68 2) a) B).2.1 ((List.range' b k).foldl (st1 m (gr σ 68 0) (gr σ 68 1) (gr σ 68 2) a) B).2.2 (nI m - ((List.range' b k).foldl (st1 m (gr σ 68 0) (gr σ 68 1) (gr σ 68 2) a) B).2.1 - ((List.range' b k).foldl (st1 m (gr σ 68 0) (gr σ 68 1) (gr σ 68 2) a) B).2.2)) := by
  intro k
  induction k with
  | zero =>
    intro b n B f h hn hf
    obtain ⟨n, rfl⟩ : ∃ q, n = q + 1 := ⟨n - 1, by omega⟩
    refine ⟨f, ?_, hf⟩
    rw [itr_succ]
    unfold g_X12_heldBy_14
    dsimp only
    rw [nI_add, if_pos (nI_lt (by omega) (by omega)), bnd_mk, nI_1]
    rfl
  | succ k ih =>
    intro b n B f h hn hf
    obtain ⟨n, rfl⟩ : ∃ q, n = q + 1 := ⟨n - 1, by omega⟩
    rw [itr_succ]
    unfold g_X12_heldBy_14
    dsimp only
    rw [nI_add, if_neg (nI_nlt (by omega) (by omega))]
    rw [show inb (0 : Int32) (ln 68) = true from rfl, show inb (1 : Int32) (ln 68) = true from rfl, show inb (2 : Int32) (ln 68) = true from rfl, show inb (0 : Int32) (ln 70) = true from rfl, show inb (1 : Int32) (ln 70) = true from rfl, show inb (2 : Int32) (ln 70) = true from rfl, gd_tt, S_value, bd_mk, gd_tt, S_value, bd_mk, gd_tt, S_value, bd_mk, bnd_mk]
    rw [List.range'_succ, List.foldl_cons]
    have e : vl (gr (sR σ 70 f) 68 (0 : Int32).toNatClampNeg - nI a) + vl (gr (sR σ 70 f) 68 (1 : Int32).toNatClampNeg - nI b) + vl (gr (sR σ 70 f) 68 (2 : Int32).toNatClampNeg - (nI m - nI a - nI b)) = gt m (gr σ 68 0) (gr σ 68 1) (gr σ 68 2) a b := rfl
    rw [e]
    unfold f_X12_heldBy_104
    rw [gd_tt, bnd_mk, gd_tt, bnd_mk, gd_tt, bnd_mk, bnd_mk, bnd_mk, nI_1]
    by_cases q : gt m (gr σ 68 0) (gr σ 68 1) (gr σ 68 2) a b < B.1
    · have q' : ¬ B.1 ≤ gt m (gr σ 68 0) (gr σ 68 1) (gr σ 68 2) a b := Int32.not_le.mpr q
      rw [if_pos q, show st1 m (gr σ 68 0) (gr σ 68 1) (gr σ 68 2) a B b = (gt m (gr σ 68 0) (gr σ 68 1) (gr σ 68 2) a b, nI a, nI b) from if_neg q']
      have e3 : sr (sr (sr (sR σ 70 f) 70 (0 : Int32).toNatClampNeg (nI a)) 70 (1 : Int32).toNatClampNeg (nI b)) 70 (2 : Int32).toNatClampNeg (nI m - nI a - nI b) = sR σ 70 (W3 f (nI a) (nI b) (nI m - nI a - nI b)) := by
        have := sr3 (sR σ 70 f) 70 (nI a) (nI b) (nI m - nI a - nI b)
        rw [sR_sR, gr_sRs] at this
        exact this
      rw [e3]
      exact ih (b + 1) n (gt m (gr σ 68 0) (gr σ 68 1) (gr σ 68 2) a b, nI a, nI b) _ (by omega) (by omega) (Or.inr (W3_W3 _ _ _ _ _ _ _).symm)
    · have q' : B.1 ≤ gt m (gr σ 68 0) (gr σ 68 1) (gr σ 68 2) a b := Int32.not_lt.mp q
      rw [if_neg q, show st1 m (gr σ 68 0) (gr σ 68 1) (gr σ 68 2) a B b = B from if_pos q']
      exact ih (b + 1) n B f (by omega) (by omega) hf
theorem held_out {m : Nat} (hm : m ≤ 9) (σ : St) : ∀ (k a n : Nat) (B : Int32 × Int32 × Int32) (f : Nat → Int32), a + k = m + 1 → k < n → (B.1 = 1000000 ∨ f = W3 f B.2.1 B.2.2 (nI m - B.2.1 - B.2.2)) →
    ∃ g, itr g_X12_heldBy_6 n (nI m, B.1, nI a, sR σ 70 f) = some (((List.range' a k).foldl (in1 m (gr σ 68 0) (gr σ 68 1) (gr σ 68 2)) B).1, sR σ 70 g) ∧ (((List.range' a k).foldl (in1 m (gr σ 68 0) (gr σ 68 1) (gr σ 68 2)) B).1 = 1000000 ∨ g = W3 g ((List.range' a k).foldl (in1 m (gr σ 68 0) (gr σ 68 1) (gr σ 68 2)) B).2.1 ((List.range' a k).foldl (in1 m (gr σ 68 0) (gr σ 68 1) (gr σ 68 2)) B).2.2 (nI m - ((List.range' a k).foldl (in1 m (gr σ 68 0) (gr σ 68 1) (gr σ 68 2)) B).2.1 - ((List.range' a k).foldl (in1 m (gr σ 68 0) (gr σ 68 1) (gr σ 68 2)) B).2.2)) := by
  intro k
  induction k with
  | zero =>
    intro a n B f h hn hf
    obtain ⟨n, rfl⟩ : ∃ q, n = q + 1 := ⟨n - 1, by omega⟩
    refine ⟨f, ?_, hf⟩
    rw [itr_succ]
    unfold g_X12_heldBy_6
    dsimp only
    rw [if_pos (nI_lt (by omega) (by omega))]
    rfl
  | succ k ih =>
    intro a n B f h hn hf
    obtain ⟨n, rfl⟩ : ∃ q, n = q + 1 := ⟨n - 1, by omega⟩
    rw [itr_succ]
    unfold g_X12_heldBy_6
    dsimp only
    rw [if_neg (nI_nlt (by omega) (by omega))]
    obtain ⟨g, e, hg⟩ := held_in (a := a) hm (itr g_X12_heldBy_6 n) σ (m + 1 - a) 0 FU B f (by omega) (by unfold FU; omega) hf
    rw [List.range'_succ, List.foldl_cons]
    obtain ⟨g2, e2, hg2⟩ := ih (a + 1) n (in1 m (gr σ 68 0) (gr σ 68 1) (gr σ 68 2) B a) g (by omega) (by omega) hg
    exact ⟨g2, e.trans e2, hg2⟩
theorem S_held {m : Nat} (hm : m ≤ 9) (σ : St) : ∃ g, f_X12_heldBy (nI m) σ = some ((mt m (gr σ 68 0) (gr σ 68 1) (gr σ 68 2) (4, 0, 0)).1, sR σ 70 g) ∧ g = W3 g (mt m (gr σ 68 0) (gr σ 68 1) (gr σ 68 2) (4, 0, 0)).2.1 (mt m (gr σ 68 0) (gr σ 68 1) (gr σ 68 2) (4, 0, 0)).2.2 (nI m - (mt m (gr σ 68 0) (gr σ 68 1) (gr σ 68 2) (4, 0, 0)).2.1 - (mt m (gr σ 68 0) (gr σ 68 1) (gr σ 68 2) (4, 0, 0)).2.2) := by
  obtain ⟨g, e, hg⟩ := held_out hm σ (m + 1) 0 FU (1000000, 0, 0) (gr σ 70) (by omega) (by unfold FU; omega) (Or.inl rfl)
  have es : sR σ 70 (gr σ 70) = σ := by
    unfold sR gr
    refine Prod.ext rfl (Prod.ext ?_ rfl)
    funext j
    show va_up σ.2.1 70 (σ.2.1 70) j = σ.2.1 j
    unfold va_up
    split
    · rename_i q
      rw [q]
    · rfl
  rw [es] at e
  have em : (List.range' 0 (m + 1)).foldl (in1 m (gr σ 68 0) (gr σ 68 1) (gr σ 68 2)) (1000000, 0, 0) = mt m (gr σ 68 0) (gr σ 68 1) (gr σ 68 2) (4, 0, 0) := mt_far (by decide) (by decide)
  rw [em] at e hg
  refine ⟨g, e, ?_⟩
  rcases hg with hg | hg
  · have := (mt_bd (m := m) (x0 := gr σ 68 0) (x1 := gr σ 68 1) (x2 := gr σ 68 2) (B := (4, 0, 0)) (by decide)).2
    rw [hg] at this
    exact absurd this (by decide)
  · exact hg
/-! ===== the SIDE that puts first ===== -/
def st2 (n m : Nat) (a : Nat) (H : Int32 × Int32 × Int32) (b : Nat) : Int32 × Int32 × Int32 := if (mt m (nI a) (nI b) (nI n - nI a - nI b) (4, 0, 0)).1 ≤ H.1 then H else ((mt m (nI a) (nI b) (nI n - nI a - nI b) (4, 0, 0)).1, nI a, nI b)
def in2 (n m : Nat) (H : Int32 × Int32 × Int32) (a : Nat) : Int32 × Int32 × Int32 := (List.range' 0 (n + 1 - a)).foldl (st2 n m a) H
def hd (n m : Nat) (H : Int32 × Int32 × Int32) : Int32 × Int32 × Int32 := (List.range' 0 (n + 1)).foldl (in2 n m) H
theorem hd_far {n m : Nat} {H G : Int32 × Int32 × Int32} (hH : H.1.toInt < -3) (hG : G.1.toInt < -3) : hd n m H = hd n m G := by
  have e : ∀ D : Int32 × Int32 × Int32, D.1.toInt < -3 → st2 n m 0 D 0 = ((mt m (nI 0) (nI 0) (nI n - nI 0 - nI 0) (4, 0, 0)).1, nI 0, nI 0) := fun D hD => by
    unfold st2
    rw [if_neg]
    rw [le_toInt]
    have := mt_bd (m := m) (x0 := nI 0) (x1 := nI 0) (x2 := nI n - nI 0 - nI 0) (B := (4, 0, 0)) (by decide)
    omega
  have f : in2 n m H 0 = in2 n m G 0 := by
    unfold in2
    rw [show n + 1 - 0 = n + 1 from rfl, List.range'_succ, List.foldl_cons, List.foldl_cons, e H hH, e G hG]
  unfold hd
  rw [List.range'_succ, List.foldl_cons, List.foldl_cons, f]
theorem hd_bd {n m : Nat} {H : Int32 × Int32 × Int32} (hH : H.1.toInt < -3) : -3 ≤ (hd n m H).1.toInt := by
  have h1 : ∀ (a : Nat) (l : List Nat) (D : Int32 × Int32 × Int32), -3 ≤ D.1.toInt → -3 ≤ (l.foldl (st2 n m a) D).1.toInt := by
    intro a l
    induction l with
    | nil => intro D h; exact h
    | cons b l ih =>
      intro D h
      rw [List.foldl_cons]
      apply ih
      unfold st2
      split
      · exact h
      · exact (mt_bd (by decide)).1
  have h2 : ∀ (l : List Nat) (D : Int32 × Int32 × Int32), -3 ≤ D.1.toInt → -3 ≤ (l.foldl (in2 n m) D).1.toInt := by
    intro l
    induction l with
    | nil => intro D h; exact h
    | cons a l ih =>
      intro D h
      rw [List.foldl_cons]
      exact ih _ (h1 a _ D h)
  unfold hd
  rw [List.range'_succ, List.foldl_cons]
  apply h2
  unfold in2
  rw [show n + 1 - 0 = n + 1 from rfl, List.range'_succ, List.foldl_cons]
  apply h1
  unfold st2
  split
  · rename_i q
    rw [le_toInt] at q
    have := mt_bd (m := m) (x0 := nI 0) (x1 := nI 0) (x2 := nI n - nI 0 - nI 0) (B := (4, 0, 0)) (by decide)
    omega
  · exact (mt_bd (by decide)).1
/-- what the class keeps of the best way so far -/
def KC (n m : Nat) (H : Int32 × Int32 × Int32) (σ : St) : Prop := gf σ 43 0 = H.1 ∧ (H.1 = -4 ∨ (gr σ 44 = W3 (gr σ 44) H.2.1 H.2.2 (nI n - H.2.1 - H.2.2) ∧ gr σ 45 = W3 (gr σ 45) (mt m H.2.1 H.2.2 (nI n - H.2.1 - H.2.2) (4, 0, 0)).2.1 (mt m H.2.1 H.2.2 (nI n - H.2.1 - H.2.2) (4, 0, 0)).2.2 (nI m - (mt m H.2.1 H.2.2 (nI n - H.2.1 - H.2.2) (4, 0, 0)).2.1 - (mt m H.2.1 H.2.2 (nI n - H.2.1 - H.2.2) (4, 0, 0)).2.2)))
theorem set_step {n m a b : Nat} (hm : m ≤ 9) (H : Int32 × Int32 × Int32) (σ : St) (hK : KC n m H σ) : ∃ s3 s6, f_X5_put 46 (nI a) (nI b) (nI n) σ = some ((), s3) ∧ f_X5_meet (nI m) s3 = some ((mt m (nI a) (nI b) (nI n - nI a - nI b) (4, 0, 0)).1, s6) ∧ gf s6 43 0 = H.1 ∧ Fr [43, 44, 45, 46, 47] σ s6 ∧ KC n m H s6 ∧ gr s6 47 0 = (mt m (nI a) (nI b) (nI n - nI a - nI b) (4, 0, 0)).2.1 ∧ gr s6 47 1 = (mt m (nI a) (nI b) (nI n - nI a - nI b) (4, 0, 0)).2.2 := by
  have e := S_meet hm (sR σ 46 (W3 (gr σ 46) (nI a) (nI b) (nI n - nI a - nI b)))
  rw [gr_sRs, W3_0, W3_1, W3_2] at e
  refine ⟨_, _, S_put 46 (isA_lit (by decide)) rfl _ _ _, e, hK.1, (Fr.cR (by simp)).tr (Fr.cR (by simp)), ?_, ?_, ?_⟩
  · exact hK
  · rw [gr_sRs, W3_0]
  · rw [gr_sRs, W3_1]
theorem set_in {n m a : Nat} (hn9 : n ≤ 9) (hm : m ≤ 9) (K : Int32 × Int32 × Int32 × St → Option (Unit × St)) : ∀ (k b q : Nat) (H : Int32 × Int32 × Int32) (σ : St), a + b + k = n + 1 → k < q → KC n m H σ →
    ∃ σ', itr (g_X5_settle_16 K) q (nI n, nI m, nI a, nI b, σ) = K (nI n, nI m, nI (a + 1), σ') ∧ KC n m ((List.range' b k).foldl (st2 n m a) H) σ' ∧ Fr [43, 44, 45, 46, 47] σ σ' := by
  intro k
  induction k with
  | zero =>
    intro b q H σ h hq hK
    obtain ⟨q, rfl⟩ : ∃ r, q = r + 1 := ⟨q - 1, by omega⟩
    refine ⟨σ, ?_, hK, Fr.rf⟩
    rw [itr_succ]
    unfold g_X5_settle_16
    dsimp only
    rw [nI_add, if_pos (nI_lt (by omega) (by omega)), bnd_mk, nI_1]
  | succ k ih =>
    intro b q H σ h hq hK
    obtain ⟨q, rfl⟩ : ∃ r, q = r + 1 := ⟨q - 1, by omega⟩
    obtain ⟨s3, s6, e1, e2, e3, hF, hK6, e4, e5⟩ := set_step (a := a) (b := b) hm H σ hK
    rw [itr_succ]
    generalize hR : itr (g_X5_settle_16 K) q = R
    unfold g_X5_settle_16
    dsimp only
    rw [nI_add, if_neg (nI_nlt (by omega) (by omega)), e1, bd_mk, e2, bd_mk, e3, List.range'_succ, List.foldl_cons]
    unfold f_X5_settle_88
    rw [bnd_mk, nI_1]
    by_cases g : (mt m (nI a) (nI b) (nI n - nI a - nI b) (4, 0, 0)).1 ≤ H.1
    · rw [if_pos g, show st2 n m a H b = H from if_pos g]
      obtain ⟨σ', f1, f2, f3⟩ := ih (b + 1) q H s6 (by omega) (by omega) hK6
      rw [hR] at f1
      exact ⟨σ', f1, f2, hF.tr f3⟩
    · rw [if_neg g, show st2 n m a H b = ((mt m (nI a) (nI b) (nI n - nI a - nI b) (4, 0, 0)).1, nI a, nI b) from if_neg g, bnd_mk, S_put 44 (isA_lit (by decide)) rfl, bd_mk]
      rw [show inb (0 : Int32) (ln 47) = true from rfl, show inb (1 : Int32) (ln 47) = true from rfl, gd_tt, gd_tt, S_put 45 (isA_lit (by decide)) rfl, bd_mk]
      have z0 : gr (sR (sf s6 43 0 (mt m (nI a) (nI b) (nI n - nI a - nI b) (4, 0, 0)).1) 44 (W3 (gr (sf s6 43 0 (mt m (nI a) (nI b) (nI n - nI a - nI b) (4, 0, 0)).1) 44) (nI a) (nI b) (nI n - nI a - nI b))) 47 (0 : Int32).toNatClampNeg = (mt m (nI a) (nI b) (nI n - nI a - nI b) (4, 0, 0)).2.1 := e4
      have z1 : gr (sR (sf s6 43 0 (mt m (nI a) (nI b) (nI n - nI a - nI b) (4, 0, 0)).1) 44 (W3 (gr (sf s6 43 0 (mt m (nI a) (nI b) (nI n - nI a - nI b) (4, 0, 0)).1) 44) (nI a) (nI b) (nI n - nI a - nI b))) 47 (1 : Int32).toNatClampNeg = (mt m (nI a) (nI b) (nI n - nI a - nI b) (4, 0, 0)).2.2 := e5
      rw [z0, z1]
      have hK' : KC n m ((mt m (nI a) (nI b) (nI n - nI a - nI b) (4, 0, 0)).1, nI a, nI b) (sR (sR (sf s6 43 0 (mt m (nI a) (nI b) (nI n - nI a - nI b) (4, 0, 0)).1) 44 (W3 (gr (sf s6 43 0 (mt m (nI a) (nI b) (nI n - nI a - nI b) (4, 0, 0)).1) 44) (nI a) (nI b) (nI n - nI a - nI b))) 45 (W3 (gr (sR (sf s6 43 0 (mt m (nI a) (nI b) (nI n - nI a - nI b) (4, 0, 0)).1) 44 (W3 (gr (sf s6 43 0 (mt m (nI a) (nI b) (nI n - nI a - nI b) (4, 0, 0)).1) 44) (nI a) (nI b) (nI n - nI a - nI b))) 45) (mt m (nI a) (nI b) (nI n - nI a - nI b) (4, 0, 0)).2.1 (mt m (nI a) (nI b) (nI n - nI a - nI b) (4, 0, 0)).2.2 (nI m - (mt m (nI a) (nI b) (nI n - nI a - nI b) (4, 0, 0)).2.1 - (mt m (nI a) (nI b) (nI n - nI a - nI b) (4, 0, 0)).2.2))) := by
        refine ⟨by simp [gf_sR, sf, gf_sF, upd], Or.inr ⟨?_, ?_⟩⟩
        · rw [gr_sRn _ _ (by decide), gr_sRs]
          exact (W3_W3 _ _ _ _ _ _ _).symm
        · rw [gr_sRs]
          exact (W3_W3 _ _ _ _ _ _ _).symm
      obtain ⟨σ', f1, f2, f3⟩ := ih (b + 1) q _ _ (by omega) (by omega) hK'
      rw [hR] at f1
      exact ⟨σ', f1, f2, (((hF.tr (Fr.c1 (by simp))).tr (Fr.cR (by simp))).tr (Fr.cR (by simp))).tr f3⟩
theorem set_out {n m : Nat} (hn9 : n ≤ 9) (hm : m ≤ 9) : ∀ (k a q : Nat) (H : Int32 × Int32 × Int32) (σ : St), a + k = n + 1 → k < q → KC n m H σ →
    ∃ σ', itr g_X5_settle_8 q (nI n, nI m, nI a, σ) = some ((), σ') ∧ KC n m ((List.range' a k).foldl (in2 n m) H) σ' ∧ Fr [43, 44, 45, 46, 47] σ σ' := by
  intro k
  induction k with
  | zero =>
    intro a q H σ h hq hK
    obtain ⟨q, rfl⟩ : ∃ r, q = r + 1 := ⟨q - 1, by omega⟩
    refine ⟨σ, ?_, hK, Fr.rf⟩
    rw [itr_succ]
    unfold g_X5_settle_8
    dsimp only
    rw [if_pos (nI_lt (by omega) (by omega))]
  | succ k ih =>
    intro a q H σ h hq hK
    obtain ⟨q, rfl⟩ : ∃ r, q = r + 1 := ⟨q - 1, by omega⟩
    rw [itr_succ]
    obtain ⟨σ1, f1, f2, f3⟩ := set_in (a := a) hn9 hm (itr g_X5_settle_8 q) (n + 1 - a) 0 FU H σ (by omega) (by unfold FU; omega) hK
    have e : g_X5_settle_8 (itr g_X5_settle_8 q) (nI n, nI m, nI a, σ) = itr (g_X5_settle_16 (itr g_X5_settle_8 q)) FU (nI n, nI m, nI a, nI 0, σ) := by
      generalize itr g_X5_settle_8 q = R
      unfold g_X5_settle_8
      dsimp only
      rw [if_neg (nI_nlt (by omega) (by omega))]
      rfl
    rw [e]
    obtain ⟨σ2, g1, g2, g3⟩ := ih (a + 1) q (in2 n m H a) σ1 (by omega) (by omega) f2
    refine ⟨σ2, f1.trans g1, ?_, f3.tr g3⟩
    rw [List.range'_succ, List.foldl_cons]
    exact g2
theorem S_settle {n m : Nat} (hn9 : n ≤ 9) (hm : m ≤ 9) (σ : St) : ∃ σ', f_X5_settle (nI n) (nI m) σ = some ((), σ') ∧ KC n m (hd n m (-4, 0, 0)) σ' ∧ Fr [43, 44, 45, 46, 47] σ σ' := by
  unfold f_X5_settle
  rw [bnd_mk]
  obtain ⟨σ', e, h1, h2⟩ := set_out hn9 hm (n + 1) 0 FU (-4, 0, 0) (sf σ 43 0 (-4)) (by omega) (by unfold FU; omega) ⟨by simp [sf, gf_sF, upd], Or.inl rfl⟩
  exact ⟨σ', e, h1, (Fr.c1 (by simp)).tr h2⟩
/-! the reference -/
def KM (n : Nat) (H : Int32 × Int32 × Int32) (σ : St) : Prop := H.1 = -1000000 ∨ gr σ 69 = W3 (gr σ 69) H.2.1 H.2.2 (nI n - H.2.1 - H.2.2)
theorem cp69 (K7 : Int32 × Int32 × Int32 × Int32 × St → Option (Int32 × St)) (K16 : Int32 × Int32 × Int32 × Int32 × Int32 × St → Option (Int32 × St)) (v1 v2 v3 v4 v5 : Int32) (σ : St) (n : Nat) : itr (g_X12_holdOf_76 K7 K16) (n + 4) (v1, v2, v3, v4, v5, 0, σ) = f_X12_holdOf_102 K7 K16 v1 v2 v3 v4 v5 (sR σ 69 (W3 (gr σ 69) (gr σ 68 0) (gr σ 68 1) (gr σ 68 2))) := by
  rw [← sr3]
  rfl
theorem cp68 (v2 v3 : Int32) (σ : St) (n : Nat) : itr g_X12_holdOf_117 (n + 4) (v2, v3, 0, σ) = bd (f_X12_heldBy v2 (sR σ 68 (W3 (gr σ 68) (gr σ 69 0) (gr σ 69 1) (gr σ 69 2)))) fun _ s2 => some (v3, s2) := by
  rw [← sr3]
  rfl
theorem hof_in {n m a : Nat} (hn9 : n ≤ 9) (hm : m ≤ 9) (K : Int32 × Int32 × Int32 × Int32 × St → Option (Int32 × St)) : ∀ (k b q : Nat) (H : Int32 × Int32 × Int32) (σ : St), a + b + k = n + 1 → k < q → KM n H σ →
    ∃ σ', itr (g_X12_holdOf_16 K) q (nI n, nI m, H.1, nI a, nI b, σ) = K (nI n, nI m, ((List.range' b k).foldl (st2 n m a) H).1, nI (a + 1), σ') ∧ KM n ((List.range' b k).foldl (st2 n m a) H) σ' ∧ Fr [68, 69, 70] σ σ' := by
  intro k
  induction k with
  | zero =>
    intro b q H σ h hq hK
    obtain ⟨q, rfl⟩ : ∃ r, q = r + 1 := ⟨q - 1, by omega⟩
    refine ⟨σ, ?_, hK, Fr.rf⟩
    rw [itr_succ]
    unfold g_X12_holdOf_16
    dsimp only
    rw [nI_add, if_pos (nI_lt (by omega) (by omega)), bnd_mk, nI_1]
    rfl
  | succ k ih =>
    intro b q H σ h hq hK
    obtain ⟨q, rfl⟩ : ∃ r, q = r + 1 := ⟨q - 1, by omega⟩
    rw [itr_succ]
    generalize hR : itr (g_X12_holdOf_16 K) q = R
    unfold g_X12_holdOf_16
    dsimp only
    rw [nI_add, if_neg (nI_nlt (by omega) (by omega)), show inb (0 : Int32) (ln 68) = true from rfl, show inb (1 : Int32) (ln 68) = true from rfl, show inb (2 : Int32) (ln 68) = true from rfl, gd_tt, bnd_mk, gd_tt, bnd_mk, gd_tt, bnd_mk]
    have e3 : sr (sr (sr σ 68 (0 : Int32).toNatClampNeg (nI a)) 68 (1 : Int32).toNatClampNeg (nI b)) 68 (2 : Int32).toNatClampNeg (nI n - nI a - nI b) = sR σ 68 (W3 (gr σ 68) (nI a) (nI b) (nI n - nI a - nI b)) := sr3 σ 68 _ _ _
    rw [e3]
    obtain ⟨g, eh, hg⟩ := S_held hm (sR σ 68 (W3 (gr σ 68) (nI a) (nI b) (nI n - nI a - nI b)))
    rw [gr_sRs, W3_0, W3_1, W3_2] at eh
    rw [eh, bd_mk, List.range'_succ, List.foldl_cons]
    have hF : Fr [68, 69, 70] σ (sR (sR σ 68 (W3 (gr σ 68) (nI a) (nI b) (nI n - nI a - nI b))) 70 g) := (Fr.cR (by simp)).tr (Fr.cR (by simp))
    by_cases c : H.1 < (mt m (nI a) (nI b) (nI n - nI a - nI b) (4, 0, 0)).1
    · have c' : ¬ (mt m (nI a) (nI b) (nI n - nI a - nI b) (4, 0, 0)).1 ≤ H.1 := Int32.not_le.mpr c
      rw [if_pos c, show st2 n m a H b = ((mt m (nI a) (nI b) (nI n - nI a - nI b) (4, 0, 0)).1, nI a, nI b) from if_neg c', show FU = 4996 + 4 from rfl, cp69]
      unfold f_X12_holdOf_102
      have x0 : gr (sR (sR σ 68 (W3 (gr σ 68) (nI a) (nI b) (nI n - nI a - nI b))) 70 g) 68 0 = nI a := by rw [gr_sRn _ _ (by decide), gr_sRs, W3_0]
      have x1 : gr (sR (sR σ 68 (W3 (gr σ 68) (nI a) (nI b) (nI n - nI a - nI b))) 70 g) 68 1 = nI b := by rw [gr_sRn _ _ (by decide), gr_sRs, W3_1]
      have x2 : gr (sR (sR σ 68 (W3 (gr σ 68) (nI a) (nI b) (nI n - nI a - nI b))) 70 g) 68 2 = nI n - nI a - nI b := by rw [gr_sRn _ _ (by decide), gr_sRs, W3_2]
      rw [bnd_mk, nI_1, x0, x1, x2]
      have hK' : KM n ((mt m (nI a) (nI b) (nI n - nI a - nI b) (4, 0, 0)).1, nI a, nI b) (sR (sR (sR σ 68 (W3 (gr σ 68) (nI a) (nI b) (nI n - nI a - nI b))) 70 g) 69 (W3 (gr (sR (sR σ 68 (W3 (gr σ 68) (nI a) (nI b) (nI n - nI a - nI b))) 70 g) 69) (nI a) (nI b) (nI n - nI a - nI b))) := Or.inr (by
        rw [gr_sRs]
        exact (W3_W3 _ _ _ _ _ _ _).symm)
      obtain ⟨σ', f1, f2, f3⟩ := ih (b + 1) q _ _ (by omega) (by omega) hK'
      rw [hR] at f1
      exact ⟨σ', f1, f2, (hF.tr (Fr.cR (by simp))).tr f3⟩
    · have c' : (mt m (nI a) (nI b) (nI n - nI a - nI b) (4, 0, 0)).1 ≤ H.1 := Int32.not_lt.mp c
      rw [if_neg c, show st2 n m a H b = H from if_pos c']
      unfold f_X12_holdOf_102
      rw [bnd_mk, nI_1]
      have hK' : KM n H (sR (sR σ 68 (W3 (gr σ 68) (nI a) (nI b) (nI n - nI a - nI b))) 70 g) := hK
      obtain ⟨σ', f1, f2, f3⟩ := ih (b + 1) q _ _ (by omega) (by omega) hK'
      rw [hR] at f1
      exact ⟨σ', f1, f2, hF.tr f3⟩
theorem hof_out {n m : Nat} (hn9 : n ≤ 9) (hm : m ≤ 9) : ∀ (k a q : Nat) (H : Int32 × Int32 × Int32) (σ : St), a + k = n + 1 → k < q → KM n H σ →
    ∃ σ', itr g_X12_holdOf_7 q (nI n, nI m, H.1, nI a, σ) = itr g_X12_holdOf_117 FU (nI m, ((List.range' a k).foldl (in2 n m) H).1, 0, σ') ∧ KM n ((List.range' a k).foldl (in2 n m) H) σ' ∧ Fr [68, 69, 70] σ σ' := by
  intro k
  induction k with
  | zero =>
    intro a q H σ h hq hK
    obtain ⟨q, rfl⟩ : ∃ r, q = r + 1 := ⟨q - 1, by omega⟩
    refine ⟨σ, ?_, hK, Fr.rf⟩
    rw [itr_succ]
    unfold g_X12_holdOf_7
    dsimp only
    rw [if_pos (nI_lt (by omega) (by omega))]
    rfl
  | succ k ih =>
    intro a q H σ h hq hK
    obtain ⟨q, rfl⟩ : ∃ r, q = r + 1 := ⟨q - 1, by omega⟩
    rw [itr_succ]
    obtain ⟨σ1, f1, f2, f3⟩ := hof_in (a := a) hn9 hm (itr g_X12_holdOf_7 q) (n + 1 - a) 0 FU H σ (by omega) (by unfold FU; omega) hK
    have e : g_X12_holdOf_7 (itr g_X12_holdOf_7 q) (nI n, nI m, H.1, nI a, σ) = itr (g_X12_holdOf_16 (itr g_X12_holdOf_7 q)) FU (nI n, nI m, H.1, nI a, nI 0, σ) := by
      generalize itr g_X12_holdOf_7 q = R
      unfold g_X12_holdOf_7
      dsimp only
      rw [if_neg (nI_nlt (by omega) (by omega))]
      rfl
    rw [e]
    obtain ⟨σ2, g1, g2, g3⟩ := ih (a + 1) q (in2 n m H a) σ1 (by omega) (by omega) f2
    refine ⟨σ2, f1.trans (g1.trans ?_), ?_, f3.tr g3⟩
    · rw [List.range'_succ, List.foldl_cons]
    · rw [List.range'_succ, List.foldl_cons]
      exact g2
theorem S_holdOf {n m : Nat} (hn9 : n ≤ 9) (hm : m ≤ 9) (σ : St) : ∃ σ', f_X12_holdOf (nI n) (nI m) σ = some ((hd n m (-4, 0, 0)).1, σ') ∧ gr σ' 69 = W3 (gr σ' 69) (hd n m (-4, 0, 0)).2.1 (hd n m (-4, 0, 0)).2.2 (nI n - (hd n m (-4, 0, 0)).2.1 - (hd n m (-4, 0, 0)).2.2) ∧
    gr σ' 70 = W3 (gr σ' 70) (mt m (hd n m (-4, 0, 0)).2.1 (hd n m (-4, 0, 0)).2.2 (nI n - (hd n m (-4, 0, 0)).2.1 - (hd n m (-4, 0, 0)).2.2) (4, 0, 0)).2.1 (mt m (hd n m (-4, 0, 0)).2.1 (hd n m (-4, 0, 0)).2.2 (nI n - (hd n m (-4, 0, 0)).2.1 - (hd n m (-4, 0, 0)).2.2) (4, 0, 0)).2.2 (nI m - (mt m (hd n m (-4, 0, 0)).2.1 (hd n m (-4, 0, 0)).2.2 (nI n - (hd n m (-4, 0, 0)).2.1 - (hd n m (-4, 0, 0)).2.2) (4, 0, 0)).2.1 - (mt m (hd n m (-4, 0, 0)).2.1 (hd n m (-4, 0, 0)).2.2 (nI n - (hd n m (-4, 0, 0)).2.1 - (hd n m (-4, 0, 0)).2.2) (4, 0, 0)).2.2) ∧ Fr [68, 69, 70] σ σ' := by
  obtain ⟨σ1, e, hK, hF⟩ := hof_out hn9 hm (n + 1) 0 FU (-1000000, 0, 0) σ (by omega) (by unfold FU; omega) (Or.inl rfl)
  have em : (List.range' 0 (n + 1)).foldl (in2 n m) (-1000000, 0, 0) = hd n m (-4, 0, 0) := hd_far (by decide) (by decide)
  rw [em] at e hK
  have hb := hd_bd (n := n) (m := m) (H := (-4, 0, 0)) (by decide)
  generalize hd n m (-4, 0, 0) = H at e hK hb ⊢
  have hK : gr σ1 69 = W3 (gr σ1 69) H.2.1 H.2.2 (nI n - H.2.1 - H.2.2) := by
    rcases hK with q | q
    · rw [q] at hb
      exact absurd hb (by decide)
    · exact q
  rw [show FU = 4996 + 4 from rfl, cp68] at e
  have w0 : gr σ1 69 0 = H.2.1 := by rw [hK, W3_0]
  have w1 : gr σ1 69 1 = H.2.2 := by rw [hK, W3_1]
  have w2 : gr σ1 69 2 = nI n - H.2.1 - H.2.2 := by rw [hK, W3_2]
  rw [w0, w1, w2] at e
  obtain ⟨g, eh, hg⟩ := S_held hm (sR σ1 68 (W3 (gr σ1 68) H.2.1 H.2.2 (nI n - H.2.1 - H.2.2)))
  rw [gr_sRs, W3_0, W3_1, W3_2] at eh hg
  rw [eh, bd_mk] at e
  refine ⟨_, e, ?_, ?_, (hF.tr (Fr.cR (by simp))).tr (Fr.cR (by simp))⟩
  · rw [gr_sRn _ _ (by decide), gr_sRn _ _ (by decide)]
    exact hK
  · rw [gr_sRs]
    exact hg
/-! ===== the three methods of both ===== -/
theorem S_host (p : Int32) (σ : St) : f_X11_isHost p σ = some (b2 (0 ≤ p.toInt ∧ p.toInt ≤ 9), σ) := by
  unfold f_X11_isHost f_X11_isHost_14 f_X11_isHost_15
  rw [bz_0, bz_1, gd_tt, gd_tt]
  by_cases h1 : p < 0
  · rw [if_pos h1, b2_f]
    rw [lt_toInt] at h1
    intro q
    have : (0 : Int32).toInt = 0 := rfl
    omega
  · rw [if_neg h1]
    rw [lt_toInt] at h1
    have z0 : (0 : Int32).toInt = 0 := rfl
    by_cases h2 : (9 : Int32) < p
    · rw [if_pos h2, b2_f]
      rw [lt_toInt] at h2
      intro q
      have : (9 : Int32).toInt = 9 := rfl
      omega
    · rw [if_neg h2, b2_t]
      rw [lt_toInt] at h2
      have : (9 : Int32).toInt = 9 := rfl
      omega
theorem S_men9 (p q : Int32) (σ : St) : f_X12_areMen p q σ = some (b2 ((0 ≤ p.toInt ∧ p.toInt ≤ 9) ∧ (0 ≤ q.toInt ∧ q.toInt ≤ 9)), σ) := by
  unfold f_X12_areMen f_X12_areMen_28 f_X12_areMen_29
  rw [S_in, bd_mk]
  have e : ∀ p : Int32, ((0 : Int64).toInt ≤ p.toInt64.toInt ∧ p.toInt64.toInt ≤ (9 : Int64).toInt) ↔ (0 ≤ p.toInt ∧ p.toInt ≤ 9) := fun p => by
    rw [Int32.toInt_toInt64]
    exact Iff.rfl
  by_cases h1 : 0 ≤ p.toInt ∧ p.toInt ≤ 9
  · rw [b2_t ((e p).mpr h1), if_neg (by decide), S_in, bd_mk]
    by_cases h2 : 0 ≤ q.toInt ∧ q.toInt ≤ 9
    · rw [b2_t ((e q).mpr h2), if_neg (by decide), b2_t ⟨h1, h2⟩]
      rfl
    · rw [b2_f (fun g => h2 ((e q).mp g)), if_pos rfl, b2_f (fun g => h2 g.2)]
      rfl
  · rw [b2_f (fun g => h1 ((e p).mp g)), if_pos rfl, b2_f (fun g => h1 g.1)]
    rfl
theorem nI_of9 {p : Int32} (h : 0 ≤ p.toInt ∧ p.toInt ≤ 9) : ∃ n : Nat, n ≤ 9 ∧ p = nI n :=
  nI_of2 (M := 9) rfl (fun q => by rw [lt_toInt] at q; have : (0 : Int32).toInt = 0 := rfl; omega) (by rw [le_toInt]; exact h.2)
/-- hold: both answer the same, and nothing else changes -/
theorem R_hold (p q : Int32) (σ : St) : ∃ r s1 s2, f_X11_hold p q σ = some (r, s1) ∧ f_X12_hold p q s1 = some (r, s2) ∧ Fr [43, 44, 45, 46, 47, 68, 69, 70] σ s2 := by
  unfold f_X11_hold f_X12_hold f_X11_hold_14 f_X12_hold_20
  simp only [S_host, S_men9, bd_mk]
  by_cases h1 : 0 ≤ p.toInt ∧ p.toInt ≤ 9
  · by_cases h2 : 0 ≤ q.toInt ∧ q.toInt ≤ 9
    · obtain ⟨n, hn, rfl⟩ := nI_of9 h1
      obtain ⟨m, hm, rfl⟩ := nI_of9 h2
      obtain ⟨s1, e1, k1, f1⟩ := S_settle hn hm σ
      obtain ⟨s2, e2, -, -, f2⟩ := S_holdOf hn hm s1
      refine ⟨(hd n m (-4, 0, 0)).1, s1, s2, ?_, ?_, (f1.mo (by simp)).tr (f2.mo (by simp))⟩
      · rw [b2_t h1, if_neg (by decide), b2_t h2, if_neg (by decide), e1, bd_mk, k1.1]
      · rw [b2_t ⟨h1, h2⟩, if_neg (by decide), e2, bd_mk]
    · refine ⟨-1000, σ, σ, ?_, ?_, Fr.rf⟩
      · rw [b2_t h1, if_neg (by decide), b2_f h2, if_pos rfl]
      · rw [b2_f (fun g => h2 g.2), if_pos rfl]
  · refine ⟨-1000, σ, σ, ?_, ?_, Fr.rf⟩
    · rw [b2_f h1, if_pos rfl]
    · rw [b2_f (fun g => h1 g.1), if_pos rfl]
theorem S_place (p : Int32) (σ : St) : f_X11_isPlace p σ = some (b2 (0 ≤ p.toInt ∧ p.toInt ≤ 2), σ) := by
  unfold f_X11_isPlace f_X11_isPlace_13 f_X11_isPlace_14
  rw [bz_0, bz_1, gd_tt, gd_tt]
  have z0 : (0 : Int32).toInt = 0 := rfl
  have z3 : (3 : Int32).toInt = 3 := rfl
  by_cases h1 : p < 0
  · rw [if_pos h1, b2_f]
    rw [lt_toInt] at h1
    omega
  · rw [if_neg h1]
    rw [lt_toInt] at h1
    by_cases h2 : (3 : Int32) ≤ p
    · rw [if_pos h2, b2_f]
      rw [le_toInt] at h2
      omega
    · rw [if_neg h2, b2_t]
      rw [le_toInt] at h2
      omega
theorem nI_of2p {p : Int32} (h : 0 ≤ p.toInt ∧ p.toInt ≤ 2) : p = 0 ∨ p = 1 ∨ p = 2 := by
  obtain ⟨n, hn, rfl⟩ := nI_of2 (x := p) (M := 2) (n := 2) rfl (fun q => by rw [lt_toInt] at q; have : (0 : Int32).toInt = 0 := rfl; omega) (by rw [le_toInt]; exact h.2)
  rcases (show n = 0 ∨ n = 1 ∨ n = 2 by omega) with rfl | rfl | rfl
  · exact Or.inl rfl
  · exact Or.inr (Or.inl rfl)
  · exact Or.inr (Or.inr rfl)
theorem e_in2 (p : Int32) : ((0 : Int64).toInt ≤ p.toInt64.toInt ∧ p.toInt64.toInt ≤ (2 : Int64).toInt) ↔ (0 ≤ p.toInt ∧ p.toInt ≤ 2) := by
  rw [Int32.toInt_toInt64]
  exact Iff.rfl
theorem R_holds (p q i : Int32) (σ : St) : ∃ r s1 s2, f_X11_holds p q i σ = some (r, s1) ∧ f_X12_holds p q i s1 = some (r, s2) ∧ Fr [43, 44, 45, 46, 47, 68, 69, 70] σ s2 := by
  unfold f_X11_holds f_X12_holds f_X11_holds_21 f_X12_holds_20
  simp only [S_host, S_men9, S_place, S_in, bd_mk]
  by_cases h1 : 0 ≤ p.toInt ∧ p.toInt ≤ 9
  · by_cases h2 : 0 ≤ q.toInt ∧ q.toInt ≤ 9
    · by_cases h3 : 0 ≤ i.toInt ∧ i.toInt ≤ 2
      · have h3' := (e_in2 i).mpr h3
        have hi := nI_of2p h3
        obtain ⟨n, hn, rfl⟩ := nI_of9 h1
        obtain ⟨m, hm, rfl⟩ := nI_of9 h2
        obtain ⟨s1, e1, k1, f1⟩ := S_settle hn hm σ
        obtain ⟨s2, e2, g1, g2, f2⟩ := S_holdOf hn hm s1
        have hb := hd_bd (n := n) (m := m) (H := (-4, 0, 0)) (by decide)
        have k2 : gr s1 44 = W3 (gr s1 44) (hd n m (-4, 0, 0)).2.1 (hd n m (-4, 0, 0)).2.2 (nI n - (hd n m (-4, 0, 0)).2.1 - (hd n m (-4, 0, 0)).2.2) := by
          rcases k1.2 with z | z
          · rw [z] at hb
            exact absurd hb (by decide)
          · exact z.1
        refine ⟨gr s1 44 i.toNatClampNeg, s1, s2, ?_, ?_, (f1.mo (by simp)).tr (f2.mo (by simp))⟩
        · rw [b2_t h1, if_neg (by decide), b2_t h2, if_neg (by decide), b2_t h3, if_neg (by decide), e1, bd_mk]
          rcases hi with rfl | rfl | rfl <;> rfl
        · rw [b2_t ⟨h1, h2⟩, if_neg (by decide), b2_t h3', if_neg (by decide), e2, bd_mk]
          have E : gr s2 69 i.toNatClampNeg = gr s1 44 i.toNatClampNeg := by
            rw [g1, k2]
            rcases hi with rfl | rfl | rfl <;> rfl
          rw [E]
          rcases hi with rfl | rfl | rfl <;> rfl
      · refine ⟨-2, σ, σ, ?_, ?_, Fr.rf⟩
        · rw [b2_t h1, if_neg (by decide), b2_t h2, if_neg (by decide), b2_f h3, if_pos rfl]
        · rw [b2_t ⟨h1, h2⟩, if_neg (by decide), b2_f (fun z => h3 ((e_in2 i).mp z)), if_pos rfl]
    · refine ⟨-2, σ, σ, ?_, ?_, Fr.rf⟩
      · rw [b2_t h1, if_neg (by decide), b2_f h2, if_pos rfl]
      · rw [b2_f (fun g => h2 g.2), if_pos rfl]
  · refine ⟨-2, σ, σ, ?_, ?_, Fr.rf⟩
    · rw [b2_f h1, if_pos rfl]
    · rw [b2_f (fun g => h1 g.1), if_pos rfl]
theorem R_reply (p q i : Int32) (σ : St) : ∃ r s1 s2, f_X11_reply p q i σ = some (r, s1) ∧ f_X12_reply p q i s1 = some (r, s2) ∧ Fr [43, 44, 45, 46, 47, 68, 69, 70] σ s2 := by
  unfold f_X11_reply f_X12_reply f_X11_reply_21 f_X12_reply_20
  simp only [S_host, S_men9, S_place, S_in, bd_mk]
  by_cases h1 : 0 ≤ p.toInt ∧ p.toInt ≤ 9
  · by_cases h2 : 0 ≤ q.toInt ∧ q.toInt ≤ 9
    · by_cases h3 : 0 ≤ i.toInt ∧ i.toInt ≤ 2
      · have h3' := (e_in2 i).mpr h3
        have hi := nI_of2p h3
        obtain ⟨n, hn, rfl⟩ := nI_of9 h1
        obtain ⟨m, hm, rfl⟩ := nI_of9 h2
        obtain ⟨s1, e1, k1, f1⟩ := S_settle hn hm σ
        obtain ⟨s2, e2, g1, g2, f2⟩ := S_holdOf hn hm s1
        have hb := hd_bd (n := n) (m := m) (H := (-4, 0, 0)) (by decide)
        have k2 : gr s1 45 = W3 (gr s1 45) (mt m (hd n m (-4, 0, 0)).2.1 (hd n m (-4, 0, 0)).2.2 (nI n - (hd n m (-4, 0, 0)).2.1 - (hd n m (-4, 0, 0)).2.2) (4, 0, 0)).2.1 (mt m (hd n m (-4, 0, 0)).2.1 (hd n m (-4, 0, 0)).2.2 (nI n - (hd n m (-4, 0, 0)).2.1 - (hd n m (-4, 0, 0)).2.2) (4, 0, 0)).2.2 (nI m - (mt m (hd n m (-4, 0, 0)).2.1 (hd n m (-4, 0, 0)).2.2 (nI n - (hd n m (-4, 0, 0)).2.1 - (hd n m (-4, 0, 0)).2.2) (4, 0, 0)).2.1 - (mt m (hd n m (-4, 0, 0)).2.1 (hd n m (-4, 0, 0)).2.2 (nI n - (hd n m (-4, 0, 0)).2.1 - (hd n m (-4, 0, 0)).2.2) (4, 0, 0)).2.2) := by
          rcases k1.2 with z | z
          · rw [z] at hb
            exact absurd hb (by decide)
          · exact z.2
        refine ⟨gr s1 45 i.toNatClampNeg, s1, s2, ?_, ?_, (f1.mo (by simp)).tr (f2.mo (by simp))⟩
        · rw [b2_t h1, if_neg (by decide), b2_t h2, if_neg (by decide), b2_t h3, if_neg (by decide), e1, bd_mk]
          rcases hi with rfl | rfl | rfl <;> rfl
        · rw [b2_t ⟨h1, h2⟩, if_neg (by decide), b2_t h3', if_neg (by decide), e2, bd_mk]
          have E : gr s2 70 i.toNatClampNeg = gr s1 45 i.toNatClampNeg := by
            rw [g2, k2]
            rcases hi with rfl | rfl | rfl <;> rfl
          rw [E]
          rcases hi with rfl | rfl | rfl <;> rfl
      · refine ⟨-2, σ, σ, ?_, ?_, Fr.rf⟩
        · rw [b2_t h1, if_neg (by decide), b2_t h2, if_neg (by decide), b2_f h3, if_pos rfl]
        · rw [b2_t ⟨h1, h2⟩, if_neg (by decide), b2_f (fun z => h3 ((e_in2 i).mp z)), if_pos rfl]
    · refine ⟨-2, σ, σ, ?_, ?_, Fr.rf⟩
      · rw [b2_t h1, if_neg (by decide), b2_f h2, if_pos rfl]
      · rw [b2_f (fun g => h2 g.2), if_pos rfl]
  · refine ⟨-2, σ, σ, ?_, ?_, Fr.rf⟩
    · rw [b2_f h1, if_pos rfl]
    · rw [b2_f (fun g => h1 g.1), if_pos rfl]
/-! ===== SLOTS: row, write, paste ===== -/
theorem nI_mul (a b : Nat) : nI a * nI b = nI (a * b) := (Int32.ofNat_mul a b).symm
theorem inb_nI {j n : Nat} (h : j < n) (hn : n ≤ 2 ^ 31) : inb (nI j) n = true := by
  simp only [inb, nI_toInt (show j < 2 ^ 31 by omega), Bool.and_eq_true, decide_eq_true_eq]
  omega
theorem i32_bd (x : Int32) : -2147483648 ≤ x.toInt ∧ x.toInt < 2147483648 := ⟨Int32.le_toInt x, Int32.toInt_lt x⟩
theorem nI_ofT {x : Int32} {n : Nat} (h : 0 ≤ x.toInt) (hn : x.toInt ≤ n) : ∃ j : Nat, j ≤ n ∧ x = nI j := by
  have hb := i32_bd x
  obtain ⟨j, hj, e⟩ := nI_of (x := x) (fun q => by rw [lt_toInt] at q; have : (0 : Int32).toInt = 0 := rfl; omega)
  refine ⟨j, ?_, e⟩
  rw [e, nI_toInt hj] at hn
  omega
theorem l64_add (x y : Int32) : (x.toInt64 + y.toInt64).toInt = x.toInt + y.toInt := by
  have h1 := i32_bd x
  have h2 := i32_bd y
  rw [Int64.toInt_add, Int32.toInt_toInt64, Int32.toInt_toInt64, Int.bmod_eq_of_le (by omega) (by omega)]
theorem i32_sub {x y : Int32} (h : -2147483648 ≤ x.toInt - y.toInt ∧ x.toInt - y.toInt < 2147483648) : (x - y).toInt = x.toInt - y.toInt := by
  rw [Int32.toInt_sub, Int.bmod_eq_of_le (by omega) (by omega)]
theorem i32_add {x y : Int32} (h : -2147483648 ≤ x.toInt + y.toInt ∧ x.toInt + y.toInt < 2147483648) : (x + y).toInt = x.toInt + y.toInt := by
  rw [Int32.toInt_add, Int.bmod_eq_of_le (by omega) (by omega)]
theorem S_slot (p : Int32) (σ : St) : f_X7_isSlot p σ = some (b2 (0 ≤ p.toInt ∧ p.toInt ≤ 3), σ) := by
  unfold f_X7_isSlot f_X7_isSlot_13 f_X7_isSlot_14
  rw [bz_0, bz_1, gd_tt, gd_tt]
  have z0 : (0 : Int32).toInt = 0 := rfl
  have z4 : (4 : Int32).toInt = 4 := rfl
  by_cases h1 : p < 0
  · rw [if_pos h1, b2_f]
    rw [lt_toInt] at h1
    omega
  · rw [if_neg h1]
    rw [lt_toInt] at h1
    by_cases h2 : (4 : Int32) ≤ p
    · rw [if_pos h2, b2_f]
      rw [le_toInt] at h2
      omega
    · rw [if_neg h2, b2_t]
      rw [le_toInt] at h2
      omega
theorem S_slotM (p : Int32) (σ : St) : f_X12_isSlot p σ = some (b2 (0 ≤ p.toInt ∧ p.toInt ≤ 3), σ) := by
  unfold f_X12_isSlot
  rw [S_in, bd_mk, bz_b2, gd_tt]
  simp only [Int32.toInt_toInt64]
  rfl
/-- SLOT s as both have it -/
def SLs (σ : St) (s : Nat) : Prop := (gr σ 53 s = 0 ∧ gr σ 71 s = -1) ∨ (gr σ 53 s = 1 ∧ ∃ n w : Nat, n ≤ 60 ∧ w ≤ 3 ∧ gr σ 55 s = nI n ∧ gr σ 71 s = nI n ∧ gr σ 54 s = nI w ∧ gr σ 72 s = nI w)
def SL (σ : St) : Prop := ∀ s, s < 4 → SLs σ s
theorem SL.fr {σ σ' : St} {l : List Nat} (h : SL σ) (hf : Fr l σ σ') (h53 : 53 ∉ l) (h54 : 54 ∉ l) (h55 : 55 ∉ l) (h71 : 71 ∉ l) (h72 : 72 ∉ l) : SL σ' := by
  intro s hs
  unfold SLs
  rw [(hf.1 53 h53).2.1, (hf.1 54 h54).2.1, (hf.1 55 h55).2.1, (hf.1 71 h71).2.1, (hf.1 72 h72).2.1]
  exact h s hs
theorem nI_m1 {n : Nat} (h : n ≤ 60) : ¬ nI n = -1 := fun q => by
  have := congrArg Int32.toInt q
  rw [nI_toInt (by omega)] at this
  have z : (-1 : Int32).toInt = -1 := rfl
  omega
theorem lay_loop {s N : Nat} (hs : s < 4) (hN : N ≤ 60) : ∀ (k i q : Nat) (σ : St), i + k = N → k < q → ∃ σ', itr g_X7_lay_56 q (nI s, nI N, nI i, σ) = some (0, σ') ∧ Fr [56] σ σ' := by
  intro k
  induction k with
  | zero =>
    intro i q σ h hq
    obtain ⟨q, rfl⟩ : ∃ r, q = r + 1 := ⟨q - 1, by omega⟩
    refine ⟨σ, ?_, Fr.rf⟩
    rw [itr_succ]
    unfold g_X7_lay_56
    dsimp only
    rw [if_pos (nI_le (by omega) (by omega))]
  | succ k ih =>
    intro i q σ h hq
    obtain ⟨q, rfl⟩ : ∃ r, q = r + 1 := ⟨q - 1, by omega⟩
    rw [itr_succ]
    generalize hR : itr g_X7_lay_56 q = R
    unfold g_X7_lay_56
    dsimp only
    rw [if_neg (nI_ge (by omega) (by omega)), show (60 : Int32) = nI 60 from rfl, nI_mul, nI_add, inb_nI (show s * 60 + i < ln 56 by show _ < 240; omega) (by decide), gd_tt, bnd_mk, bnd_mk, nI_1]
    obtain ⟨σ', e, hf⟩ := ih (i + 1) q (sj σ 56 (nI (s * 60 + i)).toNatClampNeg 0) (by omega) (by omega)
    rw [hR] at e
    exact ⟨σ', e, (Fr.c3 (by simp)).tr hf⟩
theorem row_loop {s : Nat} (hs : s < 4) : ∀ (k i q : Nat) (σ : St), i + k = 60 → k < q → ∃ σ', itr g_X12_row_52 q (nI s, nI i, σ) = some (0, σ') ∧ Fr [73] σ σ' := by
  intro k
  induction k with
  | zero =>
    intro i q σ h hq
    obtain ⟨q, rfl⟩ : ∃ r, q = r + 1 := ⟨q - 1, by omega⟩
    refine ⟨σ, ?_, Fr.rf⟩
    rw [itr_succ]
    unfold g_X12_row_52
    dsimp only
    rw [show (60 : Int32) = nI 60 from rfl, if_pos (nI_le (by omega) (by omega))]
  | succ k ih =>
    intro i q σ h hq
    obtain ⟨q, rfl⟩ : ∃ r, q = r + 1 := ⟨q - 1, by omega⟩
    rw [itr_succ]
    generalize hR : itr g_X12_row_52 q = R
    unfold g_X12_row_52
    dsimp only
    rw [show (60 : Int32) = nI 60 from rfl, if_neg (nI_ge (by omega) (by omega)), nI_mul, nI_add, inb_nI (show 60 * s + i < ln 73 by show _ < 240; omega) (by decide), gd_tt, bnd_mk, bnd_mk, nI_1]
    obtain ⟨σ', e, hf⟩ := ih (i + 1) q (sj σ 73 (nI (60 * s + i)).toNatClampNeg 0) (by omega) (by omega)
    rw [hR] at e
    exact ⟨σ', e, (Fr.c3 (by simp)).tr hf⟩
theorem gr_sr_s (σ : St) (i k j : Nat) (v : Int32) : gr (sr σ i k v) i j = if j = k then v else gr σ i j := by
  unfold sr
  rw [gr_sRs]
  rfl
theorem gr_sr_n (σ : St) {i i' : Nat} (k j : Nat) (v : Int32) (h : i' ≠ i) : gr (sr σ i k v) i' j = gr σ i' j := by
  unfold sr
  rw [gr_sRn _ _ h]
theorem e_in3 (p : Int32) : ((0 : Int64).toInt ≤ p.toInt64.toInt ∧ p.toInt64.toInt ≤ (3 : Int64).toInt) ↔ (0 ≤ p.toInt ∧ p.toInt ≤ 3) := by
  rw [Int32.toInt_toInt64]
  exact Iff.rfl
theorem n10 : ¬ (1 : Int32) = 0 := by decide
theorem R_row (p w n : Int32) (σ : St) (hS : SL σ) : ∃ r s1 s2, f_X11_row p w n σ = some (r, s1) ∧ f_X12_row p w n s1 = some (r, s2) ∧ SL s2 ∧ Fr [53, 54, 55, 56, 71, 72, 73] σ s2 := by
  unfold f_X11_row f_X7_lay f_X12_row f_X7_lay_22 f_X12_row_25
  simp only [S_slot, S_slotM, S_in, bd_mk]
  have z0 : (0 : Int32).toInt = 0 := rfl
  have z4 : (4 : Int32).toInt = 4 := rfl
  have z60 : (60 : Int32).toInt = 60 := rfl
  by_cases h1 : 0 ≤ p.toInt ∧ p.toInt ≤ 3
  · simp only [b2_t h1]
    simp only [if_neg n10]
    by_cases h2 : 0 ≤ w.toInt ∧ w.toInt ≤ 3
    · have c1 : ¬ w < 0 := by rw [lt_toInt]; omega
      have c2 : ¬ (4 : Int32) ≤ w := by rw [le_toInt]; omega
      rw [if_neg c1, if_neg c2]
      by_cases h3 : n ≤ (60 : Int32)
      · rw [if_pos h3]
        by_cases h4 : 0 ≤ n
        · rw [if_pos h4]
          rw [le_toInt] at h3 h4
          obtain ⟨s, hs, rfl⟩ := nI_ofT (n := 3) h1.1 h1.2
          obtain ⟨v, hv, rfl⟩ := nI_ofT (n := 3) h2.1 h2.2
          obtain ⟨N, hN, rfl⟩ := nI_ofT (n := 60) (show 0 ≤ n.toInt by omega) (by omega)
          rw [inb_nI (show s < ln 53 by show _ < 4; omega) (by decide), inb_nI (show s < ln 54 by show _ < 4; omega) (by decide), inb_nI (show s < ln 55 by show _ < 4; omega) (by decide)]
          obtain ⟨s1, e1, f1⟩ := lay_loop (s := s) (N := N) (by omega) hN N 0 FU (sr (sr (sr σ 53 (nI s).toNatClampNeg (vp_nar .boolean (1 : Int32))) 54 (nI s).toNatClampNeg (nI v)) 55 (nI s).toNatClampNeg (nI N)) (by omega) (by unfold FU; omega)
          obtain ⟨s2, e2, f2⟩ := row_loop (s := s) (by omega) 60 0 FU (sr (sr s1 71 (nI s).toNatClampNeg (nI N)) 72 (nI s).toNatClampNeg (nI v)) (by omega) (by unfold FU; omega)
          refine ⟨0, s1, s2, ?_, ?_, ?_, ?_⟩
          · simp only [gd_tt, bnd_mk]
            rw [show (0 : Int32) = nI 0 from rfl, e1, bd_mk]
            rfl
          · simp only [b2_t ((e_in3 _).mpr h2), if_neg n10]
            rw [if_pos (show nI N ≤ 60 by rw [le_toInt]; exact h3), if_pos (show 0 ≤ nI N by rw [le_toInt]; exact h4), inb_nI (show s < ln 71 by show _ < 4; omega) (by decide), inb_nI (show s < ln 72 by show _ < 4; omega) (by decide)]
            exact e2
          · intro t ht
            have hc : (nI s).toNatClampNeg = s := nI_clamp (by omega)
            have a53 : gr s2 53 t = if t = s then 1 else gr σ 53 t := by
              rw [(f2.1 53 (by simp)).2.1, gr_sr_n _ _ _ _ (by decide), gr_sr_n _ _ _ _ (by decide), (f1.1 53 (by simp)).2.1, gr_sr_n _ _ _ _ (by decide), gr_sr_n _ _ _ _ (by decide), gr_sr_s, hc]
              rfl
            have a54 : gr s2 54 t = if t = s then nI v else gr σ 54 t := by
              rw [(f2.1 54 (by simp)).2.1, gr_sr_n _ _ _ _ (by decide), gr_sr_n _ _ _ _ (by decide), (f1.1 54 (by simp)).2.1, gr_sr_n _ _ _ _ (by decide), gr_sr_s, hc, gr_sr_n _ _ _ _ (by decide)]
            have a55 : gr s2 55 t = if t = s then nI N else gr σ 55 t := by
              rw [(f2.1 55 (by simp)).2.1, gr_sr_n _ _ _ _ (by decide), gr_sr_n _ _ _ _ (by decide), (f1.1 55 (by simp)).2.1, gr_sr_s, hc, gr_sr_n _ _ _ _ (by decide), gr_sr_n _ _ _ _ (by decide)]
            have a71 : gr s2 71 t = if t = s then nI N else gr σ 71 t := by
              rw [(f2.1 71 (by simp)).2.1, gr_sr_n _ _ _ _ (by decide), gr_sr_s, hc, (f1.1 71 (by simp)).2.1, gr_sr_n _ _ _ _ (by decide), gr_sr_n _ _ _ _ (by decide), gr_sr_n _ _ _ _ (by decide)]
            have a72 : gr s2 72 t = if t = s then nI v else gr σ 72 t := by
              rw [(f2.1 72 (by simp)).2.1, gr_sr_s, hc, gr_sr_n _ _ _ _ (by decide), (f1.1 72 (by simp)).2.1, gr_sr_n _ _ _ _ (by decide), gr_sr_n _ _ _ _ (by decide), gr_sr_n _ _ _ _ (by decide)]
            unfold SLs
            rw [a53, a54, a55, a71, a72]
            by_cases ts : t = s
            · rw [if_pos ts, if_pos ts, if_pos ts, if_pos ts, if_pos ts]
              exact Or.inr ⟨rfl, N, v, hN, hv, rfl, rfl, rfl, rfl⟩
            · rw [if_neg ts, if_neg ts, if_neg ts, if_neg ts, if_neg ts]
              exact hS t ht
          · have g1 : Fr [53, 54, 55, 56, 71, 72, 73] σ (sr (sr (sr σ 53 (nI s).toNatClampNeg (vp_nar .boolean (1 : Int32))) 54 (nI s).toNatClampNeg (nI v)) 55 (nI s).toNatClampNeg (nI N)) := ((Fr.c2 (by simp)).tr (Fr.c2 (by simp))).tr (Fr.c2 (by simp))
            have g2 : Fr [53, 54, 55, 56, 71, 72, 73] s1 (sr (sr s1 71 (nI s).toNatClampNeg (nI N)) 72 (nI s).toNatClampNeg (nI v)) := (Fr.c2 (by simp)).tr (Fr.c2 (by simp))
            exact ((g1.tr (f1.mo (by simp))).tr g2).tr (f2.mo (by simp))
        · rw [if_neg h4]
          refine ⟨-3, σ, σ, rfl, ?_, hS, Fr.rf⟩
          simp only [b2_t ((e_in3 _).mpr h2), if_neg n10]
          rw [if_pos h3, if_neg h4]
      · rw [if_neg h3]
        refine ⟨-2, σ, σ, rfl, ?_, hS, Fr.rf⟩
        simp only [b2_t ((e_in3 _).mpr h2), if_neg n10]
        rw [if_neg h3]
    · refine ⟨-2, σ, σ, ?_, ?_, hS, Fr.rf⟩
      · by_cases c1 : w < 0
        · rw [if_pos c1, bd_mk]
        · rw [if_neg c1]
          have c2 : (4 : Int32) ≤ w := by
            rw [lt_toInt] at c1
            rw [le_toInt]
            omega
          rw [if_pos c2, bd_mk]
      · rw [b2_f (fun g => h2 ((e_in3 w).mp g)), if_pos rfl]
  · simp only [b2_f h1]
    exact ⟨-2, σ, σ, rfl, rfl, hS, Fr.rf⟩
theorem S_cutTo (w : Int32) (v : Int64) (σ : St) : ∃ r, f_X7_cutTo w v σ = some (r, σ) := by
  unfold f_X7_cutTo
  split
  · exact ⟨_, rfl⟩
  · split
    · exact ⟨_, rfl⟩
    · split <;> exact ⟨_, rfl⟩
theorem S_cut (v : Int64) (w : Int32) (σ : St) : ∃ r, f_X12_cut v w σ = some (r, σ) := ⟨_, rfl⟩
theorem R_write (p i : Int32) (v : Int64) (σ : St) (hS : SL σ) : ∃ r s1 s2, f_X11_write p i v σ = some (r, s1) ∧ f_X12_write p i v s1 = some (r, s2) ∧ SL s2 ∧ Fr [56, 73] σ s2 := by
  unfold f_X11_write f_X7_put f_X12_write f_X7_put_36
  simp only [S_slot, S_slotM, S_in, bd_mk]
  have z0 : (0 : Int32).toInt = 0 := rfl
  by_cases h1 : 0 ≤ p.toInt ∧ p.toInt ≤ 3
  · simp only [b2_t h1, if_neg n10]
    obtain ⟨s, hs, rfl⟩ := nI_ofT (n := 3) h1.1 h1.2
    have hc : (nI s).toNatClampNeg = s := nI_clamp (by omega)
    rw [inb_nI (show s < ln 53 by show _ < 4; omega) (by decide), inb_nI (show s < ln 54 by show _ < 4; omega) (by decide), inb_nI (show s < ln 55 by show _ < 4; omega) (by decide)]
    simp only [inb_nI (show s < ln 71 by show _ < 4; omega) (by decide), inb_nI (show s < ln 72 by show _ < 4; omega) (by decide), hc, gd_tt]
    rcases hS s (by omega) with ⟨a1, a2⟩ | ⟨a1, n, w, hn, hw, b1, b2', b3, b4⟩
    · refine ⟨-6, σ, σ, ?_, ?_, hS, Fr.rf⟩
      · rw [if_pos a1, bd_mk]
      · rw [if_pos a2]
    · have c0 : ¬ gr σ 53 s = 0 := by rw [a1]; exact n10
      have c1 : ¬ gr σ 71 s = -1 := by rw [b2']; exact nI_m1 hn
      have e1 : (nI n - 1).toInt = (n : Int) - 1 := by
        rw [i32_sub, nI_toInt (by omega)]
        · rfl
        · rw [nI_toInt (by omega)]
          have : (1 : Int32).toInt = 1 := rfl
          omega
      rw [if_neg c0]
      by_cases h2 : 0 ≤ i.toInt ∧ i.toInt < n
      · have c2 : ¬ i < 0 := by rw [lt_toInt]; omega
        have c3 : i < gr σ 55 s := by rw [b1, lt_toInt, nI_toInt (by omega)]; omega
        obtain ⟨r, er⟩ := S_cutTo (gr σ 54 s) v σ
        obtain ⟨j, hj, rfl⟩ := nI_ofT (n := n - 1) h2.1 (by omega)
        rw [nI_toInt (by omega)] at h2
        rw [if_neg c2, if_pos c3, er, bd_mk, show (60 : Int32) = nI 60 from rfl]
        simp only [nI_mul, nI_add]
        rw [inb_nI (show s * 60 + j < ln 56 by show _ < 240; omega) (by decide), gd_tt, bnd_mk]
        obtain ⟨r', er'⟩ := S_cut v (gr (sj σ 56 (nI (s * 60 + j)).toNatClampNeg r) 72 s) (sj σ 56 (nI (s * 60 + j)).toNatClampNeg r)
        have hF : Fr [56, 73] σ (sj (sj σ 56 (nI (s * 60 + j)).toNatClampNeg r) 73 (nI (60 * s + j)).toNatClampNeg r') := (Fr.c3 (by simp)).tr (Fr.c3 (by simp))
        refine ⟨0, _, _, rfl, ?_, hS.fr hF (by simp) (by simp) (by simp) (by simp) (by simp), hF⟩
        have c1' : ¬ gr (sj σ 56 (nI (s * 60 + j)).toNatClampNeg r) 71 s = -1 := c1
        rw [if_neg c1', show gr (sj σ 56 (nI (s * 60 + j)).toNatClampNeg r) 71 s = nI n from b2', b2_t (by rw [Int32.toInt_toInt64, Int32.toInt_toInt64, e1, nI_toInt (by omega)]; exact ⟨Int.natCast_nonneg j, by omega⟩), if_neg n10, er', bd_mk, inb_nI (show 60 * s + j < ln 73 by show _ < 240; omega) (by decide), gd_tt, bnd_mk]
      · refine ⟨-7, σ, σ, ?_, ?_, hS, Fr.rf⟩
        · by_cases c2 : i < 0
          · rw [if_pos c2, bd_mk]
          · have c3 : ¬ i < gr σ 55 s := by
              rw [lt_toInt] at c2
              rw [b1, lt_toInt, nI_toInt (by omega)]
              omega
            rw [if_neg c2, if_neg c3, bd_mk]
        · rw [if_neg c1, b2', b2_f (by
            rw [Int32.toInt_toInt64, Int32.toInt_toInt64, e1]
            intro g
            have g1 : 0 ≤ i.toInt := g.1
            omega), if_pos rfl]
  · simp only [b2_f h1]
    exact ⟨-2, σ, σ, rfl, rfl, hS, Fr.rf⟩
theorem S_within {s n : Nat} (hs : s < 4) (hn : n ≤ 60) (i k : Int32) (σ : St) (h : gr σ 55 s = nI n) : f_X7_isWithin (nI s) i k σ = some (b2 (0 ≤ i.toInt ∧ 0 ≤ k.toInt ∧ i.toInt + k.toInt ≤ n), σ) := by
  unfold f_X7_isWithin f_X7_isWithin_34 f_X7_isWithin_35
  have z0 : (0 : Int32).toInt = 0 := rfl
  have hc : (nI s).toNatClampNeg = s := nI_clamp (by omega)
  simp only [bz_0, bz_1, gd_tt, hc, h, inb_nI (show s < ln 55 by show _ < 4; omega) (by decide)]
  by_cases c1 : i < 0
  · rw [if_pos c1, b2_f]
    rw [lt_toInt] at c1
    omega
  · rw [if_neg c1]
    rw [lt_toInt] at c1
    by_cases c2 : k < 0
    · rw [if_pos c2, b2_f]
      rw [lt_toInt] at c2
      omega
    · rw [if_neg c2]
      rw [lt_toInt] at c2
      have hk := i32_bd k
      by_cases c3 : nI n < i
      · rw [if_pos c3, b2_f]
        rw [lt_toInt, nI_toInt (by omega)] at c3
        omega
      · rw [if_neg c3]
        rw [lt_toInt, nI_toInt (by omega)] at c3
        have e : (nI n - i).toInt = n - i.toInt := by
          rw [i32_sub, nI_toInt (by omega)]
          rw [nI_toInt (by omega)]
          omega
        by_cases c4 : nI n - i < k
        · rw [if_pos c4, b2_f]
          rw [lt_toInt, e] at c4
          omega
        · rw [if_neg c4, b2_t]
          rw [lt_toInt, e] at c4
          omega
theorem paste2 {t k N : Nat} (ht : t < 4) (hk : k + N ≤ 60) : ∀ (c x q : Nat) (σ : St), x + c = N → c < q → ∃ σ', itr g_X12_paste_150 q (nI t, nI k, nI N, nI x, σ) = some (0, σ') ∧ Fr [73, 74] σ σ' := by
  intro c
  induction c with
  | zero =>
    intro x q σ h hq
    obtain ⟨q, rfl⟩ : ∃ r, q = r + 1 := ⟨q - 1, by omega⟩
    refine ⟨σ, ?_, Fr.rf⟩
    rw [itr_succ]
    unfold g_X12_paste_150
    dsimp only
    rw [if_pos (nI_le (by omega) (by omega))]
  | succ c ih =>
    intro x q σ h hq
    obtain ⟨q, rfl⟩ : ∃ r, q = r + 1 := ⟨q - 1, by omega⟩
    rw [itr_succ]
    generalize hR : itr g_X12_paste_150 q = R
    unfold g_X12_paste_150
    dsimp only
    rw [if_neg (nI_ge (by omega) (by omega)), show (60 : Int32) = nI 60 from rfl, nI_mul, nI_add, nI_add, inb_nI (show x < ln 74 by show _ < 60; omega) (by decide), inb_nI (show 60 * t + k + x < ln 73 by show _ < 240; omega) (by decide), gd_tt, gd_tt, bnd_mk, bnd_mk, nI_1]
    obtain ⟨σ', e, hf⟩ := ih (x + 1) q (sj σ 73 (nI (60 * t + k + x)).toNatClampNeg (gj σ 74 (nI x).toNatClampNeg)) (by omega) (by omega)
    rw [hR] at e
    exact ⟨σ', e, (Fr.c3 (by simp)).tr hf⟩
theorem paste1 {s i t k N : Nat} (hs : s < 4) (hi : i + N ≤ 60) (ht : t < 4) (hk : k + N ≤ 60) : ∀ (c x q : Nat) (σ : St), x + c = N → c < q → ∃ σ', itr g_X12_paste_113 q (nI s, nI i, nI t, nI k, nI N, nI x, σ) = some (0, σ') ∧ Fr [73, 74] σ σ' := by
  intro c
  induction c with
  | zero =>
    intro x q σ h hq
    obtain ⟨q, rfl⟩ : ∃ r, q = r + 1 := ⟨q - 1, by omega⟩
    obtain ⟨σ', e, hf⟩ := paste2 ht hk N 0 FU σ (by omega) (by unfold FU; omega)
    refine ⟨σ', ?_, hf⟩
    rw [itr_succ]
    unfold g_X12_paste_113
    dsimp only
    rw [if_pos (nI_le (by omega) (by omega))]
    exact e
  | succ c ih =>
    intro x q σ h hq
    obtain ⟨q, rfl⟩ : ∃ r, q = r + 1 := ⟨q - 1, by omega⟩
    rw [itr_succ]
    generalize hR : itr g_X12_paste_113 q = R
    unfold g_X12_paste_113
    dsimp only
    rw [if_neg (nI_ge (by omega) (by omega)), show (60 : Int32) = nI 60 from rfl, nI_mul, nI_add, nI_add, inb_nI (show x < ln 74 by show _ < 60; omega) (by decide), inb_nI (show 60 * s + i + x < ln 73 by show _ < 240; omega) (by decide), gd_tt, gd_tt, bnd_mk, bnd_mk, nI_1]
    obtain ⟨σ', e, hf⟩ := ih (x + 1) q (sj σ 74 (nI x).toNatClampNeg (gj σ 73 (nI (60 * s + i + x)).toNatClampNeg)) (by omega) (by omega)
    rw [hR] at e
    exact ⟨σ', e, (Fr.c3 (by simp)).tr hf⟩
theorem R_paste (p i t k N : Int32) (σ : St) (hS : SL σ) : ∃ r s1 s2, f_X11_paste p i t k N σ = some (r, s1) ∧ f_X12_paste p i t k N s1 = some (r, s2) ∧ SL s2 ∧ Fr [56, 73, 74] σ s2 := by
  unfold f_X11_paste f_X7_copy f_X12_paste f_X7_copy_14 f_X7_copy_35 f_X7_copy_79 f_X12_paste_14 f_X12_paste_37 f_X12_paste_107
  simp only [S_slot, S_slotM, bd_mk]
  have z0 : (0 : Int32).toInt = 0 := rfl
  by_cases h1 : 0 ≤ p.toInt ∧ p.toInt ≤ 3
  · simp only [b2_t h1, if_neg n10]
    by_cases h2 : 0 ≤ t.toInt ∧ t.toInt ≤ 3
    · simp only [b2_t h2, if_neg n10]
      obtain ⟨s, hs, rfl⟩ := nI_ofT (n := 3) h1.1 h1.2
      obtain ⟨u, hu, rfl⟩ := nI_ofT (n := 3) h2.1 h2.2
      have hc : (nI s).toNatClampNeg = s := nI_clamp (by omega)
      have hd' : (nI u).toNatClampNeg = u := nI_clamp (by omega)
      simp only [inb_nI (show s < ln 53 by show _ < 4; omega) (by decide), inb_nI (show u < ln 53 by show _ < 4; omega) (by decide), inb_nI (show s < ln 54 by show _ < 4; omega) (by decide), inb_nI (show u < ln 54 by show _ < 4; omega) (by decide), inb_nI (show s < ln 71 by show _ < 4; omega) (by decide), inb_nI (show u < ln 71 by show _ < 4; omega) (by decide), inb_nI (show s < ln 72 by show _ < 4; omega) (by decide), inb_nI (show u < ln 72 by show _ < 4; omega) (by decide), hc, hd', gd_tt]
      rcases hS s (by omega) with ⟨a1, a2⟩ | ⟨a1, n, w, hn, hw, b1, b2', b3, b4⟩
      · refine ⟨-6, σ, σ, ?_, ?_, hS, Fr.rf⟩
        · rw [if_pos a1, bd_mk]
        · rw [if_pos a2]
      · have c0 : ¬ gr σ 53 s = 0 := by rw [a1]; exact n10
        have c1 : ¬ gr σ 71 s = -1 := by rw [b2']; exact nI_m1 hn
        simp only [if_neg c0]
        rcases hS u (by omega) with ⟨a1', a2'⟩ | ⟨a1', n', w', hn', hw', d1, d2, d3, d4⟩
        · refine ⟨-6, σ, σ, ?_, ?_, hS, Fr.rf⟩
          · rw [if_pos a1', bd_mk]
          · rw [if_neg c1, if_pos a2']
        · have c0' : ¬ gr σ 53 u = 0 := by rw [a1']; exact n10
          have c1' : ¬ gr σ 71 u = -1 := by rw [d2]; exact nI_m1 hn'
          simp only [if_neg c0']
          by_cases hw2 : w = w'
          · subst hw2
            have e54 : gr σ 54 s = gr σ 54 u := by rw [b3, d3]
            have e72 : gr σ 72 s = gr σ 72 u := by rw [b4, d4]
            rw [if_pos e54, S_within (show s < 4 by omega) hn i N σ b1, bd_mk]
            by_cases g1 : 0 ≤ i.toInt ∧ 0 ≤ N.toInt ∧ i.toInt + N.toInt ≤ n
            · rw [b2_t g1, if_neg n10, S_within (show u < 4 by omega) hn' k N σ d1, bd_mk]
              by_cases g2 : 0 ≤ k.toInt ∧ 0 ≤ N.toInt ∧ k.toInt + N.toInt ≤ n'
              · obtain ⟨j, hj, rfl⟩ := nI_ofT (n := 60) g1.1 (by omega)
                obtain ⟨M, hM, rfl⟩ := nI_ofT (n := 60) g1.2.1 (by omega)
                obtain ⟨x, hx, rfl⟩ := nI_ofT (n := 60) g2.1 (by omega)
                have f1 : ¬ nI j < 0 := nI_pos (by omega)
                have f2 : ¬ nI x < 0 := nI_pos (by omega)
                have f3 : ¬ nI M < 0 := nI_pos (by omega)
                rw [nI_toInt (by omega), nI_toInt (by omega)] at g1 g2
                have hcp : cpok (nI s * 60 + nI j) (nI u * 60 + nI x) (nI M) (ln 56) (ln 56) = true := by
                  rw [show (60 : Int32) = nI 60 from rfl, nI_mul, nI_mul, nI_add, nI_add]
                  simp only [cpok, Bool.and_eq_true, decide_eq_true_eq, nI_clamp (show s * 60 + j < 2 ^ 31 by omega), nI_clamp (show u * 60 + x < 2 ^ 31 by omega), nI_clamp (show M < 2 ^ 31 by omega)]
                  refine ⟨⟨⟨⟨nI_pos (by omega), nI_pos (by omega)⟩, f3⟩, ?_⟩, ?_⟩
                  · show _ ≤ 240
                    omega
                  · show _ ≤ 240
                    omega
                rw [b2_t ⟨by rw [nI_toInt (by omega)]; omega, by rw [nI_toInt (by omega)]; omega, by rw [nI_toInt (by omega), nI_toInt (by omega)]; exact g2.2.2⟩, if_neg n10, hcp, gd_tt, bnd_mk]
                generalize va_cpy (gj σ 56) (gj σ 56) (nI s * 60 + nI j).toNatClampNeg (nI u * 60 + nI x).toNatClampNeg (nI M).toNatClampNeg = F
                obtain ⟨s2, e2, f4⟩ := paste1 (s := s) (i := j) (t := u) (k := x) (N := M) (by omega) (by omega) (by omega) (by omega) M 0 FU (sJ σ 56 F) (by omega) (by unfold FU; omega)
                have hF : Fr [56, 73, 74] σ s2 := (Fr.cJ (by simp)).tr (f4.mo (by simp))
                refine ⟨0, _, s2, rfl, ?_, hS.fr hF (by simp) (by simp) (by simp) (by simp) (by simp), hF⟩
                have k1 : ¬ gr (sJ σ 56 F) 71 s = -1 := c1
                have k2 : ¬ gr (sJ σ 56 F) 71 u = -1 := c1'
                have k3 : gr (sJ σ 56 F) 72 s = gr (sJ σ 56 F) 72 u := e72
                have k4 : ¬ 0 < lg_cmp ((nI j).toInt64 + (nI M).toInt64) (gr (sJ σ 56 F) 71 s).toInt64 := by
                  rw [lcmp_gt, l64_add, show gr (sJ σ 56 F) 71 s = nI n from b2', Int32.toInt_toInt64, nI_toInt (by omega), nI_toInt (by omega), nI_toInt (by omega)]
                  omega
                have k5 : lg_cmp ((nI x).toInt64 + (nI M).toInt64) (gr (sJ σ 56 F) 71 u).toInt64 ≤ 0 := by
                  rw [← Int32.not_lt, lcmp_gt, l64_add, show gr (sJ σ 56 F) 71 u = nI n' from d2, Int32.toInt_toInt64, nI_toInt (by omega), nI_toInt (by omega), nI_toInt (by omega)]
                  omega
                rw [if_neg k1, if_neg k2, if_pos k3, if_neg f1, if_neg f2, if_neg f3, if_neg k4, if_pos k5]
                exact e2
              · rw [b2_f g2, if_pos rfl]
                refine ⟨-7, σ, σ, rfl, ?_, hS, Fr.rf⟩
                rw [if_neg c1, if_neg c1', if_pos e72]
                have f1 : ¬ i < 0 := by rw [lt_toInt]; omega
                have f3 : ¬ N < 0 := by rw [lt_toInt]; omega
                have k4 : ¬ 0 < lg_cmp (i.toInt64 + N.toInt64) (gr σ 71 s).toInt64 := by
                  rw [lcmp_gt, l64_add, b2', Int32.toInt_toInt64, nI_toInt (by omega)]
                  omega
                rw [if_neg f1, if_neg f3, if_neg k4]
                by_cases f2 : k < 0
                · rw [if_pos f2]
                · rw [if_neg f2]
                  have k5 : ¬ lg_cmp (k.toInt64 + N.toInt64) (gr σ 71 u).toInt64 ≤ 0 := by
                    rw [lt_toInt] at f2
                    rw [← Int32.not_lt, lcmp_gt, l64_add, d2, Int32.toInt_toInt64, nI_toInt (by omega)]
                    omega
                  rw [if_neg k5]
            · rw [b2_f g1, if_pos rfl]
              refine ⟨-7, σ, σ, rfl, ?_, hS, Fr.rf⟩
              rw [if_neg c1, if_neg c1', if_pos e72]
              by_cases f1 : i < 0
              · rw [if_pos f1]
              · rw [if_neg f1]
                by_cases f2 : k < 0
                · rw [if_pos f2]
                · rw [if_neg f2]
                  by_cases f3 : N < 0
                  · rw [if_pos f3]
                  · rw [if_neg f3]
                    have k4 : 0 < lg_cmp (i.toInt64 + N.toInt64) (gr σ 71 s).toInt64 := by
                      rw [lt_toInt] at f1 f3
                      rw [lcmp_gt, l64_add, b2', Int32.toInt_toInt64, nI_toInt (by omega)]
                      omega
                    rw [if_pos k4]
          · have e54 : ¬ gr σ 54 s = gr σ 54 u := by rw [b3, d3, nI_eq (by omega) (by omega)]; exact hw2
            have e72 : ¬ gr σ 72 s = gr σ 72 u := by rw [b4, d4, nI_eq (by omega) (by omega)]; exact hw2
            refine ⟨-8, σ, σ, ?_, ?_, hS, Fr.rf⟩
            · rw [if_neg e54, bd_mk]
            · rw [if_neg c1, if_neg c1', if_neg e72]
    · simp only [b2_f h2]
      exact ⟨-2, σ, σ, rfl, rfl, hS, Fr.rf⟩
  · simp only [b2_f h1]
    exact ⟨-2, σ, σ, rfl, rfl, hS, Fr.rf⟩
/-! ===== the TAPE: feed, end ===== -/
def bt (v k : Int32) : Int32 := vp_nar .byte ((v >>> k).toInt8.toInt32)
/-- one byte more behind the class's TAPE -/
def T1 (σ : St) (n : Nat) (x : Int32) : St := sf (sr σ 30 n x) 29 1 (nI (n + 1))
theorem gf_sf_s (σ : St) (i k j : Nat) (v : Int32) : gf (sf σ i k v) i j = if j = k then v else gf σ i j := by
  unfold sf
  rw [gf_sF, if_pos rfl]
  rfl
theorem gf_sf_n (σ : St) {i i' : Nat} (k j : Nat) (v : Int32) (h : i' ≠ i) : gf (sf σ i k v) i' j = gf σ i' j := by
  unfold sf
  rw [gf_sF, if_neg h]
theorem T1_len (σ : St) (n : Nat) (x : Int32) : gf (T1 σ n x) 29 1 = nI (n + 1) := by
  unfold T1
  rw [gf_sf_s, if_pos rfl]
theorem T1_fld (σ : St) (n j : Nat) (x : Int32) (h : j ≠ 1) : gf (T1 σ n x) 29 j = gf σ 29 j := by
  unfold T1
  rw [gf_sf_s, if_neg h]
  rfl
theorem T1_row (σ : St) (n j : Nat) (x : Int32) : gr (T1 σ n x) 30 j = if j = n then x else gr σ 30 j := by
  unfold T1
  show gr (sr σ 30 n x) 30 j = _
  rw [gr_sr_s]
theorem T1_fr (σ : St) (n : Nat) (x : Int32) : Fr [29, 30] σ (T1 σ n x) := (Fr.c2 (by simp)).tr (Fr.c1 (by simp))
theorem take_step (K : Int32 × Int32 × St → Option (Unit × St)) (v k k' : Int32) (σ : St) {n : Nat} (hn : n < 1200) (h : gf σ 29 1 = nI n) (hk : ¬ k < 0) (hk' : k &&& 31 = k) (he : k + (-8) = k') : g_X6_take_3 K (v, k, σ) = K (v, k', T1 σ n (bt v k)) := by
  unfold g_X6_take_3 f_X6_take_42
  dsimp only
  rw [if_neg hk, h, show nI (ln 30) = nI 1200 from rfl, if_neg (nI_ge (by omega) (by omega)), show ln 30 = 1200 from rfl, inb_nI hn (by decide), gd_tt, bnd_mk, bnd_mk, bnd_mk, he, hk', nI_clamp (by omega)]
  have e : gf (sr σ 30 n (vp_nar .byte ((v >>> k).toInt8.toInt32))) 29 1 = nI n := h
  rw [e, nI_1]
  rfl
theorem S_take (v : Int32) (σ : St) {n : Nat} (hn : n + 4 ≤ 1200) (h : gf σ 29 1 = nI n) : f_X6_take v σ = some ((), T1 (T1 (T1 (T1 σ n (bt v 24)) (n + 1) (bt v 16)) (n + 2) (bt v 8)) (n + 3) (bt v 0)) := by
  unfold f_X6_take
  rw [show FU = 4995 + 1 + 1 + 1 + 1 + 1 from rfl, itr_succ, take_step _ v 24 16 σ (by omega) h (by decide) (by decide) (by decide)]
  rw [itr_succ, take_step _ v 16 8 _ (n := n + 1) (by omega) (T1_len _ _ _) (by decide) (by decide) (by decide)]
  rw [itr_succ, take_step _ v 8 0 _ (n := n + 2) (by omega) (T1_len _ _ _) (by decide) (by decide) (by decide)]
  rw [itr_succ, take_step _ v 0 (-8) _ (n := n + 3) (by omega) (T1_len _ _ _) (by decide) (by decide) (by decide)]
  rfl
/-- behind a take: four bytes of a number -/
theorem take_sp (v : Int32) (σ : St) {n : Nat} (hn : n + 4 ≤ 1200) (h : gf σ 29 1 = nI n) : ∃ σ', f_X6_take v σ = some ((), σ') ∧ gf σ' 29 1 = nI (n + 4) ∧ (∀ j, j ≠ 1 → gf σ' 29 j = gf σ 29 j) ∧ (∀ j, gr σ' 30 j = if n ≤ j ∧ j < n + 4 then bt v (nI (24 - 8 * (j - n))) else gr σ 30 j) ∧ Fr [29, 30] σ σ' := by
  refine ⟨_, S_take v σ hn h, T1_len _ _ _, fun j hj => ?_, fun j => ?_, (((T1_fr _ _ _).tr (T1_fr _ _ _)).tr (T1_fr _ _ _)).tr (T1_fr _ _ _)⟩
  · rw [T1_fld _ _ _ _ hj, T1_fld _ _ _ _ hj, T1_fld _ _ _ _ hj, T1_fld _ _ _ _ hj]
  · rw [T1_row, T1_row, T1_row, T1_row]
    by_cases c3 : j = n + 3
    · rw [if_pos c3, if_pos (by omega), show 24 - 8 * (j - n) = 0 by omega]
      rfl
    · rw [if_neg c3]
      by_cases c2 : j = n + 2
      · rw [if_pos c2, if_pos (by omega), show 24 - 8 * (j - n) = 8 by omega]
        rfl
      · rw [if_neg c2]
        by_cases c1 : j = n + 1
        · rw [if_pos c1, if_pos (by omega), show 24 - 8 * (j - n) = 16 by omega]
          rfl
        · rw [if_neg c1]
          by_cases c0 : j = n
          · rw [if_pos c0, if_pos (by omega), show 24 - 8 * (j - n) = 24 by omega]
            rfl
          · rw [if_neg c0, if_neg (by omega)]
theorem fd20 : ∀ k : Nat, k < 20 → inb (nI k / 4) 5 = true ∧ (nI k / 4).toNatClampNeg = k / 4 ∧ (((24 : Int32) - 8 * (nI k - nI k / 4 * 4)) &&& 31) = nI (24 - 8 * (k % 4)) := by decide
theorem feed_loop {n : Nat} (hn : n + 20 ≤ 1200) : ∀ (c k q : Nat) (σ : St), k + c = 20 → c < q → gf σ 58 5 = nI n →
    ∃ σ', itr g_X12_feed_55 q (nI k, σ) = some (nI (n + 20), σ') ∧ gf σ' 58 5 = nI (n + 20) ∧ (∀ j, j ≠ 5 → gf σ' 58 j = gf σ 58 j) ∧ (∀ j, gr σ' 62 j = if n + k ≤ j ∧ j < n + 20 then bt (gr σ 63 ((j - n) / 4)) (nI (24 - 8 * ((j - n) % 4))) else gr σ 62 j) ∧ Fr [58, 62] σ σ' := by
  intro c
  induction c with
  | zero =>
    intro k q σ h hq hl
    obtain ⟨q, rfl⟩ : ∃ r, q = r + 1 := ⟨q - 1, by omega⟩
    obtain rfl : k = 20 := by omega
    refine ⟨sf σ 58 5 (nI (n + 20)), ?_, ?_, ?_, ?_, Fr.c1 (by simp)⟩
    · rw [itr_succ]
      unfold g_X12_feed_55
      dsimp only
      rw [show (20 : Int32) = nI 20 from rfl, if_pos (nI_le (by omega) (by omega)), bnd_mk, hl, nI_add, gf_sf_s, if_pos rfl]
    · rw [gf_sf_s, if_pos rfl]
    · intro j hj
      rw [gf_sf_s, if_neg hj]
    · intro j
      rw [if_neg (by omega)]
      rfl
  | succ c ih =>
    intro k q σ h hq hl
    obtain ⟨q, rfl⟩ : ∃ r, q = r + 1 := ⟨q - 1, by omega⟩
    obtain ⟨a1, a2, a3⟩ := fd20 k (by omega)
    rw [itr_succ]
    generalize hR : itr g_X12_feed_55 q = R
    unfold g_X12_feed_55
    dsimp only
    rw [show (20 : Int32) = nI 20 from rfl, if_neg (nI_ge (by omega) (by omega)), show ln 63 = 5 from rfl, a1, gd_tt, hl, nI_add, show ln 62 = 1200 from rfl, inb_nI (show n + k < 1200 by omega) (by decide), gd_tt, bnd_mk, bnd_mk, nI_1, a2, a3, nI_clamp (by omega)]
    have hl' : gf (sr σ 62 (n + k) (vp_nar .byte ((gr σ 63 (k / 4)) >>> nI (24 - 8 * (k % 4))).toInt8.toInt32)) 58 5 = nI n := hl
    obtain ⟨σ', e, f1, f2, f3, f4⟩ := ih (k + 1) q _ (by omega) (by omega) hl'
    rw [hR] at e
    refine ⟨σ', e, f1, fun j hj => f2 j hj, fun j => ?_, (Fr.c2 (by simp)).tr f4⟩
    rw [f3 j]
    by_cases c1 : n + (k + 1) ≤ j ∧ j < n + 20
    · rw [if_pos c1, if_pos (by omega), gr_sr_n _ _ _ _ (by decide)]
    · rw [if_neg c1, gr_sr_s]
      by_cases c2 : j = n + k
      · rw [if_pos c2, if_pos (by omega), show j - n = k by omega]
        rfl
      · rw [if_neg c2, if_neg (by omega)]
theorem bt_8 (v k : Int32) : -128 ≤ (bt v k).toInt ∧ (bt v k).toInt ≤ 127 := by
  unfold bt
  show -128 ≤ ((((v >>> k).toInt8.toInt32).toInt8).toInt32).toInt ∧ ((((v >>> k).toInt8.toInt32).toInt8).toInt32).toInt ≤ 127
  rw [Int8.toInt_toInt32]
  have h1 := Int8.le_toInt (((v >>> k).toInt8.toInt32).toInt8)
  have h2 := Int8.toInt_lt (((v >>> k).toInt8.toInt32).toInt8)
  omega
theorem ite8 {p : Prop} [Decidable p] {x y : Int32} (hx : -128 ≤ x.toInt ∧ x.toInt ≤ 127) (hy : ¬ p → -128 ≤ y.toInt ∧ y.toInt ≤ 127) : -128 ≤ (if p then x else y).toInt ∧ (if p then x else y).toInt ≤ 127 := by
  by_cases h : p
  · rw [if_pos h]; exact hx
  · rw [if_neg h]; exact hy h
/-- the TAPE as both have it -/
def TP (σ : St) : Prop := ∃ n : Nat, n ≤ 1200 ∧ gf σ 29 1 = nI n ∧ gf σ 58 5 = nI n ∧ (∀ j, j < n → gr σ 30 j = gr σ 62 j) ∧ ∀ j, j < n → -128 ≤ (gr σ 30 j).toInt ∧ (gr σ 30 j).toInt ≤ 127
def five (a b c d e : Int32) (k : Nat) : Int32 := if k = 0 then a else if k = 1 then b else if k = 2 then c else if k = 3 then d else e
theorem R_feed (a b c d e : Int32) (σ : St) (hT : TP σ) : ∃ r s1 s2, f_X11_feed a b c d e σ = some (r, s1) ∧ f_X12_feed a b c d e s1 = some (r, s2) ∧ TP s2 ∧ Fr [29, 30, 58, 62, 63] σ s2 ∧ (∀ j, j ≠ 1 → gf s2 29 j = gf σ 29 j) ∧ (∀ j, j ≠ 5 → gf s2 58 j = gf σ 58 j) := by
  obtain ⟨n, hn, h1, h2, h3, h4⟩ := hT
  unfold f_X11_feed f_X12_feed f_X6_hasRoom f_X6_hasRoom_17
  rw [h1, show (20 : Int32) = nI 20 from rfl, show (1200 : Int32) = nI 1200 from rfl, nI_add]
  by_cases hr : n + 20 ≤ 1200
  · rw [if_neg (nI_nlt hr (by omega)), bz_1, gd_tt, bd_mk, if_neg n10]
    obtain ⟨s5, t1, l1, w1, r1, f1⟩ := take_sp a σ (by omega) h1
    obtain ⟨s8, t2, l2, w2, r2, f2⟩ := take_sp b s5 (by omega) l1
    obtain ⟨s11, t3, l3, w3, r3, f3⟩ := take_sp c s8 (by omega) l2
    obtain ⟨s14, t4, l4, w4, r4, f4⟩ := take_sp d s11 (by omega) l3
    obtain ⟨s17, t5, l5, w5, r5, f5⟩ := take_sp e s14 (by omega) l4
    have F : Fr [29, 30] σ s17 := (((f1.tr f2).tr f3).tr f4).tr f5
    have h58 : gf s17 58 = gf σ 58 := (F.1 58 (by simp)).1
    have hl : gf (sr (sr (sr (sr (sr s17 63 0 a) 63 1 b) 63 2 c) 63 3 d) 63 4 e) 58 5 = nI n := by
      show gf s17 58 5 = nI n
      rw [h58]
      exact h2
    obtain ⟨s2, g1, g2, g3, g4, g5⟩ := feed_loop hr 20 0 FU _ (by omega) (by unfold FU; omega) hl
    have F2 : Fr [29, 30, 58, 62, 63] s17 s2 := (((((Fr.c2 (by simp)).tr (Fr.c2 (by simp))).tr (Fr.c2 (by simp))).tr (Fr.c2 (by simp))).tr (Fr.c2 (by simp))).tr (g5.mo (by simp))
    have hlen : gf s17 29 1 = nI (n + 20) := l5
    refine ⟨nI (n + 20), s17, s2, ?_, ?_, ⟨n + 20, hr, ?_, g2, ?_, ?_⟩, (F.mo (by simp)).tr F2, ?_, ?_⟩
    · rw [t1, bd_mk, t2, bd_mk, t3, bd_mk, t4, bd_mk, t5, bd_mk, hlen]
    · rw [h58, h2, nI_add, if_pos (nI_le hr (by omega))]
      exact g1
    · rw [show gf s2 29 = gf s17 29 from ((g5.1 29 (by simp)).1).trans rfl]
      exact hlen
    · intro j hj
      rw [show gr s2 30 = gr s17 30 from ((g5.1 30 (by simp)).2.1).trans rfl, g4 j]
      have h63 : ∀ k, k < 5 → gr (sr (sr (sr (sr (sr s17 63 0 a) 63 1 b) 63 2 c) 63 3 d) 63 4 e) 63 k = five a b c d e k := fun k hk => by
        rcases (show k = 0 ∨ k = 1 ∨ k = 2 ∨ k = 3 ∨ k = 4 by omega) with rfl | rfl | rfl | rfl | rfl <;> rfl
      have h62 : ∀ k, gr (sr (sr (sr (sr (sr s17 63 0 a) 63 1 b) 63 2 c) 63 3 d) 63 4 e) 62 k = gr σ 62 k := fun k => by
        show gr s17 62 k = _
        rw [(F.1 62 (by simp)).2.1]
      rw [h62]
      by_cases c0 : n ≤ j
      · rw [if_pos (by omega), h63 _ (by omega), r5 j, r4 j, r3 j, r2 j, r1 j]
        by_cases d4 : n + 16 ≤ j
        · rw [if_pos (by omega), show (j - n) / 4 = 4 by omega, show (j - n) % 4 = j - (n + 4 + 4 + 4 + 4) by omega]
          rfl
        · rw [if_neg (by omega)]
          by_cases d3 : n + 12 ≤ j
          · rw [if_pos (by omega), show (j - n) / 4 = 3 by omega, show (j - n) % 4 = j - (n + 4 + 4 + 4) by omega]
            rfl
          · rw [if_neg (by omega)]
            by_cases d2 : n + 8 ≤ j
            · rw [if_pos (by omega), show (j - n) / 4 = 2 by omega, show (j - n) % 4 = j - (n + 4 + 4) by omega]
              rfl
            · rw [if_neg (by omega)]
              by_cases d1 : n + 4 ≤ j
              · rw [if_pos (by omega), show (j - n) / 4 = 1 by omega, show (j - n) % 4 = j - (n + 4) by omega]
                rfl
              · rw [if_neg (by omega), if_pos (by omega), show (j - n) / 4 = 0 by omega, show (j - n) % 4 = j - n by omega]
                rfl
      · rw [if_neg (by omega), r5 j, r4 j, r3 j, r2 j, r1 j, if_neg (by omega), if_neg (by omega), if_neg (by omega), if_neg (by omega), if_neg (by omega)]
        exact h3 j (by omega)
    · intro j hj
      rw [show gr s2 30 = gr s17 30 from ((g5.1 30 (by simp)).2.1).trans rfl, r5 j, r4 j, r3 j, r2 j, r1 j]
      exact ite8 (bt_8 _ _) fun n5 => ite8 (bt_8 _ _) fun n4 => ite8 (bt_8 _ _) fun n3 => ite8 (bt_8 _ _) fun n2 => ite8 (bt_8 _ _) fun n1 => h4 j (by omega)
    · intro j hj
      rw [show gf s2 29 = gf s17 29 from ((g5.1 29 (by simp)).1).trans rfl, w5 j hj, w4 j hj, w3 j hj, w2 j hj, w1 j hj]
    · intro j hj
      rw [g3 j hj]
      show gf s17 58 j = _
      rw [h58]
  · rw [if_pos (nI_lt (by omega) (by omega)), bz_0, gd_tt, bd_mk, if_pos rfl]
    refine ⟨-1, σ, σ, rfl, ?_, ⟨n, hn, h1, h2, h3, h4⟩, Fr.rf, fun _ _ => rfl, fun _ _ => rfl⟩
    rw [h2, nI_add, if_neg (nI_ge (by omega) (by omega))]
theorem R_end (a : Int32) (σ : St) (hT : TP σ) : ∃ r s1 s2, f_X11_end a σ = some (r, s1) ∧ f_X12_end a s1 = some (r, s2) ∧ TP s2 ∧ Fr [29, 58] σ s2 ∧ (∀ j, j ≠ 1 → gf s2 29 j = gf σ 29 j) ∧ (∀ j, j ≠ 5 → gf s2 58 j = gf σ 58 j) := by
  obtain ⟨n, hn, h1, h2, h3, h4⟩ := hT
  have z0 : (0 : Int32).toInt = 0 := rfl
  unfold f_X11_end f_X12_end f_X6_cut f_X6_cut_12 f_X11_end_16
  simp only [S_in, bd_mk, bz_0, bz_1, gd_tt, bnd_mk, h1]
  by_cases c : 0 ≤ a.toInt ∧ a.toInt ≤ n
  · have c1 : ¬ a < 0 := by rw [lt_toInt]; omega
    have c2 : a ≤ nI n := by rw [le_toInt, nI_toInt (by omega)]; omega
    rw [if_neg c1, if_pos c2, bd_mk, if_neg n10]
    obtain ⟨m, hm, rfl⟩ := nI_ofT (n := n) c.1 c.2
    refine ⟨nI m, sf σ 29 1 (nI m), sf (sf σ 29 1 (nI m)) 58 5 (nI m), rfl, ?_, ⟨m, by omega, ?_, ?_, fun j hj => h3 j (by omega), fun j hj => h4 j (by omega)⟩, (Fr.c1 (by simp)).tr (Fr.c1 (by simp)), ?_, ?_⟩
    · have h2' : gf (sf σ 29 1 (nI m)) 58 5 = nI n := h2
      rw [h2', b2_t (by rw [Int32.toInt_toInt64, Int32.toInt_toInt64, nI_toInt (show n < 2 ^ 31 by omega)]; exact c), if_neg n10]
    · rw [gf_sf_n _ _ _ _ (by decide), gf_sf_s, if_pos rfl]
    · rw [gf_sf_s, if_pos rfl]
    · intro j hj
      rw [gf_sf_n _ _ _ _ (by decide), gf_sf_s, if_neg hj]
    · intro j hj
      rw [gf_sf_s, if_neg hj, gf_sf_n _ _ _ _ (by decide)]
  · have e : (if a < 0 then some ((0 : Int32), σ) else if a ≤ nI n then some (1, sf σ 29 1 a) else some (0, σ)) = some (0, σ) := by
      by_cases c1 : a < 0
      · rw [if_pos c1]
      · rw [if_neg c1, if_neg]
        rw [lt_toInt] at c1
        rw [le_toInt, nI_toInt (by omega)]
        omega
    rw [e, bd_mk, if_pos rfl]
    refine ⟨-1, σ, σ, rfl, ?_, ⟨n, hn, h1, h2, h3, h4⟩, Fr.rf, fun _ _ => rfl, fun _ _ => rfl⟩
    rw [h2, b2_f (by rw [Int32.toInt_toInt64, Int32.toInt_toInt64, nI_toInt (show n < 2 ^ 31 by omega)]; exact c), if_pos rfl]
/-! ===== TOKENS: what both readers see of a TAPE ===== -/
def by8 (x : Int32) : Prop := -128 ≤ x.toInt ∧ x.toInt ≤ 127
/-- kinds of a byte: 1 blank, 2 of a word, 3 of a number, 4 the sign, 5 another -/
def bk (x : Int32) : Nat := if x = 32 ∨ x = 10 then 1 else if 97 ≤ x.toInt ∧ x.toInt ≤ 122 then 2 else if 48 ≤ x.toInt ∧ x.toInt ≤ 57 then 3 else if x = 59 then 4 else 5
def kn (b : Nat → Int32) (n p : Nat) : Nat := if p < n then bk (b p) else 0
theorem bk_bd (x : Int32) : 1 ≤ bk x ∧ bk x ≤ 5 := by
  unfold bk
  split
  · omega
  · split
    · omega
    · split
      · omega
      · split <;> omega
theorem kn_bd (b : Nat → Int32) (n p : Nat) : kn b n p ≤ 5 := by
  unfold kn
  split
  · exact (bk_bd _).2
  · omega
/-- from p on: the TOKEN that begins at q, ends ahead of e, is of kind K (0: the end) -/
def Tk (b : Nat → Int32) (n p q e K : Nat) : Prop := p ≤ q ∧ q ≤ n ∧ (∀ j, p ≤ j → j < q → bk (b j) = 1) ∧ kn b n q = K ∧ K ≠ 1 ∧ q ≤ e ∧ e ≤ n ∧
  (K = 0 → e = q) ∧ (K = 4 ∨ K = 5 → e = q + 1) ∧ (K = 2 ∨ K = 3 → q < e ∧ (∀ j, q ≤ j → j < e → bk (b j) = K) ∧ kn b n e ≠ K)
theorem Tk_q {b : Nat → Int32} {n p q e K q' e' K' : Nat} (h : Tk b n p q e K) (g : Tk b n p q' e' K') : q = q' := by
  obtain ⟨h1, h2, h3, h4, h5, -⟩ := h
  obtain ⟨g1, g2, g3, g4, g5, -⟩ := g
  have no : ∀ x y L : Nat, p ≤ x → y ≤ n → x < y → (∀ j, p ≤ j → j < y → bk (b j) = 1) → kn b n x = L → L ≠ 1 → False := fun x y L a1 a2 a3 a4 a5 a6 => by
    have := a4 x a1 a3
    unfold kn at a5
    rw [if_pos (by omega), this] at a5
    exact a6 a5.symm
  rcases Nat.lt_trichotomy q q' with c | c | c
  · exact (no q q' K h1 g2 c g3 h4 h5).elim
  · exact c
  · exact (no q' q K' g1 h2 c h3 g4 g5).elim
theorem Tk_u {b : Nat → Int32} {n p q e K q' e' K' : Nat} (h : Tk b n p q e K) (g : Tk b n p q' e' K') : q = q' ∧ e = e' ∧ K = K' := by
  have eq := Tk_q h g
  subst eq
  obtain ⟨h1, h2, h3, h4, h5, h6, h7, h8, h9, h10⟩ := h
  obtain ⟨g1, g2, g3, g4, g5, g6, g7, g8, g9, g10⟩ := g
  have eK : K = K' := h4.symm.trans g4
  subst eK
  refine ⟨rfl, ?_, rfl⟩
  have hb := kn_bd b n q
  rcases (show K = 0 ∨ (K = 4 ∨ K = 5) ∨ (K = 2 ∨ K = 3) by omega) with c | c | c
  · rw [h8 c, g8 c]
  · rw [h9 c, g9 c]
  · obtain ⟨a1, a2, a3⟩ := h10 c
    obtain ⟨b1, b2', b3⟩ := g10 c
    have no : ∀ x y : Nat, q < x → y ≤ n → x < y → (∀ j, q ≤ j → j < y → bk (b j) = K) → kn b n x ≠ K → False := fun x y c1 c2 c3 c4 c5 => by
      apply c5
      unfold kn
      rw [if_pos (by omega)]
      exact c4 x (by omega) c3
    rcases Nat.lt_trichotomy e e' with d | d | d
    · exact (no e e' a1 g7 d b2' a3).elim
    · exact d
    · exact (no e' e b1 h7 d a2 b3).elim
theorem kn_c {b b' : Nat → Int32} {n : Nat} (h : ∀ j, j < n → b j = b' j) (p : Nat) : kn b n p = kn b' n p := by
  unfold kn
  split
  · rename_i q
    rw [h p q]
  · rfl
theorem Tk_c {b b' : Nat → Int32} {n p q e K : Nat} (h : ∀ j, j < n → b j = b' j) (t : Tk b n p q e K) : Tk b' n p q e K := by
  obtain ⟨h1, h2, h3, h4, h5, h6, h7, h8, h9, h10⟩ := t
  refine ⟨h1, h2, fun j a c => ?_, (kn_c h q).symm.trans h4, h5, h6, h7, h8, h9, fun c => ⟨(h10 c).1, fun j a d => ?_, ?_⟩⟩
  · rw [← h j (by omega)]
    exact h3 j a c
  · rw [← h j (by omega)]
    exact (h10 c).2.1 j a d
  · rw [← kn_c h e]
    exact (h10 c).2.2
/-- a number's worth, no more than a cap -/
def dcv (cap : Nat) (b : Nat → Int32) (q : Nat) : Nat → Nat
  | 0 => 0
  | k + 1 => min cap (10 * dcv cap b q k + ((b (q + k)).toInt - 48).toNat)
theorem dcv_c {cap : Nat} {b b' : Nat → Int32} {q : Nat} : ∀ k, (∀ j, q ≤ j → j < q + k → b j = b' j) → dcv cap b q k = dcv cap b' q k := by
  intro k
  induction k with
  | zero => intro _; rfl
  | succ k ih =>
    intro h
    unfold dcv
    rw [ih (fun j a c => h j a (by omega)), h (q + k) (by omega) (by omega)]
theorem dcv_le (cap : Nat) (b : Nat → Int32) (q k : Nat) : dcv cap b q k ≤ cap := by
  cases k with
  | zero => exact Nat.zero_le _
  | succ k => exact Nat.min_le_left _ _
/-- by both caps: the same, or above every bound -/
def VR (x y : Nat) : Prop := (x = y ∧ y < 99999) ∨ (99999 ≤ x ∧ x ≤ 100000 ∧ y = 99999)
theorem dcv_VR (b : Nat → Int32) (q k : Nat) : VR (dcv 100000 b q k) (dcv 99999 b q k) := by
  induction k with
  | zero => exact Or.inl ⟨rfl, Nat.lt_of_lt_of_le (Nat.zero_lt_succ 0) (by decide)⟩
  | succ k ih =>
    unfold dcv
    generalize ((b (q + k)).toInt - 48).toNat = d at *
    generalize dcv 100000 b q k = x at *
    generalize dcv 99999 b q k = y at *
    unfold VR at *
    rcases ih with ⟨h1, h2⟩ | ⟨h1, h2, h3⟩
    · subst h1
      by_cases c : 10 * x + d < 99999
      · exact Or.inl ⟨by omega, by omega⟩
      · exact Or.inr ⟨by omega, by omega, by omega⟩
    · exact Or.inr ⟨by omega, by omega, by omega⟩
/-! ===== the class's TOKENS ===== -/
theorem S_kindAt {σ : St} {n p : Nat} (hn : n ≤ 1200) (hp : p ≤ 1200) (h : gf σ 29 1 = nI n) : f_X6_kindAt (nI p) σ = some (nI (kn (gr σ 30) n p), σ) := by
  unfold f_X6_kindAt f_X6_kindAt_21 f_X6_kindAt_42 f_X6_kindAt_58 f_X6_kindAt_72 f_X6_kindAt_83 kn
  rw [if_neg (nI_pos (by omega)), h]
  by_cases c : p < n
  · rw [if_neg (nI_ge c (by omega)), if_pos c, show nI (ln 30) = nI 1200 from rfl, if_pos (nI_lt (by omega) (by omega)), show ln 30 = 1200 from rfl, inb_nI (by omega) (by decide), gd_tt, bnd_mk, nI_clamp (by omega)]
    generalize gr σ 30 p = x
    unfold bk
    have z97 : (97 : Int32).toInt = 97 := rfl
    have z122 : (122 : Int32).toInt = 122 := rfl
    have z48 : (48 : Int32).toInt = 48 := rfl
    have z57 : (57 : Int32).toInt = 57 := rfl
    by_cases a1 : x = 32
    · rw [if_pos a1, if_pos (Or.inl a1)]
      rfl
    · rw [if_neg a1]
      by_cases a2 : x = 10
      · rw [if_pos a2, if_pos (Or.inr a2)]
        rfl
      · have a12 : ¬ (x = 32 ∨ x = 10) := fun g => g.elim a1 a2
        rw [if_neg a2, if_neg a12]
        have E : (if x < 48 then (if x = 59 then some ((4 : Int32), σ) else some (5, σ)) else if (57 : Int32) < x then (if x = 59 then some ((4 : Int32), σ) else some (5, σ)) else some (3, σ)) = some (nI (if 48 ≤ x.toInt ∧ x.toInt ≤ 57 then 3 else if x = 59 then 4 else 5), σ) := by
          by_cases d : 48 ≤ x.toInt ∧ x.toInt ≤ 57
          · rw [if_neg (by rw [lt_toInt]; omega), if_neg (by rw [lt_toInt]; omega), if_pos d]
            rfl
          · rw [if_neg d]
            have F : (if x = 59 then some ((4 : Int32), σ) else some (5, σ)) = some (nI (if x = 59 then 4 else 5), σ) := by
              split <;> rfl
            by_cases d1 : x < 48
            · rw [if_pos d1, F]
            · have d2 : (57 : Int32) < x := by
                rw [lt_toInt] at d1 ⊢
                omega
              rw [if_neg d1, if_pos d2, F]
        by_cases a3 : 97 ≤ x.toInt ∧ x.toInt ≤ 122
        · rw [if_neg (show ¬ x < 97 by rw [lt_toInt]; omega), if_neg (show ¬ (122 : Int32) < x by rw [lt_toInt]; omega), if_pos a3]
          rfl
        · rw [if_neg a3]
          by_cases d1 : x < 97
          · rw [if_pos d1]
            exact E
          · have d2 : (122 : Int32) < x := by
              rw [lt_toInt] at d1 ⊢
              omega
            rw [if_neg d1, if_pos d2]
            exact E
  · rw [if_pos (nI_le (by omega) (by omega)), if_neg c]
    rfl
theorem S_byteAt {σ : St} {p : Nat} (hp : p < 1200) : f_X6_byteAt (nI p) σ = some (gr σ 30 p, σ) := by
  unfold f_X6_byteAt f_X6_byteAt_22 f_X6_byteAt_23
  rw [if_neg (nI_pos (by omega)), show nI (ln 30) = nI 1200 from rfl, if_neg (nI_ge hp (by omega)), show ln 30 = 1200 from rfl, inb_nI hp (by decide), gd_tt, nI_clamp (by omega)]
/-- four fields of the reader: from, kind, value, to -/
def L4 (f : Nat → Int32) (a k v e : Int32) : Nat → Int32 := fun j => if j = 5 then a else if j = 7 then k else if j = 8 then v else if j = 6 then e else f j
theorem sf_sF (σ : St) (i k : Nat) (f : Nat → Int32) (v : Int32) : sf (sF σ i f) i k v = sF σ i (upd f k v) := by
  unfold sf
  rw [gf_sF, if_pos rfl]
  unfold sF
  refine Prod.ext ?_ rfl
  funext j
  show va_up (va_up σ.1 i f) i _ j = va_up σ.1 i _ j
  unfold va_up
  by_cases h : j = i
  · simp [h]
  · simp [h]
theorem sF_id (σ : St) (i : Nat) : sF σ i (gf σ i) = σ := by
  unfold sF gf
  refine Prod.ext ?_ rfl
  funext j
  show va_up σ.1 i (σ.1 i) j = σ.1 j
  unfold va_up
  split
  · rename_i q
    rw [q]
  · rfl
theorem L4_id (f : Nat → Int32) : L4 f (f 5) (f 7) (f 8) (f 6) = f := by
  funext j
  unfold L4
  split
  · rename_i q; rw [q]
  · split
    · rename_i q; rw [q]
    · split
      · rename_i q; rw [q]
      · split
        · rename_i q; rw [q]
        · rfl
theorem L4_5 (f : Nat → Int32) (a k v e x : Int32) : upd (L4 f a k v e) 5 x = L4 f x k v e := by
  funext j
  unfold upd L4
  by_cases c : j = 5 <;> simp [c]
theorem L4_7 (f : Nat → Int32) (a k v e x : Int32) : upd (L4 f a k v e) 7 x = L4 f a x v e := by
  funext j
  unfold upd L4
  by_cases c : j = 7
  · simp [c]
  · simp [c]
theorem L4_8 (f : Nat → Int32) (a k v e x : Int32) : upd (L4 f a k v e) 8 x = L4 f a k x e := by
  funext j
  unfold upd L4
  by_cases c : j = 8
  · simp [c]
  · simp [c]
theorem L4_6 (f : Nat → Int32) (a k v e x : Int32) : upd (L4 f a k v e) 6 x = L4 f a k v x := by
  funext j
  unfold upd L4
  by_cases c : j = 6
  · simp [c]
  · simp [c]
/-- the class's state with these four -/
def C4 (σ : St) (a k v e : Int32) : St := sF σ 29 (L4 (gf σ 29) a k v e)
theorem C4_1 (σ : St) (a k v e : Int32) : gf (C4 σ a k v e) 29 1 = gf σ 29 1 := by unfold C4; rw [gf_sF, if_pos rfl]; rfl
theorem C4_5 (σ : St) (a k v e : Int32) : gf (C4 σ a k v e) 29 5 = a := by unfold C4; rw [gf_sF, if_pos rfl]; rfl
theorem C4_6 (σ : St) (a k v e : Int32) : gf (C4 σ a k v e) 29 6 = e := by unfold C4; rw [gf_sF, if_pos rfl]; rfl
theorem C4_7 (σ : St) (a k v e : Int32) : gf (C4 σ a k v e) 29 7 = k := by unfold C4; rw [gf_sF, if_pos rfl]; rfl
theorem C4_8 (σ : St) (a k v e : Int32) : gf (C4 σ a k v e) 29 8 = v := by unfold C4; rw [gf_sF, if_pos rfl]; rfl
theorem C4_s5 (σ : St) (a k v e x : Int32) : sf (C4 σ a k v e) 29 5 x = C4 σ x k v e := by unfold C4; rw [sf_sF, L4_5]
theorem C4_s6 (σ : St) (a k v e x : Int32) : sf (C4 σ a k v e) 29 6 x = C4 σ a k v x := by unfold C4; rw [sf_sF, L4_6]
theorem C4_s7 (σ : St) (a k v e x : Int32) : sf (C4 σ a k v e) 29 7 x = C4 σ a x v e := by unfold C4; rw [sf_sF, L4_7]
theorem C4_s8 (σ : St) (a k v e x : Int32) : sf (C4 σ a k v e) 29 8 x = C4 σ a k x e := by unfold C4; rw [sf_sF, L4_8]
theorem C4_r (σ : St) (a k v e : Int32) : gr (C4 σ a k v e) 30 = gr σ 30 := rfl
theorem C4_id (σ : St) : C4 σ (gf σ 29 5) (gf σ 29 7) (gf σ 29 8) (gf σ 29 6) = σ := by unfold C4; rw [L4_id, sF_id]
theorem C4_fr (σ : St) (a k v e : Int32) : Fr [29] σ (C4 σ a k v e) := Fr.cF (by simp)
theorem c_skip {n : Nat} (hn : n ≤ 1200) (σ : St) (hl : gf σ 29 1 = nI n) (k v e : Int32) : ∀ (c p Q : Nat), p + c = n → c < Q → ∃ q, p ≤ q ∧ q ≤ n ∧ (∀ j, p ≤ j → j < q → bk (gr σ 30 j) = 1) ∧ kn (gr σ 30) n q ≠ 1 ∧ itr g_X6_advance_8 Q (C4 σ (nI p) k v e) = f_X6_advance_44 (C4 σ (nI q) k v e) := by
  intro c
  induction c with
  | zero =>
    intro p Q h hQ
    obtain ⟨Q, rfl⟩ : ∃ r, Q = r + 1 := ⟨Q - 1, by omega⟩
    refine ⟨p, by omega, by omega, fun j a c => by omega, by unfold kn; rw [if_neg (by omega)]; decide, ?_⟩
    rw [itr_succ]
    generalize itr g_X6_advance_8 Q = R
    unfold g_X6_advance_8
    dsimp only
    rw [C4_1, C4_5, hl, if_pos (nI_le (by omega) (by omega))]
  | succ c ih =>
    intro p Q h hQ
    obtain ⟨Q, rfl⟩ : ∃ r, Q = r + 1 := ⟨Q - 1, by omega⟩
    have hk := S_kindAt (σ := C4 σ (nI p) k v e) (n := n) (p := p) hn (by omega) (by rw [C4_1]; exact hl)
    rw [C4_r] at hk
    by_cases hb : kn (gr σ 30) n p = 1
    · obtain ⟨q, q1, q2, q3, q4, q5⟩ := ih (p + 1) Q (by omega) (by omega)
      refine ⟨q, by omega, q2, fun j a d => ?_, q4, ?_⟩
      · by_cases ej : j = p
        · subst ej
          unfold kn at hb
          rw [if_pos (by omega)] at hb
          exact hb
        · exact q3 j (by omega) d
      · rw [itr_succ]
        generalize hR : itr g_X6_advance_8 Q = R at q5
        unfold g_X6_advance_8
        dsimp only
        rw [C4_1, C4_5, hl, if_neg (nI_ge (by omega) (by omega)), hk, bd_mk, hb, if_pos (show nI 1 = (1 : Int32) from rfl), bnd_mk, C4_5, nI_1, C4_s5]
        exact q5
    · refine ⟨p, by omega, by omega, fun j a d => by omega, hb, ?_⟩
      rw [itr_succ]
      generalize itr g_X6_advance_8 Q = R
      unfold g_X6_advance_8
      dsimp only
      have hne : ¬ nI (kn (gr σ 30) n p) = 1 := fun q => hb (by
        have hb5 := kn_bd (gr σ 30) n p
        exact (nI_eq (by omega) (by omega)).mp (q.trans (show (1 : Int32) = nI 1 from rfl)))
      rw [C4_1, C4_5, hl, if_neg (nI_ge (by omega) (by omega)), hk, bd_mk, if_neg hne]
theorem i32_eq {x y : Int32} (h : x.toInt = y.toInt) : x = y := Int32.toInt_inj.mp h
/-- a digit more, no more than the cap -/
theorem cap_c {x : Nat} {b : Int32} (hx : x ≤ 100000) (hb : bk b = 3) : (if nI x * 10 + b - 48 < (100000 : Int32) then nI x * 10 + b - 48 else (100000 : Int32)) = nI (min 100000 (10 * x + (b.toInt - 48).toNat)) := by
  have hd : 48 ≤ b.toInt ∧ b.toInt ≤ 57 := by
    unfold bk at hb
    split at hb
    · omega
    · split at hb
      · omega
      · split at hb
        · rename_i q
          exact q
        · split at hb <;> omega
  have z48 : (48 : Int32).toInt = 48 := rfl
  have z1 : (100000 : Int32).toInt = 100000 := rfl
  have e1 : (nI x * 10).toInt = 10 * x := by
    rw [show (10 : Int32) = nI 10 from rfl, nI_mul, nI_toInt (by omega)]
    omega
  have e2 : (nI x * 10 + b).toInt = 10 * x + b.toInt := by rw [i32_add (by omega), e1]
  have e3 : (nI x * 10 + b - 48).toInt = 10 * x + b.toInt - 48 := by rw [i32_sub (by omega), e2, z48]
  apply i32_eq
  rw [nI_toInt (by omega)]
  by_cases c : nI x * 10 + b - 48 < (100000 : Int32)
  · rw [if_pos c, e3]
    rw [lt_toInt, e3, z1] at c
    omega
  · rw [if_neg c, z1]
    rw [lt_toInt, e3, z1] at c
    omega
theorem c_run {n : Nat} (hn : n ≤ 1200) (σ : St) (hl : gf σ 29 1 = nI n) (q K : Nat) (hK : K = 2 ∨ K = 3) : ∀ (c e Q : Nat) (v : Int32), e + c = n → c < Q → q < e → (∀ j, q ≤ j → j < e → bk (gr σ 30 j) = K) → (K = 3 → v = nI (dcv 100000 (gr σ 30) q (e - q))) →
    ∃ e' v', e ≤ e' ∧ e' ≤ n ∧ (∀ j, q ≤ j → j < e' → bk (gr σ 30 j) = K) ∧ kn (gr σ 30) n e' ≠ K ∧ (K = 3 → v' = nI (dcv 100000 (gr σ 30) q (e' - q))) ∧ itr g_X6_advance_118 Q (C4 σ (nI q) (nI K) v (nI e)) = some ((), C4 σ (nI q) (nI K) v' (nI e')) := by
  intro c
  induction c with
  | zero =>
    intro e Q v h hQ hq hr hv
    obtain ⟨Q, rfl⟩ : ∃ r, Q = r + 1 := ⟨Q - 1, by omega⟩
    refine ⟨e, v, by omega, by omega, hr, by unfold kn; rw [if_neg (by omega)]; omega, hv, ?_⟩
    rw [itr_succ]
    generalize itr g_X6_advance_118 Q = R
    unfold g_X6_advance_118 f_X6_advance_193
    dsimp only
    rw [C4_1, C4_6, hl, if_pos (nI_le (by omega) (by omega))]
  | succ c ih =>
    intro e Q v h hQ hq hr hv
    obtain ⟨Q, rfl⟩ : ∃ r, Q = r + 1 := ⟨Q - 1, by omega⟩
    have hk := S_kindAt (σ := C4 σ (nI q) (nI K) v (nI e)) (n := n) (p := e) hn (by omega) (by rw [C4_1]; exact hl)
    rw [C4_r] at hk
    have hb5 := kn_bd (gr σ 30) n e
    by_cases hb : kn (gr σ 30) n e = K
    · have hbe : bk (gr σ 30 e) = K := by
        unfold kn at hb
        rw [if_pos (by omega)] at hb
        exact hb
      have hr' : ∀ j, q ≤ j → j < e + 1 → bk (gr σ 30 j) = K := fun j a d => by
        by_cases ej : j = e
        · rw [ej]; exact hbe
        · exact hr j a (by omega)
      rcases hK with k2 | k3
      · obtain ⟨e', v', a1, a2, a3, a4, a5, a6⟩ := ih (e + 1) Q v (by omega) (by omega) (by omega) hr' (fun z => by omega)
        refine ⟨e', v', by omega, a2, a3, a4, a5, ?_⟩
        rw [itr_succ]
        generalize hR : itr g_X6_advance_118 Q = R at a6
        unfold g_X6_advance_118 f_X6_advance_180
        dsimp only
        rw [C4_1, C4_6, hl, if_neg (nI_ge (by omega) (by omega)), hk, bd_mk, hb, C4_7, if_pos rfl, if_neg (by rw [k2]; decide), bnd_mk, C4_6, nI_1, C4_s6]
        exact a6
      · have hv3 := hv k3
        have hd : dcv 100000 (gr σ 30) q (e - q) ≤ 100000 := dcv_le _ _ _ _
        have hc := cap_c hd (hbe.trans k3)
        have hs : dcv 100000 (gr σ 30) q (e + 1 - q) = min 100000 (10 * dcv 100000 (gr σ 30) q (e - q) + ((gr σ 30 e).toInt - 48).toNat) := by
          rw [show e + 1 - q = (e - q) + 1 by omega]
          show min 100000 (10 * dcv 100000 (gr σ 30) q (e - q) + ((gr σ 30 (q + (e - q))).toInt - 48).toNat) = _
          rw [show q + (e - q) = e by omega]
        obtain ⟨e', v', a1, a2, a3, a4, a5, a6⟩ := ih (e + 1) Q (nI (dcv 100000 (gr σ 30) q (e + 1 - q))) (by omega) (by omega) (by omega) hr' (fun _ => rfl)
        refine ⟨e', v', by omega, a2, a3, a4, a5, ?_⟩
        rw [itr_succ]
        generalize hR : itr g_X6_advance_118 Q = R at a6
        unfold g_X6_advance_118 f_X6_advance_180
        dsimp only
        have hby := S_byteAt (σ := C4 σ (nI q) (nI K) v (nI e)) (p := e) (by omega)
        rw [C4_r] at hby
        rw [C4_1, C4_6, hl, if_neg (nI_ge (by omega) (by omega)), hk, bd_mk, hb, C4_7, if_pos rfl, if_pos (by rw [k3]; rfl), C4_6, hby, bd_mk, bnd_mk, bnd_mk, C4_8, hv3, hc, C4_s8, C4_6, nI_1, C4_s6, ← hs]
        exact a6
    · refine ⟨e, v, by omega, by omega, hr, hb, hv, ?_⟩
      rw [itr_succ]
      generalize itr g_X6_advance_118 Q = R
      unfold g_X6_advance_118 f_X6_advance_193
      dsimp only
      have hne : ¬ nI (kn (gr σ 30) n e) = nI K := fun z => hb ((nI_eq (by omega) (by omega)).mp z)
      rw [C4_1, C4_6, hl, if_neg (nI_ge (by omega) (by omega)), hk, bd_mk, C4_7, if_neg hne]
/-- advance: the next TOKEN -/
theorem S_adv {σ : St} {n p : Nat} (hn : n ≤ 1200) (hl : gf σ 29 1 = nI n) (hp : gf σ 29 6 = nI p) (hpn : p ≤ n) : ∃ q e K v, Tk (gr σ 30) n p q e K ∧ (K = 3 → v = nI (dcv 100000 (gr σ 30) q (e - q))) ∧ f_X6_advance σ = some ((), C4 σ (nI q) (nI K) v (nI e)) := by
  have e0 : sf σ 29 5 (gf σ 29 6) = C4 σ (nI p) (gf σ 29 7) (gf σ 29 8) (gf σ 29 6) := by
    have h := C4_s5 σ (gf σ 29 5) (gf σ 29 7) (gf σ 29 8) (gf σ 29 6) (nI p)
    rw [C4_id] at h
    rw [hp] at h ⊢
    exact h
  obtain ⟨q, q1, q2, q3, q4, q5⟩ := c_skip hn σ hl (gf σ 29 7) (gf σ 29 8) (gf σ 29 6) (n - p) p FU (by omega) (by unfold FU; omega)
  have hk := S_kindAt (σ := C4 σ (nI q) (gf σ 29 7) (gf σ 29 8) (gf σ 29 6)) (n := n) (p := q) hn (by omega) (by rw [C4_1]; exact hl)
  rw [C4_r] at hk
  have hK5 := kn_bd (gr σ 30) n q
  obtain ⟨K, hK⟩ : ∃ K, K = kn (gr σ 30) n q := ⟨_, rfl⟩
  rw [← hK] at hk q4 hK5
  -- the first end
  have hto : ∀ x : Nat, q ≤ n → (if nI n < nI q + 1 then nI n else nI q + 1) = nI (min n (q + 1)) := fun _ _ => by
    rw [nI_1]
    by_cases c : n < q + 1
    · rw [if_pos (nI_lt c (by omega)), Nat.min_eq_left (by omega)]
    · rw [if_neg (nI_nlt (by omega) (by omega)), Nat.min_eq_right (by omega)]
  have E : f_X6_advance σ = f_X6_advance_44 (C4 σ (nI q) (gf σ 29 7) (gf σ 29 8) (gf σ 29 6)) := by
    unfold f_X6_advance
    rw [bnd_mk, e0]
    exact q5
  have E2 : f_X6_advance_44 (C4 σ (nI q) (gf σ 29 7) (gf σ 29 8) (gf σ 29 6)) = (if nI K = (3 : Int32) then bd (f_X6_byteAt (nI q) (C4 σ (nI q) (nI K) 0 (nI (min n (q + 1))))) (fun r7 s8 => bnd (sf s8 29 8 (r7 - 48)) fun s10 => f_X6_advance_101 s10) else f_X6_advance_101 (C4 σ (nI q) (nI K) 0 (nI (min n (q + 1))))) := by
    unfold f_X6_advance_44
    rw [C4_5, hk, bd_mk, bnd_mk, C4_s7, bnd_mk, C4_s8, bnd_mk, C4_1, C4_5, hl, hto 0 q2, C4_s6, C4_7, C4_5]
  have hT : ∀ e : Nat, q ≤ e → e ≤ n → (K = 0 → e = q) → (K = 4 ∨ K = 5 → e = q + 1) → (K = 2 ∨ K = 3 → q < e ∧ (∀ j, q ≤ j → j < e → bk (gr σ 30 j) = K) ∧ kn (gr σ 30) n e ≠ K) → Tk (gr σ 30) n p q e K := fun e a1 a2 a3 a4 a5 => ⟨q1, q2, q3, hK.symm, q4, a1, a2, a3, a4, a5⟩
  have hqn : K ≠ 0 → q < n := fun c => by
    rcases Nat.lt_or_ge q n with d | d
    · exact d
    · exfalso
      apply c
      rw [hK]
      unfold kn
      rw [if_neg (by omega)]
  have hK0 : K = 0 → q = n := fun c => by
    rcases Nat.lt_or_ge q n with d | d
    · exfalso
      rw [hK] at c
      unfold kn at c
      rw [if_pos d] at c
      have := (bk_bd (gr σ 30 q)).1
      omega
    · omega
  have hbq : K ≠ 0 → bk (gr σ 30 q) = K := fun c => by
    rw [hK]
    unfold kn
    rw [if_pos (hqn c)]
  rw [E, E2]
  rcases (show K = 0 ∨ (K = 4 ∨ K = 5) ∨ K = 2 ∨ K = 3 by omega) with c | c | c | c
  · refine ⟨q, q, K, 0, hT q (by omega) q2 (fun _ => rfl) (fun z => by omega) (fun z => by omega), fun z => by omega, ?_⟩
    rw [show min n (q + 1) = q by have := hK0 c; omega, if_neg (by rw [c]; decide)]
    unfold f_X6_advance_101
    rw [C4_7, if_neg (by rw [c]; decide), if_neg (by rw [c]; decide)]
  · have hq := hqn (by omega)
    refine ⟨q, q + 1, K, 0, hT (q + 1) (by omega) (by omega) (fun z => by omega) (fun _ => rfl) (fun z => by omega), fun z => by omega, ?_⟩
    have n3 : ¬ nI K = (3 : Int32) := fun z => by
      have := (nI_eq (a := K) (b := 3) (by omega) (by omega)).mp z
      omega
    have n2 : ¬ nI K = (2 : Int32) := fun z => by
      have := (nI_eq (a := K) (b := 2) (by omega) (by omega)).mp z
      omega
    rw [show min n (q + 1) = q + 1 by omega, if_neg n3]
    unfold f_X6_advance_101
    rw [C4_7, if_neg n2, if_neg n3]
  · have hq := hqn (by omega)
    obtain ⟨e', v', a1, a2, a3, a4, a5, a6⟩ := c_run hn σ hl q K (Or.inl c) (n - (q + 1)) (q + 1) FU 0 (by omega) (by unfold FU; omega) (by omega) (fun j b1 b2 => by rw [show j = q by omega]; exact hbq (by omega)) (fun z => by omega)
    refine ⟨q, e', K, v', hT e' (by omega) a2 (fun z => by omega) (fun z => by omega) (fun _ => ⟨by omega, a3, a4⟩), a5, ?_⟩
    rw [show min n (q + 1) = q + 1 by omega, if_neg (by rw [c]; decide)]
    unfold f_X6_advance_101
    rw [C4_7, if_pos (by rw [c]; rfl)]
    exact a6
  · have hq := hqn (by omega)
    have hbq3 := (hbq (by omega)).trans c
    have h1 : gr σ 30 q - 48 = nI (dcv 100000 (gr σ 30) q 1) := by
      have hd : 48 ≤ (gr σ 30 q).toInt ∧ (gr σ 30 q).toInt ≤ 57 := by
        unfold bk at hbq3
        split at hbq3
        · omega
        · split at hbq3
          · omega
          · split at hbq3
            · rename_i z
              exact z
            · split at hbq3 <;> omega
      apply i32_eq
      rw [i32_sub (by have : (48 : Int32).toInt = 48 := rfl; omega)]
      show (gr σ 30 q).toInt - 48 = (nI (min 100000 (10 * 0 + ((gr σ 30 (q + 0)).toInt - 48).toNat))).toInt
      rw [nI_toInt (by omega), Nat.add_zero]
      omega
    obtain ⟨e', v', a1, a2, a3, a4, a5, a6⟩ := c_run hn σ hl q K (Or.inr c) (n - (q + 1)) (q + 1) FU (gr σ 30 q - 48) (by omega) (by unfold FU; omega) (by omega) (fun j b1 b2 => by rw [show j = q by omega]; exact hbq (by omega)) (fun _ => by rw [show q + 1 - q = 1 by omega]; exact h1)
    refine ⟨q, e', K, v', hT e' (by omega) a2 (fun z => by omega) (fun z => by omega) (fun _ => ⟨by omega, a3, a4⟩), a5, ?_⟩
    have hby := S_byteAt (σ := C4 σ (nI q) (nI K) 0 (nI (min n (q + 1)))) (p := q) (by omega)
    rw [C4_r] at hby
    rw [if_pos (by rw [c]; rfl), hby, bd_mk, bnd_mk, C4_s8, show min n (q + 1) = q + 1 by omega]
    unfold f_X6_advance_101
    rw [C4_7, if_neg (by rw [c]; decide), if_pos (by rw [c]; rfl)]
    exact a6
/-! ===== the reference's TOKENS ===== -/
def M4l (f : Nat → Int32) (a p t v : Int32) : Nat → Int32 := fun j => if j = 8 then a else if j = 9 then p else if j = 10 then t else if j = 11 then v else f j
theorem M4_id (f : Nat → Int32) : M4l f (f 8) (f 9) (f 10) (f 11) = f := by
  funext j
  unfold M4l
  split
  · rename_i q; rw [q]
  · split
    · rename_i q; rw [q]
    · split
      · rename_i q; rw [q]
      · split
        · rename_i q; rw [q]
        · rfl
theorem M4_8 (f : Nat → Int32) (a p t v x : Int32) : upd (M4l f a p t v) 8 x = M4l f x p t v := by
  funext j
  unfold upd M4l
  by_cases c : j = 8 <;> simp [c]
theorem M4_9 (f : Nat → Int32) (a p t v x : Int32) : upd (M4l f a p t v) 9 x = M4l f a x t v := by
  funext j
  unfold upd M4l
  by_cases c : j = 9
  · simp [c]
  · simp [c]
theorem M4_10 (f : Nat → Int32) (a p t v x : Int32) : upd (M4l f a p t v) 10 x = M4l f a p x v := by
  funext j
  unfold upd M4l
  by_cases c : j = 10
  · simp [c]
  · simp [c]
theorem M4_11 (f : Nat → Int32) (a p t v x : Int32) : upd (M4l f a p t v) 11 x = M4l f a p t x := by
  funext j
  unfold upd M4l
  by_cases c : j = 11
  · simp [c]
  · simp [c]
/-- the reference's state with these four: at, from, token, value -/
def D4 (τ : St) (a p t v : Int32) : St := sF τ 58 (M4l (gf τ 58) a p t v)
theorem D4_7 (τ : St) (a p t v : Int32) : gf (D4 τ a p t v) 58 7 = gf τ 58 7 := by unfold D4; rw [gf_sF, if_pos rfl]; rfl
theorem D4_8 (τ : St) (a p t v : Int32) : gf (D4 τ a p t v) 58 8 = a := by unfold D4; rw [gf_sF, if_pos rfl]; rfl
theorem D4_9 (τ : St) (a p t v : Int32) : gf (D4 τ a p t v) 58 9 = p := by unfold D4; rw [gf_sF, if_pos rfl]; rfl
theorem D4_10 (τ : St) (a p t v : Int32) : gf (D4 τ a p t v) 58 10 = t := by unfold D4; rw [gf_sF, if_pos rfl]; rfl
theorem D4_11 (τ : St) (a p t v : Int32) : gf (D4 τ a p t v) 58 11 = v := by unfold D4; rw [gf_sF, if_pos rfl]; rfl
theorem D4_s8 (τ : St) (a p t v x : Int32) : sf (D4 τ a p t v) 58 8 x = D4 τ x p t v := by unfold D4; rw [sf_sF, M4_8]
theorem D4_s9 (τ : St) (a p t v x : Int32) : sf (D4 τ a p t v) 58 9 x = D4 τ a x t v := by unfold D4; rw [sf_sF, M4_9]
theorem D4_s10 (τ : St) (a p t v x : Int32) : sf (D4 τ a p t v) 58 10 x = D4 τ a p x v := by unfold D4; rw [sf_sF, M4_10]
theorem D4_s11 (τ : St) (a p t v x : Int32) : sf (D4 τ a p t v) 58 11 x = D4 τ a p t x := by unfold D4; rw [sf_sF, M4_11]
theorem D4_r (τ : St) (a p t v : Int32) : gr (D4 τ a p t v) 62 = gr τ 62 := rfl
theorem D4_id (τ : St) : D4 τ (gf τ 58 8) (gf τ 58 9) (gf τ 58 10) (gf τ 58 11) = τ := by unfold D4; rw [M4_id, sF_id]
theorem D4_fr (τ : St) (a p t v : Int32) : Fr [58] τ (D4 τ a p t v) := Fr.cF (by simp)
theorem and255 {x : Int32} (h : by8 x) : (x &&& 255).toInt = if 0 ≤ x.toInt then x.toInt else x.toInt + 256 := by
  have d : ∀ k : Fin 256, (Int32.ofInt ((k.val : Int) - 128) &&& 255).toInt = if 0 ≤ ((k.val : Int) - 128) then ((k.val : Int) - 128) else ((k.val : Int) - 128) + 256 := by decide +kernel
  have hx : x = Int32.ofInt x.toInt := (Int32.ofInt_toInt x).symm
  have := d ⟨(x.toInt + 128).toNat, by have := h.1; have := h.2; omega⟩
  have e : (((x.toInt + 128).toNat : Nat) : Int) - 128 = x.toInt := by have := h.1; omega
  simp only [e] at this
  rw [← hx] at this
  exact this
/-- what is seen at a place -/
def sn (b : Nat → Int32) (n p : Nat) : Int32 := if p < n then b p &&& 255 else -1
theorem S_see {τ : St} {n p : Nat} (hn : n ≤ 1200) (hp : p ≤ 1200) (h : gf τ 58 7 = nI n) : f_X12_see (nI p) τ = some (sn (gr τ 62) n p, τ) := by
  unfold f_X12_see f_X12_see_22 sn
  rw [h]
  by_cases c : p < n
  · rw [if_neg (nI_ge c (by omega)), if_pos c, show ln 62 = 1200 from rfl, inb_nI (by omega) (by decide), gd_tt, nI_clamp (by omega)]
  · rw [if_pos (nI_le (by omega) (by omega)), if_neg c]
theorem bk_iff {x : Int32} : (bk x = 1 ↔ (x.toInt = 32 ∨ x.toInt = 10)) ∧ (bk x = 2 ↔ 97 ≤ x.toInt ∧ x.toInt ≤ 122) ∧ (bk x = 3 ↔ 48 ≤ x.toInt ∧ x.toInt ≤ 57) ∧ (bk x = 4 ↔ x.toInt = 59) := by
  have e : ∀ c : Int32, x = c ↔ x.toInt = c.toInt := fun c => ⟨fun q => by rw [q], fun q => i32_eq q⟩
  have e32 : x = 32 ↔ x.toInt = 32 := e 32
  have e10 : x = 10 ↔ x.toInt = 10 := e 10
  have e59 : x = 59 ↔ x.toInt = 59 := e 59
  unfold bk
  by_cases c1 : x = 32 ∨ x = 10
  · rw [if_pos c1]
    have : x.toInt = 32 ∨ x.toInt = 10 := c1.imp e32.mp e10.mp
    omega
  · rw [if_neg c1]
    have h1 : ¬ (x.toInt = 32 ∨ x.toInt = 10) := fun q => c1 (q.imp e32.mpr e10.mpr)
    by_cases c2 : 97 ≤ x.toInt ∧ x.toInt ≤ 122
    · rw [if_pos c2]
      omega
    · rw [if_neg c2]
      by_cases c3 : 48 ≤ x.toInt ∧ x.toInt ≤ 57
      · rw [if_pos c3]
        omega
      · rw [if_neg c3]
        by_cases c4 : x = 59
        · rw [if_pos c4]
          have := e59.mp c4
          omega
        · rw [if_neg c4]
          have h4 : ¬ x.toInt = 59 := fun q => c4 (e59.mpr q)
          omega
/-- what is seen tells the kind -/
theorem sn_kn {b : Nat → Int32} {n p : Nat} (hb : ∀ j, j < n → by8 (b j)) : (kn b n p = 0 ↔ (sn b n p).toInt = -1) ∧ (kn b n p = 1 ↔ ((sn b n p).toInt = 32 ∨ (sn b n p).toInt = 10)) ∧ (kn b n p = 2 ↔ 97 ≤ (sn b n p).toInt ∧ (sn b n p).toInt ≤ 122) ∧ (kn b n p = 3 ↔ 48 ≤ (sn b n p).toInt ∧ (sn b n p).toInt ≤ 57) ∧ (kn b n p = 4 ↔ (sn b n p).toInt = 59) := by
  unfold kn sn
  by_cases c : p < n
  · rw [if_pos c, if_pos c]
    have h8 := hb p c
    have h := and255 h8
    obtain ⟨k1, k2, k3, k4⟩ := bk_iff (x := b p)
    have k0 := bk_bd (b p)
    have l1 := h8.1
    rw [h]
    split <;> omega
  · rw [if_neg c, if_neg c]
    have : (-1 : Int32).toInt = -1 := rfl
    omega
theorem sn_dig {b : Nat → Int32} {n p : Nat} (hb : ∀ j, j < n → by8 (b j)) (h : kn b n p = 3) : (sn b n p).toInt = (b p).toInt := by
  have hs := (sn_kn (p := p) hb).2.2.2.1.mp h
  unfold sn at hs ⊢
  unfold kn at h
  by_cases c : p < n
  · rw [if_pos c] at hs ⊢
    have h8 := hb p c
    rw [and255 h8] at hs ⊢
    have l1 := h8.1
    split at hs
    · rename_i z
      rw [if_pos z]
    · omega
  · rw [if_neg c] at h
    omega
theorem cap_m {x : Nat} {b r : Int32} (hx : x ≤ 99999) (hr : r.toInt = b.toInt) (hb : 48 ≤ b.toInt ∧ b.toInt ≤ 57) : (if (10 : Int32) * nI x + r - 48 < (99999 : Int32) then (10 : Int32) * nI x + r - 48 else (99999 : Int32)) = nI (min 99999 (10 * x + (b.toInt - 48).toNat)) := by
  have z48 : (48 : Int32).toInt = 48 := rfl
  have z1 : (99999 : Int32).toInt = 99999 := rfl
  have e1 : ((10 : Int32) * nI x).toInt = 10 * x := by
    rw [show (10 : Int32) = nI 10 from rfl, nI_mul, nI_toInt (by omega)]
    omega
  have e2 : ((10 : Int32) * nI x + r).toInt = 10 * x + b.toInt := by rw [i32_add (by omega), e1, hr]
  have e3 : ((10 : Int32) * nI x + r - 48).toInt = 10 * x + b.toInt - 48 := by rw [i32_sub (by omega), e2, z48]
  apply i32_eq
  rw [nI_toInt (by omega)]
  by_cases c : (10 : Int32) * nI x + r - 48 < (99999 : Int32)
  · rw [if_pos c, e3]
    rw [lt_toInt, e3, z1] at c
    omega
  · rw [if_neg c, z1]
    rw [lt_toInt, e3, z1] at c
    omega
/-- the reference's name of a kind -/
def tkK (K : Nat) : Nat := if K = 0 then 0 else K - 1
theorem i32_lit {x c : Int32} {z : Int} (hc : c.toInt = z) : x = c ↔ x.toInt = z := ⟨fun q => by rw [q, hc], fun q => i32_eq (q.trans hc.symm)⟩
theorem m_word {n : Nat} (hn : n ≤ 1200) (τ : St) (hl : gf τ 58 7 = nI n) (hb : ∀ j, j < n → by8 (gr τ 62 j)) (q : Nat) (t v : Int32) : ∀ (c e Q : Nat), e + c = n → c < Q → q ≤ e → (∀ j, q ≤ j → j < e → bk (gr τ 62 j) = 2) →
    ∃ e', e ≤ e' ∧ e' ≤ n ∧ (∀ j, q ≤ j → j < e' → bk (gr τ 62 j) = 2) ∧ kn (gr τ 62) n e' ≠ 2 ∧ itr g_X12_advance_83 Q (D4 τ (nI e) (nI q) t v) = some ((), D4 τ (nI e') (nI q) 1 v) := by
  intro c
  induction c with
  | zero =>
    intro e Q h hQ hq hr
    obtain ⟨Q, rfl⟩ : ∃ r, Q = r + 1 := ⟨Q - 1, by omega⟩
    have hs := S_see (τ := D4 τ (nI e) (nI q) t v) (n := n) (p := e) hn (by omega) (by rw [D4_7]; exact hl)
    rw [D4_r] at hs
    have hk : kn (gr τ 62) n e ≠ 2 := by unfold kn; rw [if_neg (by omega)]; decide
    refine ⟨e, by omega, by omega, hr, hk, ?_⟩
    rw [itr_succ]
    generalize itr g_X12_advance_83 Q = R
    unfold g_X12_advance_83 f_X12_advance_239
    dsimp only
    rw [D4_8, hs, bd_mk, S_in, bd_mk, b2_f (by rw [Int32.toInt_toInt64]; exact fun z => hk ((sn_kn hb).2.2.1.mpr z)), if_pos rfl, bnd_mk, D4_s10]
  | succ c ih =>
    intro e Q h hQ hq hr
    obtain ⟨Q, rfl⟩ : ∃ r, Q = r + 1 := ⟨Q - 1, by omega⟩
    have hs := S_see (τ := D4 τ (nI e) (nI q) t v) (n := n) (p := e) hn (by omega) (by rw [D4_7]; exact hl)
    rw [D4_r] at hs
    by_cases hk : kn (gr τ 62) n e = 2
    · have hbe : bk (gr τ 62 e) = 2 := by
        unfold kn at hk
        rw [if_pos (by omega)] at hk
        exact hk
      obtain ⟨e', a1, a2, a3, a4, a5⟩ := ih (e + 1) Q (by omega) (by omega) (by omega) (fun j b1 b2 => by
        by_cases ej : j = e
        · rw [ej]; exact hbe
        · exact hr j b1 (by omega))
      refine ⟨e', by omega, a2, a3, a4, ?_⟩
      rw [itr_succ]
      generalize hR : itr g_X12_advance_83 Q = R at a5
      unfold g_X12_advance_83
      dsimp only
      rw [D4_8, hs, bd_mk, S_in, bd_mk, b2_t (by rw [Int32.toInt_toInt64]; exact (sn_kn hb).2.2.1.mp hk), if_neg n10, bnd_mk, D4_8, nI_1, D4_s8]
      exact a5
    · refine ⟨e, by omega, by omega, hr, hk, ?_⟩
      rw [itr_succ]
      generalize itr g_X12_advance_83 Q = R
      unfold g_X12_advance_83 f_X12_advance_239
      dsimp only
      rw [D4_8, hs, bd_mk, S_in, bd_mk, b2_f (by rw [Int32.toInt_toInt64]; exact fun z => hk ((sn_kn hb).2.2.1.mpr z)), if_pos rfl, bnd_mk, D4_s10]
theorem m_num {n : Nat} (hn : n ≤ 1200) (τ : St) (hl : gf τ 58 7 = nI n) (hb : ∀ j, j < n → by8 (gr τ 62 j)) (q : Nat) (t : Int32) : ∀ (c e Q : Nat), e + c = n → c < Q → q ≤ e → (∀ j, q ≤ j → j < e → bk (gr τ 62 j) = 3) →
    ∃ e', e ≤ e' ∧ e' ≤ n ∧ (∀ j, q ≤ j → j < e' → bk (gr τ 62 j) = 3) ∧ kn (gr τ 62) n e' ≠ 3 ∧ itr g_X12_advance_144 Q (D4 τ (nI e) (nI q) t (nI (dcv 99999 (gr τ 62) q (e - q)))) = some ((), D4 τ (nI e') (nI q) 2 (nI (dcv 99999 (gr τ 62) q (e' - q)))) := by
  intro c
  induction c with
  | zero =>
    intro e Q h hQ hq hr
    obtain ⟨Q, rfl⟩ : ∃ r, Q = r + 1 := ⟨Q - 1, by omega⟩
    have hs := S_see (τ := D4 τ (nI e) (nI q) t (nI (dcv 99999 (gr τ 62) q (e - q)))) (n := n) (p := e) hn (by omega) (by rw [D4_7]; exact hl)
    rw [D4_r] at hs
    have hk : kn (gr τ 62) n e ≠ 3 := by unfold kn; rw [if_neg (by omega)]; decide
    refine ⟨e, by omega, by omega, hr, hk, ?_⟩
    rw [itr_succ]
    generalize itr g_X12_advance_144 Q = R
    unfold g_X12_advance_144 f_X12_advance_239
    dsimp only
    rw [D4_8, hs, bd_mk, S_in, bd_mk, b2_f (by rw [Int32.toInt_toInt64]; exact fun z => hk ((sn_kn hb).2.2.2.1.mpr z)), if_pos rfl, bnd_mk, D4_s10]
  | succ c ih =>
    intro e Q h hQ hq hr
    obtain ⟨Q, rfl⟩ : ∃ r, Q = r + 1 := ⟨Q - 1, by omega⟩
    have hs := S_see (τ := D4 τ (nI e) (nI q) t (nI (dcv 99999 (gr τ 62) q (e - q)))) (n := n) (p := e) hn (by omega) (by rw [D4_7]; exact hl)
    rw [D4_r] at hs
    by_cases hk : kn (gr τ 62) n e = 3
    · have hbe : bk (gr τ 62 e) = 3 := by
        unfold kn at hk
        rw [if_pos (by omega)] at hk
        exact hk
      have hd := (bk_iff (x := gr τ 62 e)).2.2.1.mp hbe
      have hc := cap_m (x := dcv 99999 (gr τ 62) q (e - q)) (b := gr τ 62 e) (r := sn (gr τ 62) n e) (dcv_le _ _ _ _) (sn_dig hb hk) hd
      have hs2 : dcv 99999 (gr τ 62) q (e + 1 - q) = min 99999 (10 * dcv 99999 (gr τ 62) q (e - q) + ((gr τ 62 e).toInt - 48).toNat) := by
        rw [show e + 1 - q = (e - q) + 1 by omega]
        show min 99999 (10 * dcv 99999 (gr τ 62) q (e - q) + ((gr τ 62 (q + (e - q))).toInt - 48).toNat) = _
        rw [show q + (e - q) = e by omega]
      obtain ⟨e', a1, a2, a3, a4, a5⟩ := ih (e + 1) Q (by omega) (by omega) (by omega) (fun j b1 b2 => by
        by_cases ej : j = e
        · rw [ej]; exact hbe
        · exact hr j b1 (by omega))
      refine ⟨e', by omega, a2, a3, a4, ?_⟩
      rw [itr_succ]
      generalize hR : itr g_X12_advance_144 Q = R at a5
      unfold g_X12_advance_144
      dsimp only
      rw [D4_8, hs, bd_mk, S_in, bd_mk, b2_t (by rw [Int32.toInt_toInt64]; exact (sn_kn hb).2.2.2.1.mp hk), if_neg n10, D4_8, hs, bd_mk, bnd_mk, D4_11, hc, D4_s11, bnd_mk, D4_8, nI_1, D4_s8, ← hs2]
      exact a5
    · refine ⟨e, by omega, by omega, hr, hk, ?_⟩
      rw [itr_succ]
      generalize itr g_X12_advance_144 Q = R
      unfold g_X12_advance_144 f_X12_advance_239
      dsimp only
      rw [D4_8, hs, bd_mk, S_in, bd_mk, b2_f (by rw [Int32.toInt_toInt64]; exact fun z => hk ((sn_kn hb).2.2.2.1.mpr z)), if_pos rfl, bnd_mk, D4_s10]
/-- advance, from a place that is no blank -/
theorem m_tok {n : Nat} (hn : n ≤ 1200) (τ : St) (hl : gf τ 58 7 = nI n) (hb : ∀ j, j < n → by8 (gr τ 62 j)) (f t v : Int32) (q : Nat) (hq : q ≤ n) (h1 : kn (gr τ 62) n q ≠ 1) (R : St → Option (Unit × St)) :
    ∃ e K w, kn (gr τ 62) n q = K ∧ q ≤ e ∧ e ≤ n ∧ (K = 0 → e = q) ∧ (K = 4 ∨ K = 5 → e = q + 1) ∧ (K = 2 ∨ K = 3 → q < e ∧ (∀ j, q ≤ j → j < e → bk (gr τ 62 j) = K) ∧ kn (gr τ 62) n e ≠ K) ∧ (K = 3 → w = nI (dcv 99999 (gr τ 62) q (e - q))) ∧ g_X12_advance_0 R (D4 τ (nI q) f t v) = some ((), D4 τ (nI e) (nI q) (nI (tkK K)) w) := by
  have hs := fun (f t v : Int32) => S_see (τ := D4 τ (nI q) f t v) (n := n) (p := q) hn (by omega) (by rw [D4_7]; exact hl)
  simp only [D4_r] at hs
  obtain ⟨s0, s1, s2, s3, s4⟩ := sn_kn (p := q) hb
  have hK5 := kn_bd (gr τ 62) n q
  have a32 : ¬ sn (gr τ 62) n q = 32 := fun z => h1 (s1.mpr (Or.inl ((i32_lit (c := 32) (z := 32) rfl).mp z)))
  have a10 : ¬ sn (gr τ 62) n q = 10 := fun z => h1 (s1.mpr (Or.inr ((i32_lit (c := 10) (z := 10) rfl).mp z)))
  have E : g_X12_advance_0 R (D4 τ (nI q) f t v) = (if sn (gr τ 62) n q = -1 then some ((), D4 τ (nI q) (nI q) 0 v) else if b2 (97 ≤ (sn (gr τ 62) n q).toInt ∧ (sn (gr τ 62) n q).toInt ≤ 122) = 0 then (if b2 (48 ≤ (sn (gr τ 62) n q).toInt ∧ (sn (gr τ 62) n q).toInt ≤ 57) = 0 then (if sn (gr τ 62) n q = 59 then f_X12_advance_226 3 (D4 τ (nI q) (nI q) t v) else f_X12_advance_226 4 (D4 τ (nI q) (nI q) t v)) else itr g_X12_advance_144 FU (D4 τ (nI q) (nI q) t 0)) else itr g_X12_advance_83 FU (D4 τ (nI q) (nI q) t v)) := by
    unfold g_X12_advance_0 f_X12_advance_239
    dsimp only
    rw [D4_8, hs, bd_mk, if_neg a32, D4_8, hs, bd_mk, if_neg a10, bnd_mk, D4_8, D4_s9, D4_8, hs, bd_mk]
    simp only [S_in, bd_mk, bnd_mk, D4_s10, D4_s11, Int32.toInt_toInt64]
    rfl
  have hqn : kn (gr τ 62) n q ≠ 0 → q < n := fun c => by
    rcases Nat.lt_or_ge q n with d | d
    · exact d
    · exfalso
      apply c
      unfold kn
      rw [if_neg (by omega)]
  have hbq : kn (gr τ 62) n q ≠ 0 → bk (gr τ 62 q) = kn (gr τ 62) n q := fun c => by
    unfold kn
    rw [if_pos (hqn c)]
  have m1 : sn (gr τ 62) n q = -1 ↔ (sn (gr τ 62) n q).toInt = -1 := i32_lit rfl
  have m59 : sn (gr τ 62) n q = 59 ↔ (sn (gr τ 62) n q).toInt = 59 := i32_lit rfl
  rw [E]
  generalize hK : kn (gr τ 62) n q = K at *
  rcases (show K = 0 ∨ (K = 4 ∨ K = 5) ∨ K = 2 ∨ K = 3 by omega) with c | c | c | c
  · refine ⟨q, K, v, rfl, by omega, hq, fun _ => rfl, fun z => by omega, fun z => by omega, fun z => by omega, ?_⟩
    rw [if_pos (m1.mpr (s0.mp c)), c]
    rfl
  · have hq' := hqn (by omega)
    refine ⟨q + 1, K, v, rfl, by omega, by omega, fun z => by omega, fun _ => rfl, fun z => by omega, fun z => by omega, ?_⟩
    rw [if_neg (fun z => by have := s0.mpr (m1.mp z); omega), b2_f (fun z => by have := s2.mpr z; omega), if_pos rfl, b2_f (fun z => by have := s3.mpr z; omega), if_pos rfl]
    unfold f_X12_advance_226 f_X12_advance_239
    simp only [bnd_mk, D4_s10, D4_8, nI_1, D4_s8]
    rcases c with c | c
    · rw [if_pos (m59.mpr (s4.mp c)), c]
      rfl
    · rw [if_neg (fun z => by have := s4.mpr (m59.mp z); omega), c]
      rfl
  · have hq' := hqn (by omega)
    obtain ⟨e', a1, a2, a3, a4, a5⟩ := m_word hn τ hl hb q t v (n - q) q FU (by omega) (by unfold FU; omega) (by omega) (fun j b1 b2 => by omega)
    have hlt : q < e' := by
      rcases Nat.lt_or_ge q e' with d | d
      · exact d
      · exfalso
        have : e' = q := by omega
        rw [this] at a4
        exact a4 (hK.trans c)
    refine ⟨e', K, v, rfl, by omega, a2, fun z => by omega, fun z => by omega, fun _ => ⟨hlt, by rw [c]; exact a3, by rw [c]; exact a4⟩, fun z => by omega, ?_⟩
    rw [if_neg (fun z => by have := s0.mpr (m1.mp z); omega), b2_t (s2.mp c), if_neg n10, a5, c]
    rfl
  · have hq' := hqn (by omega)
    obtain ⟨e', a1, a2, a3, a4, a5⟩ := m_num hn τ hl hb q t (n - q) q FU (by omega) (by unfold FU; omega) (by omega) (fun j b1 b2 => by omega)
    have hlt : q < e' := by
      rcases Nat.lt_or_ge q e' with d | d
      · exact d
      · exfalso
        have : e' = q := by omega
        rw [this] at a4
        exact a4 (hK.trans c)
    refine ⟨e', K, _, rfl, by omega, a2, fun z => by omega, fun z => by omega, fun _ => ⟨hlt, by rw [c]; exact a3, by rw [c]; exact a4⟩, fun _ => rfl, ?_⟩
    rw [show q - q = 0 by omega] at a5
    rw [if_neg (fun z => by have := s0.mpr (m1.mp z); omega), b2_f (fun z => by have := s2.mpr z; omega), if_pos rfl, b2_t (s3.mp c), if_neg n10, c]
    exact a5
theorem m_skip {n : Nat} (hn : n ≤ 1200) (τ : St) (hl : gf τ 58 7 = nI n) (hb : ∀ j, j < n → by8 (gr τ 62 j)) (f t v : Int32) : ∀ (c p Q : Nat), p + c = n → c < Q →
    ∃ q e K w, Tk (gr τ 62) n p q e K ∧ (K = 3 → w = nI (dcv 99999 (gr τ 62) q (e - q))) ∧ itr g_X12_advance_0 Q (D4 τ (nI p) f t v) = some ((), D4 τ (nI e) (nI q) (nI (tkK K)) w) := by
  intro c
  induction c with
  | zero =>
    intro p Q h hQ
    obtain ⟨Q, rfl⟩ : ∃ r, Q = r + 1 := ⟨Q - 1, by omega⟩
    have hk : kn (gr τ 62) n p ≠ 1 := by unfold kn; rw [if_neg (by omega)]; decide
    obtain ⟨e, K, w, a1, a2, a3, a4, a5, a6, a7, a8⟩ := m_tok hn τ hl hb f t v p (by omega) hk (itr g_X12_advance_0 Q)
    exact ⟨p, e, K, w, ⟨by omega, by omega, fun j b1 b2 => by omega, a1, by rw [← a1]; exact hk, a2, a3, a4, a5, a6⟩, a7, a8⟩
  | succ c ih =>
    intro p Q h hQ
    obtain ⟨Q, rfl⟩ : ∃ r, Q = r + 1 := ⟨Q - 1, by omega⟩
    by_cases hk : kn (gr τ 62) n p = 1
    · obtain ⟨q, e, K, w, ⟨b1, b2', b3, b4⟩, a7, a8⟩ := ih (p + 1) Q (by omega) (by omega)
      have hbp : bk (gr τ 62 p) = 1 := by
        unfold kn at hk
        rw [if_pos (by omega)] at hk
        exact hk
      refine ⟨q, e, K, w, ⟨by omega, b2', fun j c1 c2 => ?_, b4⟩, a7, ?_⟩
      · by_cases ej : j = p
        · rw [ej]; exact hbp
        · exact b3 j (by omega) c2
      · have hs := fun (f t v : Int32) => S_see (τ := D4 τ (nI p) f t v) (n := n) (p := p) hn (by omega) (by rw [D4_7]; exact hl)
        simp only [D4_r] at hs
        obtain ⟨s0, s1, s2, s3, s4⟩ := sn_kn (p := p) hb
        rw [itr_succ]
        generalize hR : itr g_X12_advance_0 Q = R at a8
        unfold g_X12_advance_0 f_X12_advance_26
        dsimp only
        rw [D4_8, hs, bd_mk]
        rcases s1.mp hk with d | d
        · rw [if_pos ((i32_lit (c := 32) (z := 32) rfl).mpr d), bnd_mk, D4_8, nI_1, D4_s8]
          exact a8
        · rw [if_neg (fun z => by have := (i32_lit (c := 32) (z := 32) rfl).mp z; omega), D4_8, hs, bd_mk, if_pos ((i32_lit (c := 10) (z := 10) rfl).mpr d), bnd_mk, D4_8, nI_1, D4_s8]
          exact a8
    · obtain ⟨e, K, w, a1, a2, a3, a4, a5, a6, a7, a8⟩ := m_tok hn τ hl hb f t v p (by omega) hk (itr g_X12_advance_0 Q)
      exact ⟨p, e, K, w, ⟨by omega, by omega, fun j b1 b2 => by omega, a1, by rw [← a1]; exact hk, a2, a3, a4, a5, a6⟩, a7, a8⟩
theorem S_advM {τ : St} {n p : Nat} (hn : n ≤ 1200) (hl : gf τ 58 7 = nI n) (hb : ∀ j, j < n → by8 (gr τ 62 j)) (hp : gf τ 58 8 = nI p) (hpn : p ≤ n) : ∃ q e K w, Tk (gr τ 62) n p q e K ∧ (K = 3 → w = nI (dcv 99999 (gr τ 62) q (e - q))) ∧ f_X12_advance τ = some ((), D4 τ (nI e) (nI q) (nI (tkK K)) w) := by
  obtain ⟨q, e, K, w, h1, h2, h3⟩ := m_skip hn τ hl hb (gf τ 58 9) (gf τ 58 10) (gf τ 58 11) (n - p) p FU (by omega) (by unfold FU; omega)
  refine ⟨q, e, K, w, h1, h2, ?_⟩
  unfold f_X12_advance
  rw [← hp, D4_id] at h3
  exact h3
/-! ===== words ===== -/
theorem sl_sh : ∀ z, z < 21 → nI (sL z) >>> ((0 : Int32) &&& 31) = nI (sL z) := by decide +kernel
theorem sb_ch : ∀ z, z < 21 → ∀ i, i < sL z → (((sB z i) &&& (255 : Int32)).toUInt32 % 65536).toInt32 = sB z i ∧ nch (sB z i) = true := by decide +kernel
theorem sl_bd : ∀ z, z < 21 → sL z ≤ 7 ∧ 1 ≤ sL z := by decide +kernel
theorem isS_t {σ : St} {z : Nat} (h : z < 21) : isS σ z = true := by
  unfold isS
  exact decide_eq_true h
theorem S_len {σ : St} {z : Nat} (h : z < 21) : f_J0_length_8abf5 z σ = some (nI (sL z), σ) := by
  unfold f_J0_length_8abf5 f_J0_coder_7d493 f_J0_coder_7d493_14
  rw [isS_t h, gd_tt, gd_tt, if_neg n10, show nby (0 : Int32) = true from rfl, gd_tt, bd_mk, sl_sh z h]
theorem S_chr {σ : St} {z i : Nat} (h : z < 21) (hi : i < sL z) : f_J0_charAt_5068e z (nI i) σ = some (sB z i, σ) := by
  have hb := sl_bd z h
  unfold f_J0_charAt_5068e f_J0_isLatin1_aae02 f_J0_isLatin1_aae02_18 f_J1_charAt_3b067 f_J0_checkIndex_df160 f_J3_checkIndex_8e157
  rw [isS_t h, gd_tt, gd_tt, if_neg n10, if_pos rfl, bz_1, gd_tt, bd_mk, if_neg n10, isS_t h, gd_tt, gd_tt, if_neg (nI_pos (by omega)), if_pos (nI_lt hi (by omega)), bd_mk, bd_mk, isS_t h, gd_tt, inb_nI hi (by omega), gd_tt, nI_clamp (by omega), (sb_ch z h i hi).1, (sb_ch z h i hi).2, gd_tt, bd_mk, (sb_ch z h i hi).2, gd_tt]
/-- a TOKEN is the word z -/
abbrev IW (b : Nat → Int32) (q e K z : Nat) : Prop := K = 2 ∧ e = q + sL z ∧ ∀ i, i < sL z → b (q + i) = sB z i
theorem sees_loop {σ : St} {z q : Nat} (hz : z < 21) (hq : q + sL z ≤ 1200) (h5 : gf σ 29 5 = nI q) : ∀ (c i Q : Nat), i + c = sL z → c < Q → (∀ j, j < i → gr σ 30 (q + j) = sB z j) → itr (g_X6_sees_28 z) Q (nI i, σ) = some (b2 (∀ j, j < sL z → gr σ 30 (q + j) = sB z j), σ) := by
  have hb := sl_bd z hz
  intro c
  induction c with
  | zero =>
    intro i Q h hQ hm
    obtain ⟨Q, rfl⟩ : ∃ r, Q = r + 1 := ⟨Q - 1, by omega⟩
    rw [itr_succ]
    generalize itr (g_X6_sees_28 z) Q = R
    unfold g_X6_sees_28
    dsimp only
    rw [S_len hz, bd_mk, if_pos (nI_le (by omega) (by omega)), bz_1, gd_tt, b2_t (fun j hj => hm j (by omega))]
  | succ c ih =>
    intro i Q h hQ hm
    obtain ⟨Q, rfl⟩ : ∃ r, Q = r + 1 := ⟨Q - 1, by omega⟩
    rw [itr_succ]
    generalize hR : itr (g_X6_sees_28 z) Q = R
    unfold g_X6_sees_28
    dsimp only
    rw [S_len hz, bd_mk, if_neg (nI_ge (by omega) (by omega)), h5, nI_add, S_byteAt (by omega), bd_mk, S_chr hz (by omega), bd_mk]
    by_cases g : gr σ 30 (q + i) = sB z i
    · rw [if_pos g, bnd_mk, nI_1, ← hR]
      exact ih (i + 1) Q (by omega) (by omega) (fun j hj => by
        by_cases ej : j = i
        · rw [ej]; exact g
        · exact hm j (by omega))
    · rw [if_neg g, bz_0, gd_tt, b2_f (fun w => g (w i (by omega)))]
theorem S_sees {σ : St} {z q e K n : Nat} (hz : z < 21) (hn : n ≤ 1200) (he : q ≤ e ∧ e ≤ n) (hK : K ≤ 5) (h5 : gf σ 29 5 = nI q) (h6 : gf σ 29 6 = nI e) (h7 : gf σ 29 7 = nI K) : f_X6_sees z σ = some (b2 (IW (gr σ 30) q e K z), σ) := by
  have hb := sl_bd z hz
  unfold f_X6_sees f_X6_sees_24
  rw [isS_t hz, gd_tt, h7, h6, h5, bz_0, gd_tt]
  by_cases k2 : K = 2
  · rw [if_pos (by rw [k2]; rfl), S_len hz, bd_mk]
    have es : nI e - nI q = nI (e - q) := by
      apply i32_eq
      rw [i32_sub, nI_toInt (by omega), nI_toInt (by omega), nI_toInt (by omega)]
      · omega
      · rw [nI_toInt (by omega), nI_toInt (by omega)]
        omega
    rw [es]
    by_cases el : e = q + sL z
    · rw [if_pos (by rw [el, Nat.add_sub_cancel_left]), show (0 : Int32) = nI 0 from rfl, sees_loop hz (by omega) h5 (sL z) 0 FU (by omega) (by unfold FU; omega) (fun j hj => absurd hj (by omega))]
      by_cases w : ∀ j, j < sL z → gr σ 30 (q + j) = sB z j
      · rw [b2_t w, b2_t ⟨k2, el, w⟩]
      · rw [b2_f w, b2_f (fun g => w g.2.2)]
    · have : ¬ nI (e - q) = nI (sL z) := fun g => el (by
        have := (nI_eq (by omega) (by omega)).mp g
        omega)
      rw [if_neg this, b2_f (fun g => el g.2.1), gd_tt]
  · have : ¬ nI K = (2 : Int32) := fun g => k2 ((nI_eq (a := K) (b := 2) (by omega) (by omega)).mp g)
    rw [if_neg this, b2_f (fun g => k2 g.1)]
theorem is_loop {τ : St} {z q : Nat} (hz : z < 21) (hq : q + sL z ≤ 1200) (h9 : gf τ 58 9 = nI q) : ∀ (c i Q : Nat), i + c = sL z → c < Q → (∀ j, j < i → gr τ 62 (q + j) = sB z j) → itr (g_X12_is_39 z) (Q + 1) (1, nI i, τ) = some (b2 (∀ j, j < sL z → gr τ 62 (q + j) = sB z j), τ) := by
  have hb := sl_bd z hz
  intro c
  induction c with
  | zero =>
    intro i Q h hQ hm
    rw [itr_succ]
    generalize itr (g_X12_is_39 z) Q = R
    unfold g_X12_is_39 f_X12_is_82
    dsimp only
    rw [S_len hz, bd_mk, if_pos (nI_le (by omega) (by omega)), bz_1, gd_tt, b2_t (fun j hj => hm j (by omega))]
  | succ c ih =>
    intro i Q h hQ hm
    obtain ⟨Q, rfl⟩ : ∃ r, Q = r + 1 := ⟨Q - 1, by omega⟩
    rw [itr_succ]
    generalize hR : itr (g_X12_is_39 z) (Q + 1) = R
    unfold g_X12_is_39 f_X12_is_75
    dsimp only
    rw [S_len hz, bd_mk, if_neg (nI_ge (by omega) (by omega)), if_neg n10, h9, nI_add, show ln 62 = 1200 from rfl, inb_nI (by omega) (by decide), gd_tt, S_chr hz (by omega), bd_mk, bnd_mk, bnd_mk, nI_1, nI_clamp (by omega)]
    by_cases g : gr τ 62 (q + i) = sB z i
    · rw [if_pos g, ← hR]
      exact ih (i + 1) Q (by omega) (by omega) (fun j hj => by
        by_cases ej : j = i
        · rw [ej]; exact g
        · exact hm j (by omega))
    · rw [if_neg g, ← hR, itr_succ]
      unfold g_X12_is_39 f_X12_is_82
      dsimp only
      rw [S_len hz, bd_mk, bz_0, gd_tt, b2_f (fun w => g (w i (by omega)))]
      split
      · rfl
      · rfl
theorem S_good (τ : St) : f_X12_good τ = some (b2 (gf τ 58 12 = 0), τ) := by
  unfold f_X12_good f_X12_good_12
  by_cases c : gf τ 58 12 = 0
  · rw [if_pos c, b2_t c]
    rfl
  · rw [if_neg c, b2_f c]
    rfl
theorem is_no {τ : St} {z : Nat} (hz : z < 21) : f_X12_is_35 z τ = some (0, τ) := by
  have hb := sl_bd z hz
  unfold f_X12_is_35 f_X12_is_36
  rw [show FU = 4999 + 1 from rfl, itr_succ]
  generalize itr (g_X12_is_39 z) 4999 = R
  unfold g_X12_is_39 f_X12_is_82
  dsimp only
  rw [S_len hz, bd_mk, bz_0, gd_tt]
  split
  · rfl
  · rfl
theorem S_is {τ : St} {z q e K n : Nat} (hz : z < 21) (hn : n ≤ 1200) (he : q ≤ e ∧ e ≤ n) (hK : K ≤ 5) (hg : gf τ 58 12 = 0) (h9 : gf τ 58 9 = nI q) (h8 : gf τ 58 8 = nI e) (h10 : gf τ 58 10 = nI (tkK K)) : f_X12_is z τ = some (b2 (IW (gr τ 62) q e K z), τ) := by
  have hb := sl_bd z hz
  have ht : tkK K ≤ 5 := by
    unfold tkK
    split <;> omega
  unfold f_X12_is
  rw [isS_t hz, gd_tt, S_good, bd_mk, b2_t hg, if_neg n10, h10, h9, h8]
  by_cases k2 : K = 2
  · rw [if_pos (by rw [k2]; rfl), S_len hz, bd_mk]
    have es : nI e - nI q = nI (e - q) := by
      apply i32_eq
      rw [i32_sub, nI_toInt (by omega), nI_toInt (by omega), nI_toInt (by omega)]
      · omega
      · rw [nI_toInt (by omega), nI_toInt (by omega)]
        omega
    rw [es]
    by_cases el : e = q + sL z
    · rw [if_pos (by rw [el, Nat.add_sub_cancel_left])]
      unfold f_X12_is_36
      rw [show (0 : Int32) = nI 0 from rfl, show FU = 4999 + 1 from rfl, is_loop hz (by omega) h9 (sL z) 0 4999 (by omega) (by omega) (fun j hj => absurd hj (by omega))]
      by_cases w : ∀ j, j < sL z → gr τ 62 (q + j) = sB z j
      · rw [b2_t w, b2_t ⟨k2, el, w⟩]
      · rw [b2_f w, b2_f (fun g => w g.2.2)]
    · have : ¬ nI (e - q) = nI (sL z) := fun g => el (by
        have := (nI_eq (by omega) (by omega)).mp g
        omega)
      rw [if_neg this, is_no hz, b2_f (fun g => el g.2.1)]
  · have : ¬ nI (tkK K) = (1 : Int32) := fun g => by
      have := (nI_eq (a := tkK K) (b := 1) (by omega) (by omega)).mp g
      unfold tkK at this
      split at this <;> omega
    rw [if_neg this, is_no hz, b2_f (fun g => k2 g.1)]
theorem S_isF {τ : St} {z : Nat} (hz : z < 21) (hg : ¬ gf τ 58 12 = 0) : f_X12_is z τ = some (0, τ) := by
  unfold f_X12_is
  rw [isS_t hz, gd_tt, S_good, bd_mk, b2_f hg, if_pos rfl, is_no hz]
/-! ===== both readers side by side: σ has the class's, τ the reference's ===== -/
def ok (σ : St) : Prop := gf σ 29 2 = 0
def LX (σ : St) (n : Nat) : Prop := n ≤ 1200 ∧ gf σ 29 1 = nI n ∧ ∃ q e K : Nat, q ≤ e ∧ e ≤ n ∧ K ≤ 5 ∧ gf σ 29 5 = nI q ∧ gf σ 29 6 = nI e ∧ gf σ 29 7 = nI K
def GDt (σ τ : St) (n q e K : Nat) : Prop := q ≤ e ∧ e ≤ n ∧ K ≤ 5 ∧ K ≠ 1 ∧ (K ≠ 0 → q < e) ∧ gf σ 29 5 = nI q ∧ gf σ 29 6 = nI e ∧ gf σ 29 7 = nI K ∧ gf τ 58 9 = nI q ∧ gf τ 58 8 = nI e ∧ gf τ 58 10 = nI (tkK K) ∧ (K = 3 → ∃ x y : Nat, gf σ 29 8 = nI x ∧ gf τ 58 11 = nI y ∧ VR x y)
def GDb (σ τ : St) (n : Nat) : Prop := gf σ 29 2 = 0 ∧ gf τ 58 12 = 0 ∧ gf σ 29 3 = -1 ∧ gf τ 58 13 = -1 ∧ gf τ 58 7 = nI n ∧ ∀ j, j < n → gr σ 30 j = gr τ 62 j ∧ by8 (gr σ 30 j)
def GD (σ τ : St) (n : Nat) : Prop := GDb σ τ n ∧ ∃ q e K, GDt σ τ n q e K
def BD (σ τ : St) : Prop := ∃ f p : Nat, 1 ≤ f ∧ f ≤ 3 ∧ p ≤ 1200 ∧ gf σ 29 2 = nI f ∧ gf τ 58 12 = nI f ∧ gf σ 29 3 = nI p ∧ gf τ 58 13 = nI p
/-- without a FAULT they see the same TOKEN; with one it is the same one -/
def RP (σ τ : St) (n : Nat) : Prop := LX σ n ∧ (GD σ τ n ∨ BD σ τ)
/-- what a reading changes of the reference -/
def OM (τ τ' : St) : Prop := Fr [58] τ τ' ∧ ∀ k, k < 8 ∨ 13 < k → gf τ' 58 k = gf τ 58 k
theorem OM.rf {τ : St} : OM τ τ := ⟨Fr.rf, fun _ _ => rfl⟩
theorem OM.tr {τ τ' τ'' : St} (h : OM τ τ') (g : OM τ' τ'') : OM τ τ'' := ⟨h.1.tr g.1, fun k hk => (g.2 k hk).trans (h.2 k hk)⟩
def PG (σ σ' : St) : Prop := ok σ' → ok σ ∧ (gf σ 29 5).toInt ≤ (gf σ' 29 5).toInt
theorem PG.rf {σ : St} : PG σ σ := fun h => ⟨h, Int.le_refl _⟩
theorem PG.tr {σ σ' σ'' : St} (h : PG σ σ') (g : PG σ' σ'') : PG σ σ'' := fun o => ⟨(h (g o).1).1, Int.le_trans (h (g o).1).2 (g o).2⟩
theorem BD.not {σ τ : St} (h : BD σ τ) : ¬ ok σ := by
  obtain ⟨f, p, h1, h2, h3, h4, -⟩ := h
  unfold ok
  rw [h4]
  exact nI_ne0 (by omega) (by omega)
theorem BD.notM {σ τ : St} (h : BD σ τ) : ¬ gf τ 58 12 = 0 := by
  obtain ⟨f, p, h1, h2, h3, h4, h5, -⟩ := h
  rw [h5]
  exact nI_ne0 (by omega) (by omega)
/-- other objects change: nothing of the relation does -/
theorem RP.mv {σ τ σ' τ' : St} {n : Nat} {l l' : List Nat} (h : RP σ τ n) (hf : Fr l σ σ') (hg : Fr l' τ τ') (a : 29 ∉ l) (b : 30 ∉ l) (c : 58 ∉ l') (d : 62 ∉ l') : RP σ' τ' n := by
  unfold RP LX GD GDb GDt BD at *
  rw [(hf.1 29 a).1, (hf.1 30 b).2.1, (hg.1 58 c).1, (hg.1 62 d).2.1]
  exact h
theorem ok.mv {σ σ' : St} {l : List Nat} (hf : Fr l σ σ') (a : 29 ∉ l) : ok σ' ↔ ok σ := by
  unfold ok
  rw [(hf.1 29 a).1]
theorem PG.mv {σ σ' : St} {l : List Nat} (hf : Fr l σ σ') (a : 29 ∉ l) : PG σ σ' := fun o => ⟨(ok.mv hf a).mp o, by rw [(hf.1 29 a).1]; exact Int.le_refl _⟩
/-! ===== a FAULT ===== -/
theorem R_blame {σ τ : St} {n : Nat} (f : Nat) (hf : 1 ≤ f ∧ f ≤ 3) (h : RP σ τ n) : ∃ σ' τ', f_X6_blame (nI f) σ = some ((), σ') ∧ f_X12_errs (nI f) τ = some ((), τ') ∧ RP σ' τ' n ∧ ¬ ok σ' ∧ Fr [29] σ σ' ∧ OM τ τ' := by
  obtain ⟨⟨hn, hl, q, e, K, hqe, hen, hK, h5, h6, h7⟩, hG⟩ := h
  unfold f_X6_blame f_X6_blame_20 f_X12_errs
  rw [S_good, bd_mk]
  rcases hG with ⟨⟨g1, g2, g3, g4, g5, g6⟩, q', e', K', ⟨t1, t2, t3, t4, t5, t6, t7, t8, t9, t10, t11, t12⟩⟩ | hB
  · rw [if_pos g1, b2_t g2, if_neg n10, bnd_mk, bnd_mk, bnd_mk, bnd_mk]
    have e5 : gf (sf σ 29 2 (nI f)) 29 5 = nI q' := by rw [gf_sf_s, if_neg (by decide)]; exact t6
    have e9 : gf (sf τ 58 12 (nI f)) 58 9 = nI q' := by rw [gf_sf_s, if_neg (by decide)]; exact t9
    rw [e5, e9]
    have hF : Fr [29] σ (sf (sf σ 29 2 (nI f)) 29 3 (nI q')) := (Fr.c1 (by simp)).tr (Fr.c1 (by simp))
    have w : ∀ k, k ≠ 2 → k ≠ 3 → gf (sf (sf σ 29 2 (nI f)) 29 3 (nI q')) 29 k = gf σ 29 k := fun k a b => by rw [gf_sf_s, if_neg b, gf_sf_s, if_neg a]
    have w2 : gf (sf (sf σ 29 2 (nI f)) 29 3 (nI q')) 29 2 = nI f := by rw [gf_sf_s, if_neg (by decide), gf_sf_s, if_pos rfl]
    have w3 : gf (sf (sf σ 29 2 (nI f)) 29 3 (nI q')) 29 3 = nI q' := by rw [gf_sf_s, if_pos rfl]
    have v2 : gf (sf (sf τ 58 12 (nI f)) 58 13 (nI q')) 58 12 = nI f := by rw [gf_sf_s, if_neg (by decide), gf_sf_s, if_pos rfl]
    have v3 : gf (sf (sf τ 58 12 (nI f)) 58 13 (nI q')) 58 13 = nI q' := by rw [gf_sf_s, if_pos rfl]
    have hBD : BD (sf (sf σ 29 2 (nI f)) 29 3 (nI q')) (sf (sf τ 58 12 (nI f)) 58 13 (nI q')) := ⟨f, q', hf.1, hf.2, by omega, w2, v2, w3, v3⟩
    refine ⟨_, _, rfl, rfl, ⟨⟨hn, ?_, q, e, K, hqe, hen, hK, ?_, ?_, ?_⟩, Or.inr hBD⟩, hBD.not, hF, ⟨(Fr.c1 (by simp)).tr (Fr.c1 (by simp)), fun k hk => ?_⟩⟩
    · rw [w 1 (by decide) (by decide)]; exact hl
    · rw [w 5 (by decide) (by decide)]; exact h5
    · rw [w 6 (by decide) (by decide)]; exact h6
    · rw [w 7 (by decide) (by decide)]; exact h7
    · rw [gf_sf_s, if_neg (by omega), gf_sf_s, if_neg (by omega)]
  · rw [if_neg (show ¬ gf σ 29 2 = 0 from hB.not), b2_f hB.notM, if_pos rfl]
    exact ⟨σ, τ, rfl, rfl, ⟨⟨hn, hl, q, e, K, hqe, hen, hK, h5, h6, h7⟩, Or.inr hB⟩, hB.not, Fr.rf, OM.rf⟩
/-! ===== the next TOKEN ===== -/
theorem C4_LX {σ : St} {n p q e K : Nat} {v : Int32} (hn : n ≤ 1200) (hl : gf σ 29 1 = nI n) (h : Tk (gr σ 30) n p q e K) : LX (C4 σ (nI q) (nI K) v (nI e)) n := by
  obtain ⟨h1, h2, h3, h4, h5, h6, h7, h8, h9, h10⟩ := h
  refine ⟨hn, by rw [C4_1]; exact hl, q, e, K, h6, h7, by rw [← h4]; exact kn_bd _ _ _, C4_5 _ _ _ _ _, C4_6 _ _ _ _ _, C4_7 _ _ _ _ _⟩
theorem C4_2 (σ : St) (a k v e : Int32) : gf (C4 σ a k v e) 29 2 = gf σ 29 2 := by unfold C4; rw [gf_sF, if_pos rfl]; rfl
theorem C4_3 (σ : St) (a k v e : Int32) : gf (C4 σ a k v e) 29 3 = gf σ 29 3 := by unfold C4; rw [gf_sF, if_pos rfl]; rfl
theorem D4_o (τ : St) (a p t v : Int32) (k : Nat) (hk : k < 8 ∨ 11 < k) : gf (D4 τ a p t v) 58 k = gf τ 58 k := by
  unfold D4
  rw [gf_sF, if_pos rfl]
  unfold M4l
  rw [if_neg (by omega), if_neg (by omega), if_neg (by omega), if_neg (by omega)]
/-- the class's advance, whatever has been -/
theorem T_adv {σ : St} {n : Nat} (h : LX σ n) : ∃ σ', f_X6_advance σ = some ((), σ') ∧ LX σ' n ∧ Fr [29] σ σ' ∧ gf σ' 29 2 = gf σ 29 2 ∧ gf σ' 29 3 = gf σ 29 3 := by
  obtain ⟨hn, hl, q, e, K, hqe, hen, hK, h5, h6, h7⟩ := h
  obtain ⟨q', e', K', v, a1, -, a3⟩ := S_adv hn hl h6 hen
  exact ⟨_, a3, C4_LX hn hl a1, C4_fr _ _ _ _ _, C4_2 _ _ _ _ _, C4_3 _ _ _ _ _⟩
/-- both advance -/
theorem R_adv {σ τ : St} {n : Nat} (hL : LX σ n) (h : GD σ τ n) : ∃ σ' τ', f_X6_advance σ = some ((), σ') ∧ f_X12_advance τ = some ((), τ') ∧ LX σ' n ∧ GD σ' τ' n ∧ (gf σ 29 6).toInt ≤ (gf σ' 29 5).toInt ∧ Fr [29] σ σ' ∧ OM τ τ' := by
  obtain ⟨hn, hl, -⟩ := hL
  obtain ⟨⟨g1, g2, g3, g4, g5, g6⟩, q, e, K, ⟨t1, t2, t3, t4, t5, t6, t7, t8, t9, t10, t11, t12⟩⟩ := h
  obtain ⟨q', e', K', v, a1, a2, a3⟩ := S_adv hn hl t7 t2
  obtain ⟨q2, e2, K2, w, b1, b2', b3⟩ := S_advM (τ := τ) hn g5 (fun j hj => by rw [← (g6 j hj).1]; exact (g6 j hj).2) t10 t2
  obtain ⟨rfl, rfl, rfl⟩ := Tk_u a1 (Tk_c (fun j hj => (g6 j hj).1.symm) b1)
  have a1' := a1
  obtain ⟨h1, h2, h3, h4, h5, h6, h7, h8, h9, h10⟩ := a1
  have hK5 : K' ≤ 5 := by rw [← h4]; exact kn_bd _ _ _
  refine ⟨_, _, a3, b3, C4_LX hn hl a1', ⟨⟨?_, ?_, ?_, ?_, ?_, ?_⟩, q', e', K', ⟨h6, h7, hK5, h5, fun hz => ?_, C4_5 _ _ _ _ _, C4_6 _ _ _ _ _, C4_7 _ _ _ _ _, D4_9 _ _ _ _ _, D4_8 _ _ _ _ _, D4_10 _ _ _ _ _, fun k3 => ?_⟩⟩, ?_, C4_fr _ _ _ _ _, ⟨D4_fr _ _ _ _ _, fun k hk => D4_o _ _ _ _ _ k (by omega)⟩⟩
  · rw [C4_2]; exact g1
  · rw [D4_o _ _ _ _ _ _ (by omega)]; exact g2
  · rw [C4_3]; exact g3
  · rw [D4_o _ _ _ _ _ _ (by omega)]; exact g4
  · rw [D4_7]; exact g5
  · exact g6
  · rcases (show (K' = 4 ∨ K' = 5) ∨ (K' = 2 ∨ K' = 3) by omega) with c | c
    · have := h9 c
      omega
    · exact (h10 c).1
  · refine ⟨_, _, (C4_8 _ _ _ _ _).trans (a2 k3), (D4_11 _ _ _ _ _).trans (b2' k3), ?_⟩
    rw [dcv_c (b := gr τ 62) (b' := gr σ 30) (e' - q') (fun j c1 c2 => (g6 j (by omega)).1.symm)]
    exact dcv_VR _ _ _
  · rw [t7, C4_5, nI_toInt (by omega), nI_toInt (by omega)]
    omega
theorem GD.okM {σ τ : St} {n : Nat} (h : GD σ τ n) : ok σ ∧ gf τ 58 12 = 0 := ⟨h.1.1, h.1.2.1⟩
theorem GD.le {σ τ : St} {n : Nat} (hL : LX σ n) (h : GD σ τ n) : (gf σ 29 5).toInt ≤ (gf σ 29 6).toInt ∧ (¬ gf σ 29 7 = 0 → (gf σ 29 5).toInt < (gf σ 29 6).toInt) := by
  obtain ⟨hn, -⟩ := hL
  obtain ⟨-, q, e, K, ⟨t1, t2, t3, t4, t5, t6, t7, t8, t9, t10, t11, t12⟩⟩ := h
  rw [t6, t7, nI_toInt (by omega), nI_toInt (by omega)]
  refine ⟨by omega, fun hz => ?_⟩
  have : K ≠ 0 := fun z => hz (by rw [t8, z]; rfl)
  have := t5 this
  omega
/-! ===== a word that must stand ===== -/
theorem R_word {σ τ : St} {n z : Nat} (hz : z < 21) (h : RP σ τ n) : ∃ σ' τ', f_X6_word z σ = some ((), σ') ∧ f_X12_needs z τ = some ((), τ') ∧ RP σ' τ' n ∧ PG σ σ' ∧ Fr [29] σ σ' ∧ OM τ τ' := by
  have h0 := h
  obtain ⟨hL, hG⟩ := h
  have hL0 := hL
  obtain ⟨hn, hl, q, e, K, hqe, hen, hK, h5, h6, h7⟩ := hL
  unfold f_X6_word f_X12_needs f_X12_needs_13 f_X12_takes f_X12_takes_14
  rw [isS_t hz, gd_tt, isS_t hz, gd_tt, gd_tt, S_sees hz hn ⟨hqe, hen⟩ hK h5 h6 h7, bd_mk]
  rcases hG with hG | hB
  · have hG0 := hG
    obtain ⟨⟨g1, g2, g3, g4, g5, g6⟩, q', e', K', ⟨t1, t2, t3, t4, t5, t6, t7, t8, t9, t10, t11, t12⟩⟩ := hG
    obtain rfl : q = q' := (nI_eq (by omega) (by omega)).mp (h5.symm.trans t6)
    obtain rfl : e = e' := (nI_eq (by omega) (by omega)).mp (h6.symm.trans t7)
    obtain rfl : K = K' := (nI_eq (by omega) (by omega)).mp (h7.symm.trans t8)
    rw [S_is hz hn ⟨hqe, hen⟩ hK g2 t9 t10 t11, bd_mk]
    by_cases w : IW (gr σ 30) q e K z
    · have w' : IW (gr τ 62) q e K z := ⟨w.1, w.2.1, fun i hi => by rw [← (g6 (q + i) (by have := w.2.1; omega)).1]; exact w.2.2 i hi⟩
      obtain ⟨σ', τ', a1, a2, a3, a4, a5, a6, a7⟩ := R_adv hL0 hG0
      refine ⟨σ', τ', ?_, ?_, ⟨a3, Or.inl a4⟩, fun _ => ⟨g1, ?_⟩, a6, a7⟩
      · rw [b2_t w, if_neg n10, a1, bd_mk]
      · rw [b2_t w', if_neg n10, a2, bd_mk, bz_1, gd_tt, bd_mk, if_neg n10]
      · have := (GD.le hL0 hG0).1
        omega
    · have w' : ¬ IW (gr τ 62) q e K z := fun g => w ⟨g.1, g.2.1, fun i hi => by rw [(g6 (q + i) (by have := g.2.1; omega)).1]; exact g.2.2 i hi⟩
      obtain ⟨σ', τ', a1, a2, a3, a4, a5, a6⟩ := R_blame 1 ⟨by omega, by omega⟩ h0
      refine ⟨σ', τ', ?_, ?_, a3, fun o => absurd o a4, a5, a6⟩
      · rw [b2_f w, if_pos rfl, show (1 : Int32) = nI 1 from rfl, a1, bd_mk]
      · rw [b2_f w', if_pos rfl, bz_0, gd_tt, bd_mk, if_pos rfl, show (1 : Int32) = nI 1 from rfl, a2, bd_mk]
  · rw [S_isF hz hB.notM, bd_mk, if_pos rfl, bz_0, gd_tt, bd_mk, if_pos rfl]
    obtain ⟨σ', τ', a1, a2, a3, a4, a5, a6⟩ := R_blame 1 ⟨by omega, by omega⟩ h0
    by_cases w : IW (gr σ 30) q e K z
    · obtain ⟨σ2, b1, b2', b3, b4, b5⟩ := T_adv hL0
      obtain ⟨f, p, c1, c2, c3, c4, c5, c6, c7⟩ := hB
      have hB2 : BD σ2 τ := ⟨f, p, c1, c2, c3, b4.trans c4, c5, b5.trans c6, c7⟩
      have e0 : f_X12_errs (1 : Int32) τ = some ((), τ) := by
        unfold f_X12_errs
        rw [S_good, bd_mk, b2_f hB2.notM, if_pos rfl]
      refine ⟨σ2, τ, ?_, ?_, ⟨b2', Or.inr hB2⟩, fun o => absurd o hB2.not, b3, OM.rf⟩
      · rw [b2_t w, if_neg n10, b1, bd_mk]
      · rw [e0, bd_mk]
    · refine ⟨σ', τ', ?_, ?_, a3, fun o => absurd o a4, a5, a6⟩
      · rw [b2_f w, if_pos rfl, show (1 : Int32) = nI 1 from rfl, a1, bd_mk]
      · rw [show (1 : Int32) = nI 1 from rfl, a2, bd_mk]
theorem errs_bad {τ : St} (f : Int32) (h : ¬ gf τ 58 12 = 0) : f_X12_errs f τ = some ((), τ) := by
  unfold f_X12_errs
  rw [S_good, bd_mk, b2_f h, if_pos rfl]
theorem num_bad {τ : St} (lo hi : Int32) (h : ¬ gf τ 58 12 = 0) : f_X12_number lo hi τ = some (0, τ) := by
  unfold f_X12_number f_X12_number_20 f_X12_number_47
  simp only [S_good, bd_mk, b2_f h, if_true]
/-- the class's number behind a FAULT -/
theorem T_num {σ τ : St} {n : Nat} (lo hi : Int32) (hL : LX σ n) (hB : BD σ τ) : ∃ r σ', f_X6_number lo hi σ = some (r, σ') ∧ LX σ' n ∧ BD σ' τ ∧ Fr [29] σ σ' ∧ (r = 0 ∨ (lo.toInt ≤ r.toInt ∧ r.toInt ≤ hi.toInt)) := by
  have bl : ∀ f : Int32, f_X6_blame f σ = some ((), σ) := fun f => by
    unfold f_X6_blame f_X6_blame_20
    rw [if_neg (show ¬ gf σ 29 2 = 0 from hB.not)]
  unfold f_X6_number f_X6_number_30
  simp only [bl, bd_mk, bnd_mk]
  by_cases k : gf σ 29 7 = 3
  · rw [if_pos k]
    by_cases c1 : gf σ 29 8 < lo
    · rw [if_pos c1]
      exact ⟨0, σ, rfl, hL, hB, Fr.rf, Or.inl rfl⟩
    · rw [if_neg c1]
      by_cases c2 : gf σ 29 8 ≤ hi
      · obtain ⟨σ2, b1, b2', b3, b4, b5⟩ := T_adv hL
        obtain ⟨f, p, d1, d2, d3, d4, d5, d6, d7⟩ := hB
        rw [if_pos c2, b1, bd_mk]
        rw [lt_toInt] at c1
        rw [le_toInt] at c2
        exact ⟨_, σ2, rfl, b2', ⟨f, p, d1, d2, d3, b4.trans d4, d5, b5.trans d6, d7⟩, b3, Or.inr ⟨by omega, c2⟩⟩
      · rw [if_neg c2]
        exact ⟨0, σ, rfl, hL, hB, Fr.rf, Or.inl rfl⟩
  · rw [if_neg k]
    exact ⟨0, σ, rfl, hL, hB, Fr.rf, Or.inl rfl⟩
/-- a number: the same one, in its bounds, or a FAULT -/
theorem R_num {σ τ : St} {n : Nat} (lo hi : Int32) (hlo : 0 ≤ lo.toInt) (hhi : hi.toInt ≤ 999) (h : RP σ τ n) : ∃ r r' σ' τ', f_X6_number lo hi σ = some (r, σ') ∧ f_X12_number lo hi τ = some (r', τ') ∧ RP σ' τ' n ∧ PG σ σ' ∧ Fr [29] σ σ' ∧ OM τ τ' ∧ (ok σ' → r = r' ∧ lo.toInt ≤ r.toInt ∧ r.toInt ≤ hi.toInt) ∧ (r = 0 ∨ (lo.toInt ≤ r.toInt ∧ r.toInt ≤ hi.toInt)) ∧ (r' = 0 ∨ (lo.toInt ≤ r'.toInt ∧ r'.toInt ≤ hi.toInt)) := by
  have h0 := h
  obtain ⟨hL, hG⟩ := h
  rcases hG with hG | hB
  · have hG0 := hG
    obtain ⟨⟨g1, g2, g3, g4, g5, g6⟩, q, e, K, ⟨t1, t2, t3, t4, t5, t6, t7, t8, t9, t10, t11, t12⟩⟩ := hG
    have e1 : ∀ f : Nat, 1 ≤ f ∧ f ≤ 3 → ∃ σ' τ', f_X6_blame (nI f) σ = some ((), σ') ∧ f_X12_errs (nI f) τ = some ((), τ') ∧ RP σ' τ' n ∧ ¬ ok σ' ∧ Fr [29] σ σ' ∧ OM τ τ' := fun f hf => R_blame f hf h0
    have bad : ∀ (f : Nat) (σ' τ' : St), 1 ≤ f ∧ f ≤ 3 → f_X12_errs (nI f) τ = some ((), τ') → RP σ' τ' n → ¬ ok σ' → ¬ gf τ' 58 12 = 0 := fun f σ' τ' _ _ hr ho => by
      rcases hr.2 with c | c
      · exact absurd c.okM.1 ho
      · exact c.notM
    by_cases k3 : K = 3
    · obtain ⟨x, y, x1, y1, hv⟩ := t12 k3
      have hxy : x ≤ 100000 ∧ y ≤ 99999 := by unfold VR at hv; omega
      have tk : gf τ 58 10 = 2 := by rw [t11, k3]; rfl
      have kk : gf σ 29 7 = 3 := by rw [t8, k3]; rfl
      by_cases hin : lo.toInt ≤ y ∧ (y : Int) ≤ hi.toInt
      · have hxe : x = y := by unfold VR at hv; omega
        subst hxe
        obtain ⟨σ', τ', a1, a2, a3, a4, a5, a6, a7⟩ := R_adv hL hG0
        refine ⟨nI x, nI x, σ', τ', ?_, ?_, ⟨a3, Or.inl a4⟩, fun _ => ⟨g1, ?_⟩, a6, a7, fun _ => ⟨rfl, ?_⟩, Or.inr ?_, Or.inr ?_⟩
        · unfold f_X6_number
          rw [if_pos kk, bnd_mk, x1, if_neg (by rw [lt_toInt, nI_toInt (by omega)]; omega), if_pos (by rw [le_toInt, nI_toInt (by omega)]; omega), a1, bd_mk]
        · unfold f_X12_number f_X12_number_20 f_X12_number_47
          simp only [S_good, bd_mk, b2_t g2, if_neg n10, S_in, bnd_mk]
          rw [if_pos tk, y1, b2_t (by rw [Int32.toInt_toInt64, Int32.toInt_toInt64, Int32.toInt_toInt64, nI_toInt (by omega)]; exact hin), if_neg n10, a2, bd_mk]
        · have := (GD.le hL hG0).1
          omega
        · rw [nI_toInt (by omega)]; exact hin
        · rw [nI_toInt (by omega)]; exact hin
        · rw [nI_toInt (by omega)]; exact hin
      · obtain ⟨σ', τ', a1, a2, a3, a4, a5, a6⟩ := e1 2 ⟨by omega, by omega⟩
        have hbm := bad 2 σ' τ' ⟨by omega, by omega⟩ a2 a3 a4
        refine ⟨0, 0, σ', τ', ?_, ?_, a3, fun o => absurd o a4, a5, a6, fun o => absurd o a4, Or.inl rfl, Or.inl rfl⟩
        · unfold f_X6_number f_X6_number_30
          rw [if_pos kk, bnd_mk, x1, show (2 : Int32) = nI 2 from rfl, a1, bd_mk]
          by_cases c1 : nI x < lo
          · rw [if_pos c1]
          · have c2 : ¬ nI x ≤ hi := by
              rw [lt_toInt, nI_toInt (by omega)] at c1
              rw [le_toInt, nI_toInt (by omega)]
              unfold VR at hv
              omega
            rw [if_neg c1, if_neg c2]
        · unfold f_X12_number f_X12_number_20 f_X12_number_47
          simp only [S_good, bd_mk, b2_t g2, if_neg n10, S_in, bnd_mk]
          rw [if_pos tk, y1, b2_f (by rw [Int32.toInt_toInt64, Int32.toInt_toInt64, Int32.toInt_toInt64, nI_toInt (by omega)]; exact hin), if_pos rfl, show (2 : Int32) = nI 2 from rfl, a2, bd_mk, b2_f hbm, if_pos rfl]
    · have kk : ¬ gf σ 29 7 = 3 := fun z => k3 ((nI_eq (a := K) (b := 3) (by omega) (by omega)).mp (t8.symm.trans z))
      have tk : ¬ gf τ 58 10 = 2 := fun z => by
        have := (nI_eq (a := tkK K) (b := 2) (by unfold tkK; split <;> omega) (by omega)).mp (t11.symm.trans z)
        unfold tkK at this
        split at this <;> omega
      obtain ⟨σ', τ', a1, a2, a3, a4, a5, a6⟩ := e1 1 ⟨by omega, by omega⟩
      have hbm := bad 1 σ' τ' ⟨by omega, by omega⟩ a2 a3 a4
      refine ⟨0, 0, σ', τ', ?_, ?_, a3, fun o => absurd o a4, a5, a6, fun o => absurd o a4, Or.inl rfl, Or.inl rfl⟩
      · unfold f_X6_number
        rw [if_neg kk, show (1 : Int32) = nI 1 from rfl, a1, bd_mk]
      · unfold f_X12_number f_X12_number_20 f_X12_number_47
        rw [S_good, bd_mk, b2_t g2, if_neg n10, if_neg tk, show f_X12_errs (1 : Int32) τ = some ((), τ') from a2, bd_mk]
        simp only [S_good, bd_mk, b2_f hbm, if_true]
  · obtain ⟨r, σ', a1, a2, a3, a4, a5⟩ := T_num lo hi hL hB
    exact ⟨r, 0, σ', τ, a1, num_bad lo hi hB.notM, ⟨a2, Or.inr a3⟩, fun o => absurd o a3.not, a4, OM.rf, fun o => absurd o a3.not, a5, Or.inl rfl⟩
/-- a word, then a number -/
theorem R_told {σ τ : St} {n z : Nat} (lo hi : Int32) (hz : z < 21) (hlo : 0 ≤ lo.toInt) (hhi : hi.toInt ≤ 999) (h : RP σ τ n) : ∃ r r' σ1 σ' τ', f_X6_word z σ = some ((), σ1) ∧ f_X6_number lo hi σ1 = some (r, σ') ∧ f_X12_told z lo hi τ = some (r', τ') ∧ RP σ' τ' n ∧ PG σ σ' ∧ Fr [29] σ σ1 ∧ Fr [29] σ σ' ∧ OM τ τ' ∧ (ok σ' → r = r' ∧ lo.toInt ≤ r.toInt ∧ r.toInt ≤ hi.toInt) ∧ (r = 0 ∨ (lo.toInt ≤ r.toInt ∧ r.toInt ≤ hi.toInt)) ∧ (r' = 0 ∨ (lo.toInt ≤ r'.toInt ∧ r'.toInt ≤ hi.toInt)) := by
  obtain ⟨σ1, τ1, a1, a2, a3, a4, a5, a6⟩ := R_word hz h
  obtain ⟨r, r', σ', τ', b1, b2', b3, b4, b5, b6, b7, b8, b9⟩ := R_num lo hi hlo hhi a3
  refine ⟨r, r', σ1, σ', τ', a1, b1, ?_, b3, a4.tr b4, a5, a5.tr b5, a6.tr b6, b7, b8, b9⟩
  unfold f_X12_told
  rw [isS_t hz, gd_tt, a2, bd_mk, b2', bd_mk]
/-- the sign at a LINE's end -/
theorem R_sign {σ τ : St} {n : Nat} (h : RP σ τ n) : ∃ σ' τ', f_X6_sign σ = some ((), σ') ∧ f_X12_readLine_21 τ = f_X12_readLine_52 τ' ∧ RP σ' τ' n ∧ (ok σ' → ok σ ∧ (gf σ 29 5).toInt < (gf σ' 29 5).toInt) ∧ Fr [29] σ σ' ∧ OM τ τ' := by
  have h0 := h
  obtain ⟨hL, hG⟩ := h
  rcases hG with hG | hB
  · have hG0 := hG
    obtain ⟨⟨g1, g2, g3, g4, g5, g6⟩, q, e, K, ⟨t1, t2, t3, t4, t5, t6, t7, t8, t9, t10, t11, t12⟩⟩ := hG
    unfold f_X6_sign f_X12_readLine_21 f_X12_readLine_41
    by_cases k4 : K = 4
    · have kk : gf σ 29 7 = 4 := by rw [t8, k4]; rfl
      have tk : gf τ 58 10 = 3 := by rw [t11, k4]; rfl
      obtain ⟨σ', τ', a1, a2, a3, a4, a5, a6, a7⟩ := R_adv hL hG0
      refine ⟨σ', τ', ?_, ?_, ⟨a3, Or.inl a4⟩, fun _ => ⟨g1, ?_⟩, a6, a7⟩
      · rw [if_pos kk, a1, bd_mk]
      · simp only [S_good, bd_mk, b2_t g2, if_neg n10]
        rw [if_pos tk, a2, bd_mk]
      · have := (GD.le hL hG0).2 (by rw [kk]; decide)
        omega
    · have kk : ¬ gf σ 29 7 = 4 := fun z => k4 ((nI_eq (a := K) (b := 4) (by omega) (by omega)).mp (t8.symm.trans z))
      have tk : ¬ gf τ 58 10 = 3 := fun z => by
        have := (nI_eq (a := tkK K) (b := 3) (by unfold tkK; split <;> omega) (by omega)).mp (t11.symm.trans z)
        unfold tkK at this
        split at this <;> omega
      obtain ⟨σ', τ', a1, a2, a3, a4, a5, a6⟩ := R_blame 1 ⟨by omega, by omega⟩ h0
      have hbm : ¬ gf τ' 58 12 = 0 := by
        rcases a3.2 with c | c
        · exact absurd c.okM.1 a4
        · exact c.notM
      refine ⟨σ', τ', ?_, ?_, a3, fun o => absurd o a4, a5, a6⟩
      · rw [if_neg kk, show (1 : Int32) = nI 1 from rfl, a1, bd_mk]
      · rw [S_good, bd_mk, b2_t g2, if_neg n10, if_neg tk, show f_X12_errs (1 : Int32) τ = some ((), τ') from a2, bd_mk]
        simp only [S_good, bd_mk, b2_f hbm, if_true]
  · have hm := hB.notM
    have em : f_X12_readLine_21 τ = f_X12_readLine_52 τ := by
      unfold f_X12_readLine_21 f_X12_readLine_41
      simp only [S_good, bd_mk, b2_f hm, if_true]
    unfold f_X6_sign
    by_cases kk : gf σ 29 7 = 4
    · obtain ⟨σ2, b1, b2', b3, b4, b5⟩ := T_adv hL
      obtain ⟨f, p, d1, d2, d3, d4, d5, d6, d7⟩ := hB
      have hB2 : BD σ2 τ := ⟨f, p, d1, d2, d3, b4.trans d4, d5, b5.trans d6, d7⟩
      refine ⟨σ2, τ, ?_, em, ⟨b2', Or.inr hB2⟩, fun o => absurd o hB2.not, b3, OM.rf⟩
      rw [if_pos kk, b1, bd_mk]
    · refine ⟨σ, τ, ?_, em, h0, fun o => absurd o hB.not, Fr.rf, OM.rf⟩
      rw [if_neg kk]
      unfold f_X6_blame f_X6_blame_20
      rw [if_neg (show ¬ gf σ 29 2 = 0 from hB.not), bd_mk]
/-! ===== tables of the draft, the reference's fresh row ===== -/
def OF (τ τ' : St) : Prop := Fr [58, 64] τ τ' ∧ ∀ k, k < 8 ∨ 13 < k → gf τ' 58 k = gf τ 58 k
theorem OF.rf {τ : St} : OF τ τ := ⟨Fr.rf, fun _ _ => rfl⟩
theorem OF.tr {τ τ' τ'' : St} (h : OF τ τ') (g : OF τ' τ'') : OF τ τ'' := ⟨h.1.tr g.1, fun k hk => (g.2 k hk).trans (h.2 k hk)⟩
theorem OM.of {τ τ' : St} (h : OM τ τ') : OF τ τ' := ⟨h.1.mo (by simp), h.2⟩
theorem OF.s64 {τ : St} {k : Nat} {v : Int32} : OF τ (sr τ 64 k v) := ⟨Fr.c2 (by simp), fun _ _ => rfl⟩
theorem OM.r64 {τ τ' : St} (h : OM τ τ') : gr τ' 64 = gr τ 64 := (h.1.1 64 (by simp)).2.1
/-- a table by its number: width, room, rows that fit -/
def TB4 (t wd room : Nat) : Prop := tw t = nI wd ∧ tm t = nI room ∧ ln (t + 1) = room * wd ∧ kd t = 8 ∧ kd (t + 1) = 13 ∧ t + 1 < 75 ∧ 1 ≤ wd ∧ wd ≤ 6 ∧ 1 ≤ room ∧ room ≤ 60 ∧ t ≠ 29 ∧ t + 1 ≠ 29 ∧ t ≠ 30 ∧ t + 1 ≠ 30
theorem TB4.isT {t wd room : Nat} (h : TB4 t wd room) (σ : St) : isT σ t = true := isT_lit ⟨h.2.2.2.1, h.2.2.2.2.1, h.2.2.2.2.2.1⟩
theorem S_full {t wd room k : Nat} {σ : St} (hT : TB4 t wd room) (hk : k ≤ room) (h : gf σ t 3 = nI k) : f_X9_isFull t σ = some (b2 (k = room), σ) := by
  have hi := hT.isT σ
  obtain ⟨h1, h2, h3, h4, h5, h6, h7, h8, h9, h10, -⟩ := hT
  unfold f_X9_isFull f_X9_isFull_16
  rw [hi, gd_tt, h, h2]
  by_cases c : k = room
  · rw [if_neg (nI_nlt (by omega) (by omega)), b2_t c, bz_1, gd_tt]
  · rw [if_pos (nI_lt (by omega) (by omega)), b2_f c, bz_0, gd_tt]
theorem S_add {t wd room k : Nat} {σ : St} (hT : TB4 t wd room) (hk : k < room) (h : gf σ t 3 = nI k) : f_X9_add t σ = some ((), sf σ t 3 (nI (k + 1))) := by
  have hi := hT.isT σ
  have hr : room ≤ 60 := hT.2.2.2.2.2.2.2.2.2.1
  unfold f_X9_add f_X9_add_17
  rw [hi, gd_tt, S_full hT (by omega) h, bd_mk, b2_f (by omega), if_pos rfl, hi, gd_tt, bnd_mk, h, nI_1]
theorem S_set {t wd room k c : Nat} {σ : St} (hT : TB4 t wd room) (hk : k < room) (hc : c < wd) (r : Int32) (h : gf σ t 3 = nI (k + 1)) : f_X9_set t (nI (k + 1) - 1) (nI c) r σ = some ((), sr σ (t + 1) (k * wd + c) r) := by
  have hi := hT.isT σ
  obtain ⟨h1, h2, h3, h4, h5, h6, h7, h8, h9, h10, -⟩ := hT
  have hb : k * wd + c < room * wd := by
    have : (k + 1) * wd ≤ room * wd := Nat.mul_le_mul_right _ hk
    rw [Nat.add_mul, Nat.one_mul] at this
    omega
  have hb2 : room * wd ≤ 360 := by
    calc room * wd ≤ 60 * 6 := Nat.mul_le_mul h10 h8
      _ = 360 := rfl
  unfold f_X9_set f_X9_set_38
  rw [hi, gd_tt, h, h1, nI_pred, if_neg (nI_pos (by omega)), if_neg (nI_ge (by omega) (by omega)), if_neg (nI_pos (by omega)), if_neg (nI_ge (by omega) (by omega)), h3, nI_mul, nI_add, inb_nI hb (by omega), gd_tt, bnd_mk, nI_clamp (by omega)]
theorem S_getc {t wd room k i c : Nat} {σ : St} (hT : TB4 t wd room) (hk : k ≤ room) (hi' : i < k) (hc : c < wd) (h : gf σ t 3 = nI k) : f_X9_cell t (nI i) (nI c) σ = some (gr σ (t + 1) (i * wd + c), σ) := by
  have hi := hT.isT σ
  obtain ⟨h1, h2, h3, h4, h5, h6, h7, h8, h9, h10, -⟩ := hT
  have hb : i * wd + c < room * wd := by
    have : (i + 1) * wd ≤ room * wd := Nat.mul_le_mul_right _ (by omega)
    rw [Nat.add_mul, Nat.one_mul] at this
    omega
  have hb2 : room * wd ≤ 360 := by
    calc room * wd ≤ 60 * 6 := Nat.mul_le_mul h10 h8
      _ = 360 := rfl
  unfold f_X9_cell f_X9_cell_24
  rw [hi, gd_tt, h, h1, if_neg (nI_pos (by omega)), if_neg (nI_ge (by omega) (by omega)), if_neg (nI_pos (by omega)), if_pos (nI_lt (by omega) (by omega)), h3, nI_mul, nI_add, inb_nI hb (by omega), gd_tt, nI_clamp (by omega)]
/-- a table's beginning when it isn't full -/
theorem R_begin {t wd room k n : Nat} {σ τ : St} (hT : TB4 t wd room) (hk : k < room) (h : gf σ t 3 = nI k) (hL : LX σ n) (hG : GD σ τ n) : ∃ σ' τ', f_X6_begin t σ = some ((), σ') ∧ f_X12_advance τ = some ((), τ') ∧ RP σ' τ' n ∧ PG σ σ' ∧ gf σ' t 3 = nI (k + 1) ∧ Fr [29, t] σ σ' ∧ (∀ j, j ≠ 3 → gf σ' t j = gf σ t j) ∧ OM τ τ' := by
  have hi := hT.isT σ
  have hne : 29 ≠ t := fun z => hT.2.2.2.2.2.2.2.2.2.2.1 z.symm
  have hne30 : 30 ≠ t := fun z => hT.2.2.2.2.2.2.2.2.2.2.2.2.1 z.symm
  have hF : Fr [t] σ (sf σ t 3 (nI (k + 1))) := Fr.c1 (by simp)
  have hR : RP (sf σ t 3 (nI (k + 1))) τ n := RP.mv (σ := σ) (τ := τ) ⟨hL, Or.inl hG⟩ hF (Fr.rf (l := [])) (by simp; exact hne) (by simp; exact hne30) (by simp) (by simp)
  have hG' : GD (sf σ t 3 (nI (k + 1))) τ n := by
    rcases hR.2 with c | c
    · exact c
    · exact absurd ((ok.mv hF (by simp; exact hne)).mpr hG.okM.1) c.not
  obtain ⟨σ', τ', a1, a2, a3, a4, a5, a6, a7⟩ := R_adv hR.1 hG'
  have hst : gf σ' t = gf (sf σ t 3 (nI (k + 1))) t := (a6.1 t (by simp; exact fun z => hne z.symm)).1
  refine ⟨σ', τ', ?_, a2, ⟨a3, Or.inl a4⟩, fun o => ⟨hG.okM.1, ?_⟩, ?_, (hF.mo (by simp)).tr (a6.mo (by simp)), fun j hj => ?_, a7⟩
  · unfold f_X6_begin
    rw [hi, gd_tt, S_full hT (by omega) h, bd_mk, b2_f (by omega), if_pos rfl, S_add hT hk h, bd_mk, a1, bd_mk]
  · have h1 := (GD.le hR.1 hG').1
    rw [(hF.1 29 (by simp; exact hne)).1] at h1 a5
    omega
  · rw [hst, gf_sf_s, if_pos rfl]
  · rw [hst, gf_sf_s, if_neg hj]
/-- a column of a table's last row: a number of both -/
theorem R_col {t wd room k c X n : Nat} {σ τ : St} (hT : TB4 t wd room) (hk : k < room) (hc : c < wd) (hX : X < 240) (lo hi : Int32) (hlo : 0 ≤ lo.toInt) (hhi : hi.toInt ≤ 999) (h : gf σ t 3 = nI (k + 1)) (hR : RP σ τ n) : ∃ r' σ' τ1, f_X6_cell t (nI c) lo hi σ = some ((), σ') ∧ f_X12_number lo hi τ = some (r', τ1) ∧ RP σ' (sr τ1 64 X r') n ∧ PG σ σ' ∧ Fr [29, t + 1] σ σ' ∧ OF τ (sr τ1 64 X r') ∧ (∀ j, j ≠ k * wd + c → gr σ' (t + 1) j = gr σ (t + 1) j) ∧ (∀ j, j ≠ X → gr (sr τ1 64 X r') 64 j = gr τ 64 j) ∧ (ok σ' → gr σ' (t + 1) (k * wd + c) = gr (sr τ1 64 X r') 64 X ∧ lo.toInt ≤ (gr (sr τ1 64 X r') 64 X).toInt ∧ (gr (sr τ1 64 X r') 64 X).toInt ≤ hi.toInt) ∧ gr τ1 64 = gr τ 64 := by
  have hi' := hT.isT σ
  have hne : 29 ≠ t + 1 := fun z => hT.2.2.2.2.2.2.2.2.2.2.2.1 z.symm
  have hne0 : t ≠ 29 := hT.2.2.2.2.2.2.2.2.2.2.1
  have hne30 : 30 ≠ t + 1 := fun z => hT.2.2.2.2.2.2.2.2.2.2.2.2.2 z.symm
  obtain ⟨r, r', s2, τ1, a1, a2, a3, a4, a5, a6, a7, a8, a9⟩ := R_num lo hi hlo hhi hR
  have h2 : gf s2 t 3 = nI (k + 1) := by rw [(a5.1 t (by simp; exact hne0)).1]; exact h
  have hF : Fr [t + 1] s2 (sr s2 (t + 1) (k * wd + c) r) := Fr.c2 (by simp)
  have hR2 : RP (sr s2 (t + 1) (k * wd + c) r) (sr τ1 64 X r') n := RP.mv a3 hF (Fr.c2 (l := [64]) (by simp)) (by simp; omega) (by simp; omega) (by simp) (by simp)
  have e64 : gr τ1 64 = gr τ 64 := a6.r64
  have e29 : gr s2 (t + 1) = gr σ (t + 1) := (a5.1 (t + 1) (by simp; omega)).2.1
  refine ⟨r', sr s2 (t + 1) (k * wd + c) r, τ1, ?_, a2, hR2, a4.tr (PG.mv hF (by simp; omega)), (a5.mo (by simp)).tr (hF.mo (by simp)), a6.of.tr OF.s64, fun j hj => ?_, fun j hj => ?_, fun o => ?_, e64⟩
  · unfold f_X6_cell
    rw [hi', gd_tt, a1, bd_mk, h, S_set hT hk hc r h2, bd_mk]
  · rw [gr_sr_s, if_neg hj, e29]
  · rw [gr_sr_s, if_neg hj, e64]
  · have o2 := (ok.mv hF (by simp; omega)).mp o
    obtain ⟨b1, b2', b3⟩ := a7 o2
    rw [gr_sr_s, if_pos rfl, gr_sr_s, if_pos rfl, ← b1]
    exact ⟨rfl, b2', b3⟩
/-- the same behind a word -/
theorem R_wcol {t wd room k c X n z : Nat} {σ τ : St} (hT : TB4 t wd room) (hk : k < room) (hc : c < wd) (hX : X < 240) (hz : z < 21) (lo hi : Int32) (hlo : 0 ≤ lo.toInt) (hhi : hi.toInt ≤ 999) (h : gf σ t 3 = nI (k + 1)) (hR : RP σ τ n) : ∃ r' σ1 σ' τ1, f_X6_word z σ = some ((), σ1) ∧ f_X6_cell t (nI c) lo hi σ1 = some ((), σ') ∧ f_X12_told z lo hi τ = some (r', τ1) ∧ RP σ' (sr τ1 64 X r') n ∧ PG σ σ' ∧ Fr [29] σ σ1 ∧ Fr [29, t + 1] σ σ' ∧ OF τ (sr τ1 64 X r') ∧ (∀ j, j ≠ k * wd + c → gr σ' (t + 1) j = gr σ (t + 1) j) ∧ (∀ j, j ≠ X → gr (sr τ1 64 X r') 64 j = gr τ 64 j) ∧ (ok σ' → gr σ' (t + 1) (k * wd + c) = gr (sr τ1 64 X r') 64 X ∧ lo.toInt ≤ (gr (sr τ1 64 X r') 64 X).toInt ∧ (gr (sr τ1 64 X r') 64 X).toInt ≤ hi.toInt) ∧ gr τ1 64 = gr τ 64 := by
  have hne0 : t ≠ 29 := hT.2.2.2.2.2.2.2.2.2.2.1
  have hne : 29 ≠ t + 1 := fun z => hT.2.2.2.2.2.2.2.2.2.2.2.1 z.symm
  obtain ⟨σ1, τ0, a1, a2, a3, a4, a5, a6⟩ := R_word hz hR
  have h1 : gf σ1 t 3 = nI (k + 1) := by rw [(a5.1 t (by simp; exact hne0)).1]; exact h
  obtain ⟨r', σ', τ1, b1, b2', b3, b4, b5, b6, b7, b8, b9, b10⟩ := R_col (X := X) hT hk hc hX lo hi hlo hhi h1 a3
  have e1 : gr σ1 (t + 1) = gr σ (t + 1) := (a5.1 (t + 1) (by simp; omega)).2.1
  refine ⟨r', σ1, σ', τ1, a1, b1, ?_, b3, a4.tr b4, a5, (a5.mo (by simp)).tr b5, a6.of.tr b6, fun j hj => (b7 j hj).trans (by rw [e1]), fun j hj => (b8 j hj).trans (by rw [a6.r64]), b9, b10.trans a6.r64⟩
  unfold f_X12_told
  rw [isS_t hz, gd_tt, a2, bd_mk, b2', bd_mk]
/-! ===== a WAR of both: the class's block w, the reference's row F ===== -/
/-- rows of a table, with the bounds of each column -/
def TV (σ : St) (t : Nat) (F : Nat → Int32) (ix base wd room : Nat) (lo hi : List Int) : Prop := ∃ k, k ≤ room ∧ gf σ t 3 = nI k ∧ F ix = nI k ∧ ∀ i, i < k → ∀ c, c < wd → gr σ (t + 1) (i * wd + c) = F (base + wd * i + c) ∧ lo.getD c 0 ≤ (F (base + wd * i + c)).toInt ∧ (F (base + wd * i + c)).toInt ≤ hi.getD c 0
/-- both ends of a span in order -/
def SP (F : Nat → Int32) (ix base : Nat) : Prop := ∀ k, F ix = nI k → k ≤ 4 → ∀ i, i < k → (F (base + 2 * i)).toInt ≤ (F (base + 2 * i + 1)).toInt
/-- SPIES know TRAINS that there are -/
def SPY (F : Nat → Int32) : Prop := ∀ k m, F 8 = nI k → k ≤ 5 → F 4 = nI m → m ≤ 9 → ∀ i, i < k → (F (115 + i)).toInt < 2 ^ m
def HD (σ : St) (w : Nat) (F : Nat → Int32) : Prop := ∃ l m a p r d e : Nat, l ≤ 1200 ∧ m ≤ 60 ∧ a ≤ 59 ∧ p ≤ 60 ∧ r ≤ 100 ∧ d ≤ 999 ∧ e ≤ 999 ∧ (1 ≤ l → 1 ≤ m ∧ a < m) ∧ gf σ w 0 = nI l ∧ F 9 = nI l ∧ gf σ w 1 = nI m ∧ F 0 = nI m ∧ gf σ w 2 = nI a ∧ F 1 = nI a ∧ gf σ w 3 = nI p ∧ F 2 = nI p ∧ gf σ w 4 = nI r ∧ F 3 = nI r ∧ gr σ (w + 1) 0 = nI d ∧ F 11 = nI d ∧ gr σ (w + 1) 1 = nI e ∧ F 12 = nI e
/-- a change that is not taken back, as both have it -/
def CE (σ : St) (w : Nat) (F : Nat → Int32) (j : Nat) : Prop := ∃ row what old m : Nat, F 4 = nI m ∧ m ≤ 9 ∧ gr σ (w + 13) (3 * j) = nI row ∧ gr σ (w + 13) (3 * j + 1) = nI what ∧ gr σ (w + 13) (3 * j + 2) = nI old ∧ F (121 + 2 * j) = nI old ∧
  ((what = 0 ∧ row < m ∧ F (120 + 2 * j) = nI (13 + 6 * row + 2) ∧ old ≤ 59) ∨ (what = 1 ∧ row < m ∧ F (120 + 2 * j) = nI (13 + 6 * row + 3) ∧ old ≤ 100) ∨ (what = 2 ∧ row < m ∧ F (120 + 2 * j) = nI (13 + 6 * row + 5) ∧ old ≤ 999) ∨ (what = 3 ∧ row < 2 ∧ F (120 + 2 * j) = nI (11 + row) ∧ old ≤ 999))
def CR (σ : St) (w : Nat) (F : Nat → Int32) : Prop := ∃ k, k ≤ 60 ∧ gf σ (w + 12) 3 = nI k ∧ F 10 = nI k ∧ ∀ j, j < k → CE σ w F j
def WR (σ : St) (w : Nat) (F : Nat → Int32) : Prop := HD σ w F ∧ TV σ (w + 2) F 4 13 6 9 [0, 1, 0, 0, 1, 0] [1, 99, 59, 100, 30, 999] ∧ TV σ (w + 4) F 5 67 2 4 [0, 0] [59, 59] ∧ TV σ (w + 6) F 6 75 4 8 [0, 0, 1, 1] [1, 59, 20, 99] ∧ TV σ (w + 8) F 7 107 2 4 [0, 0] [59, 59] ∧ TV σ (w + 10) F 8 115 1 5 [0] [511] ∧ SP F 5 67 ∧ SP F 7 107 ∧ SPY F ∧ CR σ w F
/-- the class's block in its bounds, whatever was read -/
def SZ (σ : St) (w : Nat) : Prop := (∃ k, k ≤ 60 ∧ gf σ w 1 = nI k) ∧ (∃ k, k ≤ 9 ∧ gf σ (w + 2) 3 = nI k) ∧ (∃ k, k ≤ 4 ∧ gf σ (w + 4) 3 = nI k) ∧ (∃ k, k ≤ 8 ∧ gf σ (w + 6) 3 = nI k) ∧ (∃ k, k ≤ 4 ∧ gf σ (w + 8) 3 = nI k) ∧ (∃ k, k ≤ 5 ∧ gf σ (w + 10) 3 = nI k) ∧ (∃ k, k ≤ 60 ∧ gf σ (w + 12) 3 = nI k)
/-- the reference's row in its bounds -/
def SM (F : Nat → Int32) : Prop := (∃ k, k ≤ 9 ∧ F 4 = nI k) ∧ (∃ k, k ≤ 4 ∧ F 5 = nI k) ∧ (∃ k, k ≤ 8 ∧ F 6 = nI k) ∧ (∃ k, k ≤ 4 ∧ F 7 = nI k) ∧ (∃ k, k ≤ 5 ∧ F 8 = nI k)
theorem TV.mv {σ σ' : St} {t : Nat} {F F' : Nat → Int32} {ix base wd room : Nat} {lo hi : List Int} (h : TV σ t F ix base wd room lo hi) (h1 : gf σ' t 3 = gf σ t 3) (h2 : ∀ j, j < wd * room → gr σ' (t + 1) j = gr σ (t + 1) j) (h3 : F' ix = F ix) (h4 : ∀ j, base ≤ j → j < base + wd * room → F' j = F j) : TV σ' t F' ix base wd room lo hi := by
  obtain ⟨k, a1, a2, a3, a4⟩ := h
  refine ⟨k, a1, h1.trans a2, h3.trans a3, fun i hi' c hc => ?_⟩
  have hb : wd * i + c < wd * room := by
    have : wd * (i + 1) ≤ wd * room := Nat.mul_le_mul_left _ (by omega)
    rw [Nat.mul_add] at this
    omega
  rw [h2 _ (by rw [Nat.mul_comm i wd]; exact hb), h4 _ (by omega) (by omega)]
  exact a4 i hi' c hc
/-- a row more -/
theorem TV.ad {σ σ' : St} {t : Nat} {F F' : Nat → Int32} {ix base wd room k : Nat} {lo hi : List Int} (h : TV σ t F ix base wd room lo hi) (hk : gf σ t 3 = nI k) (hkr : k < room) (hr : room ≤ 60) (h1 : gf σ' t 3 = nI (k + 1)) (h2 : ∀ j, j < wd * k → gr σ' (t + 1) j = gr σ (t + 1) j) (h3 : F' ix = nI (k + 1)) (h4 : ∀ j, base ≤ j → j < base + wd * k → F' j = F j) (h5 : ∀ c, c < wd → gr σ' (t + 1) (k * wd + c) = F' (base + wd * k + c) ∧ lo.getD c 0 ≤ (F' (base + wd * k + c)).toInt ∧ (F' (base + wd * k + c)).toInt ≤ hi.getD c 0) : TV σ' t F' ix base wd room lo hi := by
  obtain ⟨k', a1, a2, a3, a4⟩ := h
  obtain rfl : k = k' := (nI_eq (by omega) (by omega)).mp (hk.symm.trans a2)
  refine ⟨k + 1, by omega, h1, h3, fun i hi' c hc => ?_⟩
  by_cases e : i = k
  · subst e
    exact h5 c hc
  · have hb : wd * i + c < wd * k := by
      have : wd * (i + 1) ≤ wd * k := Nat.mul_le_mul_left _ (by omega)
      rw [Nat.mul_add] at this
      omega
    rw [h2 _ (by rw [Nat.mul_comm i wd]; exact hb), h4 _ (by omega) (by omega)]
    exact a4 i (by omega) c hc
theorem HD.mv {σ σ' : St} {w : Nat} {F F' : Nat → Int32} (h : HD σ w F) (h1 : ∀ k, k < 5 → gf σ' w k = gf σ w k) (h2 : ∀ s, s < 2 → gr σ' (w + 1) s = gr σ (w + 1) s) (h3 : ∀ j, j < 13 → j ≠ 4 → j ≠ 5 → j ≠ 6 → j ≠ 7 → j ≠ 8 → j ≠ 10 → F' j = F j) : HD σ' w F' := by
  unfold HD at *
  rw [h1 0 (by omega), h1 1 (by omega), h1 2 (by omega), h1 3 (by omega), h1 4 (by omega), h2 0 (by omega), h2 1 (by omega), h3 9 (by omega) (by omega) (by omega) (by omega) (by omega) (by omega) (by omega), h3 0 (by omega) (by omega) (by omega) (by omega) (by omega) (by omega) (by omega), h3 1 (by omega) (by omega) (by omega) (by omega) (by omega) (by omega) (by omega), h3 2 (by omega) (by omega) (by omega) (by omega) (by omega) (by omega) (by omega), h3 3 (by omega) (by omega) (by omega) (by omega) (by omega) (by omega) (by omega), h3 11 (by omega) (by omega) (by omega) (by omega) (by omega) (by omega) (by omega), h3 12 (by omega) (by omega) (by omega) (by omega) (by omega) (by omega) (by omega)]
  exact h
/-- without changes -/
theorem CR.nil {σ σ' : St} {w : Nat} {F F' : Nat → Int32} (h : F 10 = nI 0) (hc : CR σ w F) (h1 : gf σ' (w + 12) 3 = gf σ (w + 12) 3) (h2 : F' 10 = F 10) : CR σ' w F' := by
  obtain ⟨k, a1, a2, a3, a4⟩ := hc
  obtain rfl : k = 0 := (nI_eq (by omega) (by omega)).mp (a3.symm.trans h)
  exact ⟨0, by omega, h1.trans a2, h2.trans a3, fun j hj => absurd hj (by omega)⟩
/-! tables of the draft -/
theorem tb17 : TB4 17 6 9 := by unfold TB4; decide
theorem tb19 : TB4 19 2 4 := by unfold TB4; decide
theorem tb21 : TB4 21 4 8 := by unfold TB4; decide
theorem tb23 : TB4 23 2 4 := by unfold TB4; decide
theorem tb25 : TB4 25 1 5 := by unfold TB4; decide
/-! ===== behind a FAULT ===== -/
theorem is0_bad {τ : St} {z : Nat} (hz : z < 21) (h : ¬ gf τ 58 12 = 0) : f_X12_takes z τ = some (0, τ) := by
  unfold f_X12_takes f_X12_takes_14
  rw [isS_t hz, gd_tt, S_isF hz h, bd_mk, if_pos rfl, bz_0, gd_tt]
theorem needs_bad {τ : St} {z : Nat} (hz : z < 21) (h : ¬ gf τ 58 12 = 0) : f_X12_needs z τ = some ((), τ) := by
  unfold f_X12_needs f_X12_needs_13
  rw [isS_t hz, gd_tt, is0_bad hz h, bd_mk, if_pos rfl, errs_bad _ h, bd_mk]
theorem told_bad {τ : St} {z : Nat} (lo hi : Int32) (hz : z < 21) (h : ¬ gf τ 58 12 = 0) : f_X12_told z lo hi τ = some (0, τ) := by
  unfold f_X12_told
  rw [isS_t hz, gd_tt, needs_bad hz h, bd_mk, num_bad lo hi h, bd_mk]
theorem T_word {σ τ : St} {n z : Nat} (hz : z < 21) (hL : LX σ n) (hB : BD σ τ) : ∃ σ', f_X6_word z σ = some ((), σ') ∧ LX σ' n ∧ BD σ' τ ∧ Fr [29] σ σ' := by
  obtain ⟨σ', τ', a1, a2, a3, a4, a5, a6⟩ := R_word (τ := τ) hz ⟨hL, Or.inr hB⟩
  rw [needs_bad hz hB.notM] at a2
  cases a2
  rcases a3.2 with c | c
  · exact absurd c.okM.2 hB.notM
  · exact ⟨σ', a1, a3.1, c, a5⟩
theorem BD.mv {σ σ' τ : St} {l : List Nat} (h : BD σ τ) (hf : Fr l σ σ') (a : 29 ∉ l) : BD σ' τ := by
  unfold BD at *
  rw [(hf.1 29 a).1]
  exact h
theorem LX.mv {σ σ' : St} {n : Nat} {l : List Nat} (h : LX σ n) (hf : Fr l σ σ') (a : 29 ∉ l) : LX σ' n := by
  unfold LX at *
  rw [(hf.1 29 a).1]
  exact h
theorem T_cell {t wd room k c n : Nat} {σ τ : St} (hT : TB4 t wd room) (hk : k < room) (hc : c < wd) (lo hi : Int32) (h : gf σ t 3 = nI (k + 1)) (hL : LX σ n) (hB : BD σ τ) : ∃ σ', f_X6_cell t (nI c) lo hi σ = some ((), σ') ∧ LX σ' n ∧ BD σ' τ ∧ Fr [29, t + 1] σ σ' ∧ gf σ' t 3 = nI (k + 1) := by
  have hne0 : t ≠ 29 := hT.2.2.2.2.2.2.2.2.2.2.1
  have hne : t + 1 ≠ 29 := hT.2.2.2.2.2.2.2.2.2.2.2.1
  obtain ⟨r, s2, a1, a2, a3, a4, -⟩ := T_num (τ := τ) lo hi hL hB
  have h2 : gf s2 t 3 = nI (k + 1) := by rw [(a4.1 t (by simp; omega)).1]; exact h
  have hF : Fr [t + 1] s2 (sr s2 (t + 1) (k * wd + c) r) := Fr.c2 (by simp)
  refine ⟨sr s2 (t + 1) (k * wd + c) r, ?_, a2.mv hF (by simp; omega), a3.mv hF (by simp; omega), (a4.mo (by simp)).tr (hF.mo (by simp)), h2⟩
  unfold f_X6_cell
  rw [hT.isT σ, gd_tt, a1, bd_mk, h, S_set hT hk hc r h2, bd_mk]
theorem T_wcell {t wd room k c n z : Nat} {σ τ : St} (hT : TB4 t wd room) (hk : k < room) (hc : c < wd) (hz : z < 21) (lo hi : Int32) (h : gf σ t 3 = nI (k + 1)) (hL : LX σ n) (hB : BD σ τ) : ∃ σ1 σ', f_X6_word z σ = some ((), σ1) ∧ f_X6_cell t (nI c) lo hi σ1 = some ((), σ') ∧ LX σ' n ∧ BD σ' τ ∧ Fr [29, t + 1] σ σ' ∧ gf σ' t 3 = nI (k + 1) := by
  have hne0 : t ≠ 29 := hT.2.2.2.2.2.2.2.2.2.2.1
  obtain ⟨σ1, a1, a2, a3, a4⟩ := T_word hz hL hB
  obtain ⟨σ', b1, b2', b3, b4, b5⟩ := T_cell hT hk hc lo hi (by rw [(a4.1 t (by simp; omega)).1]; exact h) a2 a3
  exact ⟨σ1, σ', a1, b1, b2', b3, (a4.mo (by simp)).tr b4, b5⟩
/-- a table's beginning when it is full: a FAULT of both -/
theorem R_over {t wd room n : Nat} {σ τ : St} (hT : TB4 t wd room) (h : gf σ t 3 = nI room) (hR : RP σ τ n) : ∃ σ' τ', f_X6_begin t σ = some ((), σ') ∧ f_X12_errs (3 : Int32) τ = some ((), τ') ∧ LX σ' n ∧ BD σ' τ' ∧ Fr [29] σ σ' ∧ OM τ τ' := by
  obtain ⟨σ', τ', a1, a2, a3, a4, a5, a6⟩ := R_blame 3 ⟨by omega, by omega⟩ hR
  refine ⟨σ', τ', ?_, a2, a3.1, ?_, a5, a6⟩
  · unfold f_X6_begin
    rw [hT.isT σ, gd_tt, S_full hT (Nat.le_refl _) h, bd_mk, b2_t rfl, if_neg n10, show f_X6_blame (3 : Int32) σ = some ((), σ') from a1, bd_mk]
  · rcases a3.2 with c | c
    · exact absurd c.okM.1 a4
    · exact c
/-- a told number whose bounds are the same without a FAULT -/
theorem R_told2 {σ τ : St} {n z : Nat} (lo hi lo' hi' : Int32) (hz : z < 21) (hs : ok σ → lo = lo' ∧ hi = hi' ∧ 0 ≤ lo.toInt ∧ hi.toInt ≤ 999) (h : RP σ τ n) : ∃ r r' σ1 σ' τ', f_X6_word z σ = some ((), σ1) ∧ f_X6_number lo hi σ1 = some (r, σ') ∧ f_X12_told z lo' hi' τ = some (r', τ') ∧ RP σ' τ' n ∧ PG σ σ' ∧ Fr [29] σ σ1 ∧ Fr [29] σ σ' ∧ OM τ τ' ∧ (ok σ' → r = r' ∧ lo.toInt ≤ r.toInt ∧ r.toInt ≤ hi.toInt) ∧ (r = 0 ∨ (lo.toInt ≤ r.toInt ∧ r.toInt ≤ hi.toInt)) := by
  rcases h.2 with hG | hB
  · obtain ⟨rfl, rfl, h1, h2⟩ := hs hG.okM.1
    obtain ⟨r, r', σ1, σ', τ', a1, a2, a3, a4, a5, a6, a7, a8, a9, a10, a11⟩ := R_told lo hi hz h1 h2 h
    exact ⟨r, r', σ1, σ', τ', a1, a2, a3, a4, a5, a6, a7, a8, a9, a10⟩
  · obtain ⟨σ1, a1, a2, a3, a4⟩ := T_word hz h.1 hB
    obtain ⟨r, σ', b1, b2', b3, b4, b5⟩ := T_num (τ := τ) lo hi a2 a3
    exact ⟨r, 0, σ1, σ', τ, a1, b1, told_bad lo' hi' hz hB.notM, ⟨b2', Or.inr b3⟩, fun o => absurd o b3.not, a4, a4.tr b4, OM.rf, fun o => absurd o b3.not, b5⟩
/-! ===== LINES ===== -/
/-- the objects that the class's reader may change -/
abbrev RD : List Nat := [16, 17, 18, 19, 20, 21, 22, 23, 24, 25, 26, 27, 28, 29]
/-- behind a LINE (ahead of its sign) -/
def DI (σ τ : St) (n : Nat) : Prop := RP σ τ n ∧ SZ σ 15 ∧ SM (gr τ 64) ∧ (ok σ → WR σ 15 (gr τ 64) ∧ gr τ 64 10 = nI 0)
theorem SZ.mv {σ σ' : St} {w : Nat} {l : List Nat} (h : SZ σ w) (hf : Fr l σ σ') (h0 : w ∉ l) (h2 : w + 2 ∉ l) (h4 : w + 4 ∉ l) (h6 : w + 6 ∉ l) (h8 : w + 8 ∉ l) (h10 : w + 10 ∉ l) (h12 : w + 12 ∉ l) : SZ σ' w := by
  unfold SZ at *
  rw [(hf.1 _ h0).1, (hf.1 _ h2).1, (hf.1 _ h4).1, (hf.1 _ h6).1, (hf.1 _ h8).1, (hf.1 _ h10).1, (hf.1 _ h12).1]
  exact h
theorem SM.mv {F F' : Nat → Int32} (h : SM F) (h4 : F' 4 = F 4) (h5 : F' 5 = F 5) (h6 : F' 6 = F 6) (h7 : F' 7 = F 7) (h8 : F' 8 = F 8) : SM F' := by
  unfold SM at *
  rw [h4, h5, h6, h7, h8]
  exact h
theorem i64 {j : Nat} (h : j < 240) : inb (nI j) (ln 64) = true := inb_nI h (by decide)
set_option maxHeartbeats 4000000 in
theorem R_readTrain {σ τ : St} {n k : Nat} (hk : k < 9) (hk1 : gf σ 17 3 = nI k) (hL : LX σ n) (hG : GD σ τ n) (hSZ : SZ σ 15) (hW : WR σ 15 (gr τ 64)) (h10 : gr τ 64 10 = nI 0) : ∃ σ' τ1 τ', f_X6_readTrain σ = some ((), σ') ∧ f_X12_advance τ = some ((), τ1) ∧ f_X12_readTrain τ1 = some ((), τ') ∧ DI σ' τ' n ∧ PG σ σ' ∧ Fr RD σ σ' ∧ OF τ τ' := by
  obtain ⟨hH, hT, hE, hA, hU, hY, hS1, hS2, hS3, hC⟩ := hW
  have hF4 : gr τ 64 4 = nI k := by
    obtain ⟨k', b1, b2', b3, -⟩ := hT
    obtain rfl : k = k' := (nI_eq (by omega) (by omega)).mp (hk1.symm.trans b2')
    exact b3
  obtain ⟨σ1, τ1, a1, a2, a3, a4, a5, a6, a6b, a7⟩ := R_begin tb17 hk hk1 hL hG
  have f1 : gr τ1 64 = gr τ 64 := a7.r64
  obtain ⟨X, hX⟩ : ∃ X, X = 13 + 6 * k := ⟨_, rfl⟩
  obtain ⟨r0, σ2, u0, c0_1, c0_2, c0_3, c0_4, c0_6, c0_7, c0_8, c0_9, c0_10, c0_11⟩ := R_col (c := 0) (X := X + 0) tb17 hk (by omega) (by omega) (0 : Int32) (1 : Int32) (by decide) (by decide) a5 a3
  have s2 : gf σ2 17 3 = nI (k + 1) := by rw [(c0_6.1 17 (by decide)).1]; exact a5
  obtain ⟨r1, w1, σ3, u1, c1_0, c1_1, c1_2, c1_3, c1_4, c1_5, c1_6, c1_7, c1_8, c1_9, c1_10, c1_11⟩ := R_wcol (c := 1) (X := X + 1) (z := 11) tb17 hk (by omega) (by omega) (by decide) (1 : Int32) (99 : Int32) (by decide) (by decide) s2 c0_3
  have s3 : gf σ3 17 3 = nI (k + 1) := by rw [(c1_6.1 17 (by decide)).1]; exact s2
  obtain ⟨r2, w2, σ4, u2, c2_0, c2_1, c2_2, c2_3, c2_4, c2_5, c2_6, c2_7, c2_8, c2_9, c2_10, c2_11⟩ := R_wcol (c := 2) (X := X + 2) (z := 12) tb17 hk (by omega) (by omega) (by decide) (0 : Int32) (59 : Int32) (by decide) (by decide) s3 c1_3
  have s4 : gf σ4 17 3 = nI (k + 1) := by rw [(c2_6.1 17 (by decide)).1]; exact s3
  obtain ⟨r3, w3, σ5, u3, c3_0, c3_1, c3_2, c3_3, c3_4, c3_5, c3_6, c3_7, c3_8, c3_9, c3_10, c3_11⟩ := R_wcol (c := 3) (X := X + 3) (z := 13) tb17 hk (by omega) (by omega) (by decide) (0 : Int32) (100 : Int32) (by decide) (by decide) s4 c2_3
  have s5 : gf σ5 17 3 = nI (k + 1) := by rw [(c3_6.1 17 (by decide)).1]; exact s4
  obtain ⟨r4, w4, σ6, u4, c4_0, c4_1, c4_2, c4_3, c4_4, c4_5, c4_6, c4_7, c4_8, c4_9, c4_10, c4_11⟩ := R_wcol (c := 4) (X := X + 4) (z := 14) tb17 hk (by omega) (by omega) (by decide) (1 : Int32) (30 : Int32) (by decide) (by decide) s5 c3_3
  have s6 : gf σ6 17 3 = nI (k + 1) := by rw [(c4_6.1 17 (by decide)).1]; exact s5
  obtain ⟨r5, w5, σ7, u5, c5_0, c5_1, c5_2, c5_3, c5_4, c5_5, c5_6, c5_7, c5_8, c5_9, c5_10, c5_11⟩ := R_wcol (c := 5) (X := X + 5) (z := 15) tb17 hk (by omega) (by omega) (by decide) (0 : Int32) (999 : Int32) (by decide) (by decide) s6 c4_3
  have s7 : gf σ7 17 3 = nI (k + 1) := by rw [(c5_6.1 17 (by decide)).1]; exact s6
  have g4 : gr (sr u5 64 (X + 5) r5) 64 4 = nI k := by rw [c5_9 4 (by omega), c4_9 4 (by omega), c3_9 4 (by omega), c2_9 4 (by omega), c1_9 4 (by omega), c0_9 4 (by omega), f1]; exact hF4
  have hFr : Fr [29, 17, 18] σ σ7 := (((((((a6.mo (by simp) : Fr [29, 17, 18] σ σ1).tr (c0_6.mo (by simp))).tr (c1_6.mo (by simp))).tr (c2_6.mo (by simp))).tr (c3_6.mo (by simp))).tr (c4_6.mo (by simp))).tr (c5_6.mo (by simp)))
  have hPG : PG σ σ7 := ((((((a4.tr c0_4).tr c1_4).tr c2_4).tr c3_4).tr c4_4).tr c5_4)
  have hOF : OF τ (sr (sr u5 64 (X + 5) r5) 64 4 (nI (k + 1))) := ((((((a7.of.tr c0_7).tr c1_7).tr c2_7).tr c3_7).tr c4_7).tr c5_7).tr OF.s64
  have hRP : RP σ7 (sr (sr u5 64 (X + 5) r5) 64 4 (nI (k + 1))) n := RP.mv c5_3 (Fr.rf (l := [])) (Fr.c2 (l := [64]) (by simp)) (by simp) (by simp) (by simp) (by simp)
  have hO : ∀ j, j ≠ 4 → (j < X ∨ X + 6 ≤ j) → gr (sr (sr u5 64 (X + 5) r5) 64 4 (nI (k + 1))) 64 j = gr τ 64 j := fun j h1 h2 => by
    rw [gr_sr_s, if_neg h1, c5_9 j (by omega), c4_9 j (by omega), c3_9 j (by omega), c2_9 j (by omega), c1_9 j (by omega), c0_9 j (by omega), f1]
  have hOc : ∀ j, (j < k * 6 ∨ k * 6 + 6 ≤ j) → gr σ7 18 j = gr σ 18 j := fun j h1 => by
    rw [c5_8 j (by omega), c4_8 j (by omega), c3_8 j (by omega), c2_8 j (by omega), c1_8 j (by omega), c0_8 j (by omega), (a6.1 18 (by decide)).2.1]
  refine ⟨σ7, τ1, sr (sr u5 64 (X + 5) r5) 64 4 (nI (k + 1)), ?_, a2, ?_, ⟨hRP, ?_, ?_, fun o => ⟨?_, ?_⟩⟩, hPG, hFr.mo (by simp), hOF⟩
  · unfold f_X6_readTrain
    rw [a1, bd_mk, show f_X6_cell 17 (0 : Int32) (0 : Int32) (1 : Int32) σ1 = some ((), σ2) from c0_1, bd_mk, c1_0, bd_mk, show f_X6_cell 17 (1 : Int32) (1 : Int32) (99 : Int32) w1 = some ((), σ3) from c1_1, bd_mk, c2_0, bd_mk, show f_X6_cell 17 (2 : Int32) (0 : Int32) (59 : Int32) w2 = some ((), σ4) from c2_1, bd_mk, c3_0, bd_mk, show f_X6_cell 17 (3 : Int32) (0 : Int32) (100 : Int32) w3 = some ((), σ5) from c3_1, bd_mk, c4_0, bd_mk, show f_X6_cell 17 (4 : Int32) (1 : Int32) (30 : Int32) w4 = some ((), σ6) from c4_1, bd_mk, c5_0, bd_mk, show f_X6_cell 17 (5 : Int32) (0 : Int32) (999 : Int32) w5 = some ((), σ7) from c5_1, bd_mk]
  · unfold f_X12_readTrain
    have hx : (13 : Int32) + (6 : Int32) * gr τ1 64 (4 : Int32).toNatClampNeg = nI X := by
      have e : gr τ1 64 (4 : Int32).toNatClampNeg = nI k := by
        show gr τ1 64 4 = nI k
        rw [f1]
        exact hF4
      rw [e, hX, show (13 : Int32) = nI 13 from rfl, show (6 : Int32) = nI 6 from rfl, nI_mul, nI_add]
    rw [show inb (4 : Int32) (ln 64) = true from rfl, gd_tt, bnd_mk, hx, c0_2, bd_mk, show nI X + (0 : Int32) = nI (X + 0) from nI_add X 0, i64 (show X + 0 < 240 by omega), gd_tt, bnd_mk, nI_clamp (show X + 0 < 2 ^ 31 by omega), c1_2, bd_mk, show nI X + (1 : Int32) = nI (X + 1) from nI_add X 1, i64 (show X + 1 < 240 by omega), gd_tt, bnd_mk, nI_clamp (show X + 1 < 2 ^ 31 by omega), c2_2, bd_mk, show nI X + (2 : Int32) = nI (X + 2) from nI_add X 2, i64 (show X + 2 < 240 by omega), gd_tt, bnd_mk, nI_clamp (show X + 2 < 2 ^ 31 by omega), c3_2, bd_mk, show nI X + (3 : Int32) = nI (X + 3) from nI_add X 3, i64 (show X + 3 < 240 by omega), gd_tt, bnd_mk, nI_clamp (show X + 3 < 2 ^ 31 by omega), c4_2, bd_mk, show nI X + (4 : Int32) = nI (X + 4) from nI_add X 4, i64 (show X + 4 < 240 by omega), gd_tt, bnd_mk, nI_clamp (show X + 4 < 2 ^ 31 by omega), c5_2, bd_mk, show nI X + (5 : Int32) = nI (X + 5) from nI_add X 5, i64 (show X + 5 < 240 by omega), gd_tt, bnd_mk, nI_clamp (show X + 5 < 2 ^ 31 by omega), gd_tt, gd_tt, bnd_mk, show gr (sr u5 64 (X + 5) r5) 64 (4 : Int32).toNatClampNeg = nI k from g4, nI_1]
    rfl
  · obtain ⟨z1, z2, z3, z4, z5, z6, z7⟩ := hSZ
    exact ⟨by rw [(hFr.1 15 (by decide)).1]; exact z1, ⟨k + 1, by omega, s7⟩, by rw [(hFr.1 19 (by decide)).1]; exact z3, by rw [(hFr.1 21 (by decide)).1]; exact z4, by rw [(hFr.1 23 (by decide)).1]; exact z5, by rw [(hFr.1 25 (by decide)).1]; exact z6, by rw [(hFr.1 27 (by decide)).1]; exact z7⟩
  · exact ⟨⟨k + 1, by omega, by rw [gr_sr_s, if_pos rfl]⟩, by rw [hO 5 (by omega) (by omega)]; obtain ⟨q, q1, -, q3, -⟩ := hE; exact ⟨q, q1, q3⟩, by rw [hO 6 (by omega) (by omega)]; obtain ⟨q, q1, -, q3, -⟩ := hA; exact ⟨q, q1, q3⟩, by rw [hO 7 (by omega) (by omega)]; obtain ⟨q, q1, -, q3, -⟩ := hU; exact ⟨q, q1, q3⟩, by rw [hO 8 (by omega) (by omega)]; obtain ⟨q, q1, -, q3, -⟩ := hY; exact ⟨q, q1, q3⟩⟩
  · have o7 : ok σ7 := o
    have o6 : ok σ6 := (c5_4 o7).1
    have o5 : ok σ5 := (c4_4 o6).1
    have o4 : ok σ4 := (c3_4 o5).1
    have o3 : ok σ3 := (c2_4 o4).1
    have o2 : ok σ2 := (c1_4 o3).1
    have hH2 : HD σ7 15 (gr (sr (sr u5 64 (X + 5) r5) 64 4 (nI (k + 1))) 64) := hH.mv (fun j _ => by rw [(hFr.1 15 (by decide)).1]) (fun j _ => by rw [(hFr.1 16 (by decide)).2.1]) (fun j h1 h4 h5 h6 h7 h8 h9 => hO j (by omega) (by omega))
    have hT2 := hT.ad (σ' := σ7) (F' := gr (sr (sr u5 64 (X + 5) r5) 64 4 (nI (k + 1))) 64) hk1 hk (by decide) s7 (fun j hj => hOc j (by omega)) (by rw [gr_sr_s, if_pos rfl]) (fun j h1 h2 => hO j (by omega) (by omega)) (fun c hc => ?_)
    have hE2 := hE.mv (σ' := σ7) (F' := gr (sr (sr u5 64 (X + 5) r5) 64 4 (nI (k + 1))) 64) (by rw [(hFr.1 19 (by decide)).1]) (fun j _ => by rw [(hFr.1 20 (by decide)).2.1]) (hO 5 (by omega) (by omega)) (fun j h1 h2 => hO j (by omega) (by omega))
    have hA2 := hA.mv (σ' := σ7) (F' := gr (sr (sr u5 64 (X + 5) r5) 64 4 (nI (k + 1))) 64) (by rw [(hFr.1 21 (by decide)).1]) (fun j _ => by rw [(hFr.1 22 (by decide)).2.1]) (hO 6 (by omega) (by omega)) (fun j h1 h2 => hO j (by omega) (by omega))
    have hU2 := hU.mv (σ' := σ7) (F' := gr (sr (sr u5 64 (X + 5) r5) 64 4 (nI (k + 1))) 64) (by rw [(hFr.1 23 (by decide)).1]) (fun j _ => by rw [(hFr.1 24 (by decide)).2.1]) (hO 7 (by omega) (by omega)) (fun j h1 h2 => hO j (by omega) (by omega))
    have hY2 := hY.mv (σ' := σ7) (F' := gr (sr (sr u5 64 (X + 5) r5) 64 4 (nI (k + 1))) 64) (by rw [(hFr.1 25 (by decide)).1]) (fun j _ => by rw [(hFr.1 26 (by decide)).2.1]) (hO 8 (by omega) (by omega)) (fun j h1 h2 => hO j (by omega) (by omega))
    · refine ⟨hH2, hT2, hE2, hA2, hU2, hY2, ?_, ?_, ?_, CR.nil h10 hC (by rw [(hFr.1 27 (by decide)).1]) (hO 10 (by omega) (by omega))⟩
      · intro q q1 q2 i hi
        rw [hO 5 (by omega) (by omega)] at q1
        rw [hO _ (by omega) (by omega), hO _ (by omega) (by omega)]
        exact hS1 q q1 q2 i hi
      · intro q q1 q2 i hi
        rw [hO 7 (by omega) (by omega)] at q1
        rw [hO _ (by omega) (by omega), hO _ (by omega) (by omega)]
        exact hS2 q q1 q2 i hi
      · intro q m q1 q2 m1 m2 i hi
        rw [hO 8 (by omega) (by omega)] at q1
        rw [gr_sr_s, if_pos rfl] at m1
        obtain rfl : k + 1 = m := (nI_eq (by omega) (by omega)).mp m1
        rw [hO _ (by omega) (by omega)]
        have := hS3 q k q1 q2 hF4 (by omega) i hi
        have h2 : (2 : Int) ^ (k + 1) = 2 ^ k * 2 := Int.pow_succ 2 k
        have h3 : (0 : Int) < 2 ^ k := Int.pow_pos (by decide)
        omega
    · rcases (show c = 0 ∨ c = 1 ∨ c = 2 ∨ c = 3 ∨ c = 4 ∨ c = 5 by omega) with rfl | rfl | rfl | rfl | rfl | rfl
      · have hv := c0_10 o2
        have e1 : gr σ7 18 (k * 6 + 0) = gr σ2 18 (k * 6 + 0) := by rw [c5_8 _ (by omega), c4_8 _ (by omega), c3_8 _ (by omega), c2_8 _ (by omega), c1_8 _ (by omega)]
        have e2 : gr (sr (sr u5 64 (X + 5) r5) 64 4 (nI (k + 1))) 64 (13 + 6 * k + 0) = gr (sr u0 64 (X + 0) r0) 64 (X + 0) := by
          rw [← hX, gr_sr_s, if_neg (by omega), c5_9 _ (by omega), c4_9 _ (by omega), c3_9 _ (by omega), c2_9 _ (by omega), c1_9 _ (by omega)]
        rw [e1, e2]
        exact hv
      · have hv := c1_10 o3
        have e1 : gr σ7 18 (k * 6 + 1) = gr σ3 18 (k * 6 + 1) := by rw [c5_8 _ (by omega), c4_8 _ (by omega), c3_8 _ (by omega), c2_8 _ (by omega)]
        have e2 : gr (sr (sr u5 64 (X + 5) r5) 64 4 (nI (k + 1))) 64 (13 + 6 * k + 1) = gr (sr u1 64 (X + 1) r1) 64 (X + 1) := by
          rw [← hX, gr_sr_s, if_neg (by omega), c5_9 _ (by omega), c4_9 _ (by omega), c3_9 _ (by omega), c2_9 _ (by omega)]
        rw [e1, e2]
        exact hv
      · have hv := c2_10 o4
        have e1 : gr σ7 18 (k * 6 + 2) = gr σ4 18 (k * 6 + 2) := by rw [c5_8 _ (by omega), c4_8 _ (by omega), c3_8 _ (by omega)]
        have e2 : gr (sr (sr u5 64 (X + 5) r5) 64 4 (nI (k + 1))) 64 (13 + 6 * k + 2) = gr (sr u2 64 (X + 2) r2) 64 (X + 2) := by
          rw [← hX, gr_sr_s, if_neg (by omega), c5_9 _ (by omega), c4_9 _ (by omega), c3_9 _ (by omega)]
        rw [e1, e2]
        exact hv
      · have hv := c3_10 o5
        have e1 : gr σ7 18 (k * 6 + 3) = gr σ5 18 (k * 6 + 3) := by rw [c5_8 _ (by omega), c4_8 _ (by omega)]
        have e2 : gr (sr (sr u5 64 (X + 5) r5) 64 4 (nI (k + 1))) 64 (13 + 6 * k + 3) = gr (sr u3 64 (X + 3) r3) 64 (X + 3) := by
          rw [← hX, gr_sr_s, if_neg (by omega), c5_9 _ (by omega), c4_9 _ (by omega)]
        rw [e1, e2]
        exact hv
      · have hv := c4_10 o6
        have e1 : gr σ7 18 (k * 6 + 4) = gr σ6 18 (k * 6 + 4) := by rw [c5_8 _ (by omega)]
        have e2 : gr (sr (sr u5 64 (X + 5) r5) 64 4 (nI (k + 1))) 64 (13 + 6 * k + 4) = gr (sr u4 64 (X + 4) r4) 64 (X + 4) := by
          rw [← hX, gr_sr_s, if_neg (by omega), c5_9 _ (by omega)]
        rw [e1, e2]
        exact hv
      · have hv := c5_10 o7
        have e1 : gr σ7 18 (k * 6 + 5) = gr σ7 18 (k * 6 + 5) := by rfl
        have e2 : gr (sr (sr u5 64 (X + 5) r5) 64 4 (nI (k + 1))) 64 (13 + 6 * k + 5) = gr (sr u5 64 (X + 5) r5) 64 (X + 5) := by
          rw [← hX, gr_sr_s, if_neg (by omega)]
        rw [e1, e2]
        exact hv
  · rw [hO 10 (by omega) (by omega)]
    exact h10
theorem T_readTrain {σ τ : St} {n : Nat} (hk1 : gf σ 17 3 = nI 9) (hR : RP σ τ n) (hSZ : SZ σ 15) : ∃ σ' τ', f_X6_readTrain σ = some ((), σ') ∧ f_X12_errs (3 : Int32) τ = some ((), τ') ∧ RP σ' τ' n ∧ ¬ ok σ' ∧ SZ σ' 15 ∧ Fr RD σ σ' ∧ OM τ τ' := by
  obtain ⟨σ1, τ1, a1, a2, a3, a4, a5, a6⟩ := R_over tb17 hk1 hR
  have s1 : gf σ1 17 3 = nI (8 + 1) := by rw [(a5.1 17 (by decide)).1]; exact hk1
  obtain ⟨σ2, c0_1, c0_2, c0_3, c0_4, s2⟩ := T_cell (k := 8) (c := 0) tb17 (by decide) (by decide) (0 : Int32) (1 : Int32) s1 a3 a4
  obtain ⟨w1, σ3, c1_0, c1_1, c1_2, c1_3, c1_4, s3⟩ := T_wcell (k := 8) (c := 1) (z := 11) tb17 (by decide) (by decide) (by decide) (1 : Int32) (99 : Int32) s2 c0_2 c0_3
  obtain ⟨w2, σ4, c2_0, c2_1, c2_2, c2_3, c2_4, s4⟩ := T_wcell (k := 8) (c := 2) (z := 12) tb17 (by decide) (by decide) (by decide) (0 : Int32) (59 : Int32) s3 c1_2 c1_3
  obtain ⟨w3, σ5, c3_0, c3_1, c3_2, c3_3, c3_4, s5⟩ := T_wcell (k := 8) (c := 3) (z := 13) tb17 (by decide) (by decide) (by decide) (0 : Int32) (100 : Int32) s4 c2_2 c2_3
  obtain ⟨w4, σ6, c4_0, c4_1, c4_2, c4_3, c4_4, s6⟩ := T_wcell (k := 8) (c := 4) (z := 14) tb17 (by decide) (by decide) (by decide) (1 : Int32) (30 : Int32) s5 c3_2 c3_3
  obtain ⟨w5, σ7, c5_0, c5_1, c5_2, c5_3, c5_4, s7⟩ := T_wcell (k := 8) (c := 5) (z := 15) tb17 (by decide) (by decide) (by decide) (0 : Int32) (999 : Int32) s6 c4_2 c4_3
  have hFr : Fr [29, 18] σ σ7 := (((((((a5.mo (by simp) : Fr [29, 18] σ σ1).tr c0_4).tr c1_4).tr c2_4).tr c3_4).tr c4_4).tr c5_4)
  refine ⟨σ7, τ1, ?_, a2, ⟨c5_2, Or.inr c5_3⟩, c5_3.not, hSZ.mv hFr (by decide) (by decide) (by decide) (by decide) (by decide) (by decide) (by decide), hFr.mo (by simp), a6⟩
  unfold f_X6_readTrain
  rw [a1, bd_mk, show f_X6_cell 17 (0 : Int32) (0 : Int32) (1 : Int32) σ1 = some ((), σ2) from c0_1, bd_mk, c1_0, bd_mk, show f_X6_cell 17 (1 : Int32) (1 : Int32) (99 : Int32) w1 = some ((), σ3) from c1_1, bd_mk, c2_0, bd_mk, show f_X6_cell 17 (2 : Int32) (0 : Int32) (59 : Int32) w2 = some ((), σ4) from c2_1, bd_mk, c3_0, bd_mk, show f_X6_cell 17 (3 : Int32) (0 : Int32) (100 : Int32) w3 = some ((), σ5) from c3_1, bd_mk, c4_0, bd_mk, show f_X6_cell 17 (4 : Int32) (1 : Int32) (30 : Int32) w4 = some ((), σ6) from c4_1, bd_mk, c5_0, bd_mk, show f_X6_cell 17 (5 : Int32) (0 : Int32) (999 : Int32) w5 = some ((), σ7) from c5_1, bd_mk]
set_option maxHeartbeats 4000000 in
theorem R_readAsk {σ τ : St} {n k : Nat} (hk : k < 8) (hk1 : gf σ 21 3 = nI k) (hL : LX σ n) (hG : GD σ τ n) (hSZ : SZ σ 15) (hW : WR σ 15 (gr τ 64)) (h10 : gr τ 64 10 = nI 0) : ∃ σ' τ1 τ', f_X6_readAsk σ = some ((), σ') ∧ f_X12_advance τ = some ((), τ1) ∧ f_X12_readAsk τ1 = some ((), τ') ∧ DI σ' τ' n ∧ PG σ σ' ∧ Fr RD σ σ' ∧ OF τ τ' := by
  obtain ⟨hH, hT, hE, hA, hU, hY, hS1, hS2, hS3, hC⟩ := hW
  have hF4 : gr τ 64 6 = nI k := by
    obtain ⟨k', b1, b2', b3, -⟩ := hA
    obtain rfl : k = k' := (nI_eq (by omega) (by omega)).mp (hk1.symm.trans b2')
    exact b3
  obtain ⟨σ1, τ1, a1, a2, a3, a4, a5, a6, a6b, a7⟩ := R_begin tb21 hk hk1 hL hG
  have f1 : gr τ1 64 = gr τ 64 := a7.r64
  obtain ⟨X, hX⟩ : ∃ X, X = 75 + 4 * k := ⟨_, rfl⟩
  obtain ⟨r0, σ2, u0, c0_1, c0_2, c0_3, c0_4, c0_6, c0_7, c0_8, c0_9, c0_10, c0_11⟩ := R_col (c := 0) (X := X + 0) tb21 hk (by omega) (by omega) (0 : Int32) (1 : Int32) (by decide) (by decide) a5 a3
  have s2 : gf σ2 21 3 = nI (k + 1) := by rw [(c0_6.1 21 (by decide)).1]; exact a5
  obtain ⟨r1, w1, σ3, u1, c1_0, c1_1, c1_2, c1_3, c1_4, c1_5, c1_6, c1_7, c1_8, c1_9, c1_10, c1_11⟩ := R_wcol (c := 1) (X := X + 1) (z := 17) tb21 hk (by omega) (by omega) (by decide) (0 : Int32) (59 : Int32) (by decide) (by decide) s2 c0_3
  have s3 : gf σ3 21 3 = nI (k + 1) := by rw [(c1_6.1 21 (by decide)).1]; exact s2
  obtain ⟨r2, w2, σ4, u2, c2_0, c2_1, c2_2, c2_3, c2_4, c2_5, c2_6, c2_7, c2_8, c2_9, c2_10, c2_11⟩ := R_wcol (c := 2) (X := X + 2) (z := 18) tb21 hk (by omega) (by omega) (by decide) (1 : Int32) (20 : Int32) (by decide) (by decide) s3 c1_3
  have s4 : gf σ4 21 3 = nI (k + 1) := by rw [(c2_6.1 21 (by decide)).1]; exact s3
  obtain ⟨r3, w3, σ5, u3, c3_0, c3_1, c3_2, c3_3, c3_4, c3_5, c3_6, c3_7, c3_8, c3_9, c3_10, c3_11⟩ := R_wcol (c := 3) (X := X + 3) (z := 19) tb21 hk (by omega) (by omega) (by decide) (1 : Int32) (99 : Int32) (by decide) (by decide) s4 c2_3
  have s5 : gf σ5 21 3 = nI (k + 1) := by rw [(c3_6.1 21 (by decide)).1]; exact s4
  have g4 : gr (sr u3 64 (X + 3) r3) 64 6 = nI k := by rw [c3_9 6 (by omega), c2_9 6 (by omega), c1_9 6 (by omega), c0_9 6 (by omega), f1]; exact hF4
  have hFr : Fr [29, 21, 22] σ σ5 := (((((a6.mo (by simp) : Fr [29, 21, 22] σ σ1).tr (c0_6.mo (by simp))).tr (c1_6.mo (by simp))).tr (c2_6.mo (by simp))).tr (c3_6.mo (by simp)))
  have hPG : PG σ σ5 := ((((a4.tr c0_4).tr c1_4).tr c2_4).tr c3_4)
  have hOF : OF τ (sr (sr u3 64 (X + 3) r3) 64 6 (nI (k + 1))) := ((((a7.of.tr c0_7).tr c1_7).tr c2_7).tr c3_7).tr OF.s64
  have hRP : RP σ5 (sr (sr u3 64 (X + 3) r3) 64 6 (nI (k + 1))) n := RP.mv c3_3 (Fr.rf (l := [])) (Fr.c2 (l := [64]) (by simp)) (by simp) (by simp) (by simp) (by simp)
  have hO : ∀ j, j ≠ 6 → (j < X ∨ X + 4 ≤ j) → gr (sr (sr u3 64 (X + 3) r3) 64 6 (nI (k + 1))) 64 j = gr τ 64 j := fun j h1 h2 => by
    rw [gr_sr_s, if_neg h1, c3_9 j (by omega), c2_9 j (by omega), c1_9 j (by omega), c0_9 j (by omega), f1]
  have hOc : ∀ j, (j < k * 4 ∨ k * 4 + 4 ≤ j) → gr σ5 22 j = gr σ 22 j := fun j h1 => by
    rw [c3_8 j (by omega), c2_8 j (by omega), c1_8 j (by omega), c0_8 j (by omega), (a6.1 22 (by decide)).2.1]
  refine ⟨σ5, τ1, sr (sr u3 64 (X + 3) r3) 64 6 (nI (k + 1)), ?_, a2, ?_, ⟨hRP, ?_, ?_, fun o => ⟨?_, ?_⟩⟩, hPG, hFr.mo (by simp), hOF⟩
  · unfold f_X6_readAsk
    rw [a1, bd_mk, show f_X6_cell 21 (0 : Int32) (0 : Int32) (1 : Int32) σ1 = some ((), σ2) from c0_1, bd_mk, c1_0, bd_mk, show f_X6_cell 21 (1 : Int32) (0 : Int32) (59 : Int32) w1 = some ((), σ3) from c1_1, bd_mk, c2_0, bd_mk, show f_X6_cell 21 (2 : Int32) (1 : Int32) (20 : Int32) w2 = some ((), σ4) from c2_1, bd_mk, c3_0, bd_mk, show f_X6_cell 21 (3 : Int32) (1 : Int32) (99 : Int32) w3 = some ((), σ5) from c3_1, bd_mk]
  · unfold f_X12_readAsk
    have hx : (75 : Int32) + (4 : Int32) * gr τ1 64 (6 : Int32).toNatClampNeg = nI X := by
      have e : gr τ1 64 (6 : Int32).toNatClampNeg = nI k := by
        show gr τ1 64 6 = nI k
        rw [f1]
        exact hF4
      rw [e, hX, show (75 : Int32) = nI 75 from rfl, show (4 : Int32) = nI 4 from rfl, nI_mul, nI_add]
    have hX0 : nI X = nI (X + 0) := rfl
    rw [show inb (6 : Int32) (ln 64) = true from rfl, gd_tt, bnd_mk, hx, c0_2, bd_mk, show inb (nI X) (ln 64) = true from i64 (show X < 240 by omega), gd_tt, bnd_mk, show (nI X).toNatClampNeg = X + 0 from nI_clamp (show X < 2 ^ 31 by omega), c1_2, bd_mk, show nI X + (1 : Int32) = nI (X + 1) from nI_add X 1, i64 (show X + 1 < 240 by omega), gd_tt, bnd_mk, nI_clamp (show X + 1 < 2 ^ 31 by omega), c2_2, bd_mk, show nI X + (2 : Int32) = nI (X + 2) from nI_add X 2, i64 (show X + 2 < 240 by omega), gd_tt, bnd_mk, nI_clamp (show X + 2 < 2 ^ 31 by omega), c3_2, bd_mk, show nI X + (3 : Int32) = nI (X + 3) from nI_add X 3, i64 (show X + 3 < 240 by omega), gd_tt, bnd_mk, nI_clamp (show X + 3 < 2 ^ 31 by omega), gd_tt, gd_tt, bnd_mk, show gr (sr u3 64 (X + 3) r3) 64 (6 : Int32).toNatClampNeg = nI k from g4, nI_1]
    rfl
  · obtain ⟨z1, z2, z3, z4, z5, z6, z7⟩ := hSZ
    exact ⟨by rw [(hFr.1 15 (by decide)).1]; exact z1, by rw [(hFr.1 17 (by decide)).1]; exact z2, by rw [(hFr.1 19 (by decide)).1]; exact z3, ⟨k + 1, by omega, s5⟩, by rw [(hFr.1 23 (by decide)).1]; exact z5, by rw [(hFr.1 25 (by decide)).1]; exact z6, by rw [(hFr.1 27 (by decide)).1]; exact z7⟩
  · exact ⟨by rw [hO 4 (by omega) (by omega)]; obtain ⟨q, q1, -, q3, -⟩ := hT; exact ⟨q, q1, q3⟩, by rw [hO 5 (by omega) (by omega)]; obtain ⟨q, q1, -, q3, -⟩ := hE; exact ⟨q, q1, q3⟩, ⟨k + 1, by omega, by rw [gr_sr_s, if_pos rfl]⟩, by rw [hO 7 (by omega) (by omega)]; obtain ⟨q, q1, -, q3, -⟩ := hU; exact ⟨q, q1, q3⟩, by rw [hO 8 (by omega) (by omega)]; obtain ⟨q, q1, -, q3, -⟩ := hY; exact ⟨q, q1, q3⟩⟩
  · have o5 : ok σ5 := o
    have o4 : ok σ4 := (c3_4 o5).1
    have o3 : ok σ3 := (c2_4 o4).1
    have o2 : ok σ2 := (c1_4 o3).1
    have hH2 : HD σ5 15 (gr (sr (sr u3 64 (X + 3) r3) 64 6 (nI (k + 1))) 64) := hH.mv (fun j _ => by rw [(hFr.1 15 (by decide)).1]) (fun j _ => by rw [(hFr.1 16 (by decide)).2.1]) (fun j h1 h4 h5 h6 h7 h8 h9 => hO j (by omega) (by omega))
    have hT2 := hT.mv (σ' := σ5) (F' := gr (sr (sr u3 64 (X + 3) r3) 64 6 (nI (k + 1))) 64) (by rw [(hFr.1 17 (by decide)).1]) (fun j _ => by rw [(hFr.1 18 (by decide)).2.1]) (hO 4 (by omega) (by omega)) (fun j h1 h2 => hO j (by omega) (by omega))
    have hE2 := hE.mv (σ' := σ5) (F' := gr (sr (sr u3 64 (X + 3) r3) 64 6 (nI (k + 1))) 64) (by rw [(hFr.1 19 (by decide)).1]) (fun j _ => by rw [(hFr.1 20 (by decide)).2.1]) (hO 5 (by omega) (by omega)) (fun j h1 h2 => hO j (by omega) (by omega))
    have hA2 := hA.ad (σ' := σ5) (F' := gr (sr (sr u3 64 (X + 3) r3) 64 6 (nI (k + 1))) 64) hk1 hk (by decide) s5 (fun j hj => hOc j (by omega)) (by rw [gr_sr_s, if_pos rfl]) (fun j h1 h2 => hO j (by omega) (by omega)) (fun c hc => ?_)
    have hU2 := hU.mv (σ' := σ5) (F' := gr (sr (sr u3 64 (X + 3) r3) 64 6 (nI (k + 1))) 64) (by rw [(hFr.1 23 (by decide)).1]) (fun j _ => by rw [(hFr.1 24 (by decide)).2.1]) (hO 7 (by omega) (by omega)) (fun j h1 h2 => hO j (by omega) (by omega))
    have hY2 := hY.mv (σ' := σ5) (F' := gr (sr (sr u3 64 (X + 3) r3) 64 6 (nI (k + 1))) 64) (by rw [(hFr.1 25 (by decide)).1]) (fun j _ => by rw [(hFr.1 26 (by decide)).2.1]) (hO 8 (by omega) (by omega)) (fun j h1 h2 => hO j (by omega) (by omega))
    · refine ⟨hH2, hT2, hE2, hA2, hU2, hY2, ?_, ?_, ?_, CR.nil h10 hC (by rw [(hFr.1 27 (by decide)).1]) (hO 10 (by omega) (by omega))⟩
      · intro q q1 q2 i hi
        rw [hO 5 (by omega) (by omega)] at q1
        rw [hO _ (by omega) (by omega), hO _ (by omega) (by omega)]
        exact hS1 q q1 q2 i hi
      · intro q q1 q2 i hi
        rw [hO 7 (by omega) (by omega)] at q1
        rw [hO _ (by omega) (by omega), hO _ (by omega) (by omega)]
        exact hS2 q q1 q2 i hi
      · intro q m q1 q2 m1 m2 i hi
        rw [hO 8 (by omega) (by omega)] at q1
        rw [hO 4 (by omega) (by omega)] at m1
        rw [hO _ (by omega) (by omega)]
        exact hS3 q m q1 q2 m1 m2 i hi
    · rcases (show c = 0 ∨ c = 1 ∨ c = 2 ∨ c = 3 by omega) with rfl | rfl | rfl | rfl
      · have hv := c0_10 o2
        have e1 : gr σ5 22 (k * 4 + 0) = gr σ2 22 (k * 4 + 0) := by rw [c3_8 _ (by omega), c2_8 _ (by omega), c1_8 _ (by omega)]
        have e2 : gr (sr (sr u3 64 (X + 3) r3) 64 6 (nI (k + 1))) 64 (75 + 4 * k + 0) = gr (sr u0 64 (X + 0) r0) 64 (X + 0) := by
          rw [← hX, gr_sr_s, if_neg (by omega), c3_9 _ (by omega), c2_9 _ (by omega), c1_9 _ (by omega)]
        rw [e1, e2]
        exact hv
      · have hv := c1_10 o3
        have e1 : gr σ5 22 (k * 4 + 1) = gr σ3 22 (k * 4 + 1) := by rw [c3_8 _ (by omega), c2_8 _ (by omega)]
        have e2 : gr (sr (sr u3 64 (X + 3) r3) 64 6 (nI (k + 1))) 64 (75 + 4 * k + 1) = gr (sr u1 64 (X + 1) r1) 64 (X + 1) := by
          rw [← hX, gr_sr_s, if_neg (by omega), c3_9 _ (by omega), c2_9 _ (by omega)]
        rw [e1, e2]
        exact hv
      · have hv := c2_10 o4
        have e1 : gr σ5 22 (k * 4 + 2) = gr σ4 22 (k * 4 + 2) := by rw [c3_8 _ (by omega)]
        have e2 : gr (sr (sr u3 64 (X + 3) r3) 64 6 (nI (k + 1))) 64 (75 + 4 * k + 2) = gr (sr u2 64 (X + 2) r2) 64 (X + 2) := by
          rw [← hX, gr_sr_s, if_neg (by omega), c3_9 _ (by omega)]
        rw [e1, e2]
        exact hv
      · have hv := c3_10 o5
        have e1 : gr σ5 22 (k * 4 + 3) = gr σ5 22 (k * 4 + 3) := by rfl
        have e2 : gr (sr (sr u3 64 (X + 3) r3) 64 6 (nI (k + 1))) 64 (75 + 4 * k + 3) = gr (sr u3 64 (X + 3) r3) 64 (X + 3) := by
          rw [← hX, gr_sr_s, if_neg (by omega)]
        rw [e1, e2]
        exact hv
  · rw [hO 10 (by omega) (by omega)]
    exact h10
theorem T_readAsk {σ τ : St} {n : Nat} (hk1 : gf σ 21 3 = nI 8) (hR : RP σ τ n) (hSZ : SZ σ 15) : ∃ σ' τ', f_X6_readAsk σ = some ((), σ') ∧ f_X12_errs (3 : Int32) τ = some ((), τ') ∧ RP σ' τ' n ∧ ¬ ok σ' ∧ SZ σ' 15 ∧ Fr RD σ σ' ∧ OM τ τ' := by
  obtain ⟨σ1, τ1, a1, a2, a3, a4, a5, a6⟩ := R_over tb21 hk1 hR
  have s1 : gf σ1 21 3 = nI (7 + 1) := by rw [(a5.1 21 (by decide)).1]; exact hk1
  obtain ⟨σ2, c0_1, c0_2, c0_3, c0_4, s2⟩ := T_cell (k := 7) (c := 0) tb21 (by decide) (by decide) (0 : Int32) (1 : Int32) s1 a3 a4
  obtain ⟨w1, σ3, c1_0, c1_1, c1_2, c1_3, c1_4, s3⟩ := T_wcell (k := 7) (c := 1) (z := 17) tb21 (by decide) (by decide) (by decide) (0 : Int32) (59 : Int32) s2 c0_2 c0_3
  obtain ⟨w2, σ4, c2_0, c2_1, c2_2, c2_3, c2_4, s4⟩ := T_wcell (k := 7) (c := 2) (z := 18) tb21 (by decide) (by decide) (by decide) (1 : Int32) (20 : Int32) s3 c1_2 c1_3
  obtain ⟨w3, σ5, c3_0, c3_1, c3_2, c3_3, c3_4, s5⟩ := T_wcell (k := 7) (c := 3) (z := 19) tb21 (by decide) (by decide) (by decide) (1 : Int32) (99 : Int32) s4 c2_2 c2_3
  have hFr : Fr [29, 22] σ σ5 := (((((a5.mo (by simp) : Fr [29, 22] σ σ1).tr c0_4).tr c1_4).tr c2_4).tr c3_4)
  refine ⟨σ5, τ1, ?_, a2, ⟨c3_2, Or.inr c3_3⟩, c3_3.not, hSZ.mv hFr (by decide) (by decide) (by decide) (by decide) (by decide) (by decide) (by decide), hFr.mo (by simp), a6⟩
  unfold f_X6_readAsk
  rw [a1, bd_mk, show f_X6_cell 21 (0 : Int32) (0 : Int32) (1 : Int32) σ1 = some ((), σ2) from c0_1, bd_mk, c1_0, bd_mk, show f_X6_cell 21 (1 : Int32) (0 : Int32) (59 : Int32) w1 = some ((), σ3) from c1_1, bd_mk, c2_0, bd_mk, show f_X6_cell 21 (2 : Int32) (1 : Int32) (20 : Int32) w2 = some ((), σ4) from c2_1, bd_mk, c3_0, bd_mk, show f_X6_cell 21 (3 : Int32) (1 : Int32) (99 : Int32) w3 = some ((), σ5) from c3_1, bd_mk]
/-! ===== LINES of tea and rule, of need, the first ===== -/
set_option maxHeartbeats 4000000 in
theorem R_span19 {σ τ : St} {n k : Nat} (hk : k < 4) (hk1 : gf σ 19 3 = nI k) (hL : LX σ n) (hG : GD σ τ n) (hSZ : SZ σ 15) (hW : WR σ 15 (gr τ 64)) (h10 : gr τ 64 10 = nI 0) : ∃ σ' τ1 τ', f_X6_readSpan 19 σ = some ((), σ') ∧ f_X12_advance τ = some ((), τ1) ∧ f_X12_readBounds ((67 : Int32) + (2 : Int32) * gr τ1 64 (5 : Int32).toNatClampNeg) τ1 = some ((), τ') ∧ gr τ' 64 5 = nI k ∧ DI σ' (sr τ' 64 5 (nI (k + 1))) n ∧ PG σ σ' ∧ Fr RD σ σ' ∧ OF τ (sr τ' 64 5 (nI (k + 1))) := by
  obtain ⟨hH, hT, hE, hA, hU, hY, hS1, hS2, hS3, hC⟩ := hW
  have hF4 : gr τ 64 5 = nI k := by
    obtain ⟨k', b1, b2', b3, -⟩ := hE
    obtain rfl : k = k' := (nI_eq (by omega) (by omega)).mp (hk1.symm.trans b2')
    exact b3
  obtain ⟨σ1, τ1, a1, a2, a3, a4, a5, a6, a6b, a7⟩ := R_begin tb19 hk hk1 hL hG
  have f1 : gr τ1 64 = gr τ 64 := a7.r64
  obtain ⟨X, hX⟩ : ∃ X, X = 67 + 2 * k := ⟨_, rfl⟩
  obtain ⟨r0, σ2, u0, c0_1, c0_2, c0_3, c0_4, c0_6, c0_7, c0_8, c0_9, c0_10, c0_11⟩ := R_col (c := 0) (X := X) tb19 hk (by omega) (by omega) (0 : Int32) (59 : Int32) (by decide) (by decide) a5 a3
  have s2 : gf σ2 19 3 = nI (k + 1) := by rw [(c0_6.1 19 (by decide)).1]; exact a5
  -- the second bound
  have second : ∃ w1 σ3 r1 u1, f_X6_word 16 σ2 = some ((), w1) ∧ f_X9_cell 19 (gf w1 19 3 - 1) (0 : Int32) w1 = some (gr w1 20 (k * 2), w1) ∧ f_X6_cell 19 (1 : Int32) (gr w1 20 (k * 2)) (59 : Int32) w1 = some ((), σ3) ∧ f_X12_told 16 (gr (sr u0 64 X r0) 64 X) (59 : Int32) (sr u0 64 X r0) = some (r1, u1) ∧ RP σ3 (sr u1 64 (X + 1) r1) n ∧ PG σ2 σ3 ∧ Fr [29, 20] σ2 σ3 ∧ OF (sr u0 64 X r0) (sr u1 64 (X + 1) r1) ∧ (∀ j, j ≠ k * 2 + 1 → gr σ3 20 j = gr σ2 20 j) ∧ (∀ j, j ≠ X + 1 → gr (sr u1 64 (X + 1) r1) 64 j = gr (sr u0 64 X r0) 64 j) ∧ (ok σ3 → gr σ3 20 (k * 2 + 1) = gr (sr u1 64 (X + 1) r1) 64 (X + 1) ∧ (gr (sr u0 64 X r0) 64 X).toInt ≤ (gr (sr u1 64 (X + 1) r1) 64 (X + 1)).toInt ∧ (gr (sr u1 64 (X + 1) r1) 64 (X + 1)).toInt ≤ 59) := by
    have getc : ∀ w1 : St, Fr [29] σ2 w1 → f_X9_cell 19 (gf w1 19 3 - 1) (0 : Int32) w1 = some (gr w1 20 (k * 2), w1) := fun w1 hf => by
      have e : gf w1 19 3 = nI (k + 1) := by rw [(hf.1 19 (by decide)).1]; exact s2
      rw [e, nI_pred, show (0 : Int32) = nI 0 from rfl, S_getc tb19 (show k + 1 ≤ 4 by omega) (by omega) (by omega) e]
      rfl
    rcases c0_3.2 with hG2 | hB2
    · obtain ⟨b1, b2', b3⟩ := c0_10 hG2.okM.1
      have z0 : (0 : Int32).toInt = 0 := rfl
      have z59 : (59 : Int32).toInt = 59 := rfl
      obtain ⟨r1, w1, σ3, u1, d0, d1, d2, d3, d4, d5, d6, d7, d8, d9, d10, d11⟩ := R_wcol (c := 1) (X := X + 1) (z := 16) tb19 hk (by omega) (by omega) (by decide) (gr (sr u0 64 X r0) 64 X) (59 : Int32) (by omega) (by decide) s2 c0_3
      have e1 : gr w1 20 (k * 2) = gr (sr u0 64 X r0) 64 X := by
        rw [(d5.1 20 (by decide)).2.1]
        exact b1
      refine ⟨w1, σ3, r1, u1, d0, getc w1 d5, ?_, d2, d3, d4, d6, d7, d8, d9, d10⟩
      rw [e1]
      exact d1
    · obtain ⟨w1, d0, d1, d2, d3⟩ := T_word (z := 16) (by decide) c0_3.1 hB2
      have e1 : gf w1 19 3 = nI (k + 1) := by rw [(d3.1 19 (by decide)).1]; exact s2
      obtain ⟨r, s4, g1, g2, g3, g4, -⟩ := T_num (gr w1 20 (k * 2)) (59 : Int32) d1 d2
      have e2 : gf s4 19 3 = nI (k + 1) := by rw [(g4.1 19 (by decide)).1]; exact e1
      have hF : Fr [20] s4 (sr s4 20 (k * 2 + 1) r) := Fr.c2 (by simp)
      have hR : RP (sr s4 20 (k * 2 + 1) r) (sr (sr u0 64 X r0) 64 (X + 1) 0) n := RP.mv (σ := s4) (τ := sr u0 64 X r0) ⟨g2, Or.inr g3⟩ hF (Fr.c2 (l := [64]) (by simp)) (by decide) (by decide) (by decide) (by decide)
      refine ⟨w1, sr s4 20 (k * 2 + 1) r, 0, sr u0 64 X r0, d0, getc w1 d3, ?_, told_bad _ _ (by decide) hB2.notM, hR, fun o => absurd ((ok.mv hF (by decide)).mp o) g3.not, ((d3.tr g4).mo (by simp)).tr (hF.mo (by simp)), OF.s64, fun j hj => ?_, fun j hj => ?_, fun o => absurd ((ok.mv hF (by decide)).mp o) g3.not⟩
      · unfold f_X6_cell
        rw [tb19.isT w1, gd_tt, g1, bd_mk, e1]
        have := S_set (k := k) (c := 1) tb19 hk (by omega) r e2
        rw [show (1 : Int32) = nI 1 from rfl] at *
        rw [this, bd_mk]
      · rw [gr_sr_s, if_neg hj, (g4.1 20 (by decide)).2.1, (d3.1 20 (by decide)).2.1]
      · rw [gr_sr_s, if_neg hj]
  obtain ⟨w1, σ3, r1, u1, d0, dg, d1, d2, d3, d4, d6, d7, d8, d9, d10⟩ := second
  have s3 : gf σ3 19 3 = nI (k + 1) := by rw [(d6.1 19 (by decide)).1]; exact s2
  obtain ⟨τ3, hτ3⟩ : ∃ τ3, τ3 = sr u1 64 (X + 1) r1 := ⟨_, rfl⟩
  rw [← hτ3] at d3 d7 d9 d10
  have g4 : gr τ3 64 5 = nI k := by rw [d9 5 (by omega), c0_9 5 (by omega), f1]; exact hF4
  have hFr : Fr [29, 19, 20] σ σ3 := ((a6.mo (by simp) : Fr [29, 19, 20] σ σ1).tr (c0_6.mo (by simp))).tr (d6.mo (by simp))
  have hPG : PG σ σ3 := (a4.tr c0_4).tr d4
  have hOF : OF τ (sr τ3 64 5 (nI (k + 1))) := ((a7.of.tr c0_7).tr d7).tr OF.s64
  have hRP : RP σ3 (sr τ3 64 5 (nI (k + 1))) n := RP.mv d3 (Fr.rf (l := [])) (Fr.c2 (l := [64]) (by simp)) (by simp) (by simp) (by simp) (by simp)
  have hO : ∀ j, j ≠ 5 → (j < X ∨ X + 2 ≤ j) → gr (sr τ3 64 5 (nI (k + 1))) 64 j = gr τ 64 j := fun j h1 h2 => by
    rw [gr_sr_s, if_neg h1, d9 j (by omega), c0_9 j (by omega), f1]
  have hOc : ∀ j, (j < k * 2 ∨ k * 2 + 2 ≤ j) → gr σ3 20 j = gr σ 20 j := fun j h1 => by
    rw [d8 j (by omega), c0_8 j (by omega), (a6.1 20 (by decide)).2.1]
  have v1 : ok σ3 → gr σ3 20 (k * 2) = gr τ3 64 X ∧ (0 ≤ (gr τ3 64 X).toInt ∧ (gr τ3 64 X).toInt ≤ 59) ∧ (gr σ3 20 (k * 2 + 1) = gr τ3 64 (X + 1) ∧ 0 ≤ (gr τ3 64 (X + 1)).toInt ∧ (gr τ3 64 (X + 1)).toInt ≤ 59) ∧ (gr τ3 64 X).toInt ≤ (gr τ3 64 (X + 1)).toInt := fun o => by
    obtain ⟨b1, b2', b3⟩ := c0_10 (d4 o).1
    obtain ⟨q1, q2, q3⟩ := d10 o
    have z0 : (0 : Int32).toInt = 0 := rfl
    have z59 : (59 : Int32).toInt = 59 := rfl
    have eX : gr τ3 64 X = gr (sr u0 64 X r0) 64 X := d9 X (by omega)
    rw [eX, d8 (k * 2) (by omega)]
    exact ⟨b1, ⟨by omega, by omega⟩, ⟨q1, by omega, q3⟩, q2⟩
  refine ⟨σ3, τ1, τ3, ?_, a2, ?_, g4, ⟨hRP, ?_, ?_, fun o => ⟨?_, ?_⟩⟩, hPG, hFr.mo (by simp), hOF⟩
  · unfold f_X6_readSpan
    rw [tb19.isT σ, gd_tt, a1, bd_mk, show f_X6_cell 19 (0 : Int32) (0 : Int32) (59 : Int32) σ1 = some ((), σ2) from c0_1, bd_mk, d0, bd_mk, tb19.isT w1, gd_tt, dg, bd_mk, d1, bd_mk]
  · unfold f_X12_readBounds
    have hx : (67 : Int32) + (2 : Int32) * gr τ1 64 (5 : Int32).toNatClampNeg = nI X := by
      have e : gr τ1 64 (5 : Int32).toNatClampNeg = nI k := by
        show gr τ1 64 5 = nI k
        rw [f1]
        exact hF4
      rw [e, hX, show (67 : Int32) = nI 67 from rfl, show (2 : Int32) = nI 2 from rfl, nI_mul, nI_add]
    rw [hx, c0_2, bd_mk, i64 (show X < 240 by omega), gd_tt, bnd_mk, nI_clamp (show X < 2 ^ 31 by omega), gd_tt, d2, bd_mk, nI_1, i64 (show X + 1 < 240 by omega), gd_tt, bnd_mk, nI_clamp (show X + 1 < 2 ^ 31 by omega), hτ3]
  · obtain ⟨z1, z2, z3, z4, z5, z6, z7⟩ := hSZ
    exact ⟨by rw [(hFr.1 15 (by decide)).1]; exact z1, by rw [(hFr.1 17 (by decide)).1]; exact z2, ⟨k + 1, by omega, s3⟩, by rw [(hFr.1 21 (by decide)).1]; exact z4, by rw [(hFr.1 23 (by decide)).1]; exact z5, by rw [(hFr.1 25 (by decide)).1]; exact z6, by rw [(hFr.1 27 (by decide)).1]; exact z7⟩
  · exact ⟨by rw [hO 4 (by omega) (by omega)]; obtain ⟨q, q1, -, q3, -⟩ := hT; exact ⟨q, q1, q3⟩, ⟨k + 1, by omega, by rw [gr_sr_s, if_pos rfl]⟩, by rw [hO 6 (by omega) (by omega)]; obtain ⟨q, q1, -, q3, -⟩ := hA; exact ⟨q, q1, q3⟩, by rw [hO 7 (by omega) (by omega)]; obtain ⟨q, q1, -, q3, -⟩ := hU; exact ⟨q, q1, q3⟩, by rw [hO 8 (by omega) (by omega)]; obtain ⟨q, q1, -, q3, -⟩ := hY; exact ⟨q, q1, q3⟩⟩
  · have hH2 : HD σ3 15 (gr (sr τ3 64 5 (nI (k + 1))) 64) := hH.mv (fun j _ => by rw [(hFr.1 15 (by decide)).1]) (fun j _ => by rw [(hFr.1 16 (by decide)).2.1]) (fun j h1 h4 h5 h6 h7 h8 h9 => hO j (by omega) (by omega))
    have hT2 := hT.mv (σ' := σ3) (F' := gr (sr τ3 64 5 (nI (k + 1))) 64) (by rw [(hFr.1 17 (by decide)).1]) (fun j _ => by rw [(hFr.1 18 (by decide)).2.1]) (hO 4 (by omega) (by omega)) (fun j h1 h2 => hO j (by omega) (by omega))
    have hE2 := hE.ad (σ' := σ3) (F' := gr (sr τ3 64 5 (nI (k + 1))) 64) hk1 hk (by decide) s3 (fun j hj => hOc j (by omega)) (by rw [gr_sr_s, if_pos rfl]) (fun j h1 h2 => hO j (by omega) (by omega)) (fun c hc => ?_)
    have hA2 := hA.mv (σ' := σ3) (F' := gr (sr τ3 64 5 (nI (k + 1))) 64) (by rw [(hFr.1 21 (by decide)).1]) (fun j _ => by rw [(hFr.1 22 (by decide)).2.1]) (hO 6 (by omega) (by omega)) (fun j h1 h2 => hO j (by omega) (by omega))
    have hU2 := hU.mv (σ' := σ3) (F' := gr (sr τ3 64 5 (nI (k + 1))) 64) (by rw [(hFr.1 23 (by decide)).1]) (fun j _ => by rw [(hFr.1 24 (by decide)).2.1]) (hO 7 (by omega) (by omega)) (fun j h1 h2 => hO j (by omega) (by omega))
    have hY2 := hY.mv (σ' := σ3) (F' := gr (sr τ3 64 5 (nI (k + 1))) 64) (by rw [(hFr.1 25 (by decide)).1]) (fun j _ => by rw [(hFr.1 26 (by decide)).2.1]) (hO 8 (by omega) (by omega)) (fun j h1 h2 => hO j (by omega) (by omega))
    · refine ⟨hH2, hT2, hE2, hA2, hU2, hY2, ?_, ?_, ?_, CR.nil h10 hC (by rw [(hFr.1 27 (by decide)).1]) (hO 10 (by omega) (by omega))⟩
      · intro q q1 q2 i hi
        rw [gr_sr_s, if_pos rfl] at q1
        obtain rfl : k + 1 = q := (nI_eq (by omega) (by omega)).mp q1
        by_cases ei : i = k
        · subst ei
          have e1 : gr (sr τ3 64 5 (nI (i + 1))) 64 (67 + 2 * i) = gr τ3 64 X := by rw [← hX, gr_sr_s, if_neg (by omega)]
          have e2 : gr (sr τ3 64 5 (nI (i + 1))) 64 (67 + 2 * i + 1) = gr τ3 64 (X + 1) := by rw [← hX, gr_sr_s, if_neg (by omega)]
          rw [e1, e2]
          exact (v1 o).2.2.2
        · rw [hO _ (by omega) (by omega), hO _ (by omega) (by omega)]
          exact hS1 k hF4 (by omega) i (by omega)
      · intro q q1 q2 i hi
        rw [hO 7 (by omega) (by omega)] at q1
        rw [hO _ (by omega) (by omega), hO _ (by omega) (by omega)]
        exact hS2 q q1 q2 i hi
      · intro q m q1 q2 m1 m2 i hi
        rw [hO 8 (by omega) (by omega)] at q1
        rw [hO 4 (by omega) (by omega)] at m1
        rw [hO _ (by omega) (by omega)]
        exact hS3 q m q1 q2 m1 m2 i hi
    · obtain ⟨w1, w2, w3, w4⟩ := v1 o
      rcases (show c = 0 ∨ c = 1 by omega) with rfl | rfl
      · have e2 : gr (sr τ3 64 5 (nI (k + 1))) 64 (67 + 2 * k + 0) = gr τ3 64 X := by rw [← hX, gr_sr_s, if_neg (by omega)]; rfl
        rw [e2]
        exact ⟨w1, w2.1, w2.2⟩
      · have e2 : gr (sr τ3 64 5 (nI (k + 1))) 64 (67 + 2 * k + 1) = gr τ3 64 (X + 1) := by rw [← hX, gr_sr_s, if_neg (by omega)]
        rw [e2]
        exact w3
  · rw [hO 10 (by omega) (by omega)]
    exact h10
theorem T_span19 {σ τ : St} {n : Nat} (hk1 : gf σ 19 3 = nI 4) (hR : RP σ τ n) (hSZ : SZ σ 15) : ∃ σ' τ', f_X6_readSpan 19 σ = some ((), σ') ∧ f_X12_errs (3 : Int32) τ = some ((), τ') ∧ RP σ' τ' n ∧ ¬ ok σ' ∧ SZ σ' 15 ∧ Fr RD σ σ' ∧ OM τ τ' := by
  obtain ⟨σ1, τ1, a1, a2, a3, a4, a5, a6⟩ := R_over tb19 hk1 hR
  have s1 : gf σ1 19 3 = nI (3 + 1) := by rw [(a5.1 19 (by decide)).1]; exact hk1
  obtain ⟨σ2, c0_1, c0_2, c0_3, c0_4, s2⟩ := T_cell (k := 3) (c := 0) tb19 (by decide) (by decide) (0 : Int32) (59 : Int32) s1 a3 a4
  obtain ⟨w1, d0, d1, d2, d3⟩ := T_word (z := 16) (by decide) c0_2 c0_3
  have e1 : gf w1 19 3 = nI (3 + 1) := by rw [(d3.1 19 (by decide)).1]; exact s2
  have getc : f_X9_cell 19 (gf w1 19 3 - 1) (0 : Int32) w1 = some (gr w1 20 (3 * 2 + 0), w1) := by
    rw [e1, nI_pred, show (0 : Int32) = nI 0 from rfl, S_getc tb19 (show 3 + 1 ≤ 4 by omega) (by omega) (by omega) e1]
  obtain ⟨σ3, g1, g2, g3, g4, s3⟩ := T_cell (k := 3) (c := 1) tb19 (by decide) (by decide) (gr w1 20 (3 * 2 + 0)) (59 : Int32) e1 d1 d2
  have hFr : Fr [29, 20] σ σ3 := (((a5.mo (by simp) : Fr [29, 20] σ σ1).tr c0_4).tr (d3.mo (by simp))).tr g4
  refine ⟨σ3, τ1, ?_, a2, ⟨g2, Or.inr g3⟩, g3.not, hSZ.mv hFr (by decide) (by decide) (by decide) (by decide) (by decide) (by decide) (by decide), hFr.mo (by simp), a6⟩
  unfold f_X6_readSpan
  rw [tb19.isT σ, gd_tt, a1, bd_mk, show f_X6_cell 19 (0 : Int32) (0 : Int32) (59 : Int32) σ1 = some ((), σ2) from c0_1, bd_mk, d0, bd_mk, tb19.isT w1, gd_tt, getc, bd_mk, show f_X6_cell 19 (1 : Int32) (gr w1 20 (3 * 2 + 0)) (59 : Int32) w1 = some ((), σ3) from g1, bd_mk]
set_option maxHeartbeats 4000000 in
theorem R_span23 {σ τ : St} {n k : Nat} (hk : k < 4) (hk1 : gf σ 23 3 = nI k) (hL : LX σ n) (hG : GD σ τ n) (hSZ : SZ σ 15) (hW : WR σ 15 (gr τ 64)) (h10 : gr τ 64 10 = nI 0) : ∃ σ' τ1 τ', f_X6_readSpan 23 σ = some ((), σ') ∧ f_X12_advance τ = some ((), τ1) ∧ f_X12_readBounds ((107 : Int32) + (2 : Int32) * gr τ1 64 (7 : Int32).toNatClampNeg) τ1 = some ((), τ') ∧ gr τ' 64 7 = nI k ∧ DI σ' (sr τ' 64 7 (nI (k + 1))) n ∧ PG σ σ' ∧ Fr RD σ σ' ∧ OF τ (sr τ' 64 7 (nI (k + 1))) := by
  obtain ⟨hH, hT, hE, hA, hU, hY, hS1, hS2, hS3, hC⟩ := hW
  have hF4 : gr τ 64 7 = nI k := by
    obtain ⟨k', b1, b2', b3, -⟩ := hU
    obtain rfl : k = k' := (nI_eq (by omega) (by omega)).mp (hk1.symm.trans b2')
    exact b3
  obtain ⟨σ1, τ1, a1, a2, a3, a4, a5, a6, a6b, a7⟩ := R_begin tb23 hk hk1 hL hG
  have f1 : gr τ1 64 = gr τ 64 := a7.r64
  obtain ⟨X, hX⟩ : ∃ X, X = 107 + 2 * k := ⟨_, rfl⟩
  obtain ⟨r0, σ2, u0, c0_1, c0_2, c0_3, c0_4, c0_6, c0_7, c0_8, c0_9, c0_10, c0_11⟩ := R_col (c := 0) (X := X) tb23 hk (by omega) (by omega) (0 : Int32) (59 : Int32) (by decide) (by decide) a5 a3
  have s2 : gf σ2 23 3 = nI (k + 1) := by rw [(c0_6.1 23 (by decide)).1]; exact a5
  -- the second bound
  have second : ∃ w1 σ3 r1 u1, f_X6_word 16 σ2 = some ((), w1) ∧ f_X9_cell 23 (gf w1 23 3 - 1) (0 : Int32) w1 = some (gr w1 24 (k * 2), w1) ∧ f_X6_cell 23 (1 : Int32) (gr w1 24 (k * 2)) (59 : Int32) w1 = some ((), σ3) ∧ f_X12_told 16 (gr (sr u0 64 X r0) 64 X) (59 : Int32) (sr u0 64 X r0) = some (r1, u1) ∧ RP σ3 (sr u1 64 (X + 1) r1) n ∧ PG σ2 σ3 ∧ Fr [29, 24] σ2 σ3 ∧ OF (sr u0 64 X r0) (sr u1 64 (X + 1) r1) ∧ (∀ j, j ≠ k * 2 + 1 → gr σ3 24 j = gr σ2 24 j) ∧ (∀ j, j ≠ X + 1 → gr (sr u1 64 (X + 1) r1) 64 j = gr (sr u0 64 X r0) 64 j) ∧ (ok σ3 → gr σ3 24 (k * 2 + 1) = gr (sr u1 64 (X + 1) r1) 64 (X + 1) ∧ (gr (sr u0 64 X r0) 64 X).toInt ≤ (gr (sr u1 64 (X + 1) r1) 64 (X + 1)).toInt ∧ (gr (sr u1 64 (X + 1) r1) 64 (X + 1)).toInt ≤ 59) := by
    have getc : ∀ w1 : St, Fr [29] σ2 w1 → f_X9_cell 23 (gf w1 23 3 - 1) (0 : Int32) w1 = some (gr w1 24 (k * 2), w1) := fun w1 hf => by
      have e : gf w1 23 3 = nI (k + 1) := by rw [(hf.1 23 (by decide)).1]; exact s2
      rw [e, nI_pred, show (0 : Int32) = nI 0 from rfl, S_getc tb23 (show k + 1 ≤ 4 by omega) (by omega) (by omega) e]
      rfl
    rcases c0_3.2 with hG2 | hB2
    · obtain ⟨b1, b2', b3⟩ := c0_10 hG2.okM.1
      have z0 : (0 : Int32).toInt = 0 := rfl
      have z59 : (59 : Int32).toInt = 59 := rfl
      obtain ⟨r1, w1, σ3, u1, d0, d1, d2, d3, d4, d5, d6, d7, d8, d9, d10, d11⟩ := R_wcol (c := 1) (X := X + 1) (z := 16) tb23 hk (by omega) (by omega) (by decide) (gr (sr u0 64 X r0) 64 X) (59 : Int32) (by omega) (by decide) s2 c0_3
      have e1 : gr w1 24 (k * 2) = gr (sr u0 64 X r0) 64 X := by
        rw [(d5.1 24 (by decide)).2.1]
        exact b1
      refine ⟨w1, σ3, r1, u1, d0, getc w1 d5, ?_, d2, d3, d4, d6, d7, d8, d9, d10⟩
      rw [e1]
      exact d1
    · obtain ⟨w1, d0, d1, d2, d3⟩ := T_word (z := 16) (by decide) c0_3.1 hB2
      have e1 : gf w1 23 3 = nI (k + 1) := by rw [(d3.1 23 (by decide)).1]; exact s2
      obtain ⟨r, s4, g1, g2, g3, g4, -⟩ := T_num (gr w1 24 (k * 2)) (59 : Int32) d1 d2
      have e2 : gf s4 23 3 = nI (k + 1) := by rw [(g4.1 23 (by decide)).1]; exact e1
      have hF : Fr [24] s4 (sr s4 24 (k * 2 + 1) r) := Fr.c2 (by simp)
      have hR : RP (sr s4 24 (k * 2 + 1) r) (sr (sr u0 64 X r0) 64 (X + 1) 0) n := RP.mv (σ := s4) (τ := sr u0 64 X r0) ⟨g2, Or.inr g3⟩ hF (Fr.c2 (l := [64]) (by simp)) (by decide) (by decide) (by decide) (by decide)
      refine ⟨w1, sr s4 24 (k * 2 + 1) r, 0, sr u0 64 X r0, d0, getc w1 d3, ?_, told_bad _ _ (by decide) hB2.notM, hR, fun o => absurd ((ok.mv hF (by decide)).mp o) g3.not, ((d3.tr g4).mo (by simp)).tr (hF.mo (by simp)), OF.s64, fun j hj => ?_, fun j hj => ?_, fun o => absurd ((ok.mv hF (by decide)).mp o) g3.not⟩
      · unfold f_X6_cell
        rw [tb23.isT w1, gd_tt, g1, bd_mk, e1]
        have := S_set (k := k) (c := 1) tb23 hk (by omega) r e2
        rw [show (1 : Int32) = nI 1 from rfl] at *
        rw [this, bd_mk]
      · rw [gr_sr_s, if_neg hj, (g4.1 24 (by decide)).2.1, (d3.1 24 (by decide)).2.1]
      · rw [gr_sr_s, if_neg hj]
  obtain ⟨w1, σ3, r1, u1, d0, dg, d1, d2, d3, d4, d6, d7, d8, d9, d10⟩ := second
  have s3 : gf σ3 23 3 = nI (k + 1) := by rw [(d6.1 23 (by decide)).1]; exact s2
  obtain ⟨τ3, hτ3⟩ : ∃ τ3, τ3 = sr u1 64 (X + 1) r1 := ⟨_, rfl⟩
  rw [← hτ3] at d3 d7 d9 d10
  have g4 : gr τ3 64 7 = nI k := by rw [d9 7 (by omega), c0_9 7 (by omega), f1]; exact hF4
  have hFr : Fr [29, 23, 24] σ σ3 := ((a6.mo (by simp) : Fr [29, 23, 24] σ σ1).tr (c0_6.mo (by simp))).tr (d6.mo (by simp))
  have hPG : PG σ σ3 := (a4.tr c0_4).tr d4
  have hOF : OF τ (sr τ3 64 7 (nI (k + 1))) := ((a7.of.tr c0_7).tr d7).tr OF.s64
  have hRP : RP σ3 (sr τ3 64 7 (nI (k + 1))) n := RP.mv d3 (Fr.rf (l := [])) (Fr.c2 (l := [64]) (by simp)) (by simp) (by simp) (by simp) (by simp)
  have hO : ∀ j, j ≠ 7 → (j < X ∨ X + 2 ≤ j) → gr (sr τ3 64 7 (nI (k + 1))) 64 j = gr τ 64 j := fun j h1 h2 => by
    rw [gr_sr_s, if_neg h1, d9 j (by omega), c0_9 j (by omega), f1]
  have hOc : ∀ j, (j < k * 2 ∨ k * 2 + 2 ≤ j) → gr σ3 24 j = gr σ 24 j := fun j h1 => by
    rw [d8 j (by omega), c0_8 j (by omega), (a6.1 24 (by decide)).2.1]
  have v1 : ok σ3 → gr σ3 24 (k * 2) = gr τ3 64 X ∧ (0 ≤ (gr τ3 64 X).toInt ∧ (gr τ3 64 X).toInt ≤ 59) ∧ (gr σ3 24 (k * 2 + 1) = gr τ3 64 (X + 1) ∧ 0 ≤ (gr τ3 64 (X + 1)).toInt ∧ (gr τ3 64 (X + 1)).toInt ≤ 59) ∧ (gr τ3 64 X).toInt ≤ (gr τ3 64 (X + 1)).toInt := fun o => by
    obtain ⟨b1, b2', b3⟩ := c0_10 (d4 o).1
    obtain ⟨q1, q2, q3⟩ := d10 o
    have z0 : (0 : Int32).toInt = 0 := rfl
    have z59 : (59 : Int32).toInt = 59 := rfl
    have eX : gr τ3 64 X = gr (sr u0 64 X r0) 64 X := d9 X (by omega)
    rw [eX, d8 (k * 2) (by omega)]
    exact ⟨b1, ⟨by omega, by omega⟩, ⟨q1, by omega, q3⟩, q2⟩
  refine ⟨σ3, τ1, τ3, ?_, a2, ?_, g4, ⟨hRP, ?_, ?_, fun o => ⟨?_, ?_⟩⟩, hPG, hFr.mo (by simp), hOF⟩
  · unfold f_X6_readSpan
    rw [tb23.isT σ, gd_tt, a1, bd_mk, show f_X6_cell 23 (0 : Int32) (0 : Int32) (59 : Int32) σ1 = some ((), σ2) from c0_1, bd_mk, d0, bd_mk, tb23.isT w1, gd_tt, dg, bd_mk, d1, bd_mk]
  · unfold f_X12_readBounds
    have hx : (107 : Int32) + (2 : Int32) * gr τ1 64 (7 : Int32).toNatClampNeg = nI X := by
      have e : gr τ1 64 (7 : Int32).toNatClampNeg = nI k := by
        show gr τ1 64 7 = nI k
        rw [f1]
        exact hF4
      rw [e, hX, show (107 : Int32) = nI 107 from rfl, show (2 : Int32) = nI 2 from rfl, nI_mul, nI_add]
    rw [hx, c0_2, bd_mk, i64 (show X < 240 by omega), gd_tt, bnd_mk, nI_clamp (show X < 2 ^ 31 by omega), gd_tt, d2, bd_mk, nI_1, i64 (show X + 1 < 240 by omega), gd_tt, bnd_mk, nI_clamp (show X + 1 < 2 ^ 31 by omega), hτ3]
  · obtain ⟨z1, z2, z3, z4, z5, z6, z7⟩ := hSZ
    exact ⟨by rw [(hFr.1 15 (by decide)).1]; exact z1, by rw [(hFr.1 17 (by decide)).1]; exact z2, by rw [(hFr.1 19 (by decide)).1]; exact z3, by rw [(hFr.1 21 (by decide)).1]; exact z4, ⟨k + 1, by omega, s3⟩, by rw [(hFr.1 25 (by decide)).1]; exact z6, by rw [(hFr.1 27 (by decide)).1]; exact z7⟩
  · exact ⟨by rw [hO 4 (by omega) (by omega)]; obtain ⟨q, q1, -, q3, -⟩ := hT; exact ⟨q, q1, q3⟩, by rw [hO 5 (by omega) (by omega)]; obtain ⟨q, q1, -, q3, -⟩ := hE; exact ⟨q, q1, q3⟩, by rw [hO 6 (by omega) (by omega)]; obtain ⟨q, q1, -, q3, -⟩ := hA; exact ⟨q, q1, q3⟩, ⟨k + 1, by omega, by rw [gr_sr_s, if_pos rfl]⟩, by rw [hO 8 (by omega) (by omega)]; obtain ⟨q, q1, -, q3, -⟩ := hY; exact ⟨q, q1, q3⟩⟩
  · have hH2 : HD σ3 15 (gr (sr τ3 64 7 (nI (k + 1))) 64) := hH.mv (fun j _ => by rw [(hFr.1 15 (by decide)).1]) (fun j _ => by rw [(hFr.1 16 (by decide)).2.1]) (fun j h1 h4 h5 h6 h7 h8 h9 => hO j (by omega) (by omega))
    have hT2 := hT.mv (σ' := σ3) (F' := gr (sr τ3 64 7 (nI (k + 1))) 64) (by rw [(hFr.1 17 (by decide)).1]) (fun j _ => by rw [(hFr.1 18 (by decide)).2.1]) (hO 4 (by omega) (by omega)) (fun j h1 h2 => hO j (by omega) (by omega))
    have hE2 := hE.mv (σ' := σ3) (F' := gr (sr τ3 64 7 (nI (k + 1))) 64) (by rw [(hFr.1 19 (by decide)).1]) (fun j _ => by rw [(hFr.1 20 (by decide)).2.1]) (hO 5 (by omega) (by omega)) (fun j h1 h2 => hO j (by omega) (by omega))
    have hA2 := hA.mv (σ' := σ3) (F' := gr (sr τ3 64 7 (nI (k + 1))) 64) (by rw [(hFr.1 21 (by decide)).1]) (fun j _ => by rw [(hFr.1 22 (by decide)).2.1]) (hO 6 (by omega) (by omega)) (fun j h1 h2 => hO j (by omega) (by omega))
    have hU2 := hU.ad (σ' := σ3) (F' := gr (sr τ3 64 7 (nI (k + 1))) 64) hk1 hk (by decide) s3 (fun j hj => hOc j (by omega)) (by rw [gr_sr_s, if_pos rfl]) (fun j h1 h2 => hO j (by omega) (by omega)) (fun c hc => ?_)
    have hY2 := hY.mv (σ' := σ3) (F' := gr (sr τ3 64 7 (nI (k + 1))) 64) (by rw [(hFr.1 25 (by decide)).1]) (fun j _ => by rw [(hFr.1 26 (by decide)).2.1]) (hO 8 (by omega) (by omega)) (fun j h1 h2 => hO j (by omega) (by omega))
    · refine ⟨hH2, hT2, hE2, hA2, hU2, hY2, ?_, ?_, ?_, CR.nil h10 hC (by rw [(hFr.1 27 (by decide)).1]) (hO 10 (by omega) (by omega))⟩
      · intro q q1 q2 i hi
        rw [hO 5 (by omega) (by omega)] at q1
        rw [hO _ (by omega) (by omega), hO _ (by omega) (by omega)]
        exact hS1 q q1 q2 i hi
      · intro q q1 q2 i hi
        rw [gr_sr_s, if_pos rfl] at q1
        obtain rfl : k + 1 = q := (nI_eq (by omega) (by omega)).mp q1
        by_cases ei : i = k
        · subst ei
          have e1 : gr (sr τ3 64 7 (nI (i + 1))) 64 (107 + 2 * i) = gr τ3 64 X := by rw [← hX, gr_sr_s, if_neg (by omega)]
          have e2 : gr (sr τ3 64 7 (nI (i + 1))) 64 (107 + 2 * i + 1) = gr τ3 64 (X + 1) := by rw [← hX, gr_sr_s, if_neg (by omega)]
          rw [e1, e2]
          exact (v1 o).2.2.2
        · rw [hO _ (by omega) (by omega), hO _ (by omega) (by omega)]
          exact hS2 k hF4 (by omega) i (by omega)
      · intro q m q1 q2 m1 m2 i hi
        rw [hO 8 (by omega) (by omega)] at q1
        rw [hO 4 (by omega) (by omega)] at m1
        rw [hO _ (by omega) (by omega)]
        exact hS3 q m q1 q2 m1 m2 i hi
    · obtain ⟨w1, w2, w3, w4⟩ := v1 o
      rcases (show c = 0 ∨ c = 1 by omega) with rfl | rfl
      · have e2 : gr (sr τ3 64 7 (nI (k + 1))) 64 (107 + 2 * k + 0) = gr τ3 64 X := by rw [← hX, gr_sr_s, if_neg (by omega)]; rfl
        rw [e2]
        exact ⟨w1, w2.1, w2.2⟩
      · have e2 : gr (sr τ3 64 7 (nI (k + 1))) 64 (107 + 2 * k + 1) = gr τ3 64 (X + 1) := by rw [← hX, gr_sr_s, if_neg (by omega)]
        rw [e2]
        exact w3
  · rw [hO 10 (by omega) (by omega)]
    exact h10
theorem T_span23 {σ τ : St} {n : Nat} (hk1 : gf σ 23 3 = nI 4) (hR : RP σ τ n) (hSZ : SZ σ 15) : ∃ σ' τ', f_X6_readSpan 23 σ = some ((), σ') ∧ f_X12_errs (3 : Int32) τ = some ((), τ') ∧ RP σ' τ' n ∧ ¬ ok σ' ∧ SZ σ' 15 ∧ Fr RD σ σ' ∧ OM τ τ' := by
  obtain ⟨σ1, τ1, a1, a2, a3, a4, a5, a6⟩ := R_over tb23 hk1 hR
  have s1 : gf σ1 23 3 = nI (3 + 1) := by rw [(a5.1 23 (by decide)).1]; exact hk1
  obtain ⟨σ2, c0_1, c0_2, c0_3, c0_4, s2⟩ := T_cell (k := 3) (c := 0) tb23 (by decide) (by decide) (0 : Int32) (59 : Int32) s1 a3 a4
  obtain ⟨w1, d0, d1, d2, d3⟩ := T_word (z := 16) (by decide) c0_2 c0_3
  have e1 : gf w1 23 3 = nI (3 + 1) := by rw [(d3.1 23 (by decide)).1]; exact s2
  have getc : f_X9_cell 23 (gf w1 23 3 - 1) (0 : Int32) w1 = some (gr w1 24 (3 * 2 + 0), w1) := by
    rw [e1, nI_pred, show (0 : Int32) = nI 0 from rfl, S_getc tb23 (show 3 + 1 ≤ 4 by omega) (by omega) (by omega) e1]
  obtain ⟨σ3, g1, g2, g3, g4, s3⟩ := T_cell (k := 3) (c := 1) tb23 (by decide) (by decide) (gr w1 24 (3 * 2 + 0)) (59 : Int32) e1 d1 d2
  have hFr : Fr [29, 24] σ σ3 := (((a5.mo (by simp) : Fr [29, 24] σ σ1).tr c0_4).tr (d3.mo (by simp))).tr g4
  refine ⟨σ3, τ1, ?_, a2, ⟨g2, Or.inr g3⟩, g3.not, hSZ.mv hFr (by decide) (by decide) (by decide) (by decide) (by decide) (by decide) (by decide), hFr.mo (by simp), a6⟩
  unfold f_X6_readSpan
  rw [tb23.isT σ, gd_tt, a1, bd_mk, show f_X6_cell 23 (0 : Int32) (0 : Int32) (59 : Int32) σ1 = some ((), σ2) from c0_1, bd_mk, d0, bd_mk, tb23.isT w1, gd_tt, getc, bd_mk, show f_X6_cell 23 (1 : Int32) (gr w1 24 (3 * 2 + 0)) (59 : Int32) w1 = some ((), σ3) from g1, bd_mk]
/-! ===== LINES of need, the first one ===== -/
theorem S_setNeed {σ : St} {s : Nat} (hs : s < 2) (v : Int32) : f_X10_setNeed 15 (nI s) v σ = some ((), sr σ 16 s v) := by
  unfold f_X10_setNeed f_X10_setNeed_9 f_X10_setNeed_16
  rw [isW_lit (Or.inr rfl), gd_tt, gd_tt]
  rcases (show s = 0 ∨ s = 1 by omega) with rfl | rfl
  · rw [if_pos (show nI 0 = (0 : Int32) from rfl)]
    rfl
  · rw [if_neg (show ¬ nI 1 = (0 : Int32) by decide), if_pos (show nI 1 = (1 : Int32) from rfl)]
    rfl
theorem TVs {σ σ' : St} {F F' : Nat → Int32} (hT : TV σ 17 F 4 13 6 9 [0, 1, 0, 0, 1, 0] [1, 99, 59, 100, 30, 999]) (hE : TV σ 19 F 5 67 2 4 [0, 0] [59, 59]) (hA : TV σ 21 F 6 75 4 8 [0, 0, 1, 1] [1, 59, 20, 99]) (hU : TV σ 23 F 7 107 2 4 [0, 0] [59, 59]) (hY : TV σ 25 F 8 115 1 5 [0] [511]) (hS1 : SP F 5 67) (hS2 : SP F 7 107) (hS3 : SPY F) (hC : CR σ 15 F) (h10 : F 10 = nI 0) (hf : Fr [15, 16, 29] σ σ') (hO : ∀ j, 4 ≤ j → j ≠ 9 → j ≠ 11 → j ≠ 12 → F' j = F j) (hH : HD σ' 15 F') : WR σ' 15 F' := by
  refine ⟨hH, hT.mv (by rw [(hf.1 17 (by decide)).1]) (fun j _ => by rw [(hf.1 18 (by decide)).2.1]) (hO 4 (by omega) (by omega) (by omega) (by omega)) (fun j h1 h2 => hO j (by omega) (by omega) (by omega) (by omega)), hE.mv (by rw [(hf.1 19 (by decide)).1]) (fun j _ => by rw [(hf.1 20 (by decide)).2.1]) (hO 5 (by omega) (by omega) (by omega) (by omega)) (fun j h1 h2 => hO j (by omega) (by omega) (by omega) (by omega)), hA.mv (by rw [(hf.1 21 (by decide)).1]) (fun j _ => by rw [(hf.1 22 (by decide)).2.1]) (hO 6 (by omega) (by omega) (by omega) (by omega)) (fun j h1 h2 => hO j (by omega) (by omega) (by omega) (by omega)), hU.mv (by rw [(hf.1 23 (by decide)).1]) (fun j _ => by rw [(hf.1 24 (by decide)).2.1]) (hO 7 (by omega) (by omega) (by omega) (by omega)) (fun j h1 h2 => hO j (by omega) (by omega) (by omega) (by omega)), hY.mv (by rw [(hf.1 25 (by decide)).1]) (fun j _ => by rw [(hf.1 26 (by decide)).2.1]) (hO 8 (by omega) (by omega) (by omega) (by omega)) (fun j h1 h2 => hO j (by omega) (by omega) (by omega) (by omega)), ?_, ?_, ?_, CR.nil h10 hC (by rw [(hf.1 27 (by decide)).1]) (hO 10 (by omega) (by omega) (by omega) (by omega))⟩
  · intro q q1 q2 i hi
    rw [hO 5 (by omega) (by omega) (by omega) (by omega)] at q1
    rw [hO _ (by omega) (by omega) (by omega) (by omega), hO _ (by omega) (by omega) (by omega) (by omega)]
    exact hS1 q q1 q2 i hi
  · intro q q1 q2 i hi
    rw [hO 7 (by omega) (by omega) (by omega) (by omega)] at q1
    rw [hO _ (by omega) (by omega) (by omega) (by omega), hO _ (by omega) (by omega) (by omega) (by omega)]
    exact hS2 q q1 q2 i hi
  · intro q m q1 q2 m1 m2 i hi
    rw [hO 8 (by omega) (by omega) (by omega) (by omega)] at q1
    rw [hO 4 (by omega) (by omega) (by omega) (by omega)] at m1
    rw [hO _ (by omega) (by omega) (by omega) (by omega)]
    exact hS3 q m q1 q2 m1 m2 i hi
theorem WR.sm {σ : St} {w : Nat} {F : Nat → Int32} (h : WR σ w F) : SM F := by
  obtain ⟨-, ⟨a, a1, -, a3, -⟩, ⟨b, b1, -, b3, -⟩, ⟨c, c1, -, c3, -⟩, ⟨d, d1, -, d3, -⟩, ⟨e, e1, -, e3, -⟩, -⟩ := h
  exact ⟨⟨a, a1, a3⟩, ⟨b, b1, b3⟩, ⟨c, c1, c3⟩, ⟨d, d1, d3⟩, ⟨e, e1, e3⟩⟩
set_option maxHeartbeats 4000000 in
theorem R_readNeed {σ τ : St} {n : Nat} (hL : LX σ n) (hG : GD σ τ n) (hSZ : SZ σ 15) (hW : WR σ 15 (gr τ 64)) (h10 : gr τ 64 10 = nI 0) : ∃ σ' τ1 τ', f_X6_readNeed σ = some ((), σ') ∧ f_X12_advance τ = some ((), τ1) ∧ f_X12_readNeed τ1 = some ((), τ') ∧ DI σ' τ' n ∧ PG σ σ' ∧ Fr RD σ σ' ∧ OF τ τ' := by
  have hsm := hW.sm
  obtain ⟨hH, hT, hE, hA, hU, hY, hS1, hS2, hS3, hC⟩ := hW
  obtain ⟨σ1, τ1, a1, a2, a3, a4, a5, a6, a7⟩ := R_adv hL hG
  have p1 : PG σ σ1 := fun _ => ⟨hG.okM.1, by have := (GD.le hL hG).1; omega⟩
  obtain ⟨r, r', σ2, τ2, b1, b2', b3, b4, b5, b6, b7, b8, b9⟩ := R_num (0 : Int32) (1 : Int32) (by decide) (by decide) ⟨a3, Or.inl a4⟩
  obtain ⟨v, v', σ3, τ3, c1, c2, c3, c4, c5, c6, c7, c8, c9⟩ := R_num (0 : Int32) (999 : Int32) (by decide) (by decide) b3
  have z0 : (0 : Int32).toInt = 0 := rfl
  have z1 : (1 : Int32).toInt = 1 := rfl
  have z999 : (999 : Int32).toInt = 999 := rfl
  obtain ⟨s, hs, rfl⟩ : ∃ s : Nat, s < 2 ∧ r = nI s := by
    rcases b8 with rfl | h
    · exact ⟨0, by omega, rfl⟩
    · obtain ⟨j, hj, e⟩ := nI_ofT (x := r) (n := 1) (by omega) (by omega)
      exact ⟨j, by omega, e⟩
  have f3 : gr τ3 64 = gr τ 64 := c6.r64.trans (b6.r64.trans a7.r64)
  have F3 : Fr [29] σ σ3 := (a6.tr b5).tr c5
  have hF : Fr [16] σ3 (sr σ3 16 s v) := Fr.c2 (by simp)
  have hFr : Fr [15, 16, 29] σ (sr σ3 16 s v) := (F3.mo (by simp)).tr (hF.mo (by simp))
  have hFrD : Fr RD σ (sr σ3 16 s v) := (F3.mo (by simp)).tr (hF.mo (by simp))
  have hSZ' : SZ (sr σ3 16 s v) 15 := (hSZ.mv F3 (by decide) (by decide) (by decide) (by decide) (by decide) (by decide) (by decide)).mv hF (by decide) (by decide) (by decide) (by decide) (by decide) (by decide) (by decide)
  have hcl : f_X6_readNeed σ = some ((), sr σ3 16 s v) := by
    unfold f_X6_readNeed
    rw [a1, bd_mk, b1, bd_mk, c1, bd_mk, S_setNeed hs v, bd_mk]
  have hPG : PG σ (sr σ3 16 s v) := ((p1.tr b4).tr c4).tr (PG.mv hF (by decide))
  rcases c3.2 with hG3 | hB3
  · have o3 := hG3.okM.1
    obtain ⟨e1, e2, e3⟩ := c7 o3
    obtain ⟨e4, -⟩ := b7 (c4 o3).1
    subst e1
    obtain ⟨y, hy, rfl⟩ := nI_ofT (x := v) (n := 999) (by omega) (by omega)
    have hRP : RP (sr σ3 16 s (nI y)) (sr τ3 64 (11 + s) (nI y)) n := RP.mv c3 hF (Fr.c2 (l := [64]) (by simp)) (by decide) (by decide) (by decide) (by decide)
    have hO : ∀ j, j ≠ 11 + s → gr (sr τ3 64 (11 + s) (nI y)) 64 j = gr τ 64 j := fun j hj => by rw [gr_sr_s, if_neg hj, f3]
    refine ⟨_, τ1, sr τ3 64 (11 + s) (nI y), hcl, a2, ?_, ⟨hRP, hSZ', hsm.mv (hO _ (by omega)) (hO _ (by omega)) (hO _ (by omega)) (hO _ (by omega)) (hO _ (by omega)), fun _ => ⟨?_, ?_⟩⟩, hPG, hFrD, ((a7.of.tr b6.of).tr c6.of).tr OF.s64⟩
    · unfold f_X12_readNeed f_X12_readNeed_33
      rw [b2', bd_mk, c2, bd_mk, S_good, bd_mk, b2_t hG3.okM.2, if_neg n10, ← e4, show (11 : Int32) = nI 11 from rfl, nI_add, i64 (by omega), gd_tt, bnd_mk, nI_clamp (by omega)]
    · refine TVs hT hE hA hU hY hS1 hS2 hS3 hC h10 hFr (fun j h1 h2 h3 h4 => hO j (by omega)) ?_
      obtain ⟨l, m, a, p, q, d, e, k1, k2, k3, k4, k5, k6, k7, k8, g1, g2, g3, g4, g5, g6, g7, g8, g9, g10, g11, g12, g13, g14⟩ := hH
      have w15 : ∀ j, gf (sr σ3 16 s (nI y)) 15 j = gf σ 15 j := fun j => by
        show gf σ3 15 j = _
        rw [(F3.1 15 (by decide)).1]
      have w16 : ∀ j, j ≠ s → gr (sr σ3 16 s (nI y)) 16 j = gr σ 16 j := fun j hj => by rw [gr_sr_s, if_neg hj, (F3.1 16 (by decide)).2.1]
      have w16s : gr (sr σ3 16 s (nI y)) 16 s = nI y := by rw [gr_sr_s, if_pos rfl]
      have wFs : gr (sr τ3 64 (11 + s) (nI y)) 64 (11 + s) = nI y := by rw [gr_sr_s, if_pos rfl]
      rcases (show s = 0 ∨ s = 1 by omega) with rfl | rfl
      · refine ⟨l, m, a, p, q, y, e, k1, k2, k3, k4, k5, hy, k7, k8, ?_⟩
        rw [w15, w15, w15, w15, w15, hO 9 (by omega), hO 0 (by omega), hO 1 (by omega), hO 2 (by omega), hO 3 (by omega), hO 12 (by omega)]
        exact ⟨g1, g2, g3, g4, g5, g6, g7, g8, g9, g10, w16s, wFs, (w16 1 (by omega)).trans g13, g14⟩
      · refine ⟨l, m, a, p, q, d, y, k1, k2, k3, k4, k5, k6, hy, k8, ?_⟩
        rw [w15, w15, w15, w15, w15, hO 9 (by omega), hO 0 (by omega), hO 1 (by omega), hO 2 (by omega), hO 3 (by omega), hO 11 (by omega)]
        exact ⟨g1, g2, g3, g4, g5, g6, g7, g8, g9, g10, (w16 0 (by omega)).trans g11, g12, w16s, wFs⟩
    · rw [hO 10 (by omega)]
      exact h10
  · have hRP : RP (sr σ3 16 s v) τ3 n := RP.mv c3 hF (Fr.rf (l := [])) (by decide) (by decide) (by decide) (by decide)
    refine ⟨_, τ1, τ3, hcl, a2, ?_, ⟨hRP, hSZ', by rw [f3]; exact hsm, fun o => absurd ((ok.mv hF (by decide)).mp o) hB3.not⟩, hPG, hFrD, (a7.of.tr b6.of).tr c6.of⟩
    unfold f_X12_readNeed f_X12_readNeed_33
    rw [b2', bd_mk, c2, bd_mk, S_good, bd_mk, b2_f hB3.notM, if_pos rfl]
/-- minutes are told, late is ahead of them -/
def MT (σ : St) : Prop := ∃ m a : Nat, gf σ 15 1 = nI m ∧ gf σ 15 2 = nI a ∧ 1 ≤ m ∧ m ≤ 60 ∧ a < m
set_option maxHeartbeats 4000000 in
theorem R_first {σ τ : St} {n : Nat} (hR : RP σ τ n) (ho : ok σ) (hSZ : SZ σ 15) (hW : WR σ 15 (gr τ 64)) (h10 : gr τ 64 10 = nI 0) (h9 : gr τ 64 9 = nI 0) : ∃ σ' τ', f_X6_readWar σ = some ((), σ') ∧ f_X12_readFirst τ = some ((), τ') ∧ DI σ' τ' n ∧ PG σ σ' ∧ Fr (15 :: RD) σ σ' ∧ OF τ τ' ∧ (ok σ' → MT σ') ∧ gf σ' 15 0 = gf σ 15 0 := by
  have hsm := hW.sm
  obtain ⟨hH, hT, hE, hA, hU, hY, hS1, hS2, hS3, hC⟩ := hW
  have z0 : (0 : Int32).toInt = 0 := rfl
  have z1 : (1 : Int32).toInt = 1 := rfl
  have z60 : (60 : Int32).toInt = 60 := rfl
  have z100 : (100 : Int32).toInt = 100 := rfl
  obtain ⟨σ1, τ1, a1, a2, a3, a4, a5, a6⟩ := R_word (z := 6) (by decide) hR
  -- minutes
  obtain ⟨r, r', w2, σ2, τ2, b0, b1, b2', b3, b4, b5, b6, b7, b8, b9, b10⟩ := R_told (z := 7) (1 : Int32) (60 : Int32) (by decide) (by decide) (by decide) a3
  have hm : ∃ m : Nat, m ≤ 60 ∧ r = nI m := by
    rcases b9 with rfl | h
    · exact ⟨0, by omega, rfl⟩
    · exact nI_ofT (by omega) (by omega)
  obtain ⟨m, hm60, rfl⟩ := hm
  have F15 : Fr [15] σ2 (sf σ2 15 1 (nI m)) := Fr.c1 (by simp)
  have R3 : RP (sf σ2 15 1 (nI m)) (sr τ2 64 0 r') n := RP.mv b3 F15 (Fr.c2 (l := [64]) (by simp)) (by decide) (by decide) (by decide) (by decide)
  -- late
  have hsame : ok (sf σ2 15 1 (nI m)) → (0 : Int32) = 0 ∧ nI m - 1 = r' - 1 ∧ 0 ≤ (0 : Int32).toInt ∧ (nI m - 1).toInt ≤ 999 := fun o => by
    obtain ⟨e1, e2, e3⟩ := b8 ((ok.mv F15 (by decide)).mp o)
    refine ⟨rfl, by rw [e1], by decide, ?_⟩
    rw [i32_sub (by rw [nI_toInt (by omega)]; omega), nI_toInt (by omega)]
    omega
  obtain ⟨q, q', w4, σ4, τ4, c0, c1, c2, c3, c4, c5, c6, c7, c8, c9⟩ := R_told2 (z := 8) (0 : Int32) (nI m - 1) (0 : Int32) (r' - 1) (by decide) hsame R3
  have F15b : Fr [15] σ4 (sf σ4 15 2 q) := Fr.c1 (by simp)
  have R5 : RP (sf σ4 15 2 q) (sr τ4 64 1 q') n := RP.mv c3 F15b (Fr.c2 (l := [64]) (by simp)) (by decide) (by decide) (by decide) (by decide)
  -- peace
  obtain ⟨p, p', w6, σ6, τ6, d0, d1, d2, d3, d4, d5, d6, d7, d8, d9, d10⟩ := R_told (z := 9) (0 : Int32) (60 : Int32) (by decide) (by decide) (by decide) R5
  have F15c : Fr [15] σ6 (sf σ6 15 3 p) := Fr.c1 (by simp)
  have R7 : RP (sf σ6 15 3 p) (sr τ6 64 2 p') n := RP.mv d3 F15c (Fr.c2 (l := [64]) (by simp)) (by decide) (by decide) (by decide) (by decide)
  -- rain
  obtain ⟨x, x', w8, σ8, τ8, g0, g1, g2, g3, g4, g5, g6, g7, g8, g9, g10⟩ := R_told (z := 10) (0 : Int32) (100 : Int32) (by decide) (by decide) (by decide) R7
  have F15d : Fr [15] σ8 (sf σ8 15 4 x) := Fr.c1 (by simp)
  have R9 : RP (sf σ8 15 4 x) (sr τ8 64 3 x') n := RP.mv g3 F15d (Fr.c2 (l := [64]) (by simp)) (by decide) (by decide) (by decide) (by decide)
  have hFr0 : Fr [15, 29] σ (sf σ8 15 4 x) := ((((((((a5.mo (by simp) : Fr [15, 29] σ σ1).tr (b6.mo (by simp))).tr (F15.mo (by simp))).tr (c6.mo (by simp))).tr (F15b.mo (by simp))).tr (d6.mo (by simp))).tr (F15c.mo (by simp))).tr (g6.mo (by simp))).tr (F15d.mo (by simp))
  have hFr : Fr [15, 16, 29] σ (sf σ8 15 4 x) := hFr0.mo (by simp)
  have hPG : PG σ (sf σ8 15 4 x) := (((((((a4.tr b4).tr (PG.mv F15 (by decide))).tr c4).tr (PG.mv F15b (by decide))).tr d4).tr (PG.mv F15c (by decide))).tr g4).tr (PG.mv F15d (by decide))
  have hOF : OF τ (sr τ8 64 3 x') := (((((((a6.of.tr b7.of).tr OF.s64).tr c7.of).tr OF.s64).tr d7.of).tr OF.s64).tr g7.of).tr OF.s64
  -- fields of the block
  have k4 : gf (sf σ8 15 4 x) 15 4 = x := by rw [gf_sf_s, if_pos rfl]
  have k3 : gf (sf σ8 15 4 x) 15 3 = p := by rw [gf_sf_s, if_neg (by decide), (g6.1 15 (by decide)).1, gf_sf_s, if_pos rfl]
  have k2 : gf (sf σ8 15 4 x) 15 2 = q := by rw [gf_sf_s, if_neg (by decide), (g6.1 15 (by decide)).1, gf_sf_s, if_neg (by decide), (d6.1 15 (by decide)).1, gf_sf_s, if_pos rfl]
  have k1 : gf (sf σ8 15 4 x) 15 1 = nI m := by rw [gf_sf_s, if_neg (by decide), (g6.1 15 (by decide)).1, gf_sf_s, if_neg (by decide), (d6.1 15 (by decide)).1, gf_sf_s, if_neg (by decide), (c6.1 15 (by decide)).1, gf_sf_s, if_pos rfl]
  have k0 : gf (sf σ8 15 4 x) 15 0 = gf σ 15 0 := by rw [gf_sf_s, if_neg (by decide), (g6.1 15 (by decide)).1, gf_sf_s, if_neg (by decide), (d6.1 15 (by decide)).1, gf_sf_s, if_neg (by decide), (c6.1 15 (by decide)).1, gf_sf_s, if_neg (by decide), (b6.1 15 (by decide)).1, (a5.1 15 (by decide)).1]
  -- the row
  have hO : ∀ j, 4 ≤ j → gr (sr τ8 64 3 x') 64 j = gr τ 64 j := fun j hj => by
    rw [gr_sr_s, if_neg (by omega), g7.r64, gr_sr_s, if_neg (by omega), d7.r64, gr_sr_s, if_neg (by omega), c7.r64, gr_sr_s, if_neg (by omega), b7.r64, a6.r64]
  have n3 : gr (sr τ8 64 3 x') 64 3 = x' := by rw [gr_sr_s, if_pos rfl]
  have n2 : gr (sr τ8 64 3 x') 64 2 = p' := by rw [gr_sr_s, if_neg (by decide), g7.r64, gr_sr_s, if_pos rfl]
  have n1 : gr (sr τ8 64 3 x') 64 1 = q' := by rw [gr_sr_s, if_neg (by decide), g7.r64, gr_sr_s, if_neg (by decide), d7.r64, gr_sr_s, if_pos rfl]
  have n0 : gr (sr τ8 64 3 x') 64 0 = r' := by rw [gr_sr_s, if_neg (by decide), g7.r64, gr_sr_s, if_neg (by decide), d7.r64, gr_sr_s, if_neg (by decide), c7.r64, gr_sr_s, if_pos rfl]
  have vals : ok (sf σ8 15 4 x) → ∃ a pp rr : Nat, q = nI a ∧ q' = nI a ∧ p = nI pp ∧ p' = nI pp ∧ x = nI rr ∧ x' = nI rr ∧ r' = nI m ∧ 1 ≤ m ∧ a < m ∧ pp ≤ 60 ∧ rr ≤ 100 := fun o => by
    have o8 := (ok.mv F15d (by decide)).mp o
    obtain ⟨e1, e2, e3⟩ := g8 o8
    have o6 := (ok.mv F15c (by decide)).mp (g4 o8).1
    obtain ⟨e4, e5, e6⟩ := d8 o6
    have o4 := (ok.mv F15b (by decide)).mp (d4 o6).1
    obtain ⟨e7, e8, e9⟩ := c8 o4
    have o2 := (ok.mv F15 (by decide)).mp (c4 o4).1
    obtain ⟨e10, e11, e12⟩ := b8 o2
    rw [nI_toInt (by omega)] at e11 e12
    rw [i32_sub (by rw [nI_toInt (by omega)]; omega), nI_toInt (by omega)] at e9
    obtain ⟨aa, ha, rfl⟩ := nI_ofT (x := q) (n := m - 1) (by omega) (by omega)
    obtain ⟨pp, hp, rfl⟩ := nI_ofT (x := p) (n := 60) (by omega) (by omega)
    obtain ⟨rr, hr, rfl⟩ := nI_ofT (x := x) (n := 100) (by omega) (by omega)
    exact ⟨aa, pp, rr, rfl, e7.symm, rfl, e4.symm, rfl, e1.symm, e10.symm, by omega, by omega, hp, hr⟩
  refine ⟨sf σ8 15 4 x, sr τ8 64 3 x', ?_, ?_, ⟨R9, ?_, hsm.mv (hO _ (by omega)) (hO _ (by omega)) (hO _ (by omega)) (hO _ (by omega)) (hO _ (by omega)), fun o => ⟨?_, ?_⟩⟩, hPG, hFr.mo (by simp), hOF, fun o => ?_, k0⟩
  · unfold f_X6_readWar
    have hg : gf w4 15 1 = nI m := by
      rw [(c5.1 15 (by decide)).1, gf_sf_s, if_pos rfl]
    rw [a1, bd_mk, b0, bd_mk, b1, bd_mk, bnd_mk, c0, bd_mk, hg, c1, bd_mk, bnd_mk, d0, bd_mk, d1, bd_mk, bnd_mk, g0, bd_mk, g1, bd_mk, bnd_mk]
  · unfold f_X12_readFirst
    rw [a2, bd_mk, b2', bd_mk, show inb (0 : Int32) (ln 64) = true from rfl, gd_tt, bnd_mk, gd_tt, show gr (sr τ2 64 (0 : Int32).toNatClampNeg r') 64 (0 : Int32).toNatClampNeg = r' from by show gr (sr τ2 64 0 r') 64 0 = r'; rw [gr_sr_s, if_pos rfl], show f_X12_told 8 (0 : Int32) (r' - 1) (sr τ2 64 (0 : Int32).toNatClampNeg r') = some (q', τ4) from c2, bd_mk, show inb (1 : Int32) (ln 64) = true from rfl, gd_tt, bnd_mk, show f_X12_told 9 (0 : Int32) (60 : Int32) (sr τ4 64 (1 : Int32).toNatClampNeg q') = some (p', τ6) from d2, bd_mk, show inb (2 : Int32) (ln 64) = true from rfl, gd_tt, bnd_mk, show f_X12_told 10 (0 : Int32) (100 : Int32) (sr τ6 64 (2 : Int32).toNatClampNeg p') = some (x', τ8) from g2, bd_mk, show inb (3 : Int32) (ln 64) = true from rfl, gd_tt, bnd_mk]
    rfl
  · obtain ⟨s1, s2, s3, s4, s5, s6, s7⟩ := hSZ
    exact ⟨⟨m, hm60, k1⟩, by rw [(hFr.1 17 (by decide)).1]; exact s2, by rw [(hFr.1 19 (by decide)).1]; exact s3, by rw [(hFr.1 21 (by decide)).1]; exact s4, by rw [(hFr.1 23 (by decide)).1]; exact s5, by rw [(hFr.1 25 (by decide)).1]; exact s6, by rw [(hFr.1 27 (by decide)).1]; exact s7⟩
  · refine TVs hT hE hA hU hY hS1 hS2 hS3 hC h10 hFr (fun j h1 h2 h3 h4 => hO j (by omega)) ?_
    obtain ⟨aa, pp, rr, e1, e2, e3, e4, e5, e6, e7, e8, e9, e10, e11⟩ := vals o
    obtain ⟨l, m0, a0, p0, q0, d, e, y1, y2, y3, y4, y5, y6, y7, y8, u1, u2, u3, u4, u5, u6, u7, u8, u9, u10, u11, u12, u13, u14⟩ := hH
    refine ⟨l, m, aa, pp, rr, d, e, y1, hm60, by omega, e10, e11, y6, y7, fun _ => ⟨e8, e9⟩, ?_⟩
    rw [k0, k1, k2, k3, k4, hO 9 (by omega), n0, n1, n2, n3, hO 11 (by omega), hO 12 (by omega), (hFr0.1 16 (by decide)).2.1]
    exact ⟨u1, u2, rfl, e7, e1, e2, e3, e4, e5, e6, u11, u12, u13, u14⟩
  · rw [hO 10 (by omega)]
    exact h10
  · obtain ⟨aa, pp, rr, e1, e2, e3, e4, e5, e6, e7, e8, e9, e10, e11⟩ := vals o
    exact ⟨m, aa, k1, k2.trans e1, e8, hm60, e9⟩
/-! ===== a spy's LINE ===== -/
theorem nI_or (a b : Nat) : nI a ||| nI b = nI (a ||| b) := by
  apply Int32.toBitVec.inj
  show BitVec.ofNat 32 a ||| BitVec.ofNat 32 b = BitVec.ofNat 32 (a ||| b)
  apply BitVec.eq_of_toNat_eq
  simp [BitVec.toNat_or, BitVec.toNat_ofNat, Nat.or_mod_two_pow]
theorem nI_sh1 : ∀ t, t < 31 → (1 : Int32) <<< (nI t &&& 31) = nI (2 ^ t) := by decide +kernel
/-- the class has no FAULT yet, and one at its TOKEN to come; the reference has it -/
def PB (σ τ : St) (n : Nat) : Prop := LX σ n ∧ ok σ ∧ ¬ gf σ 29 7 = 4 ∧ ∃ q : Nat, q ≤ 1200 ∧ gf σ 29 5 = nI q ∧ gf τ 58 12 = nI 1 ∧ gf τ 58 13 = nI q
def SC (σ τ : St) (m k : Nat) : Prop := gf σ 17 3 = nI m ∧ gr τ 64 4 = nI m ∧ m ≤ 9 ∧ gf σ 25 3 = nI (k + 1) ∧ gr τ 64 8 = nI k ∧ k < 5
/-- what the reference does with the set behind a number -/
def spyM (Q : Nat) (x : Int32) (τ : St) : Option (Unit × St) :=
  if (gf τ 58 10) = (3 : Int32) then
    gd (inb (8 : Int32) (ln 64)) <|
    gd (inb ((115 : Int32) + (gr τ 64 (8 : Int32).toNatClampNeg)) (ln 64)) <|
    bnd (sr τ 64 ((115 : Int32) + (gr τ 64 (8 : Int32).toNatClampNeg)).toNatClampNeg x) fun s11 =>
    gd (inb (8 : Int32) (ln 64)) <|
    gd (inb (8 : Int32) (ln 64)) <|
    bnd (sr s11 64 (8 : Int32).toNatClampNeg ((gr s11 64 (8 : Int32).toNatClampNeg) + (1 : Int32))) fun s14 =>
    some ((), s14)
  else
    itr g_X12_readSpy_8 Q (x, τ)
/-- how a spy's LINE ends -/
def SPo (σ σ' τ τ' : St) (n m k : Nat) : Prop := (GD σ' τ' n ∧ (∃ y : Nat, y < 2 ^ m ∧ gr σ' 26 k = nI y ∧ gr τ' 64 (115 + k) = nI y) ∧ (∀ j, j ≠ k → gr σ' 26 j = gr σ 26 j) ∧ gr τ' 64 8 = nI (k + 1) ∧ (∀ j, j ≠ 8 → j ≠ 115 + k → gr τ' 64 j = gr τ 64 j) ∧ (gf σ 29 5).toInt ≤ (gf σ' 29 5).toInt) ∨ (BD σ' τ' ∧ gr τ' 64 = gr τ 64) ∨ (PB σ' τ' n ∧ gr τ' 64 = gr τ 64)
theorem spy_set {σ : St} {k : Nat} (hk : k < 5) (x : Int32) (h : gf σ 25 3 = nI (k + 1)) : f_X6_readSpy_89 x σ = some ((), sr σ 26 k x) := by
  unfold f_X6_readSpy_89
  have := S_set (c := 0) tb25 hk (by omega) x h
  rw [h, show (0 : Int32) = nI 0 from rfl, this, bd_mk, Nat.mul_one]
  rfl
theorem spy_num {τ : St} (Q : Nat) (x : Int32) (m : Nat) (h4 : gr τ 64 4 = nI m) : itr g_X12_readSpy_8 (Q + 1) (x, τ) = bd (f_X12_number 0 (nI m - 1) τ) fun r2 s3 => bd (f_X12_good s3) fun r5 s6 => if r5 = 0 then some ((), s6) else spyM Q (x ||| ((1 : Int32) <<< (r2 &&& 31))) s6 := by
  rw [itr_succ]
  unfold spyM
  generalize itr g_X12_readSpy_8 Q = R
  unfold g_X12_readSpy_8
  dsimp only
  rw [show inb (4 : Int32) (ln 64) = true from rfl, gd_tt, show gr τ 64 (4 : Int32).toNatClampNeg = nI m from h4]
  rfl
theorem errs_good {τ : St} {q : Int32} (hg : gf τ 58 12 = 0) (h9 : gf τ 58 9 = q) : f_X12_errs (1 : Int32) τ = some ((), sf (sf τ 58 12 1) 58 13 q) := by
  unfold f_X12_errs
  rw [S_good, bd_mk, b2_t hg, if_neg n10, bnd_mk, bnd_mk, show gf (sf τ 58 12 (1 : Int32)) 58 9 = q from by rw [gf_sf_s, if_neg (by decide)]; exact h9]
theorem num_err {τ : St} {q : Int32} (lo hi : Int32) (hg : gf τ 58 12 = 0) (h9 : gf τ 58 9 = q) (ht : ¬ gf τ 58 10 = 2) : f_X12_number lo hi τ = some (0, sf (sf τ 58 12 1) 58 13 q) := by
  have hb : ¬ gf (sf (sf τ 58 12 1) 58 13 q) 58 12 = 0 := by rw [gf_sf_s, if_neg (by decide), gf_sf_s, if_pos rfl]; decide
  unfold f_X12_number f_X12_number_20 f_X12_number_47
  rw [S_good, bd_mk, b2_t hg, if_neg n10, if_neg ht, errs_good hg h9, bd_mk]
  simp only [S_good, bd_mk, b2_f hb, if_true]
theorem spy_exit {σ : St} {y i k Q : Nat} (hk : k < 5) (h25 : gf σ 25 3 = nI (k + 1)) (hx : ¬ (gf σ 29 7 = 3 ∧ gf σ 29 2 = 0)) : itr g_X6_readSpy_39 (Q + 1) (nI y, nI i, σ) = some ((), sr σ 26 k (nI y)) := by
  rw [itr_succ]
  generalize itr g_X6_readSpy_39 Q = R
  unfold g_X6_readSpy_39
  dsimp only
  rw [spy_set hk _ h25]
  by_cases a : (1200 : Int32) ≤ nI i
  · rw [if_pos a]
  · rw [if_neg a]
    by_cases b : gf σ 29 7 = 3
    · rw [if_pos b, if_neg (fun z => hx ⟨b, z⟩)]
    · rw [if_neg b]
set_option maxHeartbeats 4000000 in
theorem spy_loop {n m k : Nat} : ∀ (c : Nat) (σ τ : St) (q e K y i Q Q' : Nat), LX σ n → GDb σ τ n → GDt σ τ n q e K → n - q < c → c ≤ Q → c ≤ Q' → i ≤ q → y < 2 ^ m → SC σ τ m k →
    ∃ σ' τ', itr g_X6_readSpy_39 Q (nI y, nI i, σ) = some ((), σ') ∧ spyM Q' (nI y) τ = some ((), τ') ∧ LX σ' n ∧ Fr [26, 29] σ σ' ∧ OF τ τ' ∧ SPo σ σ' τ τ' n m k := by
  intro c
  induction c with
  | zero =>
    intro σ τ q e K y i Q Q' hL hb ht hc
    exact absurd hc (by omega)
  | succ c ih =>
    intro σ τ q e K y i Q Q' hL hb ht hc hQ hQ' hi hy hs
    obtain ⟨Q, rfl⟩ : ∃ r, Q = r + 1 := ⟨Q - 1, by omega⟩
    obtain ⟨Q', rfl⟩ : ∃ r, Q' = r + 1 := ⟨Q' - 1, by omega⟩
    have hG : GD σ τ n := ⟨hb, q, e, K, ht⟩
    have hn : n ≤ 1200 := hL.1
    obtain ⟨g1, g2, g3, g4, g5, g6⟩ := hb
    obtain ⟨t1, t2, t3, t4, t5, t6, t7, t8, t9, t10, t11, t12⟩ := ht
    obtain ⟨s1, s2, s3, s4, s5, s6⟩ := hs
    have hF26 : ∀ s : St, Fr [26] s (sr s 26 k (nI y)) := fun s => Fr.c2 (by simp)
    by_cases k3 : K = 3
    · have hqe := t5 (by omega)
      have kk : gf σ 29 7 = 3 := by rw [t8, k3]; rfl
      have tk : ¬ gf τ 58 10 = 3 := by rw [t11, k3]; decide
      have em : (nI m - 1).toInt = (m : Int) - 1 := by
        have z1 : (1 : Int32).toInt = 1 := rfl
        rw [i32_sub (by rw [nI_toInt (by omega)]; omega), nI_toInt (by omega)]
        omega
      obtain ⟨r, r', σ2, τ2, a1, a2, a3, a4, a5, a6, a7, a8, a9⟩ := R_num (0 : Int32) (nI m - 1) (by decide) (by omega) ⟨hL, Or.inl hG⟩
      have z0 : (0 : Int32).toInt = 0 := rfl
      have e26 : gr σ2 26 = gr σ 26 := (a5.1 26 (by decide)).2.1
      have e64 : gr τ2 64 = gr τ 64 := a6.r64
      have e25 : gf σ2 25 3 = nI (k + 1) := by rw [(a5.1 25 (by decide)).1]; exact s4
      have headC : itr g_X6_readSpy_39 (Q + 1) (nI y, nI i, σ) = itr g_X6_readSpy_39 Q (nI y ||| ((1 : Int32) <<< (r &&& 31)), nI (i + 1), σ2) := by
        rw [itr_succ]
        generalize itr g_X6_readSpy_39 Q = R
        unfold g_X6_readSpy_39
        dsimp only
        rw [if_neg (show ¬ (1200 : Int32) ≤ nI i from nI_ge (a := i) (b := 1200) (by omega) (by omega)), if_pos kk, if_pos g1, s1, a1, bd_mk, bnd_mk, bnd_mk, nI_1]
      have headM : spyM (Q' + 1) (nI y) τ = bd (f_X12_good τ2) fun r5 s6 => if r5 = 0 then some ((), s6) else spyM Q' (nI y ||| ((1 : Int32) <<< (r' &&& 31))) s6 := by
        unfold spyM
        rw [if_neg tk, spy_num Q' (nI y) m s2, a2, bd_mk]
        rfl
      rcases a3.2 with hG2 | hB2
      · obtain ⟨b1, b2', b3⟩ := a7 hG2.okM.1
        obtain ⟨t, ht, rfl⟩ := nI_ofT (x := r) (n := m - 1) (by omega) (by omega)
        have hm1 : 1 ≤ m := by rw [nI_toInt (by omega)] at b3; omega
        have hy2 : y ||| 2 ^ t < 2 ^ m := Nat.or_lt_two_pow hy (Nat.pow_lt_pow_right (by decide) (by omega))
        obtain ⟨hb2, q2, e2, K2, ht2⟩ := hG2
        have hpos : e ≤ q2 := by
          have hadv := R_adv hL hG
          obtain ⟨σx, τx, x1, -, -, -, x5, -⟩ := hadv
          -- the number was taken: the class advanced
          have : σ2 = σx := by
            unfold f_X6_number at a1
            rw [if_pos kk, bnd_mk] at a1
            split at a1
            · unfold f_X6_number_30 at a1
              obtain ⟨u, su, hu, a1⟩ := bd_some a1
              have ea : su = σ2 := congrArg Prod.snd (Option.some.inj a1)
              unfold f_X6_blame f_X6_blame_20 at hu
              rw [if_pos g1, bnd_mk, bnd_mk] at hu
              have eb : sf (sf σ 29 2 2) 29 3 (gf (sf σ 29 2 2) 29 5) = su := congrArg Prod.snd (Option.some.inj hu)
              rw [← ea, ← eb] at hb2
              exact absurd hb2.1 (by rw [gf_sf_s, if_neg (by decide), gf_sf_s, if_pos rfl]; decide)
            · split at a1
              · rw [x1, bd_mk] at a1
                exact (congrArg Prod.snd (Option.some.inj a1)).symm
              · unfold f_X6_number_30 at a1
                obtain ⟨u, su, hu, a1⟩ := bd_some a1
                have ea : su = σ2 := congrArg Prod.snd (Option.some.inj a1)
                unfold f_X6_blame f_X6_blame_20 at hu
                rw [if_pos g1, bnd_mk, bnd_mk] at hu
                have eb : sf (sf σ 29 2 2) 29 3 (gf (sf σ 29 2 2) 29 5) = su := congrArg Prod.snd (Option.some.inj hu)
                rw [← ea, ← eb] at hb2
                exact absurd hb2.1 (by rw [gf_sf_s, if_neg (by decide), gf_sf_s, if_pos rfl]; decide)
          rw [← this, t7, ht2.2.2.2.2.2.1, nI_toInt (by omega), nI_toInt (by have := ht2.1; have := ht2.2.1; omega)] at x5
          omega
        have hs2 : SC σ2 τ2 m k := ⟨by rw [(a5.1 17 (by decide)).1]; exact s1, by rw [e64]; exact s2, s3, e25, by rw [e64]; exact s5, s6⟩
        have hq2n : q2 ≤ n := by have := ht2.1; have := ht2.2.1; omega
        obtain ⟨σ', τ', f1, f2, f3, f4, f5, f6⟩ := ih σ2 τ2 q2 e2 K2 (y ||| 2 ^ t) (i + 1) Q Q' a3.1 hb2 ht2 (by omega) (by omega) (by omega) (by omega) hy2 hs2
        rw [← b1] at headM
        rw [nI_sh1 t (by omega), nI_or] at headC headM
        refine ⟨σ', τ', headC.trans f1, ?_, f3, (a5.mo (by simp)).tr f4, a6.of.tr f5, ?_⟩
        · rw [headM, S_good, bd_mk, b2_t hb2.2.1, if_neg n10]
          exact f2
        · rcases f6 with ⟨h1, h2, h3, h4, h5, h6⟩ | ⟨h1, h2⟩ | ⟨h1, h2⟩
          · refine Or.inl ⟨h1, h2, fun j hj => by rw [h3 j hj, e26], h4, fun j j1 j2 => by rw [h5 j j1 j2, e64], ?_⟩
            rw [t6, nI_toInt (by omega)]
            rw [ht2.2.2.2.2.2.1, nI_toInt (by omega)] at h6
            omega
          · exact Or.inr (Or.inl ⟨h1, h2.trans e64⟩)
          · exact Or.inr (Or.inr ⟨h1, h2.trans e64⟩)
      · obtain ⟨Q, rfl⟩ : ∃ r, Q = r + 1 := ⟨Q - 1, by omega⟩
        have hx : ¬ (gf σ2 29 7 = 3 ∧ gf σ2 29 2 = 0) := fun z => hB2.not z.2
        obtain ⟨u, hu⟩ : ∃ u : Nat, nI y ||| ((1 : Int32) <<< (r &&& 31)) = nI u ∨ True := ⟨0, Or.inr trivial⟩
        have ex : itr g_X6_readSpy_39 (Q + 1) (nI y ||| ((1 : Int32) <<< (r &&& 31)), nI (i + 1), σ2) = some ((), sr σ2 26 k (nI y ||| ((1 : Int32) <<< (r &&& 31)))) := by
          rw [itr_succ]
          generalize itr g_X6_readSpy_39 Q = R
          unfold g_X6_readSpy_39
          dsimp only
          rw [spy_set s6 _ e25]
          by_cases a : (1200 : Int32) ≤ nI (i + 1)
          · rw [if_pos a]
          · rw [if_neg a]
            by_cases b : gf σ2 29 7 = 3
            · rw [if_pos b, if_neg (fun z => hx ⟨b, z⟩)]
            · rw [if_neg b]
        have hF : Fr [26] σ2 (sr σ2 26 k (nI y ||| ((1 : Int32) <<< (r &&& 31)))) := Fr.c2 (by simp)
        refine ⟨_, τ2, headC.trans ex, ?_, a3.1.mv hF (by decide), (a5.mo (by simp)).tr (hF.mo (by simp)), a6.of, Or.inr (Or.inl ⟨hB2.mv hF (by decide), e64⟩)⟩
        rw [headM, S_good, bd_mk, b2_f hB2.notM, if_pos rfl]
    · have kk : ¬ gf σ 29 7 = 3 := fun z => k3 ((nI_eq (a := K) (b := 3) (by omega) (by omega)).mp (t8.symm.trans z))
      have exC := spy_exit (σ := σ) (y := y) (i := i) (Q := Q) s6 s4 (fun z => kk z.1)
      by_cases k4 : K = 4
      · have tk : gf τ 58 10 = 3 := by rw [t11, k4]; rfl
        have hi8 : (115 : Int32) + gr τ 64 (8 : Int32).toNatClampNeg = nI (115 + k) := by
          rw [show gr τ 64 (8 : Int32).toNatClampNeg = nI k from s5, show (115 : Int32) = nI 115 from rfl, nI_add]
        have e8 : gr (sr τ 64 (115 + k) (nI y)) 64 (8 : Int32).toNatClampNeg = nI k := by
          show gr (sr τ 64 (115 + k) (nI y)) 64 8 = nI k
          rw [gr_sr_s, if_neg (by omega)]
          exact s5
        have hG' : GD (sr σ 26 k (nI y)) (sr (sr τ 64 (115 + k) (nI y)) 64 8 (nI (k + 1))) n := by
          have hR : RP (sr σ 26 k (nI y)) (sr (sr τ 64 (115 + k) (nI y)) 64 8 (nI (k + 1))) n := RP.mv (σ := σ) (τ := τ) ⟨hL, Or.inl hG⟩ (hF26 σ) ((Fr.c2 (l := [64]) (by simp)).tr (Fr.c2 (by simp))) (by decide) (by decide) (by decide) (by decide)
          rcases hR.2 with z | z
          · exact z
          · exact absurd ((ok.mv (hF26 σ) (by decide)).mpr g1) z.not
        refine ⟨_, _, exC, ?_, hL.mv (hF26 σ) (by decide), (hF26 σ).mo (by simp), OF.s64.tr OF.s64, Or.inl ⟨hG', ⟨y, hy, by rw [gr_sr_s, if_pos rfl], by rw [gr_sr_s, if_neg (by omega), gr_sr_s, if_pos rfl]⟩, fun j hj => by rw [gr_sr_s, if_neg hj], by rw [gr_sr_s, if_pos rfl], fun j j1 j2 => by rw [gr_sr_s, if_neg j1, gr_sr_s, if_neg j2], Int.le_refl _⟩⟩
        unfold spyM
        rw [if_pos tk, show inb (8 : Int32) (ln 64) = true from rfl, gd_tt, hi8, i64 (by omega), gd_tt, bnd_mk, nI_clamp (by omega), gd_tt, gd_tt, bnd_mk, e8, nI_1]
        rfl
      · have tk : ¬ gf τ 58 10 = 3 := fun z => by
          have := (nI_eq (a := tkK K) (b := 3) (by unfold tkK; split <;> omega) (by omega)).mp (t11.symm.trans z)
          unfold tkK at this
          split at this <;> omega
        have tk2 : ¬ gf τ 58 10 = 2 := fun z => by
          have := (nI_eq (a := tkK K) (b := 2) (by unfold tkK; split <;> omega) (by omega)).mp (t11.symm.trans z)
          unfold tkK at this
          split at this <;> omega
        have hb2 : ¬ gf (sf (sf τ 58 12 1) 58 13 (nI q)) 58 12 = 0 := by rw [gf_sf_s, if_neg (by decide), gf_sf_s, if_pos rfl]; decide
        refine ⟨_, sf (sf τ 58 12 1) 58 13 (nI q), exC, ?_, hL.mv (hF26 σ) (by decide), (hF26 σ).mo (by simp), ⟨(Fr.c1 (by simp)).tr (Fr.c1 (by simp)), fun j hj => by rw [gf_sf_s, if_neg (by omega), gf_sf_s, if_neg (by omega)]⟩, Or.inr (Or.inr ⟨⟨hL.mv (hF26 σ) (by decide), g1, fun z => k4 ((nI_eq (a := K) (b := 4) (by omega) (by omega)).mp (t8.symm.trans z)), q, by omega, t6, ?_, ?_⟩, rfl⟩)⟩
        · unfold spyM
          rw [if_neg tk, spy_num Q' (nI y) m s2, num_err _ _ g2 t9 tk2, bd_mk, S_good, bd_mk, b2_f hb2, if_pos rfl]
        · rw [gf_sf_s, if_neg (by decide), gf_sf_s, if_pos rfl]
          rfl
        · rw [gf_sf_s, if_pos rfl]
/-- a spy's LINE, when there is room -/
theorem R_readSpy {σ τ : St} {n k : Nat} (hk : k < 5) (hk1 : gf σ 25 3 = nI k) (hL : LX σ n) (hG : GD σ τ n) (hSZ : SZ σ 15) (hW : WR σ 15 (gr τ 64)) (h10 : gr τ 64 10 = nI 0) : ∃ σ' τ1 τ', f_X6_readSpy σ = some ((), σ') ∧ f_X12_advance τ = some ((), τ1) ∧ f_X12_readSpy τ1 = some ((), τ') ∧ (DI σ' τ' n ∨ (PB σ' τ' n ∧ SZ σ' 15 ∧ SM (gr τ' 64))) ∧ (PG σ σ' ∨ PB σ' τ' n) ∧ Fr RD σ σ' ∧ OF τ τ' := by
  have hsm := hW.sm
  obtain ⟨hH, hT, hE, hA, hU, hY, hS1, hS2, hS3, hC⟩ := hW
  have hF8 : gr τ 64 8 = nI k := by
    obtain ⟨k', b1, b2', b3, -⟩ := hY
    obtain rfl : k = k' := (nI_eq (by omega) (by omega)).mp (hk1.symm.trans b2')
    exact b3
  obtain ⟨m, hm9, hm1, hm2, hmr⟩ := hT
  obtain ⟨σ1, τ1, a1, a2, a3, a4, a5, a6, a6b, a7⟩ := R_begin tb25 hk hk1 hL hG
  obtain ⟨σ2, τ2, b1, b2', b3, b4, b5, b6⟩ := R_word (z := 20) (by decide) a3
  have em : (nI m - 1).toInt = (m : Int) - 1 := by
    have z1 : (1 : Int32).toInt = 1 := rfl
    rw [i32_sub (by rw [nI_toInt (by omega)]; omega), nI_toInt (by omega)]
    omega
  have z0 : (0 : Int32).toInt = 0 := rfl
  have q17 : gf σ2 17 3 = nI m := by rw [(b5.1 17 (by decide)).1, (a6.1 17 (by decide)).1]; exact hm1
  have q25 : gf σ2 25 3 = nI (k + 1) := by rw [(b5.1 25 (by decide)).1]; exact a5
  have e64 : gr τ2 64 = gr τ 64 := b6.r64.trans a7.r64
  have q4 : gr τ2 64 4 = nI m := by rw [e64]; exact hm2
  obtain ⟨r, r', σ3, τ3, c1, c2, c3, c4, c5, c6, c7, c8, c9⟩ := R_num (0 : Int32) (nI m - 1) (by decide) (by omega) b3
  have e64' : gr τ3 64 = gr τ 64 := c6.r64.trans e64
  have q25' : gf σ3 25 3 = nI (k + 1) := by rw [(c5.1 25 (by decide)).1]; exact q25
  have F3 : Fr [25, 29] σ σ3 := ((a6.mo (by simp) : Fr [25, 29] σ σ1).tr (b5.mo (by simp))).tr (c5.mo (by simp))
  have hcl : f_X6_readSpy σ = itr g_X6_readSpy_39 FU ((1 : Int32) <<< (r &&& 31), 0, σ3) := by
    unfold f_X6_readSpy
    rw [a1, bd_mk, b1, bd_mk, q17, c1, bd_mk, bnd_mk]
  have hml : f_X12_readSpy τ1 = bd (f_X12_good τ3) fun r5 s6 => if r5 = 0 then some ((), s6) else spyM 4999 ((0 : Int32) ||| ((1 : Int32) <<< (r' &&& 31))) s6 := by
    unfold f_X12_readSpy
    rw [b2', bd_mk, show FU = 4999 + 1 from rfl, spy_num 4999 0 m q4, c2, bd_mk]
  have szO : ∀ s : St, Fr [25, 26, 29] σ s → gf s 25 3 = nI (k + 1) → SZ s 15 := fun s hf h25 => by
    obtain ⟨z1, z2, z3, z4, z5, z6, z7⟩ := hSZ
    exact ⟨by rw [(hf.1 15 (by decide)).1]; exact z1, by rw [(hf.1 17 (by decide)).1]; exact z2, by rw [(hf.1 19 (by decide)).1]; exact z3, by rw [(hf.1 21 (by decide)).1]; exact z4, by rw [(hf.1 23 (by decide)).1]; exact z5, ⟨k + 1, by omega, h25⟩, by rw [(hf.1 27 (by decide)).1]; exact z7⟩
  rcases c3.2 with hG3 | hB3
  · obtain ⟨d1, d2, d3⟩ := c7 hG3.okM.1
    have dd := d1
    obtain ⟨t, ht, rfl⟩ := nI_ofT (x := r) (n := m - 1) (by omega) (by omega)
    have hmm : 1 ≤ m := by rw [nI_toInt (by omega)] at d3; omega
    obtain ⟨hb3, q, e, K, ht3⟩ := hG3
    have hSC : SC σ3 τ3 m k := ⟨by rw [(c5.1 17 (by decide)).1]; exact q17, by rw [e64']; exact hm2, hm9, q25', by rw [e64']; exact hF8, hk⟩
    have h1200 : n ≤ 1200 := hL.1
    obtain ⟨σ', τ', f1, f2, f3, f4, f5, f6⟩ := spy_loop (n + 1 - q) σ3 τ3 q e K (2 ^ t) 0 FU 4999 c3.1 hb3 ht3 (by have := ht3.1; have := ht3.2.1; omega) (by unfold FU; omega) (by omega) (by omega) (Nat.pow_lt_pow_right (by decide) (by omega)) hSC
    have hFr : Fr [25, 26, 29] σ σ' := (F3.mo (by simp)).tr (f4.mo (by simp))
    have h25 : gf σ' 25 3 = nI (k + 1) := by rw [(f4.1 25 (by decide)).1]; exact q25'
    have hsz := szO σ' hFr h25
    have hPGa : PG σ σ3 := (a4.tr b4).tr c4
    rw [nI_sh1 t (by omega), show (0 : Int32) = nI 0 from rfl] at hcl
    rw [← dd, nI_sh1 t (by omega), show (0 : Int32) ||| nI (2 ^ t) = nI (2 ^ t) from by rw [show (0 : Int32) = nI 0 from rfl, nI_or, Nat.zero_or], S_good, bd_mk, b2_t hb3.2.1, if_neg n10, f2] at hml
    have hOF : OF τ τ' := (((a7.of).tr b6.of).tr c6.of).tr f5
    refine ⟨σ', τ1, τ', hcl.trans f1, a2, hml, ?_, ?_, hFr.mo (by simp), hOF⟩
    · rcases f6 with ⟨h1, ⟨y, y1, y2, y3⟩, h3, h4, h5, h6⟩ | ⟨h1, h2⟩ | ⟨h1, h2⟩
      · have hO : ∀ j, j ≠ 8 → j ≠ 115 + k → gr τ' 64 j = gr τ 64 j := fun j j1 j2 => by rw [h5 j j1 j2, e64']
        have hy511 : 2 ^ m ≤ 512 := by
          calc 2 ^ m ≤ 2 ^ 9 := Nat.pow_le_pow_right (by decide) hm9
            _ = 512 := rfl
        refine Or.inl ⟨⟨f3, Or.inl h1⟩, hsz, ⟨by rw [hO 4 (by omega) (by omega)]; exact ⟨m, hm9, hm2⟩, by rw [hO 5 (by omega) (by omega)]; exact hsm.2.1, by rw [hO 6 (by omega) (by omega)]; exact hsm.2.2.1, by rw [hO 7 (by omega) (by omega)]; exact hsm.2.2.2.1, ⟨k + 1, by omega, h4⟩⟩, fun _ => ⟨?_, by rw [hO 10 (by omega) (by omega)]; exact h10⟩⟩
        refine ⟨hH.mv (fun j _ => by rw [(hFr.1 15 (by decide)).1]) (fun j _ => by rw [(hFr.1 16 (by decide)).2.1]) (fun j h1 h4 h5 h6 h7 h8 h9 => hO j (by omega) (by omega)), TV.mv (σ := σ) (F := gr τ 64) ⟨m, hm9, hm1, hm2, hmr⟩ (by rw [(hFr.1 17 (by decide)).1]) (fun j _ => by rw [(hFr.1 18 (by decide)).2.1]) (hO 4 (by omega) (by omega)) (fun j _ _ => hO j (by omega) (by omega)), hE.mv (by rw [(hFr.1 19 (by decide)).1]) (fun j _ => by rw [(hFr.1 20 (by decide)).2.1]) (hO 5 (by omega) (by omega)) (fun j _ _ => hO j (by omega) (by omega)), hA.mv (by rw [(hFr.1 21 (by decide)).1]) (fun j _ => by rw [(hFr.1 22 (by decide)).2.1]) (hO 6 (by omega) (by omega)) (fun j _ _ => hO j (by omega) (by omega)), hU.mv (by rw [(hFr.1 23 (by decide)).1]) (fun j _ => by rw [(hFr.1 24 (by decide)).2.1]) (hO 7 (by omega) (by omega)) (fun j _ _ => hO j (by omega) (by omega)), hY.ad hk1 hk (by decide) h25 (fun j hj => ?_) h4 (fun j _ _ => hO j (by omega) (by omega)) (fun c hc => ?_), ?_, ?_, ?_, CR.nil h10 hC (by rw [(hFr.1 27 (by decide)).1]) (hO 10 (by omega) (by omega))⟩
        · rw [h3 j (by omega), (F3.1 26 (by decide)).2.1]
        · obtain rfl : c = 0 := by omega
          show gr σ' 26 (k * 1 + 0) = gr τ' 64 (115 + 1 * k + 0) ∧ (0 : Int) ≤ (gr τ' 64 (115 + 1 * k + 0)).toInt ∧ (gr τ' 64 (115 + 1 * k + 0)).toInt ≤ 511
          rw [Nat.mul_one, Nat.one_mul, Nat.add_zero, Nat.add_zero, y2, y3, nI_toInt (by omega)]
          exact ⟨rfl, by omega, by omega⟩
        · intro q q1 q2 i hi
          rw [hO 5 (by omega) (by omega)] at q1
          rw [hO _ (by omega) (by omega), hO _ (by omega) (by omega)]
          exact hS1 q q1 q2 i hi
        · intro q q1 q2 i hi
          rw [hO 7 (by omega) (by omega)] at q1
          rw [hO _ (by omega) (by omega), hO _ (by omega) (by omega)]
          exact hS2 q q1 q2 i hi
        · intro q m' q1 q2 m1 m2 i hi
          rw [h4] at q1
          obtain rfl : k + 1 = q := (nI_eq (by omega) (by omega)).mp q1
          rw [hO 4 (by omega) (by omega), hm2] at m1
          obtain rfl : m = m' := (nI_eq (by omega) (by omega)).mp m1
          by_cases ei : i = k
          · subst ei
            rw [y3, nI_toInt (by omega)]
            exact_mod_cast y1
          · rw [hO _ (by omega) (by omega)]
            exact hS3 k m hF8 (by omega) hm2 hm9 i (by omega)
      · refine Or.inl ⟨⟨f3, Or.inr h1⟩, hsz, by rw [h2, e64']; exact hsm, fun o => absurd o h1.not⟩
      · exact Or.inr ⟨h1, hsz, by rw [h2, e64']; exact hsm⟩
    · rcases f6 with ⟨h1, h2, h3, h4, h5, h6⟩ | ⟨h1, h2⟩ | ⟨h1, h2⟩
      · exact Or.inl (hPGa.tr (fun _ => ⟨hb3.1, h6⟩))
      · exact Or.inl (fun o => absurd o h1.not)
      · exact Or.inr h1
  · have hx : ¬ (gf σ3 29 7 = 3 ∧ gf σ3 29 2 = 0) := fun z => hB3.not z.2
    have ex : itr g_X6_readSpy_39 (4999 + 1) ((1 : Int32) <<< (r &&& 31), 0, σ3) = some ((), sr σ3 26 k ((1 : Int32) <<< (r &&& 31))) := by
      rw [itr_succ]
      generalize itr g_X6_readSpy_39 4999 = R
      unfold g_X6_readSpy_39
      dsimp only
      rw [spy_set hk _ q25']
      by_cases a : (1200 : Int32) ≤ 0
      · rw [if_pos a]
      · rw [if_neg a]
        by_cases b : gf σ3 29 7 = 3
        · rw [if_pos b, if_neg (fun z => hx ⟨b, z⟩)]
        · rw [if_neg b]
    have hF : Fr [26] σ3 (sr σ3 26 k ((1 : Int32) <<< (r &&& 31))) := Fr.c2 (by simp)
    have hFr : Fr [25, 26, 29] σ (sr σ3 26 k ((1 : Int32) <<< (r &&& 31))) := (F3.mo (by simp)).tr (hF.mo (by simp))
    have hB4 := hB3.mv hF (by decide)
    refine ⟨_, τ1, τ3, hcl.trans ex, a2, ?_, Or.inl ⟨⟨c3.1.mv hF (by decide), Or.inr hB4⟩, szO _ hFr q25', by rw [e64']; exact hsm, fun o => absurd o hB4.not⟩, Or.inl (fun o => absurd o hB4.not), hFr.mo (by simp), (a7.of.tr b6.of).tr c6.of⟩
    rw [hml, S_good, bd_mk, b2_f hB3.notM, if_pos rfl]
/-- a 6th spy -/
theorem T_readSpy {σ τ : St} {n : Nat} (hk1 : gf σ 25 3 = nI 5) (hR : RP σ τ n) (hSZ : SZ σ 15) : ∃ σ' τ', f_X6_readSpy σ = some ((), σ') ∧ f_X12_errs (3 : Int32) τ = some ((), τ') ∧ RP σ' τ' n ∧ ¬ ok σ' ∧ SZ σ' 15 ∧ Fr RD σ σ' ∧ OM τ τ' := by
  obtain ⟨σ1, τ1, a1, a2, a3, a4, a5, a6⟩ := R_over tb25 hk1 hR
  obtain ⟨w1, d0, d1, d2, d3⟩ := T_word (z := 20) (by decide) a3 a4
  obtain ⟨r, σ3, c1, c2, c3, c4, -⟩ := T_num (0 : Int32) (gf w1 17 3 - 1) d1 d2
  have q25 : gf σ3 25 3 = nI (4 + 1) := by rw [(c4.1 25 (by decide)).1, (d3.1 25 (by decide)).1, (a5.1 25 (by decide)).1]; exact hk1
  have hx : ¬ (gf σ3 29 7 = 3 ∧ gf σ3 29 2 = 0) := fun z => c3.not z.2
  have ex : itr g_X6_readSpy_39 (4999 + 1) ((1 : Int32) <<< (r &&& 31), 0, σ3) = some ((), sr σ3 26 4 ((1 : Int32) <<< (r &&& 31))) := by
    rw [itr_succ]
    generalize itr g_X6_readSpy_39 4999 = R
    unfold g_X6_readSpy_39
    dsimp only
    rw [spy_set (by decide) _ q25]
    by_cases a : (1200 : Int32) ≤ 0
    · rw [if_pos a]
    · rw [if_neg a]
      by_cases b : gf σ3 29 7 = 3
      · rw [if_pos b, if_neg (fun z => hx ⟨b, z⟩)]
      · rw [if_neg b]
  have hF : Fr [26] σ3 (sr σ3 26 4 ((1 : Int32) <<< (r &&& 31))) := Fr.c2 (by simp)
  have hFr : Fr [26, 29] σ (sr σ3 26 4 ((1 : Int32) <<< (r &&& 31))) := (((a5.mo (by simp) : Fr [26, 29] σ σ1).tr (d3.mo (by simp))).tr (c4.mo (by simp))).tr (hF.mo (by simp))
  have hB4 := c3.mv hF (by decide)
  refine ⟨_, τ1, ?_, a2, ⟨c2.mv hF (by decide), Or.inr hB4⟩, hB4.not, hSZ.mv hFr (by decide) (by decide) (by decide) (by decide) (by decide) (by decide) (by decide), hFr.mo (by simp), a6⟩
  unfold f_X6_readSpy
  rw [a1, bd_mk, d0, bd_mk, c1, bd_mk, bnd_mk]
  exact ex
/-! ===== which LINE it is; a LINE and its sign ===== -/
theorem iw_one : ∀ z, z < 6 → ∀ z', z' < 6 → sL z = sL z' → (∀ i, i < sL z → sB z i = sB z' i) → z = z' := by decide +kernel
theorem IW.one {b : Nat → Int32} {q e K z z' : Nat} (h : IW b q e K z) (h' : IW b q e K z') (hz : z < 6) (hz' : z' < 6) : z = z' := by
  obtain ⟨-, h1, h2⟩ := h
  obtain ⟨-, g1, g2⟩ := h'
  have hl : sL z = sL z' := by omega
  exact iw_one z hz z' hz' hl (fun i hi => (h2 i hi).symm.trans (g2 i (by omega)))
theorem N179_bad {τ : St} (h : ¬ gf τ 58 12 = 0) : f_X12_readNext_179 τ = some ((), τ) := by
  unfold f_X12_readNext_179
  rw [S_good, bd_mk, b2_f h, if_pos rfl]
theorem N154_bad {τ : St} (h : ¬ gf τ 58 12 = 0) : f_X12_readNext_154 τ = some ((), τ) := by
  unfold f_X12_readNext_154
  rw [S_isF (by decide) h, bd_mk, if_pos rfl, N179_bad h]
theorem N134_bad {τ : St} (h : ¬ gf τ 58 12 = 0) : f_X12_readNext_134 τ = some ((), τ) := by
  unfold f_X12_readNext_134
  rw [S_isF (by decide) h, bd_mk, if_pos rfl, N154_bad h]
theorem N108_bad {τ : St} (h : ¬ gf τ 58 12 = 0) : f_X12_readNext_108 τ = some ((), τ) := by
  unfold f_X12_readNext_108
  rw [S_isF (by decide) h, bd_mk, if_pos rfl, N134_bad h]
theorem N89_bad {τ : St} (h : ¬ gf τ 58 12 = 0) : f_X12_readNext_89 τ = some ((), τ) := by
  unfold f_X12_readNext_89
  rw [S_isF (by decide) h, bd_mk, if_pos rfl, N108_bad h]
theorem N69_bad {τ : St} (h : ¬ gf τ 58 12 = 0) : f_X12_readNext_69 τ = some ((), τ) := by
  unfold f_X12_readNext_69
  rw [S_isF (by decide) h, bd_mk, if_pos rfl, N89_bad h]
theorem RP.bad {σ τ : St} {n : Nat} (h : RP σ τ n) (ho : ¬ ok σ) : BD σ τ := by
  rcases h.2 with c | c
  · exact absurd c.okM.1 ho
  · exact c
theorem takesN {τ : St} {z : Nat} (hz : z < 21) (h : f_X12_is z τ = some (0, τ)) : f_X12_takes z τ = some (0, τ) := by
  unfold f_X12_takes f_X12_takes_14
  rw [isS_t hz, gd_tt, h, bd_mk, if_pos rfl, bz_0, gd_tt]
theorem takesY {τ τ1 : St} {z : Nat} (hz : z < 21) (h : f_X12_is z τ = some (1, τ)) (h1 : f_X12_advance τ = some ((), τ1)) : f_X12_takes z τ = some (1, τ1) := by
  unfold f_X12_takes f_X12_takes_14
  rw [isS_t hz, gd_tt, h, bd_mk, if_neg n10, h1, bd_mk, bz_1, gd_tt]
theorem c64_4 : (4 : Int32).toNatClampNeg = 4 := rfl
theorem c64_5 : (5 : Int32).toNatClampNeg = 5 := rfl
theorem c64_6 : (6 : Int32).toNatClampNeg = 6 := rfl
theorem c64_7 : (7 : Int32).toNatClampNeg = 7 := rfl
theorem c64_8 : (8 : Int32).toNatClampNeg = 8 := rfl
theorem c64_9 : (9 : Int32).toNatClampNeg = 9 := rfl
theorem g64_4 : inb (4 : Int32) (ln 64) = true := rfl
theorem g64_5 : inb (5 : Int32) (ln 64) = true := rfl
theorem g64_6 : inb (6 : Int32) (ln 64) = true := rfl
theorem g64_7 : inb (7 : Int32) (ln 64) = true := rfl
theorem g64_8 : inb (8 : Int32) (ln 64) = true := rfl
theorem g64_9 : inb (9 : Int32) (ln 64) = true := rfl
def LE (σ σ' τ' : St) (n : Nat) : Prop := (DI σ' τ' n ∧ PG σ σ') ∨ (PB σ' τ' n ∧ SZ σ' 15 ∧ SM (gr τ' 64))
set_option maxHeartbeats 4000000 in
theorem R_next {σ τ : St} {n : Nat} (hL : LX σ n) (hG : GD σ τ n) (hSZ : SZ σ 15) (hW : WR σ 15 (gr τ 64)) (h10 : gr τ 64 10 = nI 0) (hl : ¬ gf σ 15 0 = 0) : ∃ σ' τ', f_X6_readLine σ = some ((), σ') ∧ f_X12_readNext τ = some ((), τ') ∧ LE σ σ' τ' n ∧ Fr RD σ σ' ∧ OF τ τ' := by
  have hsm := hW.sm
  have hW0 := hW
  obtain ⟨hH, hT, hE, hA, hU, hY, hS1, hS2, hS3, hC⟩ := hW
  have hR : RP σ τ n := ⟨hL, Or.inl hG⟩
  have hL0 := hL
  have hG0 := hG
  obtain ⟨hn, hln, -⟩ := hL
  obtain ⟨⟨g1, g2, g3, g4, g5, g6⟩, q, e, K, ⟨t1, t2, t3, t4, t5, t6, t7, t8, t9, t10, t11, t12⟩⟩ := hG
  have hsee : ∀ z, z < 21 → f_X6_sees z σ = some (b2 (IW (gr σ 30) q e K z), σ) := fun z hz => S_sees hz hn ⟨t1, t2⟩ t3 t6 t7 t8
  have hiw : ∀ z, IW (gr τ 62) q e K z ↔ IW (gr σ 30) q e K z := fun z => ⟨fun w => ⟨w.1, w.2.1, fun i hi => by rw [(g6 (q + i) (by have := w.2.1; omega)).1]; exact w.2.2 i hi⟩, fun w => ⟨w.1, w.2.1, fun i hi => by rw [← (g6 (q + i) (by have := w.2.1; omega)).1]; exact w.2.2 i hi⟩⟩
  have his : ∀ z, z < 21 → f_X12_is z τ = some (b2 (IW (gr τ 62) q e K z), τ) := fun z hz => S_is hz hn ⟨t1, t2⟩ t3 g2 t9 t10 t11
  have sY : ∀ z, z < 6 → IW (gr σ 30) q e K z → f_X6_sees z σ = some (1, σ) ∧ f_X12_is z τ = some (1, τ) := fun z hz w => ⟨by rw [hsee z (by omega), b2_t w], by rw [his z (by omega), b2_t ((hiw z).mpr w)]⟩
  have sN : ∀ z, z < 6 → ¬ IW (gr σ 30) q e K z → f_X6_sees z σ = some (0, σ) ∧ f_X12_is z τ = some (0, τ) := fun z hz w => ⟨by rw [hsee z (by omega), b2_f w], by rw [his z (by omega), b2_f (fun c => w ((hiw z).mp c))]⟩
  have oth : ∀ z z', z < 6 → z' < 6 → z' ≠ z → IW (gr σ 30) q e K z → f_X6_sees z' σ = some (0, σ) ∧ f_X12_is z' τ = some (0, τ) := fun z z' hz hz' hne w => sN z' hz' (fun w' => hne (w'.one w hz' hz))
  have bm : ∀ {σ' τ' : St}, RP σ' τ' n → ¬ ok σ' → ¬ gf τ' 58 12 = 0 := fun h ho => (h.bad ho).notM
  have smO : ∀ {τ' : St}, OM τ τ' → SM (gr τ' 64) := fun h => by rw [h.r64]; exact hsm
  by_cases w0 : IW (gr σ 30) q e K 0
  · -- need
    obtain ⟨a0, b0⟩ := sY 0 (by decide) w0
    obtain ⟨a1, b1⟩ := oth 0 1 (by decide) (by decide) (by decide) w0
    obtain ⟨a2, b2'⟩ := oth 0 2 (by decide) (by decide) (by decide) w0
    obtain ⟨a3, b3⟩ := oth 0 3 (by decide) (by decide) (by decide) w0
    obtain ⟨a4, b4⟩ := oth 0 4 (by decide) (by decide) (by decide) w0
    obtain ⟨a5, b5⟩ := oth 0 5 (by decide) (by decide) (by decide) w0
    obtain ⟨σ', τ1, τ', r1, r2, r3, r4, r5, r6, r7⟩ := R_readNeed hL0 hG0 hSZ hW0 h10
    refine ⟨σ', τ', ?_, ?_, Or.inl ⟨r4, r5⟩, r6, r7⟩
    · unfold f_X6_readLine f_X6_readLine_132
      rw [if_neg hl, a0, bd_mk, if_neg n10, r1, bd_mk]
    · unfold f_X12_readNext f_X12_readNext_54 f_X12_readNext_59 f_X12_readNext_69 f_X12_readNext_89 f_X12_readNext_108 f_X12_readNext_134 f_X12_readNext_154 f_X12_readNext_179 f_X12_readNext_319
      simp only [b0, b1, b2', b3, b4, b5, bd_mk, n10, if_false, if_true, S_good, b2_t g2, takesY (by decide) b0 r2, r3]
  by_cases w1 : IW (gr σ 30) q e K 1
  · -- train
    obtain ⟨a0, b0⟩ := oth 1 0 (by decide) (by decide) (by decide) w1
    obtain ⟨a1, b1⟩ := sY 1 (by decide) w1
    obtain ⟨a2, b2'⟩ := oth 1 2 (by decide) (by decide) (by decide) w1
    obtain ⟨a3, b3⟩ := oth 1 3 (by decide) (by decide) (by decide) w1
    obtain ⟨a4, b4⟩ := oth 1 4 (by decide) (by decide) (by decide) w1
    obtain ⟨a5, b5⟩ := oth 1 5 (by decide) (by decide) (by decide) w1
    obtain ⟨k, k9, kk, kF, -⟩ := hT
    by_cases kz : k = 9
    · subst kz
      obtain ⟨σ', τ', r1, r2, r3, r4, r5, r6, r7⟩ := T_readTrain kk hR hSZ
      refine ⟨σ', τ', ?_, ?_, Or.inl ⟨⟨r3, r5, smO r7, fun o => absurd o r4⟩, fun o => absurd o r4⟩, r6, r7.of⟩
      · unfold f_X6_readLine f_X6_readLine_132
        rw [if_neg hl, a0, bd_mk, if_pos rfl, a1, bd_mk, if_neg n10, r1, bd_mk]
      · unfold f_X12_readNext f_X12_readNext_54 f_X12_readNext_59 f_X12_readNext_69 f_X12_readNext_129
        have hf : gr τ 64 4 = (9 : Int32) := kF
        simp only [b0, b1, bd_mk, n10, if_false, if_true, g64_4, gd_tt, c64_4, hf, r2, N134_bad (bm r3 r4)]
    · obtain ⟨σ', τ1, τ', r1, r2, r3, r4, r5, r6, r7⟩ := R_readTrain (by omega) kk hL0 hG0 hSZ hW0 h10
      refine ⟨σ', τ', ?_, ?_, Or.inl ⟨r4, r5⟩, r6, r7⟩
      · unfold f_X6_readLine f_X6_readLine_132
        rw [if_neg hl, a0, bd_mk, if_pos rfl, a1, bd_mk, if_neg n10, r1, bd_mk]
      · have hf : ¬ gr τ 64 4 = (9 : Int32) := fun c => kz ((nI_eq (a := k) (b := 9) (by omega) (by omega)).mp (kF.symm.trans c))
        unfold f_X12_readNext f_X12_readNext_54 f_X12_readNext_59 f_X12_readNext_69 f_X12_readNext_89 f_X12_readNext_108 f_X12_readNext_134 f_X12_readNext_154 f_X12_readNext_179 f_X12_readNext_319
        simp only [b0, b1, b2', b3, b4, b5, bd_mk, n10, if_false, if_true, g64_4, gd_tt, c64_4, hf, S_good, b2_t g2, takesN (by decide) b0, takesY (by decide) b1 r2, r3]
  by_cases w2 : IW (gr σ 30) q e K 2
  · -- tea
    obtain ⟨a0, b0⟩ := oth 2 0 (by decide) (by decide) (by decide) w2
    obtain ⟨a1, b1⟩ := oth 2 1 (by decide) (by decide) (by decide) w2
    obtain ⟨a2, b2'⟩ := sY 2 (by decide) w2
    obtain ⟨a3, b3⟩ := oth 2 3 (by decide) (by decide) (by decide) w2
    obtain ⟨a4, b4⟩ := oth 2 4 (by decide) (by decide) (by decide) w2
    obtain ⟨a5, b5⟩ := oth 2 5 (by decide) (by decide) (by decide) w2
    obtain ⟨k, k9, kk, kF, -⟩ := hE
    by_cases kz : k = 4
    · subst kz
      obtain ⟨σ', τ', r1, r2, r3, r4, r5, r6, r7⟩ := T_span19 kk hR hSZ
      refine ⟨σ', τ', ?_, ?_, Or.inl ⟨⟨r3, r5, smO r7, fun o => absurd o r4⟩, fun o => absurd o r4⟩, r6, r7.of⟩
      · unfold f_X6_readLine f_X6_readLine_132
        rw [if_neg hl, a0, bd_mk, if_pos rfl, a1, bd_mk, if_pos rfl, a2, bd_mk, if_neg n10, r1, bd_mk]
      · unfold f_X12_readNext f_X12_readNext_54 f_X12_readNext_59 f_X12_readNext_69 f_X12_readNext_89 f_X12_readNext_129
        have hf : gr τ 64 5 = (4 : Int32) := kF
        simp only [b0, b1, b2', bd_mk, n10, if_false, if_true, g64_5, gd_tt, c64_5, hf, r2, N134_bad (bm r3 r4)]
    · obtain ⟨σ', τ1, τ', r1, r2, r3, r3', r4, r5, r6, r7⟩ := R_span19 (k := k) (by omega) kk hL0 hG0 hSZ hW0 h10
      refine ⟨σ', _, ?_, ?_, Or.inl ⟨r4, r5⟩, r6, r7⟩
      · unfold f_X6_readLine f_X6_readLine_132
        rw [if_neg hl, a0, bd_mk, if_pos rfl, a1, bd_mk, if_pos rfl, a2, bd_mk, if_neg n10, r1, bd_mk]
      · have hf : ¬ gr τ 64 5 = (4 : Int32) := fun c => kz ((nI_eq (a := k) (b := 4) (by omega) (by omega)).mp (kF.symm.trans c))
        rw [c64_5] at r3
        unfold f_X12_readNext f_X12_readNext_54 f_X12_readNext_59 f_X12_readNext_69 f_X12_readNext_89 f_X12_readNext_108 f_X12_readNext_134 f_X12_readNext_154 f_X12_readNext_179 f_X12_readNext_319
        simp only [b0, b1, b2', b3, b4, b5, bd_mk, n10, if_false, if_true, g64_5, gd_tt, c64_5, hf, S_good, b2_t g2, takesN (by decide) b0, takesN (by decide) b1, takesY (by decide) b2' r2, r3, r3', bnd_mk, nI_1]
  by_cases w3 : IW (gr σ 30) q e K 3
  · -- cannon
    obtain ⟨a0, b0⟩ := oth 3 0 (by decide) (by decide) (by decide) w3
    obtain ⟨a1, b1⟩ := oth 3 1 (by decide) (by decide) (by decide) w3
    obtain ⟨a2, b2'⟩ := oth 3 2 (by decide) (by decide) (by decide) w3
    obtain ⟨a3, b3⟩ := sY 3 (by decide) w3
    obtain ⟨a4, b4⟩ := oth 3 4 (by decide) (by decide) (by decide) w3
    obtain ⟨a5, b5⟩ := oth 3 5 (by decide) (by decide) (by decide) w3
    obtain ⟨k, k9, kk, kF, -⟩ := hA
    by_cases kz : k = 8
    · subst kz
      obtain ⟨σ', τ', r1, r2, r3, r4, r5, r6, r7⟩ := T_readAsk kk hR hSZ
      refine ⟨σ', τ', ?_, ?_, Or.inl ⟨⟨r3, r5, smO r7, fun o => absurd o r4⟩, fun o => absurd o r4⟩, r6, r7.of⟩
      · unfold f_X6_readLine f_X6_readLine_132
        rw [if_neg hl, a0, bd_mk, if_pos rfl, a1, bd_mk, if_pos rfl, a2, bd_mk, if_pos rfl, a3, bd_mk, if_neg n10, r1, bd_mk]
      · unfold f_X12_readNext f_X12_readNext_54 f_X12_readNext_59 f_X12_readNext_69 f_X12_readNext_89 f_X12_readNext_108 f_X12_readNext_129
        have hf : gr τ 64 6 = (8 : Int32) := kF
        simp only [b0, b1, b2', b3, bd_mk, n10, if_false, if_true, g64_6, gd_tt, c64_6, hf, r2, N134_bad (bm r3 r4)]
    · obtain ⟨σ', τ1, τ', r1, r2, r3, r4, r5, r6, r7⟩ := R_readAsk (k := k) (by omega) kk hL0 hG0 hSZ hW0 h10
      refine ⟨σ', _, ?_, ?_, Or.inl ⟨r4, r5⟩, r6, r7⟩
      · unfold f_X6_readLine f_X6_readLine_132
        rw [if_neg hl, a0, bd_mk, if_pos rfl, a1, bd_mk, if_pos rfl, a2, bd_mk, if_pos rfl, a3, bd_mk, if_neg n10, r1, bd_mk]
      · have hf : ¬ gr τ 64 6 = (8 : Int32) := fun c => kz ((nI_eq (a := k) (b := 8) (by omega) (by omega)).mp (kF.symm.trans c))
        unfold f_X12_readNext f_X12_readNext_54 f_X12_readNext_59 f_X12_readNext_69 f_X12_readNext_89 f_X12_readNext_108 f_X12_readNext_134 f_X12_readNext_154 f_X12_readNext_179 f_X12_readNext_319
        simp only [b0, b1, b2', b3, b4, b5, bd_mk, n10, if_false, if_true, g64_6, gd_tt, c64_6, hf, S_good, b2_t g2, takesN (by decide) b0, takesN (by decide) b1, takesN (by decide) b2', takesY (by decide) b3 r2, r3]
  by_cases w4 : IW (gr σ 30) q e K 4
  · -- rule
    obtain ⟨a0, b0⟩ := oth 4 0 (by decide) (by decide) (by decide) w4
    obtain ⟨a1, b1⟩ := oth 4 1 (by decide) (by decide) (by decide) w4
    obtain ⟨a2, b2'⟩ := oth 4 2 (by decide) (by decide) (by decide) w4
    obtain ⟨a3, b3⟩ := oth 4 3 (by decide) (by decide) (by decide) w4
    obtain ⟨a4, b4⟩ := sY 4 (by decide) w4
    obtain ⟨a5, b5⟩ := oth 4 5 (by decide) (by decide) (by decide) w4
    obtain ⟨k, k9, kk, kF, -⟩ := hU
    by_cases kz : k = 4
    · subst kz
      obtain ⟨σ', τ', r1, r2, r3, r4, r5, r6, r7⟩ := T_span23 kk hR hSZ
      refine ⟨σ', τ', ?_, ?_, Or.inl ⟨⟨r3, r5, smO r7, fun o => absurd o r4⟩, fun o => absurd o r4⟩, r6, r7.of⟩
      · unfold f_X6_readLine f_X6_readLine_132
        rw [if_neg hl, a0, bd_mk, if_pos rfl, a1, bd_mk, if_pos rfl, a2, bd_mk, if_pos rfl, a3, bd_mk, if_pos rfl, a4, bd_mk, if_neg n10, r1, bd_mk]
      · unfold f_X12_readNext f_X12_readNext_54 f_X12_readNext_59 f_X12_readNext_69 f_X12_readNext_89 f_X12_readNext_108 f_X12_readNext_134 f_X12_readNext_174
        have hf : gr τ 64 7 = (4 : Int32) := kF
        simp only [b0, b1, b2', b3, b4, bd_mk, n10, if_false, if_true, g64_7, gd_tt, c64_7, hf, r2, N179_bad (bm r3 r4)]
    · obtain ⟨σ', τ1, τ', r1, r2, r3, r3', r4, r5, r6, r7⟩ := R_span23 (k := k) (by omega) kk hL0 hG0 hSZ hW0 h10
      refine ⟨σ', _, ?_, ?_, Or.inl ⟨r4, r5⟩, r6, r7⟩
      · unfold f_X6_readLine f_X6_readLine_132
        rw [if_neg hl, a0, bd_mk, if_pos rfl, a1, bd_mk, if_pos rfl, a2, bd_mk, if_pos rfl, a3, bd_mk, if_pos rfl, a4, bd_mk, if_neg n10, r1, bd_mk]
      · have hf : ¬ gr τ 64 7 = (4 : Int32) := fun c => kz ((nI_eq (a := k) (b := 4) (by omega) (by omega)).mp (kF.symm.trans c))
        rw [c64_7] at r3
        unfold f_X12_readNext f_X12_readNext_54 f_X12_readNext_59 f_X12_readNext_69 f_X12_readNext_89 f_X12_readNext_108 f_X12_readNext_134 f_X12_readNext_154 f_X12_readNext_179 f_X12_readNext_319
        simp only [b0, b1, b2', b3, b4, b5, bd_mk, n10, if_false, if_true, g64_7, gd_tt, c64_7, hf, S_good, b2_t g2, takesN (by decide) b0, takesN (by decide) b1, takesN (by decide) b2', takesN (by decide) b3, takesY (by decide) b4 r2, r3, r3', bnd_mk, nI_1]
  by_cases w5 : IW (gr σ 30) q e K 5
  · -- spy
    obtain ⟨a0, b0⟩ := sN 0 (by decide) w0
    obtain ⟨a1, b1⟩ := sN 1 (by decide) w1
    obtain ⟨a2, b2'⟩ := sN 2 (by decide) w2
    obtain ⟨a3, b3⟩ := sN 3 (by decide) w3
    obtain ⟨a4, b4⟩ := sN 4 (by decide) w4
    obtain ⟨a5, b5⟩ := sY 5 (by decide) w5
    obtain ⟨k, k9, kk, kF, -⟩ := hY
    by_cases kz : k = 5
    · subst kz
      obtain ⟨σ', τ', r1, r2, r3, r4, r5, r6, r7⟩ := T_readSpy kk hR hSZ
      refine ⟨σ', τ', ?_, ?_, Or.inl ⟨⟨r3, r5, smO r7, fun o => absurd o r4⟩, fun o => absurd o r4⟩, r6, r7.of⟩
      · unfold f_X6_readLine f_X6_readLine_132
        rw [if_neg hl, a0, bd_mk, if_pos rfl, a1, bd_mk, if_pos rfl, a2, bd_mk, if_pos rfl, a3, bd_mk, if_pos rfl, a4, bd_mk, if_pos rfl, a5, bd_mk, if_neg n10, r1, bd_mk]
      · unfold f_X12_readNext f_X12_readNext_54 f_X12_readNext_59 f_X12_readNext_69 f_X12_readNext_89 f_X12_readNext_108 f_X12_readNext_134 f_X12_readNext_154 f_X12_readNext_174
        have hf : gr τ 64 8 = (5 : Int32) := kF
        simp only [b0, b1, b2', b3, b4, b5, bd_mk, n10, if_false, if_true, g64_8, gd_tt, c64_8, hf, r2, N179_bad (bm r3 r4)]
    · obtain ⟨σ', τ1, τ', r1, r2, r3, r4, r5, r6, r7⟩ := R_readSpy (k := k) (by omega) kk hL0 hG0 hSZ hW0 h10
      refine ⟨σ', _, ?_, ?_, ?_, r6, r7⟩
      · unfold f_X6_readLine f_X6_readLine_132
        rw [if_neg hl, a0, bd_mk, if_pos rfl, a1, bd_mk, if_pos rfl, a2, bd_mk, if_pos rfl, a3, bd_mk, if_pos rfl, a4, bd_mk, if_pos rfl, a5, bd_mk, if_neg n10, r1, bd_mk]
      · have hf : ¬ gr τ 64 8 = (5 : Int32) := fun c => kz ((nI_eq (a := k) (b := 5) (by omega) (by omega)).mp (kF.symm.trans c))
        unfold f_X12_readNext f_X12_readNext_54 f_X12_readNext_59 f_X12_readNext_69 f_X12_readNext_89 f_X12_readNext_108 f_X12_readNext_134 f_X12_readNext_154 f_X12_readNext_179 f_X12_readNext_319
        simp only [b0, b1, b2', b3, b4, b5, bd_mk, n10, if_false, if_true, g64_8, gd_tt, c64_8, hf, S_good, b2_t g2, takesN (by decide) b0, takesN (by decide) b1, takesN (by decide) b2', takesN (by decide) b3, takesN (by decide) b4, r2, r3]
      · rcases r4 with d | d
        · rcases r5 with c | c
          · exact Or.inl ⟨d, c⟩
          · exact Or.inr ⟨c, d.2.1, d.2.2.1⟩
        · exact Or.inr d
  · -- none
    obtain ⟨a0, b0⟩ := sN 0 (by decide) w0
    obtain ⟨a1, b1⟩ := sN 1 (by decide) w1
    obtain ⟨a2, b2'⟩ := sN 2 (by decide) w2
    obtain ⟨a3, b3⟩ := sN 3 (by decide) w3
    obtain ⟨a4, b4⟩ := sN 4 (by decide) w4
    obtain ⟨a5, b5⟩ := sN 5 (by decide) w5
    obtain ⟨σ', τ', r1, r2, r3, r4, r5, r6⟩ := R_blame 1 ⟨by omega, by omega⟩ hR
    have r1' : f_X6_blame 1 σ = some ((), σ') := r1
    have r2' : f_X12_errs 1 τ = some ((), τ') := r2
    refine ⟨σ', τ', ?_, ?_, Or.inl ⟨⟨r3, hSZ.mv r5 (by decide) (by decide) (by decide) (by decide) (by decide) (by decide) (by decide), smO r6, fun o => absurd o r4⟩, fun o => absurd o r4⟩, r5.mo (by simp), r6.of⟩
    · unfold f_X6_readLine f_X6_readLine_132
      rw [if_neg hl, a0, bd_mk, if_pos rfl, a1, bd_mk, if_pos rfl, a2, bd_mk, if_pos rfl, a3, bd_mk, if_pos rfl, a4, bd_mk, if_pos rfl, a5, bd_mk, if_pos rfl, r1', bd_mk]
    · unfold f_X12_readNext f_X12_readNext_59
      simp only [b0, b1, b2', b3, b4, b5, bd_mk, n10, if_false, if_true, r2', N69_bad (bm r3 r4)]
/-! ===== a LINE with its sign; all LINES ===== -/
def LI (σ τ : St) (n l : Nat) : Prop := RP σ τ n ∧ SZ σ 15 ∧ SM (gr τ 64) ∧ (ok σ → WR σ 15 (gr τ 64) ∧ gr τ 64 10 = nI 0 ∧ gf σ 15 0 = nI l ∧ (l : Int) ≤ (gf σ 29 5).toInt)
abbrev RE : List Nat := 15 :: RD
/-- behind a LINE: its sign -/
theorem LE.sign {σ σ' τ' : St} {n : Nat} (h : LE σ σ' τ' n) : ∃ σ2 τ2, f_X6_sign σ' = some ((), σ2) ∧ f_X12_readLine_21 τ' = f_X12_readLine_52 τ2 ∧ RP σ2 τ2 n ∧ SZ σ2 15 ∧ SM (gr τ2 64) ∧ (ok σ2 → WR σ2 15 (gr τ2 64) ∧ gr τ2 64 10 = nI 0 ∧ ok σ' ∧ (gf σ 29 5).toInt < (gf σ2 29 5).toInt) ∧ Fr [29] σ' σ2 ∧ OM τ' τ2 := by
  rcases h with ⟨⟨hR, hSZ, hSM, hW⟩, hP⟩ | ⟨hP, hSZ, hSM⟩
  · obtain ⟨σ2, τ2, a1, a2, a3, a4, a5, a6⟩ := R_sign hR
    refine ⟨σ2, τ2, a1, a2, a3, hSZ.mv a5 (by decide) (by decide) (by decide) (by decide) (by decide) (by decide) (by decide), by rw [a6.r64]; exact hSM, fun o => ?_, a5, a6⟩
    obtain ⟨o1, o2⟩ := a4 o
    obtain ⟨w1, w2⟩ := hW o1
    have := (hP o1).2
    refine ⟨?_, by rw [a6.r64]; exact w2, o1, by omega⟩
    rw [a6.r64]
    obtain ⟨hH, hT, hE, hA, hU, hY, hS1, hS2, hS3, hC⟩ := w1
    refine TVs hT hE hA hU hY hS1 hS2 hS3 hC w2 (a5.mo (by simp)) (fun j _ _ _ _ => rfl) ?_
    exact hH.mv (fun j _ => by rw [(a5.1 15 (by decide)).1]) (fun j _ => by rw [(a5.1 16 (by decide)).2.1]) (fun j _ _ _ _ _ _ _ => rfl)
  · obtain ⟨hL, ho, h7, q, hq, h5, m1, m2⟩ := hP
    have hm : ¬ gf τ' 58 12 = 0 := by rw [m1]; decide
    have em : f_X12_readLine_21 τ' = f_X12_readLine_52 τ' := by
      unfold f_X12_readLine_21 f_X12_readLine_41
      simp only [S_good, bd_mk, b2_f hm, if_true]
    have hbl : f_X6_sign σ' = some ((), sf (sf σ' 29 2 1) 29 3 (nI q)) := by
      unfold f_X6_sign f_X6_blame f_X6_blame_20
      rw [if_neg h7, if_pos (show gf σ' 29 2 = 0 from ho)]
      simp only [bd_mk, bnd_mk]
      rw [show gf (sf σ' 29 2 1) 29 5 = gf σ' 29 5 from by rw [gf_sf_s, if_neg (by decide)], h5]
    have hF : Fr [29] σ' (sf (sf σ' 29 2 1) 29 3 (nI q)) := (Fr.c1 (by simp)).tr (Fr.c1 (by simp))
    have e2 : gf (sf (sf σ' 29 2 1) 29 3 (nI q)) 29 2 = 1 := by rw [gf_sf_s, if_neg (by decide), gf_sf_s, if_pos rfl]
    have hB : BD (sf (sf σ' 29 2 1) 29 3 (nI q)) τ' := ⟨1, q, by omega, by omega, hq, e2, m1, by rw [gf_sf_s, if_pos rfl], m2⟩
    have hL2 : LX (sf (sf σ' 29 2 1) 29 3 (nI q)) n := by
      obtain ⟨z1, z2, a, b, c, z3, z4, z5, z6, z7, z8⟩ := hL
      refine ⟨z1, ?_, a, b, c, z3, z4, z5, ?_, ?_, ?_⟩ <;> rw [gf_sf_s, if_neg (by decide), gf_sf_s, if_neg (by decide)] <;> assumption
    exact ⟨_, τ', hbl, em, ⟨hL2, Or.inr hB⟩, hSZ.mv hF (by decide) (by decide) (by decide) (by decide) (by decide) (by decide) (by decide), hSM, fun o => absurd o hB.not, hF, OM.rf⟩
theorem R_line {σ τ : St} {n l : Nat} (hI : LI σ τ n l) (ho : ok σ) (hl : l < 1200) : ∃ σ1 σ2 τ', f_X6_readLine σ = some ((), σ1) ∧ f_X6_sign σ1 = some ((), σ2) ∧ f_X12_readLine τ = some ((), τ') ∧ LI (sf σ2 15 0 (gf σ2 15 0 + 1)) τ' n (l + 1) ∧ Fr RE σ (sf σ2 15 0 (gf σ2 15 0 + 1)) ∧ OF τ τ' := by
  obtain ⟨hR, hSZ, hSM, hW⟩ := hI
  obtain ⟨hW1, h10, h15, hle⟩ := hW ho
  have hG : GD σ τ n := by
    rcases hR.2 with c | c
    · exact c
    · exact absurd ho c.not
  have h9 : gr τ 64 9 = nI l := by
    obtain ⟨l', m, a, p, r, d, e, y1, y2, y3, y4, y5, y6, y7, y8, u1, u2, -⟩ := hW1.1
    rw [u2, ← u1]; exact h15
  have hread : ∃ σ1 τ1, f_X6_readLine σ = some ((), σ1) ∧ f_X12_readLine τ = f_X12_readLine_21 τ1 ∧ LE σ σ1 τ1 n ∧ Fr RE σ σ1 ∧ OF τ τ1 ∧ gf σ1 15 0 = nI l ∧ (ok σ1 → MT σ1) := by
    by_cases l0 : l = 0
    · subst l0
      obtain ⟨σ1, τ1, a1, a2, a3, a4, a5, a6, a7, a8⟩ := R_first hR ho hSZ hW1 h10 h9
      refine ⟨σ1, τ1, ?_, ?_, Or.inl ⟨a3, a4⟩, a5, a6, a8.trans h15, a7⟩
      · unfold f_X6_readLine f_X6_readLine_132
        rw [if_pos (show gf σ 15 0 = 0 from h15), a1, bd_mk]
      · unfold f_X12_readLine
        rw [g64_9, gd_tt, c64_9, if_pos (show gr τ 64 9 = 0 from h9), a2, bd_mk]
    · have hne : ¬ nI l = 0 := fun c => l0 ((nI_eq (b := 0) (by omega) (by omega)).mp c)
      obtain ⟨σ1, τ1, a1, a2, a3, a4, a5⟩ := R_next hR.1 hG hSZ hW1 h10 (by rw [h15]; exact hne)
      refine ⟨σ1, τ1, a1, ?_, a3, a4.mo (by simp), a5, ?_, fun o => ?_⟩
      · unfold f_X12_readLine
        rw [g64_9, gd_tt, c64_9, h9, if_neg hne, a2, bd_mk]
      · rw [(a4.1 15 (by decide)).1]; exact h15
      · obtain ⟨l', m, a, p, r, d, e, y1, y2, y3, y4, y5, y6, y7, y8, u1, u2, u3, u4, u5, -⟩ := hW1.1
        obtain rfl : l' = l := (nI_eq (by omega) (by omega)).mp (u1.symm.trans h15)
        obtain ⟨v1, v2⟩ := y8 (by omega)
        exact ⟨m, a, by rw [(a4.1 15 (by decide)).1]; exact u3, by rw [(a4.1 15 (by decide)).1]; exact u5, v1, y2, v2⟩
  obtain ⟨σ1, τ1, a1, a2, a3, a4, a5, a6, a7⟩ := hread
  obtain ⟨σ2, τ2, b1, b2', b3, b4, b5, b6, b7, b8⟩ := a3.sign
  have e15 : gf σ2 15 0 = nI l := by rw [(b7.1 15 (by decide)).1]; exact a6
  have hF : Fr [15] σ2 (sf σ2 15 0 (gf σ2 15 0 + 1)) := Fr.c1 (by simp)
  have hFm : Fr [64] τ2 (sr τ2 64 9 (gr τ2 64 9 + 1)) := Fr.c2 (by simp)
  refine ⟨σ1, σ2, sr τ2 64 9 (gr τ2 64 9 + 1), a1, b1, ?_, ⟨RP.mv b3 hF hFm (by decide) (by decide) (by decide) (by decide), ?_, ?_, fun o => ?_⟩, (a4.tr (b7.mo (by simp))).tr (hF.mo (by simp)), (a5.tr b8.of).tr OF.s64⟩
  · rw [a2, b2']
    unfold f_X12_readLine_52
    rw [g64_9, gd_tt, gd_tt, c64_9, bnd_mk]
  · obtain ⟨s1, s2, s3, s4, s5, s6, s7⟩ := b4
    refine ⟨by rw [gf_sf_s, if_neg (by decide)]; exact s1, by rw [gf_sf_n _ _ _ _ (by decide)]; exact s2, by rw [gf_sf_n _ _ _ _ (by decide)]; exact s3, by rw [gf_sf_n _ _ _ _ (by decide)]; exact s4, by rw [gf_sf_n _ _ _ _ (by decide)]; exact s5, by rw [gf_sf_n _ _ _ _ (by decide)]; exact s6, by rw [gf_sf_n _ _ _ _ (by decide)]; exact s7⟩
  · exact b5.mv (by rw [gr_sr_s, if_neg (by decide)]) (by rw [gr_sr_s, if_neg (by decide)]) (by rw [gr_sr_s, if_neg (by decide)]) (by rw [gr_sr_s, if_neg (by decide)]) (by rw [gr_sr_s, if_neg (by decide)])
  · have o2 := (ok.mv hF (by decide)).mp o
    obtain ⟨w1, w2, w3, w4⟩ := b6 o2
    obtain ⟨m, a, m1, m2, m3, m4, m5⟩ := a7 w3
    have e9 : gr τ2 64 9 = nI l := by
      obtain ⟨l', mm, a, p, r, d, e, y1, y2, y3, y4, y5, y6, y7, y8, u1, u2, -⟩ := w1.1
      rw [u2, ← u1]; exact e15
    refine ⟨?_, by rw [gr_sr_s, if_neg (by decide)]; exact w2, by rw [gf_sf_s, if_pos rfl, e15, nI_1], by rw [gf_sf_n _ _ _ _ (by decide)]; omega⟩
    obtain ⟨hH, hT, hE, hA, hU, hY, hS1, hS2, hS3, hC⟩ := w1
    refine TVs hT hE hA hU hY hS1 hS2 hS3 hC w2 (hF.mo (by simp)) (fun j _ h9 _ _ => by rw [gr_sr_s, if_neg h9]) ?_
    obtain ⟨l', mm, aa, p, r, d, e, y1, y2, y3, y4, y5, y6, y7, y8, u1, u2, u3, u4, u5, u6, u7, u8, u9, u10, u11, u12, u13, u14⟩ := hH
    have q1 : gf σ2 15 1 = nI m := by rw [(b7.1 15 (by decide)).1]; exact m1
    have q2 : gf σ2 15 2 = nI a := by rw [(b7.1 15 (by decide)).1]; exact m2
    obtain rfl : mm = m := (nI_eq (by omega) (by omega)).mp (u3.symm.trans q1)
    obtain rfl : aa = a := (nI_eq (by omega) (by omega)).mp (u5.symm.trans q2)
    refine ⟨l + 1, mm, aa, p, r, d, e, by omega, y2, y3, y4, y5, y6, y7, fun _ => ⟨m3, m5⟩, ?_⟩
    refine ⟨by rw [gf_sf_s, if_pos rfl, e15, nI_1], by rw [gr_sr_s, if_pos rfl, e9, nI_1], ?_, ?_, ?_, ?_, ?_, ?_, ?_, ?_, ?_, ?_, ?_, ?_⟩
    all_goals first
      | (rw [gf_sf_s, if_neg (by decide)]; assumption)
      | (rw [gr_sr_s, if_neg (by decide)]; assumption)
      | assumption
theorem tk0 {K : Nat} (h1 : K ≠ 1) : tkK K = 0 ↔ K = 0 := by
  unfold tkK
  by_cases h : K = 0
  · rw [if_pos h]; exact ⟨fun _ => h, fun _ => rfl⟩
  · rw [if_neg h]; exact ⟨fun g => by omega, fun g => absurd g h⟩
/-- all LINES: both loops come out side by side -/
theorem R_lines {n : Nat} : ∀ (c l : Nat) (σ τ : St) (Q Q' : Nat), l + c = 1200 → c < Q → c < Q' → LI σ τ n l → ∃ l' σ' τ', itr g_X6_read_28 Q (nI l, σ) = some ((), σ') ∧ itr g_X12_war_54 Q' τ = f_X12_war_75 τ' ∧ LI σ' τ' n l' ∧ Fr RE σ σ' ∧ OF τ τ' ∧ l ≤ l' ∧ (l' = l → σ' = σ) := by
  intro c
  induction c with
  | zero =>
    intro l σ τ Q Q' hc hQ hQ' hI
    obtain ⟨R, rfl⟩ : ∃ R, Q = R + 1 := ⟨Q - 1, by omega⟩
    obtain ⟨R', rfl⟩ : ∃ R', Q' = R' + 1 := ⟨Q' - 1, by omega⟩
    obtain rfl : l = 1200 := by omega
    refine ⟨1200, σ, τ, ?_, ?_, hI, Fr.rf, OF.rf, Nat.le_refl _, fun _ => rfl⟩
    · rw [itr_succ]
      generalize itr g_X6_read_28 R = Z
      unfold g_X6_read_28 f_X6_read_76
      dsimp only
      rw [if_pos (show (1200 : Int32) ≤ nI 1200 from by decide)]
    · rw [itr_succ]
      generalize itr g_X12_war_54 R' = Z
      unfold g_X12_war_54
      dsimp only
      rw [S_good, bd_mk]
      by_cases g : gf τ 58 12 = 0
      · rw [b2_t g, if_neg n10]
        have ho : ok σ := by
          rcases hI.1.2 with w | w
          · exact w.okM.1
          · exact absurd g w.notM
        obtain ⟨-, -, -, hle⟩ := hI.2.2.2 ho
        have hG : GD σ τ n := by
          rcases hI.1.2 with w | w
          · exact w
          · exact absurd ho w.not
        have hn := hI.1.1.1
        obtain ⟨-, q, e, K, ⟨t1, t2, t3, t4, t5, t6, t7, t8, t9, t10, t11, t12⟩⟩ := hG
        rw [t6, nI_toInt (by omega)] at hle
        have hK : K = 0 := by
          by_cases k0 : K = 0
          · exact k0
          · have := t5 k0
            omega
        rw [if_pos (by rw [t11, (tk0 t4).mpr hK]; rfl)]
      · rw [b2_f g, if_pos rfl]
  | succ c ih =>
    intro l σ τ Q Q' hc hQ hQ' hI
    obtain ⟨R, rfl⟩ : ∃ R, Q = R + 1 := ⟨Q - 1, by omega⟩
    obtain ⟨R', rfl⟩ : ∃ R', Q' = R' + 1 := ⟨Q' - 1, by omega⟩
    have hlt : ¬ (1200 : Int32) ≤ nI l := by
      have : nI l < nI 1200 := nI_lt (by omega) (by omega)
      rw [lt_toInt] at this
      rw [le_toInt]
      exact fun z => absurd this (Int.not_lt.mpr z)
    by_cases ho : ok σ
    · have hG : GD σ τ n := by
        rcases hI.1.2 with w | w
        · exact w
        · exact absurd ho w.not
      have hn := hI.1.1.1
      have g2 := hG.okM.2
      obtain ⟨-, q, e, K, ⟨t1, t2, t3, t4, t5, t6, t7, t8, t9, t10, t11, t12⟩⟩ := hG
      by_cases k0 : K = 0
      · refine ⟨l, σ, τ, ?_, ?_, hI, Fr.rf, OF.rf, Nat.le_refl _, fun _ => rfl⟩
        · rw [itr_succ]
          generalize itr g_X6_read_28 R = Z
          unfold g_X6_read_28 f_X6_read_76
          dsimp only
          rw [if_neg hlt, if_pos (by rw [t8, k0]; rfl)]
        · rw [itr_succ]
          generalize itr g_X12_war_54 R' = Z
          unfold g_X12_war_54
          dsimp only
          rw [S_good, bd_mk, b2_t g2, if_neg n10, if_pos (by rw [t11, (tk0 t4).mpr k0]; rfl)]
      · obtain ⟨σ1, σ2, τ1, a1, a2, a3, a4, a5, a6⟩ := R_line hI ho (by omega)
        obtain ⟨l', σ', τ', b1, b2', b3, b4, b5, b6, -⟩ := ih (l + 1) _ _ R R' (by omega) (by omega) (by omega) a4
        have n7 : ¬ gf σ 29 7 = 0 := by
          rw [t8]
          exact fun z => k0 ((nI_eq (b := 0) (by omega) (by omega)).mp z)
        have m7 : ¬ gf τ 58 10 = 0 := by
          rw [t11]
          exact fun z => k0 ((tk0 t4).mp ((nI_eq (b := 0) (by unfold tkK; split <;> omega) (by omega)).mp z))
        refine ⟨l', σ', τ', ?_, ?_, b3, a5.tr b4, a6.tr b5, by omega, fun e => absurd e (by omega)⟩
        · rw [itr_succ]
          rw [← b1]
          generalize itr g_X6_read_28 R = Z
          unfold g_X6_read_28
          dsimp only
          rw [if_neg hlt, if_neg n7, if_pos (show gf σ 29 2 = 0 from ho), a1, bd_mk, a2, bd_mk, bnd_mk, bnd_mk, nI_1]
        · rw [itr_succ, ← b2']
          generalize itr g_X12_war_54 R' = Z
          unfold g_X12_war_54
          dsimp only
          rw [S_good, bd_mk, b2_t g2, if_neg n10, if_neg m7, a3, bd_mk]
    · have hB := hI.1.bad ho
      refine ⟨l, σ, τ, ?_, ?_, hI, Fr.rf, OF.rf, Nat.le_refl _, fun _ => rfl⟩
      · rw [itr_succ]
        generalize itr g_X6_read_28 R = Z
        unfold g_X6_read_28 f_X6_read_76
        dsimp only
        rw [if_neg hlt]
        by_cases c7 : gf σ 29 7 = 0
        · rw [if_pos c7]
        · rw [if_neg c7, if_neg (show ¬ gf σ 29 2 = 0 from ho)]
      · rw [itr_succ]
        generalize itr g_X12_war_54 R' = Z
        unfold g_X12_war_54
        dsimp only
        rw [S_good, bd_mk, b2_f hB.notM, if_pos rfl]
/-! ===== one WAR's block becomes another's ===== -/
def Fb (w : Nat) (σ σ' : St) : Prop := (∀ i, (i < w ∨ w + 14 ≤ i) → gf σ' i = gf σ i ∧ gr σ' i = gr σ i ∧ gj σ' i = gj σ i) ∧ gm σ' = gm σ ∧ gn σ' = gn σ
def BE (σ σ' : St) (w u : Nat) : Prop := (∀ k, k < 5 → gf σ' w k = gf σ u k) ∧ (∀ j, j < 2 → gr σ' (w + 1) j = gr σ (u + 1) j) ∧ ∀ t, (t = 2 ∨ t = 4 ∨ t = 6 ∨ t = 8 ∨ t = 10 ∨ t = 12) → gf σ' (w + t) 3 = gf σ (u + t) 3 ∧ ∀ j, j < lW (t + 1) → gr σ' (w + t + 1) j = gr σ (u + t + 1) j
theorem TV.be {σ σ' : St} {t u : Nat} {F : Nat → Int32} {ix base wd room : Nat} {lo hi : List Int} (h : TV σ u F ix base wd room lo hi) (h1 : gf σ' t 3 = gf σ u 3) (h2 : ∀ j, j < wd * room → gr σ' (t + 1) j = gr σ (u + 1) j) : TV σ' t F ix base wd room lo hi := by
  obtain ⟨k, k1, k2, k3, k4⟩ := h
  refine ⟨k, k1, h1.trans k2, k3, fun i hi c hc => ?_⟩
  have hb : i * wd + c < wd * room := by
    have : (i + 1) * wd ≤ room * wd := Nat.mul_le_mul_right _ (by omega)
    rw [Nat.add_mul, Nat.one_mul] at this
    rw [Nat.mul_comm wd room]
    omega
  rw [h2 _ hb]
  exact k4 i hi c hc
theorem WR.be {σ σ' : St} {w u : Nat} {F : Nat → Int32} (h : WR σ u F) (hb : BE σ σ' w u) : WR σ' w F := by
  obtain ⟨hH, hT, hE, hA, hU, hY, hS1, hS2, hS3, hC⟩ := h
  obtain ⟨b1, b2', b3⟩ := hb
  refine ⟨?_, hT.be (b3 2 (by simp)).1 (b3 2 (by simp)).2, hE.be (b3 4 (by simp)).1 (b3 4 (by simp)).2, hA.be (b3 6 (by simp)).1 (b3 6 (by simp)).2, hU.be (b3 8 (by simp)).1 (b3 8 (by simp)).2, hY.be (b3 10 (by simp)).1 (b3 10 (by simp)).2, hS1, hS2, hS3, ?_⟩
  · obtain ⟨l, m, a, p, r, d, e, y1, y2, y3, y4, y5, y6, y7, y8, u1, u2, u3, u4, u5, u6, u7, u8, u9, u10, u11, u12, u13, u14⟩ := hH
    exact ⟨l, m, a, p, r, d, e, y1, y2, y3, y4, y5, y6, y7, y8, (b1 0 (by omega)).trans u1, u2, (b1 1 (by omega)).trans u3, u4, (b1 2 (by omega)).trans u5, u6, (b1 3 (by omega)).trans u7, u8, (b1 4 (by omega)).trans u9, u10, (b2' 0 (by omega)).trans u11, u12, (b2' 1 (by omega)).trans u13, u14⟩
  · obtain ⟨k, k1, k2, k3, k4⟩ := hC
    obtain ⟨c1, c2⟩ := b3 12 (by simp)
    refine ⟨k, k1, c1.trans k2, k3, fun j hj => ?_⟩
    have c2' : ∀ j, j < 180 → gr σ' (w + 13) j = gr σ (u + 13) j := c2
    unfold CE at *
    obtain ⟨row, what, old, m, z1, z2, z3, z4, z5, z6⟩ := k4 j hj
    exact ⟨row, what, old, m, z1, z2, (c2' _ (by omega)).trans z3, (c2' _ (by omega)).trans z4, (c2' _ (by omega)).trans z5, z6⟩
theorem S_tbe {σ : St} {t u N : Nat} (ht : isT σ t = true) (hu : isT σ u = true) (hl : ln (t + 1) = N) (hl' : ln (u + 1) = N) (hN : N ≤ 180) : ∃ σ', f_X9_become t u σ = some ((), σ') ∧ gf σ' t 3 = gf σ u 3 ∧ (∀ j, j < N → gr σ' (t + 1) j = gr σ (u + 1) j) ∧ (∀ i, i ≠ t → gf σ' i = gf σ i) ∧ (∀ i, i ≠ t + 1 → gr σ' i = gr σ i) ∧ gj σ' = gj σ ∧ gm σ' = gm σ ∧ gn σ' = gn σ := by
  unfold f_X9_become
  rw [ht, gd_tt, hu, gd_tt, bnd_mk, hl, hl', if_neg (nI_nlt (Nat.le_refl _) (by omega))]
  have hc : cpok (0 : Int32) (0 : Int32) (nI N) N N = true := by
    unfold cpok
    rw [nI_clamp (by omega)]
    simp only [Bool.and_eq_true, decide_eq_true_eq]
    refine ⟨⟨⟨⟨by decide, by decide⟩, nI_pos (by omega)⟩, ?_⟩, ?_⟩ <;> show 0 + N ≤ N <;> omega
  rw [hc, gd_tt, bnd_mk, nI_clamp (by omega)]
  refine ⟨_, rfl, ?_, fun j hj => ?_, fun i hi => ?_, fun i hi => ?_, rfl, rfl, rfl⟩
  · show gf (sf σ t 3 (gf σ u 3)) t 3 = _
    rw [gf_sf_s, if_pos rfl]
  · rw [gr_sRs]
    show va_cpy (gr σ (u + 1)) (gr σ (t + 1)) 0 0 N j = _
    unfold va_cpy
    rw [if_pos (by omega)]
    congr 1
    omega
  · show gf (sf σ t 3 (gf σ u 3)) i = _
    funext k
    rw [gf_sf_n _ _ _ _ hi]
  · rw [gr_sRn _ _ hi]
    rfl
set_option maxHeartbeats 4000000 in
theorem S_bec {σ : St} {w u : Nat} (hw : isW σ w = true) (hu : isW σ u = true) (hd : w + 14 ≤ u ∨ u + 14 ≤ w) : ∃ σ', f_X10_become w u σ = some ((), σ') ∧ BE σ σ' w u ∧ Fb w σ σ' := by
  have gW : ∀ {s : St} {x : Nat}, gn s = gn σ → isW σ x = true → isW s x = true := fun {s x} hg hx => by
    unfold isW nA at *
    rw [hg]; exact hx
  have kT : ∀ t, (t = 2 ∨ t = 4 ∨ t = 6 ∨ t = 8 ∨ t = 10 ∨ t = 12) → t + 1 < 14 ∧ kW t = 8 ∧ kW (t + 1) = 13 := fun t h => by
    rcases h with rfl | rfl | rfl | rfl | rfl | rfl <;> exact ⟨by decide, by decide, by decide⟩
  have lT : ∀ x t, isW σ x = true → (t = 2 ∨ t = 4 ∨ t = 6 ∨ t = 8 ∨ t = 10 ∨ t = 12) → ln (x + t + 1) = lW (t + 1) := fun x t hx h => by
    rw [Nat.add_assoc]
    exact isW_ln hx (t + 1) (by omega)
  have lb : ∀ t, (t = 2 ∨ t = 4 ∨ t = 6 ∨ t = 8 ∨ t = 10 ∨ t = 12) → lW (t + 1) ≤ 180 := fun t h => by
    rcases h with rfl | rfl | rfl | rfl | rfl | rfl <;> decide
  have step : ∀ (s : St) (t : Nat), gn s = gn σ → (t = 2 ∨ t = 4 ∨ t = 6 ∨ t = 8 ∨ t = 10 ∨ t = 12) → ∃ s', f_X9_become (w + t) (u + t) s = some ((), s') ∧ gf s' (w + t) 3 = gf s (u + t) 3 ∧ (∀ j, j < lW (t + 1) → gr s' (w + t + 1) j = gr s (u + t + 1) j) ∧ (∀ i, i ≠ w + t → gf s' i = gf s i) ∧ (∀ i, i ≠ w + t + 1 → gr s' i = gr s i) ∧ gj s' = gj s ∧ gm s' = gm s ∧ gn s' = gn s := fun s t hg ht =>
    S_tbe (isW_T (gW hg hw) t (kT t ht)) (isW_T (gW hg hu) t (kT t ht)) (lT w t hw ht) (lT u t hu ht) (lb t ht)
  have l1w : ln (w + 1) = 2 := isW_ln hw 1 (by omega)
  have l1u : ln (u + 1) = 2 := isW_ln hu 1 (by omega)
  have i0 : inb (0 : Int32) 2 = true := rfl
  have i1 : inb (1 : Int32) 2 = true := rfl
  unfold f_X10_become
  rw [hw, gd_tt, hu, gd_tt]
  simp only [bnd_mk, l1w, l1u, i0, i1, gd_tt, show (0 : Int32).toNatClampNeg = 0 from rfl, show (1 : Int32).toNatClampNeg = 1 from rfl]
  generalize hs : sr (sr (sf (sf (sf (sf (sf σ w 0 (gf σ u 0)) w 1 _) w 2 _) w 3 _) w 4 _) (w + 1) 0 _) (w + 1) 1 _ = s0
  have hgn : gn s0 = gn σ := by rw [← hs]; rfl
  have hgm : gm s0 = gm σ := by rw [← hs]; rfl
  have hgj : gj s0 = gj σ := by rw [← hs]; rfl
  have hne : u ≠ w := by omega
  have hf : ∀ i, i ≠ w → gf s0 i = gf σ i := fun i hi => by
    rw [← hs]
    funext k
    show gf (sf (sf (sf (sf (sf σ w 0 _) w 1 _) w 2 _) w 3 _) w 4 _) i k = _
    rw [gf_sf_n _ _ _ _ hi, gf_sf_n _ _ _ _ hi, gf_sf_n _ _ _ _ hi, gf_sf_n _ _ _ _ hi, gf_sf_n _ _ _ _ hi]
  have hr : ∀ i, i ≠ w + 1 → gr s0 i = gr σ i := fun i hi => by
    rw [← hs]
    funext k
    rw [gr_sr_n _ _ _ _ hi, gr_sr_n _ _ _ _ hi]
    rfl
  have hfw : ∀ k, k < 5 → gf s0 w k = gf σ u k := fun k hk => by
    rw [← hs]
    show gf (sf (sf (sf (sf (sf σ w 0 _) w 1 _) w 2 _) w 3 _) w 4 _) w k = _
    simp only [gf_sf_n _ _ _ _ hne]
    rw [gf_sf_s, gf_sf_s, gf_sf_s, gf_sf_s, gf_sf_s]
    rcases (show k = 0 ∨ k = 1 ∨ k = 2 ∨ k = 3 ∨ k = 4 by omega) with rfl | rfl | rfl | rfl | rfl <;> simp
  have hrw : ∀ j, j < 2 → gr s0 (w + 1) j = gr σ (u + 1) j := fun j hj => by
    rw [← hs]
    rw [gr_sr_s, gr_sr_s, gr_sr_n _ _ _ _ (show u + 1 ≠ w + 1 by omega)]
    rcases (show j = 0 ∨ j = 1 by omega) with rfl | rfl <;> simp <;> rfl
  clear hs
  obtain ⟨s1, a1, a2, a3, a4, a5, a6, a7, a8⟩ := step s0 2 hgn (by simp)
  obtain ⟨s2, b1, b2', b3, b4, b5, b6, b7, b8⟩ := step s1 4 (by rw [a8, hgn]) (by simp)
  obtain ⟨s3, c1, c2, c3, c4, c5, c6, c7, c8⟩ := step s2 6 (by rw [b8, a8, hgn]) (by simp)
  obtain ⟨s4, d1, d2, d3, d4, d5, d6, d7, d8⟩ := step s3 8 (by rw [c8, b8, a8, hgn]) (by simp)
  obtain ⟨s5, e1, e2, e3, e4, e5, e6, e7, e8⟩ := step s4 10 (by rw [d8, c8, b8, a8, hgn]) (by simp)
  obtain ⟨s6, f1, f2, f3, f4, f5, f6, f7, f8⟩ := step s5 12 (by rw [e8, d8, c8, b8, a8, hgn]) (by simp)
  refine ⟨s6, ?_, ⟨fun k hk => ?_, fun j hj => ?_, fun t ht => ?_⟩, fun i hi => ⟨?_, ?_, ?_⟩, ?_, ?_⟩
  · rw [a1, bd_mk, gW (show gn s1 = gn σ by rw [a8, hgn]) hw, gd_tt, gW (show gn s1 = gn σ by rw [a8, hgn]) hu, gd_tt, b1, bd_mk, gW (show gn s2 = gn σ by rw [b8, a8, hgn]) hw, gd_tt, gW (show gn s2 = gn σ by rw [b8, a8, hgn]) hu, gd_tt, c1, bd_mk, gW (show gn s3 = gn σ by rw [c8, b8, a8, hgn]) hw, gd_tt, gW (show gn s3 = gn σ by rw [c8, b8, a8, hgn]) hu, gd_tt, d1, bd_mk, gW (show gn s4 = gn σ by rw [d8, c8, b8, a8, hgn]) hw, gd_tt, gW (show gn s4 = gn σ by rw [d8, c8, b8, a8, hgn]) hu, gd_tt, e1, bd_mk, gW (show gn s5 = gn σ by rw [e8, d8, c8, b8, a8, hgn]) hw, gd_tt, gW (show gn s5 = gn σ by rw [e8, d8, c8, b8, a8, hgn]) hu, gd_tt, f1, bd_mk]
  · rw [f4 _ (by omega), e4 _ (by omega), d4 _ (by omega), c4 _ (by omega), b4 _ (by omega), a4 _ (by omega)]
    exact hfw k hk
  · rw [f5 _ (by omega), e5 _ (by omega), d5 _ (by omega), c5 _ (by omega), b5 _ (by omega), a5 _ (by omega)]
    exact hrw j hj
  · rcases ht with rfl | rfl | rfl | rfl | rfl | rfl
    · refine ⟨?_, fun j hj => ?_⟩
      · rw [f4 _ (by omega), e4 _ (by omega), d4 _ (by omega), c4 _ (by omega), b4 _ (by omega), a2, hf _ (by omega)]
      · rw [f5 _ (by omega), e5 _ (by omega), d5 _ (by omega), c5 _ (by omega), b5 _ (by omega), a3 j hj, hr _ (by omega)]
    · refine ⟨?_, fun j hj => ?_⟩
      · rw [f4 _ (by omega), e4 _ (by omega), d4 _ (by omega), c4 _ (by omega), b2', a4 _ (by omega), hf _ (by omega)]
      · rw [f5 _ (by omega), e5 _ (by omega), d5 _ (by omega), c5 _ (by omega), b3 j hj, a5 _ (by omega), hr _ (by omega)]
    · refine ⟨?_, fun j hj => ?_⟩
      · rw [f4 _ (by omega), e4 _ (by omega), d4 _ (by omega), c2, b4 _ (by omega), a4 _ (by omega), hf _ (by omega)]
      · rw [f5 _ (by omega), e5 _ (by omega), d5 _ (by omega), c3 j hj, b5 _ (by omega), a5 _ (by omega), hr _ (by omega)]
    · refine ⟨?_, fun j hj => ?_⟩
      · rw [f4 _ (by omega), e4 _ (by omega), d2, c4 _ (by omega), b4 _ (by omega), a4 _ (by omega), hf _ (by omega)]
      · rw [f5 _ (by omega), e5 _ (by omega), d3 j hj, c5 _ (by omega), b5 _ (by omega), a5 _ (by omega), hr _ (by omega)]
    · refine ⟨?_, fun j hj => ?_⟩
      · rw [f4 _ (by omega), e2, d4 _ (by omega), c4 _ (by omega), b4 _ (by omega), a4 _ (by omega), hf _ (by omega)]
      · rw [f5 _ (by omega), e3 j hj, d5 _ (by omega), c5 _ (by omega), b5 _ (by omega), a5 _ (by omega), hr _ (by omega)]
    · refine ⟨?_, fun j hj => ?_⟩
      · rw [f2, e4 _ (by omega), d4 _ (by omega), c4 _ (by omega), b4 _ (by omega), a4 _ (by omega), hf _ (by omega)]
      · rw [f3 j hj, e5 _ (by omega), d5 _ (by omega), c5 _ (by omega), b5 _ (by omega), a5 _ (by omega), hr _ (by omega)]
  · rw [f4 _ (by omega), e4 _ (by omega), d4 _ (by omega), c4 _ (by omega), b4 _ (by omega), a4 _ (by omega), hf _ (by omega)]
  · rw [f5 _ (by omega), e5 _ (by omega), d5 _ (by omega), c5 _ (by omega), b5 _ (by omega), a5 _ (by omega), hr _ (by omega)]
  · rw [f6, e6, d6, c6, b6, a6, hgj]
  · rw [f7, e7, d7, c7, b7, a7, hgm]
  · rw [f8, e8, d8, c8, b8, a8, hgn]
/-! ===== war() ===== -/
theorem R_adv0 {σ τ : St} {n p : Nat} (hn : n ≤ 1200) (hl : gf σ 29 1 = nI n) (hp : gf σ 29 6 = nI p) (hpM : gf τ 58 8 = nI p) (hpn : p ≤ n) (hb : GDb σ τ n) : ∃ σ' τ', f_X6_advance σ = some ((), σ') ∧ f_X12_advance τ = some ((), τ') ∧ LX σ' n ∧ GD σ' τ' n ∧ Fr [29] σ σ' ∧ OM τ τ' := by
  obtain ⟨g1, g2, g3, g4, g5, g6⟩ := hb
  obtain ⟨q', e', K', v, a1, a2, a3⟩ := S_adv hn hl hp hpn
  obtain ⟨q2, e2, K2, w, b1, b2', b3⟩ := S_advM (τ := τ) hn g5 (fun j hj => by rw [← (g6 j hj).1]; exact (g6 j hj).2) hpM hpn
  obtain ⟨rfl, rfl, rfl⟩ := Tk_u a1 (Tk_c (fun j hj => (g6 j hj).1.symm) b1)
  have a1' := a1
  obtain ⟨h1, h2, h3, h4, h5, h6, h7, h8, h9, h10⟩ := a1
  have hK5 : K' ≤ 5 := by rw [← h4]; exact kn_bd _ _ _
  refine ⟨_, _, a3, b3, C4_LX hn hl a1', ⟨⟨?_, ?_, ?_, ?_, ?_, ?_⟩, q', e', K', ⟨h6, h7, hK5, h5, fun hz => ?_, C4_5 _ _ _ _ _, C4_6 _ _ _ _ _, C4_7 _ _ _ _ _, D4_9 _ _ _ _ _, D4_8 _ _ _ _ _, D4_10 _ _ _ _ _, fun k3 => ?_⟩⟩, C4_fr _ _ _ _ _, ⟨D4_fr _ _ _ _ _, fun k hk => D4_o _ _ _ _ _ k (by omega)⟩⟩
  · rw [C4_2]; exact g1
  · rw [D4_o _ _ _ _ _ _ (by omega)]; exact g2
  · rw [C4_3]; exact g3
  · rw [D4_o _ _ _ _ _ _ (by omega)]; exact g4
  · rw [D4_7]; exact g5
  · exact g6
  · rcases (show (K' = 4 ∨ K' = 5) ∨ (K' = 2 ∨ K' = 3) by omega) with c | c
    · have := h9 c
      omega
    · exact (h10 c).1
  · refine ⟨_, _, (C4_8 _ _ _ _ _).trans (a2 k3), (D4_11 _ _ _ _ _).trans (b2' k3), ?_⟩
    rw [dcv_c (b := gr τ 62) (b' := gr σ 30) (e' - q') (fun j c1 c2 => (g6 j (by omega)).1.symm)]
    exact dcv_VR _ _ _
/-- the draft is cleared -/
theorem S_clear (σ : St) : ∃ σ', f_X10_clear 15 σ = some ((), σ') ∧ (∀ k, k < 5 → gf σ' 15 k = 0) ∧ (∀ j, j < 2 → gr σ' 16 j = 0) ∧ (∀ t, (t = 17 ∨ t = 19 ∨ t = 21 ∨ t = 23 ∨ t = 25 ∨ t = 27) → gf σ' t 3 = 0) ∧ Fr [15, 16, 17, 19, 21, 23, 25, 27] σ σ' := by
  unfold f_X10_clear
  rw [isW_lit (by omega), gd_tt]
  simp only [bnd_mk, show inb (0 : Int32) (ln (15 + 1)) = true from rfl, show inb (1 : Int32) (ln (15 + 1)) = true from rfl, gd_tt, show (0 : Int32).toNatClampNeg = 0 from rfl, show (1 : Int32).toNatClampNeg = 1 from rfl]
  refine ⟨_, rfl, fun k hk => ?_, fun j hj => ?_, fun t ht => ?_, ?_⟩
  · rcases (show k = 0 ∨ k = 1 ∨ k = 2 ∨ k = 3 ∨ k = 4 by omega) with rfl | rfl | rfl | rfl | rfl <;> rfl
  · rcases (show j = 0 ∨ j = 1 by omega) with rfl | rfl <;> rfl
  · rcases ht with rfl | rfl | rfl | rfl | rfl | rfl <;> rfl
  · exact (((((((((((((Fr.c1 (by simp)).tr (Fr.c1 (by simp))).tr (Fr.c1 (by simp))).tr (Fr.c1 (by simp))).tr (Fr.c1 (by simp))).tr (Fr.c2 (by simp))).tr (Fr.c2 (by simp))).tr (Fr.c1 (by simp))).tr (Fr.c1 (by simp))).tr (Fr.c1 (by simp))).tr (Fr.c1 (by simp))).tr (Fr.c1 (by simp))).tr (Fr.c1 (by simp)))
theorem clearM : ∀ (c i Q : Nat) (τ : St), i + c = 240 → c < Q → (∀ j, j < i → gr τ 64 j = 0) → ∃ τ', itr g_X12_war_30 Q (nI i, τ) = (bd (f_X12_advance τ') fun _ s2 => itr g_X12_war_54 FU s2) ∧ (∀ j, j < 240 → gr τ' 64 j = 0) ∧ Fr [64] τ τ' := by
  intro c
  induction c with
  | zero =>
    intro i Q τ hc hQ h
    obtain ⟨R, rfl⟩ : ∃ R, Q = R + 1 := ⟨Q - 1, by omega⟩
    obtain rfl : i = 240 := by omega
    refine ⟨τ, ?_, h, Fr.rf⟩
    rw [itr_succ]
    generalize itr g_X12_war_30 R = Z
    unfold g_X12_war_30
    dsimp only
    rw [if_pos (show (240 : Int32) ≤ nI 240 from by decide)]
  | succ c ih =>
    intro i Q τ hc hQ h
    obtain ⟨R, rfl⟩ : ∃ R, Q = R + 1 := ⟨Q - 1, by omega⟩
    obtain ⟨τ', a1, a2, a3⟩ := ih (i + 1) R (sr τ 64 i 0) (by omega) (by omega) (fun j hj => by
      rw [gr_sr_s]
      by_cases e : j = i
      · rw [if_pos e]
      · rw [if_neg e]; exact h j (by omega))
    refine ⟨τ', ?_, a2, (Fr.c2 (by simp)).tr a3⟩
    rw [itr_succ, ← a1]
    generalize itr g_X12_war_30 R = Z
    unfold g_X12_war_30
    dsimp only
    rw [if_neg (show ¬ (240 : Int32) ≤ nI i from nI_ge (a := i) (b := 240) (by omega) (by omega)), i64 (by omega), gd_tt, bnd_mk, bnd_mk, nI_clamp (by omega), nI_1]
theorem copyM : ∀ (c i Q : Nat) (τ : St), i + c = 240 → c < Q → (∀ j, j < i → gr τ 59 j = gr τ 64 j) → ∃ τ', itr g_X12_war_87 Q (nI i, τ) = some (gr τ 64 9, τ') ∧ (∀ j, j < 240 → gr τ' 59 j = gr τ 64 j) ∧ Fr [59] τ τ' := by
  intro c
  induction c with
  | zero =>
    intro i Q τ hc hQ h
    obtain ⟨R, rfl⟩ : ∃ R, Q = R + 1 := ⟨Q - 1, by omega⟩
    obtain rfl : i = 240 := by omega
    refine ⟨τ, ?_, h, Fr.rf⟩
    rw [itr_succ]
    generalize itr g_X12_war_87 R = Z
    unfold g_X12_war_87
    dsimp only
    rw [if_pos (show (240 : Int32) ≤ nI 240 from by decide), show inb (9 : Int32) (ln 59) = true from rfl, gd_tt, c64_9, h 9 (by omega)]
  | succ c ih =>
    intro i Q τ hc hQ h
    obtain ⟨R, rfl⟩ : ∃ R, Q = R + 1 := ⟨Q - 1, by omega⟩
    obtain ⟨τ', a1, a2, a3⟩ := ih (i + 1) R (sr τ 59 i (gr τ 64 i)) (by omega) (by omega) (fun j hj => by
      rw [gr_sr_s, gr_sr_n _ _ _ _ (show 64 ≠ 59 by decide)]
      by_cases e : j = i
      · rw [if_pos e, e]
      · rw [if_neg e]; exact h j (by omega))
    refine ⟨τ', ?_, fun j hj => ?_, (Fr.c2 (by simp)).tr a3⟩
    · rw [itr_succ]
      rw [gr_sr_n _ _ _ _ (show 64 ≠ 59 by decide)] at a1
      rw [← a1]
      generalize itr g_X12_war_87 R = Z
      unfold g_X12_war_87
      dsimp only
      rw [if_neg (show ¬ (240 : Int32) ≤ nI i from nI_ge (a := i) (b := 240) (by omega) (by omega)), i64 (by omega), gd_tt, show inb (nI i) (ln 59) = true from inb_nI (show i < ln 59 by show i < 240; omega) (by decide), gd_tt, bnd_mk, bnd_mk, nI_clamp (by omega), nI_1]
    · rw [a2 j hj, gr_sr_n _ _ _ _ (show 64 ≠ 59 by decide)]
theorem WR.zero {σ : St} {F : Nat → Int32} (h1 : ∀ k, k < 5 → gf σ 15 k = 0) (h2 : ∀ j, j < 2 → gr σ 16 j = 0) (h3 : ∀ t, (t = 17 ∨ t = 19 ∨ t = 21 ∨ t = 23 ∨ t = 25 ∨ t = 27) → gf σ t 3 = 0) (h4 : ∀ j, j < 240 → F j = 0) : WR σ 15 F := by
  have tv : ∀ (t ix base wd room : Nat) (lo hi : List Int), gf σ t 3 = 0 → F ix = 0 → TV σ t F ix base wd room lo hi := fun t ix base wd room lo hi a b => ⟨0, by omega, a, b, fun i hi => absurd hi (by omega)⟩
  refine ⟨⟨0, 0, 0, 0, 0, 0, 0, by omega, by omega, by omega, by omega, by omega, by omega, by omega, by omega, h1 0 (by omega), h4 9 (by omega), h1 1 (by omega), h4 0 (by omega), h1 2 (by omega), h4 1 (by omega), h1 3 (by omega), h4 2 (by omega), h1 4 (by omega), h4 3 (by omega), h2 0 (by omega), h4 11 (by omega), h2 1 (by omega), h4 12 (by omega)⟩, tv _ _ _ _ _ _ _ (h3 17 (by simp)) (h4 4 (by omega)), tv _ _ _ _ _ _ _ (h3 19 (by simp)) (h4 5 (by omega)), tv _ _ _ _ _ _ _ (h3 21 (by simp)) (h4 6 (by omega)), tv _ _ _ _ _ _ _ (h3 23 (by simp)) (h4 7 (by omega)), tv _ _ _ _ _ _ _ (h3 25 (by simp)) (h4 8 (by omega)), ?_, ?_, ?_, 0, by omega, h3 27 (by simp), h4 10 (by omega), fun j hj => absurd hj (by omega)⟩
  · intro k q1 q2 i hi
    have := (nI_eq (a := 0) (b := k) (by omega) (by omega)).mp ((h4 5 (by omega)).symm.trans q1)
    omega
  · intro k q1 q2 i hi
    have := (nI_eq (a := 0) (b := k) (by omega) (by omega)).mp ((h4 7 (by omega)).symm.trans q1)
    omega
  · intro k m q1 q2 m1 m2 i hi
    have := (nI_eq (a := 0) (b := k) (by omega) (by omega)).mp ((h4 8 (by omega)).symm.trans q1)
    omega
/-- both read the TAPE side by side, from any reference that has the same TAPE -/
theorem R_read {σ τ : St} {n : Nat} (hn : n ≤ 1200) (hl : gf σ 29 1 = nI n) (hm : gf τ 58 5 = nI n) (ht : ∀ j, j < n → gr σ 30 j = gr τ 62 j ∧ by8 (gr σ 30 j)) : ∃ l σ' τ', f_X6_read σ = some ((), σ') ∧ f_X12_war τ = f_X12_war_75 τ' ∧ LI σ' τ' n l ∧ Fr RE σ σ' ∧ Fr [58, 64] τ τ' ∧ gf τ' 58 5 = 0 ∧ (∀ k, k < 5 ∨ k = 6 ∨ 13 < k → gf τ' 58 k = gf τ 58 k) ∧ (l = 0 → gf σ' 17 3 = 0) := by
  obtain ⟨s2, c1, c2, c3, c4, c5⟩ := S_clear σ
  have F6 : Fr [29] s2 (sf (sf (sf s2 29 2 0) 29 3 (-1)) 29 6 0) := ((Fr.c1 (by simp)).tr (Fr.c1 (by simp))).tr (Fr.c1 (by simp))
  have x1 : gf (sf (sf (sf s2 29 2 0) 29 3 (-1)) 29 6 0) 29 1 = nI n := by
    rw [gf_sf_s, if_neg (by decide), gf_sf_s, if_neg (by decide), gf_sf_s, if_neg (by decide), (c5.1 29 (by decide)).1]; exact hl
  have x2 : gf (sf (sf (sf s2 29 2 0) 29 3 (-1)) 29 6 0) 29 2 = 0 := by
    rw [gf_sf_s, if_neg (by decide), gf_sf_s, if_neg (by decide), gf_sf_s, if_pos rfl]
  have x3 : gf (sf (sf (sf s2 29 2 0) 29 3 (-1)) 29 6 0) 29 3 = -1 := by
    rw [gf_sf_s, if_neg (by decide), gf_sf_s, if_pos rfl]
  have x6 : gf (sf (sf (sf s2 29 2 0) 29 3 (-1)) 29 6 0) 29 6 = nI 0 := by
    rw [gf_sf_s, if_pos rfl]; rfl
  have x30 : gr (sf (sf (sf s2 29 2 0) 29 3 (-1)) 29 6 0) 30 = gr σ 30 := (c5.1 30 (by decide)).2.1
  have hrd : f_X6_read σ = bd (f_X6_advance (sf (sf (sf s2 29 2 0) 29 3 (-1)) 29 6 0)) fun _ s8 => itr g_X6_read_28 FU ((0 : Int32), s8) := by
    unfold f_X6_read
    rw [c1, bd_mk, bnd_mk, bnd_mk, bnd_mk]
  generalize sf (sf (sf s2 29 2 0) 29 3 (-1)) 29 6 0 = σ6 at F6 x1 x2 x3 x6 x30 hrd
  have G5 : Fr [58] τ (sf (sf (sf (sf (sf τ 58 7 (gf τ 58 5)) 58 5 0) 58 8 0) 58 12 0) 58 13 (-1)) := ((((Fr.c1 (by simp)).tr (Fr.c1 (by simp))).tr (Fr.c1 (by simp))).tr (Fr.c1 (by simp))).tr (Fr.c1 (by simp))
  have y7 : gf (sf (sf (sf (sf (sf τ 58 7 (gf τ 58 5)) 58 5 0) 58 8 0) 58 12 0) 58 13 (-1)) 58 7 = nI n := by
    rw [gf_sf_s, if_neg (by decide), gf_sf_s, if_neg (by decide), gf_sf_s, if_neg (by decide), gf_sf_s, if_neg (by decide), gf_sf_s, if_pos rfl]; exact hm
  have y5 : gf (sf (sf (sf (sf (sf τ 58 7 (gf τ 58 5)) 58 5 0) 58 8 0) 58 12 0) 58 13 (-1)) 58 5 = 0 := by
    rw [gf_sf_s, if_neg (by decide), gf_sf_s, if_neg (by decide), gf_sf_s, if_neg (by decide), gf_sf_s, if_pos rfl]
  have y8 : gf (sf (sf (sf (sf (sf τ 58 7 (gf τ 58 5)) 58 5 0) 58 8 0) 58 12 0) 58 13 (-1)) 58 8 = nI 0 := by
    rw [gf_sf_s, if_neg (by decide), gf_sf_s, if_neg (by decide), gf_sf_s, if_pos rfl]; rfl
  have y12 : gf (sf (sf (sf (sf (sf τ 58 7 (gf τ 58 5)) 58 5 0) 58 8 0) 58 12 0) 58 13 (-1)) 58 12 = 0 := by
    rw [gf_sf_s, if_neg (by decide), gf_sf_s, if_pos rfl]
  have y13 : gf (sf (sf (sf (sf (sf τ 58 7 (gf τ 58 5)) 58 5 0) 58 8 0) 58 12 0) 58 13 (-1)) 58 13 = -1 := by
    rw [gf_sf_s, if_pos rfl]
  have yo : ∀ k, k < 5 ∨ k = 6 ∨ 13 < k → gf (sf (sf (sf (sf (sf τ 58 7 (gf τ 58 5)) 58 5 0) 58 8 0) 58 12 0) 58 13 (-1)) 58 k = gf τ 58 k := fun k hk => by
    rw [gf_sf_s, if_neg (by omega), gf_sf_s, if_neg (by omega), gf_sf_s, if_neg (by omega), gf_sf_s, if_neg (by omega), gf_sf_s, if_neg (by omega)]
  have hrm : f_X12_war τ = itr g_X12_war_30 FU ((0 : Int32), sf (sf (sf (sf (sf τ 58 7 (gf τ 58 5)) 58 5 0) 58 8 0) 58 12 0) 58 13 (-1)) := by
    unfold f_X12_war
    rw [bnd_mk, bnd_mk, bnd_mk, bnd_mk, bnd_mk]
  generalize sf (sf (sf (sf (sf τ 58 7 (gf τ 58 5)) 58 5 0) 58 8 0) 58 12 0) 58 13 (-1) = τ5 at G5 y7 y5 y8 y12 y13 yo hrm
  obtain ⟨τ6, d1, d2, d3⟩ := clearM 240 0 FU τ5 (by omega) (by unfold FU; omega) (fun j hj => absurd hj (by omega))
  have z58 : gf τ6 58 = gf τ5 58 := (d3.1 58 (by decide)).1
  have z62 : gr τ6 62 = gr τ 62 := (d3.1 62 (by decide)).2.1.trans (G5.1 62 (by decide)).2.1
  have hb : GDb σ6 τ6 n := ⟨x2, by rw [z58]; exact y12, x3, by rw [z58]; exact y13, by rw [z58]; exact y7, fun j hj => by rw [x30, z62]; exact ht j hj⟩
  obtain ⟨σ7, τ7, e1, e2, e3, e4, e5, e6⟩ := R_adv0 hn x1 x6 (by rw [z58]; exact y8) (by omega) hb
  have f7 : Fr [29] s2 σ7 := F6.tr e5
  have t7 : gr τ7 64 = gr τ6 64 := e6.r64
  have hW : WR σ7 15 (gr τ7 64) := WR.zero (fun k hk => by rw [(f7.1 15 (by decide)).1]; exact c2 k hk) (fun j hj => by rw [(f7.1 16 (by decide)).2.1]; exact c3 j hj) (fun t ht => by rw [(f7.1 t (by rcases ht with rfl | rfl | rfl | rfl | rfl | rfl <;> decide)).1]; exact c4 t ht) (fun j hj => by rw [t7]; exact d2 j hj)
  have hsz : SZ σ7 15 := by
    have q : ∀ t, (t = 17 ∨ t = 19 ∨ t = 21 ∨ t = 23 ∨ t = 25 ∨ t = 27) → gf σ7 t 3 = nI 0 := fun t ht => by rw [(f7.1 t (by rcases ht with rfl | rfl | rfl | rfl | rfl | rfl <;> decide)).1]; exact c4 t ht
    exact ⟨⟨0, by omega, by rw [(f7.1 15 (by decide)).1]; exact c2 1 (by omega)⟩, ⟨0, by omega, q 17 (by simp)⟩, ⟨0, by omega, q 19 (by simp)⟩, ⟨0, by omega, q 21 (by simp)⟩, ⟨0, by omega, q 23 (by simp)⟩, ⟨0, by omega, q 25 (by simp)⟩, ⟨0, by omega, q 27 (by simp)⟩⟩
  have hI : LI σ7 τ7 n 0 := by
    refine ⟨⟨e3, Or.inl e4⟩, hsz, hW.sm, fun _ => ⟨hW, by rw [t7]; exact d2 10 (by omega), by rw [(f7.1 15 (by decide)).1]; exact c2 0 (by omega), ?_⟩⟩
    obtain ⟨-, q, e, K, u1, u2, u3, u4, u5, u6, -⟩ := e4
    rw [u6, nI_toInt (by omega)]
    omega
  obtain ⟨l, σ', τ', g1, g2, g3, g4, g5, -, g7⟩ := R_lines 1200 0 σ7 τ7 FU FU (by omega) (by unfold FU; omega) (by unfold FU; omega) hI
  refine ⟨l, σ', τ', ?_, ?_, g3, ((c5.mo (by simp)).tr (f7.mo (by simp))).tr g4, (((G5.mo (by simp)).tr (d3.mo (by simp))).tr (e6.1.mo (by simp))).tr g5.1, ?_, fun k hk => ?_, fun e => ?_⟩
  · rw [hrd, e1, bd_mk]
    exact g1
  · rw [hrm, show (0 : Int32) = nI 0 from rfl, d1, e2, bd_mk, g2]
  · rw [g5.2 5 (by omega), e6.2 5 (by omega), z58]; exact y5
  · rw [g5.2 k (by omega), e6.2 k (by omega), z58]; exact yo k hk
  · rw [g7 e, (f7.1 17 (by decide)).1]; exact c4 17 (by simp)
/-- the fields that tell the FAULT are the same -/
def FE (σ : St) : Prop := gf σ 29 2 = gf σ 58 12 ∧ gf σ 29 3 = gf σ 58 13
abbrev RW : List Nat := [1, 2, 3, 4, 5, 6, 7, 8, 9, 10, 11, 12, 13, 14, 15, 16, 17, 18, 19, 20, 21, 22, 23, 24, 25, 26, 27, 28, 29, 31, 58, 59, 64]
abbrev RF : List Nat := [15, 16, 17, 18, 19, 20, 21, 22, 23, 24, 25, 26, 27, 28, 29, 58, 64]
theorem Fb.fr {σ σ' : St} (h : Fb 1 σ σ') : Fr [1, 2, 3, 4, 5, 6, 7, 8, 9, 10, 11, 12, 13, 14] σ σ' := ⟨fun i hi => h.1 i (by simp at hi; omega), h.2⟩
theorem WR.row {σ : St} {w : Nat} {F G : Nat → Int32} (h : WR σ w F) (hg : ∀ j, j < 240 → G j = F j) : WR σ w G := by
  obtain ⟨hH, hT, hE, hA, hU, hY, hS1, hS2, hS3, hC⟩ := h
  refine ⟨hH.mv (fun _ _ => rfl) (fun _ _ => rfl) (fun j _ _ _ _ _ _ _ => hg j (by omega)), hT.mv rfl (fun _ _ => rfl) (hg _ (by omega)) (fun j _ _ => hg j (by omega)), hE.mv rfl (fun _ _ => rfl) (hg _ (by omega)) (fun j _ _ => hg j (by omega)), hA.mv rfl (fun _ _ => rfl) (hg _ (by omega)) (fun j _ _ => hg j (by omega)), hU.mv rfl (fun _ _ => rfl) (hg _ (by omega)) (fun j _ _ => hg j (by omega)), hY.mv rfl (fun _ _ => rfl) (hg _ (by omega)) (fun j _ _ => hg j (by omega)), ?_, ?_, ?_, ?_⟩
  · intro k q1 q2 i hi
    rw [hg _ (by omega)] at q1
    rw [hg _ (by omega), hg _ (by omega)]
    exact hS1 k q1 q2 i hi
  · intro k q1 q2 i hi
    rw [hg _ (by omega)] at q1
    rw [hg _ (by omega), hg _ (by omega)]
    exact hS2 k q1 q2 i hi
  · intro k m q1 q2 m1 m2 i hi
    rw [hg _ (by omega)] at q1 m1
    rw [hg _ (by omega)]
    exact hS3 k m q1 q2 m1 m2 i hi
  · obtain ⟨k, k1, k2, k3, k4⟩ := hC
    refine ⟨k, k1, k2, by rw [hg _ (by omega)]; exact k3, fun j hj => ?_⟩
    have := k4 j hj
    unfold CE at *
    rw [hg 4 (by omega), hg (121 + 2 * j) (by omega), hg (120 + 2 * j) (by omega)]
    exact this
theorem R_war (σ : St) (hT : TP σ) : ∃ r s1 s2, f_X11_war σ = some (r, s1) ∧ f_X12_war s1 = some (r, s2) ∧ TP s2 ∧ FE s2 ∧ (∀ k, k < 5 ∨ k = 6 ∨ 13 < k → gf s2 58 k = gf σ 58 k) ∧ (Fr RF σ s2 ∨ (WR s2 1 (gr s2 59) ∧ Fr RW σ s2 ∧ (∀ k, k ≠ 5 → gf s2 31 k = gf σ 31 k) ∧ gf s2 31 5 = 0 ∧ gr s2 31 = gr σ 31 ∧ (gf s2 1 0 = nI 0 → gf s2 3 3 = nI 0))) := by
  obtain ⟨n, hn, h1, h2, h3, h4⟩ := hT
  obtain ⟨l0, σ', τ0, a1, -, a3, a4, -⟩ := R_read (τ := σ) hn h1 h2 (fun j hj => ⟨h3 j hj, h4 j hj⟩)
  have hL : LX σ' n := a3.1.1
  have hcut : f_X6_cut 0 σ' = some (1, sf σ' 29 1 0) := by
    unfold f_X6_cut
    rw [if_neg (by decide), hL.2.1, if_pos (show (0 : Int32) ≤ nI n from by rw [le_toInt, nI_toInt (by omega)]; show (0 : Int) ≤ n; omega), bnd_mk, bz_1, gd_tt]
  have k2 : gf (sf σ' 29 1 0) 29 2 = gf σ' 29 2 := by rw [gf_sf_s, if_neg (by decide)]
  have Fc : Fr RE σ (sf σ' 29 1 0) := a4.tr (Fr.c1 (by simp))
  by_cases ho : ok σ'
  · obtain ⟨s8, b1, b2', b3⟩ := S_bec (σ := sf σ' 29 1 0) (w := 1) (u := 15) (isW_lit (by omega)) (isW_lit (by omega)) (by omega)
    have F8 := b3.fr
    have Fs : Fr (31 :: 1 :: 2 :: 3 :: 4 :: 5 :: 6 :: 7 :: 8 :: 9 :: 10 :: 11 :: 12 :: 13 :: 14 :: RE) σ (sf s8 31 5 0) := ((Fc.mo (by simp)).tr (F8.mo (by simp))).tr (Fr.c1 (by simp))
    have F31 : Fr [31] s8 (sf s8 31 5 0) := Fr.c1 (by simp)
    have hcl : f_X11_war σ = some (gf (sf s8 31 5 0) 1 0, sf s8 31 5 0) := by
      unfold f_X11_war f_X2_forget
      rw [a1, bd_mk, hcut, bd_mk, if_pos (k2.trans ho), b1, bd_mk, bz_0, gd_tt, bnd_mk, bd_mk]
    obtain ⟨l, σ2, τ', e1, e2, e3, e4, e5, e6, e7, e8⟩ := R_read (σ := σ) (τ := sf s8 31 5 0) hn h1 (by rw [(Fs.1 58 (by decide)).1]; exact h2) (fun j hj => by rw [(Fs.1 62 (by decide)).2.1]; exact ⟨h3 j hj, h4 j hj⟩)
    obtain rfl : σ' = σ2 := by
      have := a1.symm.trans e1
      simpa using this
    obtain ⟨w1, w2, w3, w4⟩ := e3.2.2.2 ho
    have hG : GD σ' τ' n := by
      rcases e3.1.2 with c | c
      · exact c
      · exact absurd ho c.not
    obtain ⟨s2, f1, f2, f3⟩ := copyM 240 0 FU τ' (by omega) (by unfold FU; omega) (fun j hj => absurd hj (by omega))
    have hm : f_X12_war (sf s8 31 5 0) = some (gr τ' 64 9, s2) := by
      rw [e2]
      unfold f_X12_war_75
      rw [S_good, bd_mk, b2_t hG.okM.2, if_neg n10]
      exact f1
    have Fm : Fr [58, 59, 64] (sf s8 31 5 0) s2 := (e5.mo (by simp)).tr (f3.mo (by simp))
    have h9 : gr τ' 64 9 = nI l := by
      obtain ⟨l', mm, a, p, r, d, e, y1, y2, y3, y4, y5, y6, y7, y8, u1, u2, -⟩ := w1.1
      rw [u2, ← u1]; exact w3
    have hr : gf (sf s8 31 5 0) 1 0 = gr τ' 64 9 := by
      rw [(F31.1 1 (by decide)).1, b2'.1 0 (by omega), h9, ← w3]
      exact gf_sf_n _ _ _ _ (by decide)
    have g29 : gf s2 29 = gf (sf σ' 29 1 0) 29 := by
      rw [(Fm.1 29 (by decide)).1, (F31.1 29 (by decide)).1, (F8.1 29 (by decide)).1]
    have g58 : gf s2 58 = gf τ' 58 := (f3.1 58 (by decide)).1
    refine ⟨_, _, s2, hcl, by rw [hr]; exact hm, ⟨0, by omega, ?_, ?_, fun j hj => absurd hj (by omega), fun j hj => absurd hj (by omega)⟩, ⟨?_, ?_⟩, fun k hk => ?_, Or.inr ⟨?_, (Fs.mo (by simp)).tr (Fm.mo (by simp)), fun k hk => ?_, ?_, ?_, fun hz => ?_⟩⟩
    · rw [g29, gf_sf_s, if_pos rfl]; rfl
    · rw [g58]; exact e6
    · rw [g29, g58, k2, hG.1.1, hG.1.2.1]
    · rw [g29, g58, gf_sf_s, if_neg (by decide), hG.1.2.2.1, hG.1.2.2.2.1]
    · rw [g58, e7 k hk, (Fs.1 58 (by decide)).1]
    · have hW0 : WR (sf σ' 29 1 0) 15 (gr τ' 64) := by
        refine WR.be (w := 15) (u := 15) w1 ⟨fun k _ => gf_sf_n _ _ _ _ (by decide), fun j _ => rfl, fun t ht => ⟨gf_sf_n _ _ _ _ (by omega), fun j _ => rfl⟩⟩
      have hW1 : WR s8 1 (gr τ' 64) := hW0.be b2'
      have hfr : Fr [31, 58, 59, 64] s8 s2 := (F31.mo (by simp)).tr (Fm.mo (by simp))
      have hW2 : WR s2 1 (gr τ' 64) := by
        refine WR.be (w := 1) (u := 1) hW1 ⟨fun k _ => by rw [(hfr.1 1 (by decide)).1], fun j _ => by rw [(hfr.1 (1 + 1) (by decide)).2.1], fun t ht => ⟨by rw [(hfr.1 (1 + t) (by simp; omega)).1], fun j _ => by rw [(hfr.1 (1 + t + 1) (by simp; omega)).2.1]⟩⟩
      exact hW2.row f2
    · rw [(Fm.1 31 (by decide)).1, gf_sf_s, if_neg hk, (F8.1 31 (by decide)).1, (Fc.1 31 (by decide)).1]
    · rw [(Fm.1 31 (by decide)).1, gf_sf_s, if_pos rfl]
    · rw [(Fm.1 31 (by decide)).2.1, show gr (sf s8 31 5 0) 31 = gr s8 31 from rfl, (F8.1 31 (by decide)).2.1, (Fc.1 31 (by decide)).2.1]
    · have hl1 : l < 2 ^ 31 := by
        have := (gf σ' 29 5).toInt_lt
        omega
      have hl0 : l = 0 := by
        rw [(Fm.1 1 (by decide)).1, hr, h9] at hz
        exact (nI_eq hl1 (by omega)).mp hz
      rw [(Fm.1 3 (by decide)).1, (F31.1 3 (by decide)).1, (b2'.2.2 2 (by simp)).1]
      show gf (sf σ' 29 1 0) 17 3 = _
      rw [gf_sf_n _ _ _ _ (by decide)]
      exact e8 hl0
  · have hcl : f_X11_war σ = some (-4, sf σ' 29 1 0) := by
      unfold f_X11_war
      rw [a1, bd_mk, hcut, bd_mk, if_neg (fun z => ho (k2.symm.trans z))]
    obtain ⟨l, σ2, τ', e1, e2, e3, e4, e5, e6, e7, -⟩ := R_read (σ := σ) (τ := sf σ' 29 1 0) hn h1 (by rw [(Fc.1 58 (by decide)).1]; exact h2) (fun j hj => by rw [(Fc.1 62 (by decide)).2.1]; exact ⟨h3 j hj, h4 j hj⟩)
    obtain rfl : σ' = σ2 := by
      have := a1.symm.trans e1
      simpa using this
    have hB : BD σ' τ' := e3.1.bad ho
    have hm : f_X12_war (sf σ' 29 1 0) = some (-4, τ') := by
      rw [e2]
      unfold f_X12_war_75
      rw [S_good, bd_mk, b2_f hB.notM, if_pos rfl]
    have g29 : gf τ' 29 = gf (sf σ' 29 1 0) 29 := (e5.1 29 (by decide)).1
    obtain ⟨f, p, u1, u2, u3, u4, u5, u6, u7⟩ := hB
    refine ⟨_, _, τ', hcl, hm, ⟨0, by omega, ?_, e6, fun j hj => absurd hj (by omega), fun j hj => absurd hj (by omega)⟩, ⟨?_, ?_⟩, fun k hk => ?_, Or.inl ((Fc.mo (by simp)).tr (e5.mo (by simp)))⟩
    · rw [g29, gf_sf_s, if_pos rfl]; rfl
    · rw [g29, k2, u4, u5]
    · rw [g29, gf_sf_s, if_neg (by decide), u6, u7]
    · rw [e7 k hk, (Fc.1 58 (by decide)).1]
theorem R_fault (p : Int32) (σ : St) (hF : FE σ) : ∃ r, f_X11_fault p σ = some (r, σ) ∧ f_X12_fault p σ = some (r, σ) := by
  unfold f_X11_fault f_X12_fault f_X12_fault_24
  by_cases c0 : p = 0
  · rw [if_pos c0, if_pos c0, hF.1]; exact ⟨_, rfl, rfl⟩
  · rw [if_neg c0, if_neg c0]
    by_cases c1 : p = 1
    · rw [if_pos c1, if_pos c1, hF.2]; exact ⟨_, rfl, rfl⟩
    · rw [if_neg c1, if_neg c1]; exact ⟨_, rfl, rfl⟩
