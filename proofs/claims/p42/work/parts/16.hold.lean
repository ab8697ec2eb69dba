/-! ===== PLACES: hold, holds, reply ===== -/
def vl (x : Int32) : Int32 := if x ≤ 0 then (if 0 ≤ x then 0 else -1) else 1
theorem S_sign (x : Int32) (σ : St) : f_X2_signOf x σ = some (vl x, σ) := by
  unfold f_X2_signOf f_X2_signOf_17 vl
  split
  · split <;> rfl
  · rfl
theorem S_value (x : Int32) (σ : St) : f_X12_valueOf x σ = some (vl x, σ) := by
  unfold f_X12_valueOf f_X12_valueOf_17 vl
  split
  · split <;> rfl
  · rfl
theorem vl_3 (x : Int32) : vl x = 0 ∨ vl x = -1 ∨ vl x = 1 := by
  unfold vl
  split
  · split
    · exact Or.inl rfl
    · exact Or.inr (Or.inl rfl)
  · exact Or.inr (Or.inr rfl)
/-- what a way has got by a reply -/
def gt (m : Nat) (x0 x1 x2 : Int32) (a b : Nat) : Int32 := vl (x0 - nI a) + vl (x1 - nI b) + vl (x2 - (nI m - nI a - nI b))
theorem gt_3 (m : Nat) (x0 x1 x2 : Int32) (a b : Nat) : -3 ≤ (gt m x0 x1 x2 a b).toInt ∧ (gt m x0 x1 x2 a b).toInt ≤ 3 := by
  unfold gt
  rcases vl_3 (x0 - nI a) with h | h | h <;> rcases vl_3 (x1 - nI b) with g | g | g <;> rcases vl_3 (x2 - (nI m - nI a - nI b)) with k | k | k <;> rw [h, g, k] <;> decide
def st1 (m : Nat) (x0 x1 x2 : Int32) (a : Nat) (B : Int32 × Int32 × Int32) (b : Nat) : Int32 × Int32 × Int32 := if B.1 ≤ gt m x0 x1 x2 a b then B else (gt m x0 x1 x2 a b, nI a, nI b)
def in1 (m : Nat) (x0 x1 x2 : Int32) (B : Int32 × Int32 × Int32) (a : Nat) : Int32 × Int32 × Int32 := (List.range' 0 (m + 1 - a)).foldl (st1 m x0 x1 x2 a) B
/-- the first of the best replies, behind some that were looked at -/
def mt (m : Nat) (x0 x1 x2 : Int32) (B : Int32 × Int32 × Int32) : Int32 × Int32 × Int32 := (List.range' 0 (m + 1)).foldl (in1 m x0 x1 x2) B
theorem mt_far {m : Nat} {x0 x1 x2 : Int32} {B C : Int32 × Int32 × Int32} (hB : 3 < B.1.toInt) (hC : 3 < C.1.toInt) : mt m x0 x1 x2 B = mt m x0 x1 x2 C := by
  have e : ∀ D : Int32 × Int32 × Int32, 3 < D.1.toInt → st1 m x0 x1 x2 0 D 0 = (gt m x0 x1 x2 0 0, nI 0, nI 0) := fun D hD => by
    unfold st1
    rw [if_neg]
    rw [le_toInt]
    have := gt_3 m x0 x1 x2 0 0
    omega
  have f : in1 m x0 x1 x2 B 0 = in1 m x0 x1 x2 C 0 := by
    unfold in1
    rw [show m + 1 - 0 = m + 1 from rfl, List.range'_succ, List.foldl_cons, List.foldl_cons, e B hB, e C hC]
  unfold mt
  rw [List.range'_succ, List.foldl_cons, List.foldl_cons, f]
/-- the numbers that a fold leaves are bounded -/
theorem mt_bd {m : Nat} {x0 x1 x2 : Int32} {B : Int32 × Int32 × Int32} (hB : 3 < B.1.toInt) : -3 ≤ (mt m x0 x1 x2 B).1.toInt ∧ (mt m x0 x1 x2 B).1.toInt ≤ 3 := by
  have h1 : ∀ (a : Nat) (l : List Nat) (D : Int32 × Int32 × Int32), -3 ≤ D.1.toInt ∧ D.1.toInt ≤ 3 → -3 ≤ (l.foldl (st1 m x0 x1 x2 a) D).1.toInt ∧ (l.foldl (st1 m x0 x1 x2 a) D).1.toInt ≤ 3 := by
    intro a l
    induction l with
    | nil => intro D h; exact h
    | cons b l ih =>
      intro D h
      rw [List.foldl_cons]
      apply ih
      unfold st1
      split
      · exact h
      · exact gt_3 m x0 x1 x2 a b
  have h2 : ∀ (l : List Nat) (D : Int32 × Int32 × Int32), -3 ≤ D.1.toInt ∧ D.1.toInt ≤ 3 → -3 ≤ (l.foldl (in1 m x0 x1 x2) D).1.toInt ∧ (l.foldl (in1 m x0 x1 x2) D).1.toInt ≤ 3 := by
    intro l
    induction l with
    | nil => intro D h; exact h
    | cons a l ih =>
      intro D h
      rw [List.foldl_cons]
      exact ih _ (h1 a _ D h)
  unfold mt
  rw [List.range'_succ, List.foldl_cons]
  apply h2
  unfold in1
  rw [show m + 1 - 0 = m + 1 from rfl, List.range'_succ, List.foldl_cons]
  apply h1
  unfold st1
  split
  · rename_i q
    rw [le_toInt] at q
    have := gt_3 m x0 x1 x2 0 0
    omega
  · exact gt_3 m x0 x1 x2 0 0
/-! the class -/
theorem S_put {σ : St} (u : Nat) (hu : isA σ u = true) (hl : ln u = 3) (a b c : Int32) : f_X5_put u a b c σ = some ((), sR σ u (W3 (gr σ u) a b (c - a - b))) := by
  unfold f_X5_put f_X5_put_22
  rw [hu, hl, if_pos (show nI 3 = (3 : Int32) from rfl), show inb (0 : Int32) 3 = true from rfl, show inb (1 : Int32) 3 = true from rfl, show inb (2 : Int32) 3 = true from rfl]
  show some ((), sr (sr (sr σ u 0 a) u 1 b) u 2 (c - a - b)) = _
  rw [sr3]
theorem meet_in {m a : Nat} (hm : m ≤ 9) (K : Int32 × Int32 × Int32 × Int32 × Int32 × St → Option (Int32 × St)) (σ : St) : ∀ (k b n : Nat) (v2 v3 v4 : Int32), a + b + k = m + 1 → k < n →
    itr (g_X5_meet_19 K) n (nI m, v2, v3, v4, nI a, nI b, σ) = K (nI m, ((List.range' b k).foldl (st1 m (gr σ 46 0) (gr σ 46 1) (gr σ 46 2) a) (v2, v3, v4)).1, ((List.range' b k).foldl (st1 m (gr σ 46 0) (gr σ 46 1) (gr σ 46 2) a) (v2, v3, v4)).2.1, ((List.range' b k).foldl (st1 m (gr σ 46 0) (gr σ 46 1) (gr σ 46 2) a) (v2, v3, v4)).2.2, nI (a + 1), σ) := by
  intro k
  induction k with
  | zero =>
    intro b n v2 v3 v4 h hn
    obtain ⟨n, rfl⟩ : ∃ q, n = q + 1 := ⟨n - 1, by omega⟩
    rw [itr_succ]
    unfold g_X5_meet_19
    dsimp only
    rw [nI_add, if_pos (nI_lt (by omega) (by omega)), bnd_mk, nI_1]
    rfl
  | succ k ih =>
    intro b n v2 v3 v4 h hn
    obtain ⟨n, rfl⟩ : ∃ q, n = q + 1 := ⟨n - 1, by omega⟩
    rw [itr_succ]
    unfold g_X5_meet_19
    dsimp only
    rw [nI_add, if_neg (nI_nlt (by omega) (by omega))]
    rw [show inb (0 : Int32) (ln 46) = true from rfl, show inb (1 : Int32) (ln 46) = true from rfl, show inb (2 : Int32) (ln 46) = true from rfl, gd_tt, S_sign, bd_mk, gd_tt, S_sign, bd_mk, gd_tt, S_sign, bd_mk, bnd_mk]
    rw [List.range'_succ, List.foldl_cons]
    have e : vl (gr σ 46 (0 : Int32).toNatClampNeg - nI a) + vl (gr σ 46 (1 : Int32).toNatClampNeg - nI b) + vl (gr σ 46 (2 : Int32).toNatClampNeg - (nI m - nI a - nI b)) = gt m (gr σ 46 0) (gr σ 46 1) (gr σ 46 2) a b := rfl
    rw [e]
    unfold f_X5_meet_89
    rw [bnd_mk, bnd_mk, nI_1]
    by_cases q : v2 ≤ gt m (gr σ 46 0) (gr σ 46 1) (gr σ 46 2) a b
    · rw [if_pos q, show st1 m (gr σ 46 0) (gr σ 46 1) (gr σ 46 2) a (v2, v3, v4) b = (v2, v3, v4) from if_pos q]
      exact ih (b + 1) n v2 v3 v4 (by omega) (by omega)
    · rw [if_neg q, show st1 m (gr σ 46 0) (gr σ 46 1) (gr σ 46 2) a (v2, v3, v4) b = (gt m (gr σ 46 0) (gr σ 46 1) (gr σ 46 2) a b, nI a, nI b) from if_neg q]
      exact ih (b + 1) n _ _ _ (by omega) (by omega)
theorem meet_out {m : Nat} (hm : m ≤ 9) (σ : St) : ∀ (k a n : Nat) (B : Int32 × Int32 × Int32), a + k = m + 1 → k < n →
    itr g_X5_meet_10 n (nI m, B.1, B.2.1, B.2.2, nI a, σ) = some (((List.range' a k).foldl (in1 m (gr σ 46 0) (gr σ 46 1) (gr σ 46 2)) B).1, sR σ 47 (W3 (gr σ 47) ((List.range' a k).foldl (in1 m (gr σ 46 0) (gr σ 46 1) (gr σ 46 2)) B).2.1 ((List.range' a k).foldl (in1 m (gr σ 46 0) (gr σ 46 1) (gr σ 46 2)) B).2.2 (nI m - ((List.range' a k).foldl (in1 m (gr σ 46 0) (gr σ 46 1) (gr σ 46 2)) B).2.1 - ((List.range' a k).foldl (in1 m (gr σ 46 0) (gr σ 46 1) (gr σ 46 2)) B).2.2))) := by
  intro k
  induction k with
  | zero =>
    intro a n B h hn
    obtain ⟨n, rfl⟩ : ∃ q, n = q + 1 := ⟨n - 1, by omega⟩
    rw [itr_succ]
    unfold g_X5_meet_10
    dsimp only
    rw [if_pos (nI_lt (by omega) (by omega)), S_put 47 (isA_lit (by decide)) rfl, bd_mk]
    rfl
  | succ k ih =>
    intro a n B h hn
    obtain ⟨n, rfl⟩ : ∃ q, n = q + 1 := ⟨n - 1, by omega⟩
    rw [itr_succ]
    unfold g_X5_meet_10
    dsimp only
    rw [if_neg (nI_nlt (by omega) (by omega))]
    have e0 : (0 : Int32) = nI 0 := rfl
    rw [e0, meet_in hm _ σ (m + 1 - a) 0 FU B.1 B.2.1 B.2.2 (by omega) (by unfold FU; omega)]
    have := ih (a + 1) n (in1 m (gr σ 46 0) (gr σ 46 1) (gr σ 46 2) B a) (by omega) (by omega)
    unfold in1 at this
    rw [List.range'_succ, List.foldl_cons]
    exact this
theorem S_meet {m : Nat} (hm : m ≤ 9) (σ : St) : f_X5_meet (nI m) σ = some ((mt m (gr σ 46 0) (gr σ 46 1) (gr σ 46 2) (4, 0, 0)).1, sR σ 47 (W3 (gr σ 47) (mt m (gr σ 46 0) (gr σ 46 1) (gr σ 46 2) (4, 0, 0)).2.1 (mt m (gr σ 46 0) (gr σ 46 1) (gr σ 46 2) (4, 0, 0)).2.2 (nI m - (mt m (gr σ 46 0) (gr σ 46 1) (gr σ 46 2) (4, 0, 0)).2.1 - (mt m (gr σ 46 0) (gr σ 46 1) (gr σ 46 2) (4, 0, 0)).2.2))) :=
  meet_out hm σ (m + 1) 0 FU (4, 0, 0) (by omega) (by unfold FU; omega)
/-! the reference -/
theorem held_in {m a : Nat} (hm : m ≤ 9) (K : Int32 × Int32 × Int32 × St → Option (Int32 × St)) (σ : St) : ∀ (k b n : Nat) (B : Int32 × Int32 × Int32) (f : Nat → Int32), a + b + k = m + 1 → k < n → (B.1 = 1000000 ∨ f = W3 f B.2.1 B.2.2 (nI m - B.2.1 - B.2.2)) →
    ∃ g, itr (g_X12_heldBy_14 K) n (nI m, B.1, nI a, nI b, sR σ 70 f) = K (nI m, ((List.range' b k).foldl (st1 m (gr σ 68 0) (gr σ 68 1) (gr σ 68 2) a) B).1, nI (a + 1), sR σ 70 g) ∧ (((List.range' b k).foldl (st1 m (gr σ 68 0) (gr σ 68 1) (gr σ 68 2) a) B).1 = 1000000 ∨ g = W3 g ((List.range' b k).foldl (st1 m (gr σ 68 0) (gr σ 68 1) (gr σ 68 2) a) B).2.1 ((List.range' b k).foldl (st1 m (gr σ 68 0) (gr σ 68 1) (gr σ 68 2) a) B).2.2 (nI m - ((List.range' b k).foldl (st1 m (gr σ 68 0) (gr σ 68 1) (gr σ 68 2) a) B).2.1 - ((List.range' b k).foldl (st1 m (gr σ 68 0) (gr σ 68 1) (gr σ 68 2) a) B).2.2)) := by
  intro k
  induction k with
  | zero =>
    intro b n B f h hn hf
    obtain ⟨n, rfl⟩ : ∃ q, n = q + 1 := ⟨n - 1, by omega⟩
    refine ⟨f, ?_, hf⟩
    rw [itr_succ]
    unfold g_X12_heldBy_14
    dsimp only
    rw [nI_add, if_pos (nI_lt (by omega) (by omega)), bnd_mk, nI_1]
    rfl
  | succ k ih =>
    intro b n B f h hn hf
    obtain ⟨n, rfl⟩ : ∃ q, n = q + 1 := ⟨n - 1, by omega⟩
    rw [itr_succ]
    unfold g_X12_heldBy_14
    dsimp only
    rw [nI_add, if_neg (nI_nlt (by omega) (by omega))]
    rw [show inb (0 : Int32) (ln 68) = true from rfl, show inb (1 : Int32) (ln 68) = true from rfl, show inb (2 : Int32) (ln 68) = true from rfl, show inb (0 : Int32) (ln 70) = true from rfl, show inb (1 : Int32) (ln 70) = true from rfl, show inb (2 : Int32) (ln 70) = true from rfl, gd_tt, S_value, bd_mk, gd_tt, S_value, bd_mk, gd_tt, S_value, bd_mk, bnd_mk]
    rw [List.range'_succ, List.foldl_cons]
    have e : vl (gr (sR σ 70 f) 68 (0 : Int32).toNatClampNeg - nI a) + vl (gr (sR σ 70 f) 68 (1 : Int32).toNatClampNeg - nI b) + vl (gr (sR σ 70 f) 68 (2 : Int32).toNatClampNeg - (nI m - nI a - nI b)) = gt m (gr σ 68 0) (gr σ 68 1) (gr σ 68 2) a b := rfl
    rw [e]
    unfold f_X12_heldBy_104
    rw [gd_tt, bnd_mk, gd_tt, bnd_mk, gd_tt, bnd_mk, bnd_mk, bnd_mk, nI_1]
    by_cases q : gt m (gr σ 68 0) (gr σ 68 1) (gr σ 68 2) a b < B.1
    · have q' : ¬ B.1 ≤ gt m (gr σ 68 0) (gr σ 68 1) (gr σ 68 2) a b := Int32.not_le.mpr q
      rw [if_pos q, show st1 m (gr σ 68 0) (gr σ 68 1) (gr σ 68 2) a B b = (gt m (gr σ 68 0) (gr σ 68 1) (gr σ 68 2) a b, nI a, nI b) from if_neg q']
      have e3 : sr (sr (sr (sR σ 70 f) 70 (0 : Int32).toNatClampNeg (nI a)) 70 (1 : Int32).toNatClampNeg (nI b)) 70 (2 : Int32).toNatClampNeg (nI m - nI a - nI b) = sR σ 70 (W3 f (nI a) (nI b) (nI m - nI a - nI b)) := by
        have := sr3 (sR σ 70 f) 70 (nI a) (nI b) (nI m - nI a - nI b)
        rw [sR_sR, gr_sRs] at this
        exact this
      rw [e3]
      exact ih (b + 1) n (gt m (gr σ 68 0) (gr σ 68 1) (gr σ 68 2) a b, nI a, nI b) _ (by omega) (by omega) (Or.inr (W3_W3 _ _ _ _ _ _ _).symm)
    · have q' : B.1 ≤ gt m (gr σ 68 0) (gr σ 68 1) (gr σ 68 2) a b := Int32.not_lt.mp q
      rw [if_neg q, show st1 m (gr σ 68 0) (gr σ 68 1) (gr σ 68 2) a B b = B from if_pos q']
      exact ih (b + 1) n B f (by omega) (by omega) hf
theorem held_out {m : Nat} (hm : m ≤ 9) (σ : St) : ∀ (k a n : Nat) (B : Int32 × Int32 × Int32) (f : Nat → Int32), a + k = m + 1 → k < n → (B.1 = 1000000 ∨ f = W3 f B.2.1 B.2.2 (nI m - B.2.1 - B.2.2)) →
    ∃ g, itr g_X12_heldBy_6 n (nI m, B.1, nI a, sR σ 70 f) = some (((List.range' a k).foldl (in1 m (gr σ 68 0) (gr σ 68 1) (gr σ 68 2)) B).1, sR σ 70 g) ∧ (((List.range' a k).foldl (in1 m (gr σ 68 0) (gr σ 68 1) (gr σ 68 2)) B).1 = 1000000 ∨ g = W3 g ((List.range' a k).foldl (in1 m (gr σ 68 0) (gr σ 68 1) (gr σ 68 2)) B).2.1 ((List.range' a k).foldl (in1 m (gr σ 68 0) (gr σ 68 1) (gr σ 68 2)) B).2.2 (nI m - ((List.range' a k).foldl (in1 m (gr σ 68 0) (gr σ 68 1) (gr σ 68 2)) B).2.1 - ((List.range' a k).foldl (in1 m (gr σ 68 0) (gr σ 68 1) (gr σ 68 2)) B).2.2)) := by
  intro k
  induction k with
  | zero =>
    intro a n B f h hn hf
    obtain ⟨n, rfl⟩ : ∃ q, n = q + 1 := ⟨n - 1, by omega⟩
    refine ⟨f, ?_, hf⟩
    rw [itr_succ]
    unfold g_X12_heldBy_6
    dsimp only
    rw [if_pos (nI_lt (by omega) (by omega))]
    rfl
  | succ k ih =>
    intro a n B f h hn hf
    obtain ⟨n, rfl⟩ : ∃ q, n = q + 1 := ⟨n - 1, by omega⟩
    rw [itr_succ]
    unfold g_X12_heldBy_6
    dsimp only
    rw [if_neg (nI_nlt (by omega) (by omega))]
    obtain ⟨g, e, hg⟩ := held_in (a := a) hm (itr g_X12_heldBy_6 n) σ (m + 1 - a) 0 FU B f (by omega) (by unfold FU; omega) hf
    rw [List.range'_succ, List.foldl_cons]
    obtain ⟨g2, e2, hg2⟩ := ih (a + 1) n (in1 m (gr σ 68 0) (gr σ 68 1) (gr σ 68 2) B a) g (by omega) (by omega) hg
    exact ⟨g2, e.trans e2, hg2⟩
theorem S_held {m : Nat} (hm : m ≤ 9) (σ : St) : ∃ g, f_X12_heldBy (nI m) σ = some ((mt m (gr σ 68 0) (gr σ 68 1) (gr σ 68 2) (4, 0, 0)).1, sR σ 70 g) ∧ g = W3 g (mt m (gr σ 68 0) (gr σ 68 1) (gr σ 68 2) (4, 0, 0)).2.1 (mt m (gr σ 68 0) (gr σ 68 1) (gr σ 68 2) (4, 0, 0)).2.2 (nI m - (mt m (gr σ 68 0) (gr σ 68 1) (gr σ 68 2) (4, 0, 0)).2.1 - (mt m (gr σ 68 0) (gr σ 68 1) (gr σ 68 2) (4, 0, 0)).2.2) := by
  obtain ⟨g, e, hg⟩ := held_out hm σ (m + 1) 0 FU (1000000, 0, 0) (gr σ 70) (by omega) (by unfold FU; omega) (Or.inl rfl)
  have es : sR σ 70 (gr σ 70) = σ := by
    unfold sR gr
    refine Prod.ext rfl (Prod.ext ?_ rfl)
    funext j
    show va_up σ.2.1 70 (σ.2.1 70) j = σ.2.1 j
    unfold va_up
    split
    · rename_i q
      rw [q]
    · rfl
  rw [es] at e
  have em : (List.range' 0 (m + 1)).foldl (in1 m (gr σ 68 0) (gr σ 68 1) (gr σ 68 2)) (1000000, 0, 0) = mt m (gr σ 68 0) (gr σ 68 1) (gr σ 68 2) (4, 0, 0) := mt_far (by decide) (by decide)
  rw [em] at e hg
  refine ⟨g, e, ?_⟩
  rcases hg with hg | hg
  · have := (mt_bd (m := m) (x0 := gr σ 68 0) (x1 := gr σ 68 1) (x2 := gr σ 68 2) (B := (4, 0, 0)) (by decide)).2
    rw [hg] at this
    exact absurd this (by decide)
  · exact hg
/-! ===== the SIDE that puts first ===== -/
def st2 (n m : Nat) (a : Nat) (H : Int32 × Int32 × Int32) (b : Nat) : Int32 × Int32 × Int32 := if (mt m (nI a) (nI b) (nI n - nI a - nI b) (4, 0, 0)).1 ≤ H.1 then H else ((mt m (nI a) (nI b) (nI n - nI a - nI b) (4, 0, 0)).1, nI a, nI b)
def in2 (n m : Nat) (H : Int32 × Int32 × Int32) (a : Nat) : Int32 × Int32 × Int32 := (List.range' 0 (n + 1 - a)).foldl (st2 n m a) H
def hd (n m : Nat) (H : Int32 × Int32 × Int32) : Int32 × Int32 × Int32 := (List.range' 0 (n + 1)).foldl (in2 n m) H
theorem hd_far {n m : Nat} {H G : Int32 × Int32 × Int32} (hH : H.1.toInt < -3) (hG : G.1.toInt < -3) : hd n m H = hd n m G := by
  have e : ∀ D : Int32 × Int32 × Int32, D.1.toInt < -3 → st2 n m 0 D 0 = ((mt m (nI 0) (nI 0) (nI n - nI 0 - nI 0) (4, 0, 0)).1, nI 0, nI 0) := fun D hD => by
    unfold st2
    rw [if_neg]
    rw [le_toInt]
    have := mt_bd (m := m) (x0 := nI 0) (x1 := nI 0) (x2 := nI n - nI 0 - nI 0) (B := (4, 0, 0)) (by decide)
    omega
  have f : in2 n m H 0 = in2 n m G 0 := by
    unfold in2
    rw [show n + 1 - 0 = n + 1 from rfl, List.range'_succ, List.foldl_cons, List.foldl_cons, e H hH, e G hG]
  unfold hd
  rw [List.range'_succ, List.foldl_cons, List.foldl_cons, f]
theorem hd_bd {n m : Nat} {H : Int32 × Int32 × Int32} (hH : H.1.toInt < -3) : -3 ≤ (hd n m H).1.toInt := by
  have h1 : ∀ (a : Nat) (l : List Nat) (D : Int32 × Int32 × Int32), -3 ≤ D.1.toInt → -3 ≤ (l.foldl (st2 n m a) D).1.toInt := by
    intro a l
    induction l with
    | nil => intro D h; exact h
    | cons b l ih =>
      intro D h
      rw [List.foldl_cons]
      apply ih
      unfold st2
      split
      · exact h
      · exact (mt_bd (by decide)).1
  have h2 : ∀ (l : List Nat) (D : Int32 × Int32 × Int32), -3 ≤ D.1.toInt → -3 ≤ (l.foldl (in2 n m) D).1.toInt := by
    intro l
    induction l with
    | nil => intro D h; exact h
    | cons a l ih =>
      intro D h
      rw [List.foldl_cons]
      exact ih _ (h1 a _ D h)
  unfold hd
  rw [List.range'_succ, List.foldl_cons]
  apply h2
  unfold in2
  rw [show n + 1 - 0 = n + 1 from rfl, List.range'_succ, List.foldl_cons]
  apply h1
  unfold st2
  split
  · rename_i q
    rw [le_toInt] at q
    have := mt_bd (m := m) (x0 := nI 0) (x1 := nI 0) (x2 := nI n - nI 0 - nI 0) (B := (4, 0, 0)) (by decide)
    omega
  · exact (mt_bd (by decide)).1
/-- what the class keeps of the best way so far -/
def KC (n m : Nat) (H : Int32 × Int32 × Int32) (σ : St) : Prop := gf σ 43 0 = H.1 ∧ (H.1 = -4 ∨ (gr σ 44 = W3 (gr σ 44) H.2.1 H.2.2 (nI n - H.2.1 - H.2.2) ∧ gr σ 45 = W3 (gr σ 45) (mt m H.2.1 H.2.2 (nI n - H.2.1 - H.2.2) (4, 0, 0)).2.1 (mt m H.2.1 H.2.2 (nI n - H.2.1 - H.2.2) (4, 0, 0)).2.2 (nI m - (mt m H.2.1 H.2.2 (nI n - H.2.1 - H.2.2) (4, 0, 0)).2.1 - (mt m H.2.1 H.2.2 (nI n - H.2.1 - H.2.2) (4, 0, 0)).2.2)))
theorem set_step {n m a b : Nat} (hm : m ≤ 9) (H : Int32 × Int32 × Int32) (σ : St) (hK : KC n m H σ) : ∃ s3 s6, f_X5_put 46 (nI a) (nI b) (nI n) σ = some ((), s3) ∧ f_X5_meet (nI m) s3 = some ((mt m (nI a) (nI b) (nI n - nI a - nI b) (4, 0, 0)).1, s6) ∧ gf s6 43 0 = H.1 ∧ Fr [43, 44, 45, 46, 47] σ s6 ∧ KC n m H s6 ∧ gr s6 47 0 = (mt m (nI a) (nI b) (nI n - nI a - nI b) (4, 0, 0)).2.1 ∧ gr s6 47 1 = (mt m (nI a) (nI b) (nI n - nI a - nI b) (4, 0, 0)).2.2 := by
  have e := S_meet hm (sR σ 46 (W3 (gr σ 46) (nI a) (nI b) (nI n - nI a - nI b)))
  rw [gr_sRs, W3_0, W3_1, W3_2] at e
  refine ⟨_, _, S_put 46 (isA_lit (by decide)) rfl _ _ _, e, hK.1, (Fr.cR (by simp)).tr (Fr.cR (by simp)), ?_, ?_, ?_⟩
  · exact hK
  · rw [gr_sRs, W3_0]
  · rw [gr_sRs, W3_1]
theorem set_in {n m a : Nat} (hn9 : n ≤ 9) (hm : m ≤ 9) (K : Int32 × Int32 × Int32 × St → Option (Unit × St)) : ∀ (k b q : Nat) (H : Int32 × Int32 × Int32) (σ : St), a + b + k = n + 1 → k < q → KC n m H σ →
    ∃ σ', itr (g_X5_settle_16 K) q (nI n, nI m, nI a, nI b, σ) = K (nI n, nI m, nI (a + 1), σ') ∧ KC n m ((List.range' b k).foldl (st2 n m a) H) σ' ∧ Fr [43, 44, 45, 46, 47] σ σ' := by
  intro k
  induction k with
  | zero =>
    intro b q H σ h hq hK
    obtain ⟨q, rfl⟩ : ∃ r, q = r + 1 := ⟨q - 1, by omega⟩
    refine ⟨σ, ?_, hK, Fr.rf⟩
    rw [itr_succ]
    unfold g_X5_settle_16
    dsimp only
    rw [nI_add, if_pos (nI_lt (by omega) (by omega)), bnd_mk, nI_1]
  | succ k ih =>
    intro b q H σ h hq hK
    obtain ⟨q, rfl⟩ : ∃ r, q = r + 1 := ⟨q - 1, by omega⟩
    obtain ⟨s3, s6, e1, e2, e3, hF, hK6, e4, e5⟩ := set_step (a := a) (b := b) hm H σ hK
    rw [itr_succ]
    generalize hR : itr (g_X5_settle_16 K) q = R
    unfold g_X5_settle_16
    dsimp only
    rw [nI_add, if_neg (nI_nlt (by omega) (by omega)), e1, bd_mk, e2, bd_mk, e3, List.range'_succ, List.foldl_cons]
    unfold f_X5_settle_88
    rw [bnd_mk, nI_1]
    by_cases g : (mt m (nI a) (nI b) (nI n - nI a - nI b) (4, 0, 0)).1 ≤ H.1
    · rw [if_pos g, show st2 n m a H b = H from if_pos g]
      obtain ⟨σ', f1, f2, f3⟩ := ih (b + 1) q H s6 (by omega) (by omega) hK6
      rw [hR] at f1
      exact ⟨σ', f1, f2, hF.tr f3⟩
    · rw [if_neg g, show st2 n m a H b = ((mt m (nI a) (nI b) (nI n - nI a - nI b) (4, 0, 0)).1, nI a, nI b) from if_neg g, bnd_mk, S_put 44 (isA_lit (by decide)) rfl, bd_mk]
      rw [show inb (0 : Int32) (ln 47) = true from rfl, show inb (1 : Int32) (ln 47) = true from rfl, gd_tt, gd_tt, S_put 45 (isA_lit (by decide)) rfl, bd_mk]
      have z0 : gr (sR (sf s6 43 0 (mt m (nI a) (nI b) (nI n - nI a - nI b) (4, 0, 0)).1) 44 (W3 (gr (sf s6 43 0 (mt m (nI a) (nI b) (nI n - nI a - nI b) (4, 0, 0)).1) 44) (nI a) (nI b) (nI n - nI a - nI b))) 47 (0 : Int32).toNatClampNeg = (mt m (nI a) (nI b) (nI n - nI a - nI b) (4, 0, 0)).2.1 := e4
      have z1 : gr (sR (sf s6 43 0 (mt m (nI a) (nI b) (nI n - nI a - nI b) (4, 0, 0)).1) 44 (W3 (gr (sf s6 43 0 (mt m (nI a) (nI b) (nI n - nI a - nI b) (4, 0, 0)).1) 44) (nI a) (nI b) (nI n - nI a - nI b))) 47 (1 : Int32).toNatClampNeg = (mt m (nI a) (nI b) (nI n - nI a - nI b) (4, 0, 0)).2.2 := e5
      rw [z0, z1]
      have hK' : KC n m ((mt m (nI a) (nI b) (nI n - nI a - nI b) (4, 0, 0)).1, nI a, nI b) (sR (sR (sf s6 43 0 (mt m (nI a) (nI b) (nI n - nI a - nI b) (4, 0, 0)).1) 44 (W3 (gr (sf s6 43 0 (mt m (nI a) (nI b) (nI n - nI a - nI b) (4, 0, 0)).1) 44) (nI a) (nI b) (nI n - nI a - nI b))) 45 (W3 (gr (sR (sf s6 43 0 (mt m (nI a) (nI b) (nI n - nI a - nI b) (4, 0, 0)).1) 44 (W3 (gr (sf s6 43 0 (mt m (nI a) (nI b) (nI n - nI a - nI b) (4, 0, 0)).1) 44) (nI a) (nI b) (nI n - nI a - nI b))) 45) (mt m (nI a) (nI b) (nI n - nI a - nI b) (4, 0, 0)).2.1 (mt m (nI a) (nI b) (nI n - nI a - nI b) (4, 0, 0)).2.2 (nI m - (mt m (nI a) (nI b) (nI n - nI a - nI b) (4, 0, 0)).2.1 - (mt m (nI a) (nI b) (nI n - nI a - nI b) (4, 0, 0)).2.2))) := by
        refine ⟨by simp [gf_sR, sf, gf_sF, upd], Or.inr ⟨?_, ?_⟩⟩
        · rw [gr_sRn _ _ (by decide), gr_sRs]
          exact (W3_W3 _ _ _ _ _ _ _).symm
        · rw [gr_sRs]
          exact (W3_W3 _ _ _ _ _ _ _).symm
      obtain ⟨σ', f1, f2, f3⟩ := ih (b + 1) q _ _ (by omega) (by omega) hK'
      rw [hR] at f1
      exact ⟨σ', f1, f2, (((hF.tr (Fr.c1 (by simp))).tr (Fr.cR (by simp))).tr (Fr.cR (by simp))).tr f3⟩
theorem set_out {n m : Nat} (hn9 : n ≤ 9) (hm : m ≤ 9) : ∀ (k a q : Nat) (H : Int32 × Int32 × Int32) (σ : St), a + k = n + 1 → k < q → KC n m H σ →
    ∃ σ', itr g_X5_settle_8 q (nI n, nI m, nI a, σ) = some ((), σ') ∧ KC n m ((List.range' a k).foldl (in2 n m) H) σ' ∧ Fr [43, 44, 45, 46, 47] σ σ' := by
  intro k
  induction k with
  | zero =>
    intro a q H σ h hq hK
    obtain ⟨q, rfl⟩ : ∃ r, q = r + 1 := ⟨q - 1, by omega⟩
    refine ⟨σ, ?_, hK, Fr.rf⟩
    rw [itr_succ]
    unfold g_X5_settle_8
    dsimp only
    rw [if_pos (nI_lt (by omega) (by omega))]
  | succ k ih =>
    intro a q H σ h hq hK
    obtain ⟨q, rfl⟩ : ∃ r, q = r + 1 := ⟨q - 1, by omega⟩
    rw [itr_succ]
    obtain ⟨σ1, f1, f2, f3⟩ := set_in (a := a) hn9 hm (itr g_X5_settle_8 q) (n + 1 - a) 0 FU H σ (by omega) (by unfold FU; omega) hK
    have e : g_X5_settle_8 (itr g_X5_settle_8 q) (nI n, nI m, nI a, σ) = itr (g_X5_settle_16 (itr g_X5_settle_8 q)) FU (nI n, nI m, nI a, nI 0, σ) := by
      generalize itr g_X5_settle_8 q = R
      unfold g_X5_settle_8
      dsimp only
      rw [if_neg (nI_nlt (by omega) (by omega))]
      rfl
    rw [e]
    obtain ⟨σ2, g1, g2, g3⟩ := ih (a + 1) q (in2 n m H a) σ1 (by omega) (by omega) f2
    refine ⟨σ2, f1.trans g1, ?_, f3.tr g3⟩
    rw [List.range'_succ, List.foldl_cons]
    exact g2
theorem S_settle {n m : Nat} (hn9 : n ≤ 9) (hm : m ≤ 9) (σ : St) : ∃ σ', f_X5_settle (nI n) (nI m) σ = some ((), σ') ∧ KC n m (hd n m (-4, 0, 0)) σ' ∧ Fr [43, 44, 45, 46, 47] σ σ' := by
  unfold f_X5_settle
  rw [bnd_mk]
  obtain ⟨σ', e, h1, h2⟩ := set_out hn9 hm (n + 1) 0 FU (-4, 0, 0) (sf σ 43 0 (-4)) (by omega) (by unfold FU; omega) ⟨by simp [sf, gf_sF, upd], Or.inl rfl⟩
  exact ⟨σ', e, h1, (Fr.c1 (by simp)).tr h2⟩
/-! the reference -/
def KM (n : Nat) (H : Int32 × Int32 × Int32) (σ : St) : Prop := H.1 = -1000000 ∨ gr σ 69 = W3 (gr σ 69) H.2.1 H.2.2 (nI n - H.2.1 - H.2.2)
theorem cp69 (K7 : Int32 × Int32 × Int32 × Int32 × St → Option (Int32 × St)) (K16 : Int32 × Int32 × Int32 × Int32 × Int32 × St → Option (Int32 × St)) (v1 v2 v3 v4 v5 : Int32) (σ : St) (n : Nat) : itr (g_X12_holdOf_76 K7 K16) (n + 4) (v1, v2, v3, v4, v5, 0, σ) = f_X12_holdOf_102 K7 K16 v1 v2 v3 v4 v5 (sR σ 69 (W3 (gr σ 69) (gr σ 68 0) (gr σ 68 1) (gr σ 68 2))) := by
  rw [← sr3]
  rfl
theorem cp68 (v2 v3 : Int32) (σ : St) (n : Nat) : itr g_X12_holdOf_117 (n + 4) (v2, v3, 0, σ) = bd (f_X12_heldBy v2 (sR σ 68 (W3 (gr σ 68) (gr σ 69 0) (gr σ 69 1) (gr σ 69 2)))) fun _ s2 => some (v3, s2) := by
  rw [← sr3]
  rfl
theorem hof_in {n m a : Nat} (hn9 : n ≤ 9) (hm : m ≤ 9) (K : Int32 × Int32 × Int32 × Int32 × St → Option (Int32 × St)) : ∀ (k b q : Nat) (H : Int32 × Int32 × Int32) (σ : St), a + b + k = n + 1 → k < q → KM n H σ →
    ∃ σ', itr (g_X12_holdOf_16 K) q (nI n, nI m, H.1, nI a, nI b, σ) = K (nI n, nI m, ((List.range' b k).foldl (st2 n m a) H).1, nI (a + 1), σ') ∧ KM n ((List.range' b k).foldl (st2 n m a) H) σ' ∧ Fr [68, 69, 70] σ σ' := by
  intro k
  induction k with
  | zero =>
    intro b q H σ h hq hK
    obtain ⟨q, rfl⟩ : ∃ r, q = r + 1 := ⟨q - 1, by omega⟩
    refine ⟨σ, ?_, hK, Fr.rf⟩
    rw [itr_succ]
    unfold g_X12_holdOf_16
    dsimp only
    rw [nI_add, if_pos (nI_lt (by omega) (by omega)), bnd_mk, nI_1]
    rfl
  | succ k ih =>
    intro b q H σ h hq hK
    obtain ⟨q, rfl⟩ : ∃ r, q = r + 1 := ⟨q - 1, by omega⟩
    rw [itr_succ]
    generalize hR : itr (g_X12_holdOf_16 K) q = R
    unfold g_X12_holdOf_16
    dsimp only
    rw [nI_add, if_neg (nI_nlt (by omega) (by omega)), show inb (0 : Int32) (ln 68) = true from rfl, show inb (1 : Int32) (ln 68) = true from rfl, show inb (2 : Int32) (ln 68) = true from rfl, gd_tt, bnd_mk, gd_tt, bnd_mk, gd_tt, bnd_mk]
    have e3 : sr (sr (sr σ 68 (0 : Int32).toNatClampNeg (nI a)) 68 (1 : Int32).toNatClampNeg (nI b)) 68 (2 : Int32).toNatClampNeg (nI n - nI a - nI b) = sR σ 68 (W3 (gr σ 68) (nI a) (nI b) (nI n - nI a - nI b)) := sr3 σ 68 _ _ _
    rw [e3]
    obtain ⟨g, eh, hg⟩ := S_held hm (sR σ 68 (W3 (gr σ 68) (nI a) (nI b) (nI n - nI a - nI b)))
    rw [gr_sRs, W3_0, W3_1, W3_2] at eh
    rw [eh, bd_mk, List.range'_succ, List.foldl_cons]
    have hF : Fr [68, 69, 70] σ (sR (sR σ 68 (W3 (gr σ 68) (nI a) (nI b) (nI n - nI a - nI b))) 70 g) := (Fr.cR (by simp)).tr (Fr.cR (by simp))
    by_cases c : H.1 < (mt m (nI a) (nI b) (nI n - nI a - nI b) (4, 0, 0)).1
    · have c' : ¬ (mt m (nI a) (nI b) (nI n - nI a - nI b) (4, 0, 0)).1 ≤ H.1 := Int32.not_le.mpr c
      rw [if_pos c, show st2 n m a H b = ((mt m (nI a) (nI b) (nI n - nI a - nI b) (4, 0, 0)).1, nI a, nI b) from if_neg c', show FU = 4996 + 4 from rfl, cp69]
      unfold f_X12_holdOf_102
      have x0 : gr (sR (sR σ 68 (W3 (gr σ 68) (nI a) (nI b) (nI n - nI a - nI b))) 70 g) 68 0 = nI a := by rw [gr_sRn _ _ (by decide), gr_sRs, W3_0]
      have x1 : gr (sR (sR σ 68 (W3 (gr σ 68) (nI a) (nI b) (nI n - nI a - nI b))) 70 g) 68 1 = nI b := by rw [gr_sRn _ _ (by decide), gr_sRs, W3_1]
      have x2 : gr (sR (sR σ 68 (W3 (gr σ 68) (nI a) (nI b) (nI n - nI a - nI b))) 70 g) 68 2 = nI n - nI a - nI b := by rw [gr_sRn _ _ (by decide), gr_sRs, W3_2]
      rw [bnd_mk, nI_1, x0, x1, x2]
      have hK' : KM n ((mt m (nI a) (nI b) (nI n - nI a - nI b) (4, 0, 0)).1, nI a, nI b) (sR (sR (sR σ 68 (W3 (gr σ 68) (nI a) (nI b) (nI n - nI a - nI b))) 70 g) 69 (W3 (gr (sR (sR σ 68 (W3 (gr σ 68) (nI a) (nI b) (nI n - nI a - nI b))) 70 g) 69) (nI a) (nI b) (nI n - nI a - nI b))) := Or.inr (by
        rw [gr_sRs]
        exact (W3_W3 _ _ _ _ _ _ _).symm)
      obtain ⟨σ', f1, f2, f3⟩ := ih (b + 1) q _ _ (by omega) (by omega) hK'
      rw [hR] at f1
      exact ⟨σ', f1, f2, (hF.tr (Fr.cR (by simp))).tr f3⟩
    · have c' : (mt m (nI a) (nI b) (nI n - nI a - nI b) (4, 0, 0)).1 ≤ H.1 := Int32.not_lt.mp c
      rw [if_neg c, show st2 n m a H b = H from if_pos c']
      unfold f_X12_holdOf_102
      rw [bnd_mk, nI_1]
      have hK' : KM n H (sR (sR σ 68 (W3 (gr σ 68) (nI a) (nI b) (nI n - nI a - nI b))) 70 g) := hK
      obtain ⟨σ', f1, f2, f3⟩ := ih (b + 1) q _ _ (by omega) (by omega) hK'
      rw [hR] at f1
      exact ⟨σ', f1, f2, hF.tr f3⟩
theorem hof_out {n m : Nat} (hn9 : n ≤ 9) (hm : m ≤ 9) : ∀ (k a q : Nat) (H : Int32 × Int32 × Int32) (σ : St), a + k = n + 1 → k < q → KM n H σ →
    ∃ σ', itr g_X12_holdOf_7 q (nI n, nI m, H.1, nI a, σ) = itr g_X12_holdOf_117 FU (nI m, ((List.range' a k).foldl (in2 n m) H).1, 0, σ') ∧ KM n ((List.range' a k).foldl (in2 n m) H) σ' ∧ Fr [68, 69, 70] σ σ' := by
  intro k
  induction k with
  | zero =>
    intro a q H σ h hq hK
    obtain ⟨q, rfl⟩ : ∃ r, q = r + 1 := ⟨q - 1, by omega⟩
    refine ⟨σ, ?_, hK, Fr.rf⟩
    rw [itr_succ]
    unfold g_X12_holdOf_7
    dsimp only
    rw [if_pos (nI_lt (by omega) (by omega))]
    rfl
  | succ k ih =>
    intro a q H σ h hq hK
    obtain ⟨q, rfl⟩ : ∃ r, q = r + 1 := ⟨q - 1, by omega⟩
    rw [itr_succ]
    obtain ⟨σ1, f1, f2, f3⟩ := hof_in (a := a) hn9 hm (itr g_X12_holdOf_7 q) (n + 1 - a) 0 FU H σ (by omega) (by unfold FU; omega) hK
    have e : g_X12_holdOf_7 (itr g_X12_holdOf_7 q) (nI n, nI m, H.1, nI a, σ) = itr (g_X12_holdOf_16 (itr g_X12_holdOf_7 q)) FU (nI n, nI m, H.1, nI a, nI 0, σ) := by
      generalize itr g_X12_holdOf_7 q = R
      unfold g_X12_holdOf_7
      dsimp only
      rw [if_neg (nI_nlt (by omega) (by omega))]
      rfl
    rw [e]
    obtain ⟨σ2, g1, g2, g3⟩ := ih (a + 1) q (in2 n m H a) σ1 (by omega) (by omega) f2
    refine ⟨σ2, f1.trans (g1.trans ?_), ?_, f3.tr g3⟩
    · rw [List.range'_succ, List.foldl_cons]
    · rw [List.range'_succ, List.foldl_cons]
      exact g2
theorem S_holdOf {n m : Nat} (hn9 : n ≤ 9) (hm : m ≤ 9) (σ : St) : ∃ σ', f_X12_holdOf (nI n) (nI m) σ = some ((hd n m (-4, 0, 0)).1, σ') ∧ gr σ' 69 = W3 (gr σ' 69) (hd n m (-4, 0, 0)).2.1 (hd n m (-4, 0, 0)).2.2 (nI n - (hd n m (-4, 0, 0)).2.1 - (hd n m (-4, 0, 0)).2.2) ∧
    gr σ' 70 = W3 (gr σ' 70) (mt m (hd n m (-4, 0, 0)).2.1 (hd n m (-4, 0, 0)).2.2 (nI n - (hd n m (-4, 0, 0)).2.1 - (hd n m (-4, 0, 0)).2.2) (4, 0, 0)).2.1 (mt m (hd n m (-4, 0, 0)).2.1 (hd n m (-4, 0, 0)).2.2 (nI n - (hd n m (-4, 0, 0)).2.1 - (hd n m (-4, 0, 0)).2.2) (4, 0, 0)).2.2 (nI m - (mt m (hd n m (-4, 0, 0)).2.1 (hd n m (-4, 0, 0)).2.2 (nI n - (hd n m (-4, 0, 0)).2.1 - (hd n m (-4, 0, 0)).2.2) (4, 0, 0)).2.1 - (mt m (hd n m (-4, 0, 0)).2.1 (hd n m (-4, 0, 0)).2.2 (nI n - (hd n m (-4, 0, 0)).2.1 - (hd n m (-4, 0, 0)).2.2) (4, 0, 0)).2.2) ∧ Fr [68, 69, 70] σ σ' := by
  obtain ⟨σ1, e, hK, hF⟩ := hof_out hn9 hm (n + 1) 0 FU (-1000000, 0, 0) σ (by omega) (by unfold FU; omega) (Or.inl rfl)
  have em : (List.range' 0 (n + 1)).foldl (in2 n m) (-1000000, 0, 0) = hd n m (-4, 0, 0) := hd_far (by decide) (by decide)
  rw [em] at e hK
  have hb := hd_bd (n := n) (m := m) (H := (-4, 0, 0)) (by decide)
  generalize hd n m (-4, 0, 0) = H at e hK hb ⊢
  have hK : gr σ1 69 = W3 (gr σ1 69) H.2.1 H.2.2 (nI n - H.2.1 - H.2.2) := by
    rcases hK with q | q
    · rw [q] at hb
      exact absurd hb (by decide)
    · exact q
  rw [show FU = 4996 + 4 from rfl, cp68] at e
  have w0 : gr σ1 69 0 = H.2.1 := by rw [hK, W3_0]
  have w1 : gr σ1 69 1 = H.2.2 := by rw [hK, W3_1]
  have w2 : gr σ1 69 2 = nI n - H.2.1 - H.2.2 := by rw [hK, W3_2]
  rw [w0, w1, w2] at e
  obtain ⟨g, eh, hg⟩ := S_held hm (sR σ1 68 (W3 (gr σ1 68) H.2.1 H.2.2 (nI n - H.2.1 - H.2.2)))
  rw [gr_sRs, W3_0, W3_1, W3_2] at eh hg
  rw [eh, bd_mk] at e
  refine ⟨_, e, ?_, ?_, (hF.tr (Fr.cR (by simp))).tr (Fr.cR (by simp))⟩
  · rw [gr_sRn _ _ (by decide), gr_sRn _ _ (by decide)]
    exact hK
  · rw [gr_sRs]
    exact hg
/-! ===== the three methods of both ===== -/
theorem S_host (p : Int32) (σ : St) : f_X11_isHost p σ = some (b2 (0 ≤ p.toInt ∧ p.toInt ≤ 9), σ) := by
  unfold f_X11_isHost f_X11_isHost_14 f_X11_isHost_15
  rw [bz_0, bz_1, gd_tt, gd_tt]
  by_cases h1 : p < 0
  · rw [if_pos h1, b2_f]
    rw [lt_toInt] at h1
    intro q
    have : (0 : Int32).toInt = 0 := rfl
    omega
  · rw [if_neg h1]
    rw [lt_toInt] at h1
    have z0 : (0 : Int32).toInt = 0 := rfl
    by_cases h2 : (9 : Int32) < p
    · rw [if_pos h2, b2_f]
      rw [lt_toInt] at h2
      intro q
      have : (9 : Int32).toInt = 9 := rfl
      omega
    · rw [if_neg h2, b2_t]
      rw [lt_toInt] at h2
      have : (9 : Int32).toInt = 9 := rfl
      omega
theorem S_men9 (p q : Int32) (σ : St) : f_X12_areMen p q σ = some (b2 ((0 ≤ p.toInt ∧ p.toInt ≤ 9) ∧ (0 ≤ q.toInt ∧ q.toInt ≤ 9)), σ) := by
  unfold f_X12_areMen f_X12_areMen_28 f_X12_areMen_29
  rw [S_in, bd_mk]
  have e : ∀ p : Int32, ((0 : Int64).toInt ≤ p.toInt64.toInt ∧ p.toInt64.toInt ≤ (9 : Int64).toInt) ↔ (0 ≤ p.toInt ∧ p.toInt ≤ 9) := fun p => by
    rw [Int32.toInt_toInt64]
    exact Iff.rfl
  by_cases h1 : 0 ≤ p.toInt ∧ p.toInt ≤ 9
  · rw [b2_t ((e p).mpr h1), if_neg (by decide), S_in, bd_mk]
    by_cases h2 : 0 ≤ q.toInt ∧ q.toInt ≤ 9
    · rw [b2_t ((e q).mpr h2), if_neg (by decide), b2_t ⟨h1, h2⟩]
      rfl
    · rw [b2_f (fun g => h2 ((e q).mp g)), if_pos rfl, b2_f (fun g => h2 g.2)]
      rfl
  · rw [b2_f (fun g => h1 ((e p).mp g)), if_pos rfl, b2_f (fun g => h1 g.1)]
    rfl
theorem nI_of9 {p : Int32} (h : 0 ≤ p.toInt ∧ p.toInt ≤ 9) : ∃ n : Nat, n ≤ 9 ∧ p = nI n :=
  nI_of2 (M := 9) rfl (fun q => by rw [lt_toInt] at q; have : (0 : Int32).toInt = 0 := rfl; omega) (by rw [le_toInt]; exact h.2)
/-- hold: both answer the same, and nothing else changes -/
theorem R_hold (p q : Int32) (σ : St) : ∃ r s1 s2, f_X11_hold p q σ = some (r, s1) ∧ f_X12_hold p q s1 = some (r, s2) ∧ Fr [43, 44, 45, 46, 47, 68, 69, 70] σ s2 := by
  unfold f_X11_hold f_X12_hold f_X11_hold_14 f_X12_hold_20
  simp only [S_host, S_men9, bd_mk]
  by_cases h1 : 0 ≤ p.toInt ∧ p.toInt ≤ 9
  · by_cases h2 : 0 ≤ q.toInt ∧ q.toInt ≤ 9
    · obtain ⟨n, hn, rfl⟩ := nI_of9 h1
      obtain ⟨m, hm, rfl⟩ := nI_of9 h2
      obtain ⟨s1, e1, k1, f1⟩ := S_settle hn hm σ
      obtain ⟨s2, e2, -, -, f2⟩ := S_holdOf hn hm s1
      refine ⟨(hd n m (-4, 0, 0)).1, s1, s2, ?_, ?_, (f1.mo (by simp)).tr (f2.mo (by simp))⟩
      · rw [b2_t h1, if_neg (by decide), b2_t h2, if_neg (by decide), e1, bd_mk, k1.1]
      · rw [b2_t ⟨h1, h2⟩, if_neg (by decide), e2, bd_mk]
    · refine ⟨-1000, σ, σ, ?_, ?_, Fr.rf⟩
      · rw [b2_t h1, if_neg (by decide), b2_f h2, if_pos rfl]
      · rw [b2_f (fun g => h2 g.2), if_pos rfl]
  · refine ⟨-1000, σ, σ, ?_, ?_, Fr.rf⟩
    · rw [b2_f h1, if_pos rfl]
    · rw [b2_f (fun g => h1 g.1), if_pos rfl]
theorem S_place (p : Int32) (σ : St) : f_X11_isPlace p σ = some (b2 (0 ≤ p.toInt ∧ p.toInt ≤ 2), σ) := by
  unfold f_X11_isPlace f_X11_isPlace_13 f_X11_isPlace_14
  rw [bz_0, bz_1, gd_tt, gd_tt]
  have z0 : (0 : Int32).toInt = 0 := rfl
  have z3 : (3 : Int32).toInt = 3 := rfl
  by_cases h1 : p < 0
  · rw [if_pos h1, b2_f]
    rw [lt_toInt] at h1
    omega
  · rw [if_neg h1]
    rw [lt_toInt] at h1
    by_cases h2 : (3 : Int32) ≤ p
    · rw [if_pos h2, b2_f]
      rw [le_toInt] at h2
      omega
    · rw [if_neg h2, b2_t]
      rw [le_toInt] at h2
      omega
theorem nI_of2p {p : Int32} (h : 0 ≤ p.toInt ∧ p.toInt ≤ 2) : p = 0 ∨ p = 1 ∨ p = 2 := by
  obtain ⟨n, hn, rfl⟩ := nI_of2 (x := p) (M := 2) (n := 2) rfl (fun q => by rw [lt_toInt] at q; have : (0 : Int32).toInt = 0 := rfl; omega) (by rw [le_toInt]; exact h.2)
  rcases (show n = 0 ∨ n = 1 ∨ n = 2 by omega) with rfl | rfl | rfl
  · exact Or.inl rfl
  · exact Or.inr (Or.inl rfl)
  · exact Or.inr (Or.inr rfl)
theorem e_in2 (p : Int32) : ((0 : Int64).toInt ≤ p.toInt64.toInt ∧ p.toInt64.toInt ≤ (2 : Int64).toInt) ↔ (0 ≤ p.toInt ∧ p.toInt ≤ 2) := by
  rw [Int32.toInt_toInt64]
  exact Iff.rfl
theorem R_holds (p q i : Int32) (σ : St) : ∃ r s1 s2, f_X11_holds p q i σ = some (r, s1) ∧ f_X12_holds p q i s1 = some (r, s2) ∧ Fr [43, 44, 45, 46, 47, 68, 69, 70] σ s2 := by
  unfold f_X11_holds f_X12_holds f_X11_holds_21 f_X12_holds_20
  simp only [S_host, S_men9, S_place, S_in, bd_mk]
  by_cases h1 : 0 ≤ p.toInt ∧ p.toInt ≤ 9
  · by_cases h2 : 0 ≤ q.toInt ∧ q.toInt ≤ 9
    · by_cases h3 : 0 ≤ i.toInt ∧ i.toInt ≤ 2
      · have h3' := (e_in2 i).mpr h3
        have hi := nI_of2p h3
        obtain ⟨n, hn, rfl⟩ := nI_of9 h1
        obtain ⟨m, hm, rfl⟩ := nI_of9 h2
        obtain ⟨s1, e1, k1, f1⟩ := S_settle hn hm σ
        obtain ⟨s2, e2, g1, g2, f2⟩ := S_holdOf hn hm s1
        have hb := hd_bd (n := n) (m := m) (H := (-4, 0, 0)) (by decide)
        have k2 : gr s1 44 = W3 (gr s1 44) (hd n m (-4, 0, 0)).2.1 (hd n m (-4, 0, 0)).2.2 (nI n - (hd n m (-4, 0, 0)).2.1 - (hd n m (-4, 0, 0)).2.2) := by
          rcases k1.2 with z | z
          · rw [z] at hb
            exact absurd hb (by decide)
          · exact z.1
        refine ⟨gr s1 44 i.toNatClampNeg, s1, s2, ?_, ?_, (f1.mo (by simp)).tr (f2.mo (by simp))⟩
        · rw [b2_t h1, if_neg (by decide), b2_t h2, if_neg (by decide), b2_t h3, if_neg (by decide), e1, bd_mk]
          rcases hi with rfl | rfl | rfl <;> rfl
        · rw [b2_t ⟨h1, h2⟩, if_neg (by decide), b2_t h3', if_neg (by decide), e2, bd_mk]
          have E : gr s2 69 i.toNatClampNeg = gr s1 44 i.toNatClampNeg := by
            rw [g1, k2]
            rcases hi with rfl | rfl | rfl <;> rfl
          rw [E]
          rcases hi with rfl | rfl | rfl <;> rfl
      · refine ⟨-2, σ, σ, ?_, ?_, Fr.rf⟩
        · rw [b2_t h1, if_neg (by decide), b2_t h2, if_neg (by decide), b2_f h3, if_pos rfl]
        · rw [b2_t ⟨h1, h2⟩, if_neg (by decide), b2_f (fun z => h3 ((e_in2 i).mp z)), if_pos rfl]
    · refine ⟨-2, σ, σ, ?_, ?_, Fr.rf⟩
      · rw [b2_t h1, if_neg (by decide), b2_f h2, if_pos rfl]
      · rw [b2_f (fun g => h2 g.2), if_pos rfl]
  · refine ⟨-2, σ, σ, ?_, ?_, Fr.rf⟩
    · rw [b2_f h1, if_pos rfl]
    · rw [b2_f (fun g => h1 g.1), if_pos rfl]
theorem R_reply (p q i : Int32) (σ : St) : ∃ r s1 s2, f_X11_reply p q i σ = some (r, s1) ∧ f_X12_reply p q i s1 = some (r, s2) ∧ Fr [43, 44, 45, 46, 47, 68, 69, 70] σ s2 := by
  unfold f_X11_reply f_X12_reply f_X11_reply_21 f_X12_reply_20
  simp only [S_host, S_men9, S_place, S_in, bd_mk]
  by_cases h1 : 0 ≤ p.toInt ∧ p.toInt ≤ 9
  · by_cases h2 : 0 ≤ q.toInt ∧ q.toInt ≤ 9
    · by_cases h3 : 0 ≤ i.toInt ∧ i.toInt ≤ 2
      · have h3' := (e_in2 i).mpr h3
        have hi := nI_of2p h3
        obtain ⟨n, hn, rfl⟩ := nI_of9 h1
        obtain ⟨m, hm, rfl⟩ := nI_of9 h2
        obtain ⟨s1, e1, k1, f1⟩ := S_settle hn hm σ
        obtain ⟨s2, e2, g1, g2, f2⟩ := S_holdOf hn hm s1
        have hb := hd_bd (n := n) (m := m) (H := (-4, 0, 0)) (by decide)
        have k2 : gr s1 45 = W3 (gr s1 45) (mt m (hd n m (-4, 0, 0)).2.1 (hd n m (-4, 0, 0)).2.2 (nI n - (hd n m (-4, 0, 0)).2.1 - (hd n m (-4, 0, 0)).2.2) (4, 0, 0)).2.1 (mt m (hd n m (-4, 0, 0)).2.1 (hd n m (-4, 0, 0)).2.2 (nI n - (hd n m (-4, 0, 0)).2.1 - (hd n m (-4, 0, 0)).2.2) (4, 0, 0)).2.2 (nI m - (mt m (hd n m (-4, 0, 0)).2.1 (hd n m (-4, 0, 0)).2.2 (nI n - (hd n m (-4, 0, 0)).2.1 - (hd n m (-4, 0, 0)).2.2) (4, 0, 0)).2.1 - (mt m (hd n m (-4, 0, 0)).2.1 (hd n m (-4, 0, 0)).2.2 (nI n - (hd n m (-4, 0, 0)).2.1 - (hd n m (-4, 0, 0)).2.2) (4, 0, 0)).2.2) := by
          rcases k1.2 with z | z
          · rw [z] at hb
            exact absurd hb (by decide)
          · exact z.2
        refine ⟨gr s1 45 i.toNatClampNeg, s1, s2, ?_, ?_, (f1.mo (by simp)).tr (f2.mo (by simp))⟩
        · rw [b2_t h1, if_neg (by decide), b2_t h2, if_neg (by decide), b2_t h3, if_neg (by decide), e1, bd_mk]
          rcases hi with rfl | rfl | rfl <;> rfl
        · rw [b2_t ⟨h1, h2⟩, if_neg (by decide), b2_t h3', if_neg (by decide), e2, bd_mk]
          have E : gr s2 70 i.toNatClampNeg = gr s1 45 i.toNatClampNeg := by
            rw [g2, k2]
            rcases hi with rfl | rfl | rfl <;> rfl
          rw [E]
          rcases hi with rfl | rfl | rfl <;> rfl
      · refine ⟨-2, σ, σ, ?_, ?_, Fr.rf⟩
        · rw [b2_t h1, if_neg (by decide), b2_t h2, if_neg (by decide), b2_f h3, if_pos rfl]
        · rw [b2_t ⟨h1, h2⟩, if_neg (by decide), b2_f (fun z => h3 ((e_in2 i).mp z)), if_pos rfl]
    · refine ⟨-2, σ, σ, ?_, ?_, Fr.rf⟩
      · rw [b2_t h1, if_neg (by decide), b2_f h2, if_pos rfl]
      · rw [b2_f (fun g => h2 g.2), if_pos rfl]
  · refine ⟨-2, σ, σ, ?_, ?_, Fr.rf⟩
    · rw [b2_f h1, if_pos rfl]
    · rw [b2_f (fun g => h1 g.1), if_pos rfl]
