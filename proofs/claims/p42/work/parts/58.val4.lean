/-! ===== values: swings, treaties, prices of peace, Wednesdays, spies ===== -/
theorem sgn_cases (x : Int32) : sgnI x = 0 ∨ sgnI x = 1 ∨ sgnI x = -1 := by
  unfold sgnI
  by_cases c : x ≤ 0
  · rw [if_pos c]
    by_cases c1 : 0 ≤ x
    · rw [if_pos c1]; exact Or.inl rfl
    · rw [if_neg c1]; exact Or.inr (Or.inr rfl)
  · rw [if_neg c]; exact Or.inr (Or.inl rfl)
def swP (f : Nat → Int32) : Nat → Int32
  | 0 => 0
  | i + 1 => if sgnI (f (i + 1)) = 0 then swP f i else sgnI (f (i + 1))
def swC (f : Nat → Int32) : Nat → Int32
  | 0 => 0
  | i + 1 => if sgnI (f (i + 1)) = 0 then swC f i else if sgnI (f (i + 1)) = -(swP f i) then swC f i + 1 else swC f i
theorem swP_cases (f : Nat → Int32) : ∀ i, swP f i = 0 ∨ swP f i = 1 ∨ swP f i = -1 := by
  intro i
  induction i with
  | zero => exact Or.inl rfl
  | succ i ih =>
    show (if sgnI (f (i + 1)) = 0 then swP f i else sgnI (f (i + 1))) = 0 ∨ (if sgnI (f (i + 1)) = 0 then swP f i else sgnI (f (i + 1))) = 1 ∨ (if sgnI (f (i + 1)) = 0 then swP f i else sgnI (f (i + 1))) = -1
    by_cases c : sgnI (f (i + 1)) = 0
    · rw [if_pos c]; exact ih
    · rw [if_neg c]; exact sgn_cases _
theorem sw_iff {k p : Int32} (hk : k = 1 ∨ k = -1) (hp : p = 0 ∨ p = 1 ∨ p = -1) : k = -p ↔ (¬ p = 0 ∧ ¬ p = k) := by
  rcases hk with rfl | rfl <;> rcases hp with rfl | rfl | rfl <;> decide
theorem D_swings (a : Int32) (σ : St) (hI : IV σ) : ∃ r s1 s2, f_X11_swings a σ = some (r, s1) ∧ f_X12_swings a s1 = some (r, s2) ∧ IV s2 := by
  obtain ⟨M, T, S, E, A, U, Y, L, P, N, v⟩ := hI.vw
  have hM := v.2.2.hM
  unfold f_X11_swings f_X12_swings
  rw [S_hasSet v, bd_mk]
  by_cases c : 1 ≤ N ∧ 0 ≤ a.toInt ∧ a.toInt < S
  · obtain ⟨r0, s1, e1, f1, g1⟩ := V_follow v a
    have v1 := v.fr f1 (by decide)
    obtain ⟨r2, s2, e2, q2, f2, g2⟩ := M_last v1 a
    have v2 := v1.fr f2 (by decide)
    refine ⟨swC (frA (gr σ 59) E T a) M, s1, s2, ?_, ?_, hI.f2 f1 f2⟩
    · rw [b2_t c, if_neg n10, e1, bd_mk]
      have key : f_X2_countSwings s1 = some (swC (frA (gr σ 59) E T a) M, s1) := by
        unfold f_X2_countSwings
        refine itr_cnt (fun i => (swC (frA (gr σ 59) E T a) i, swP (frA (gr σ 59) E T a) i, nI (i + 1), s1)) M _ (fun i K hi => ?_) (fun K => ?_) M 0 FU (by omega) (by unfold FU; omega)
        · unfold g_X2_countSwings_6 f_X2_countSwings_42 f_X2_countSwings_45
          dsimp only
          rw [show gf s1 1 1 = nI M from v1.2.2.cM, if_neg (nI_nlt (by omega) (by omega)), S_behind (by omega), bd_mk, S_sgn, bd_mk, g1 _ (by omega), nI_1]
          show _ = K ((if sgnI (frA (gr σ 59) E T a (i + 1)) = 0 then swC (frA (gr σ 59) E T a) i else if sgnI (frA (gr σ 59) E T a (i + 1)) = -(swP (frA (gr σ 59) E T a) i) then swC (frA (gr σ 59) E T a) i + 1 else swC (frA (gr σ 59) E T a) i), (if sgnI (frA (gr σ 59) E T a (i + 1)) = 0 then swP (frA (gr σ 59) E T a) i else sgnI (frA (gr σ 59) E T a (i + 1))), nI (i + 1 + 1), s1)
          by_cases c0 : sgnI (frA (gr σ 59) E T a (i + 1)) = 0
          · rw [if_pos c0, if_pos c0, if_pos c0]
            rfl
          · rw [if_neg c0, if_neg c0, if_neg c0]
            by_cases c1 : sgnI (frA (gr σ 59) E T a (i + 1)) = -(swP (frA (gr σ 59) E T a) i)
            · rw [if_pos c1, if_pos c1]
              rfl
            · rw [if_neg c1, if_neg c1]
              rfl
        · unfold g_X2_countSwings_6
          dsimp only
          rw [show gf s1 1 1 = nI M from v1.2.2.cM, if_pos (nI_lt (by omega) (by omega))]
      rw [key, bd_mk]
    · rw [S_areTrains v1, bd_mk, b2_t c, if_neg n10, e2, bd_mk]
      refine itr_cnt (fun i => (swC (frA (gr σ 59) E T a) i, swP (frA (gr σ 59) E T a) i, nI (i + 1), s2)) M _ (fun i K hi => ?_) (fun K => ?_) M 0 FU (by omega) (by unfold FU; omega)
      · have h64 : ∀ k0, k0 = sgnI (frA (gr σ 59) E T a (i + 1)) → f_X12_swings_64 K (swC (frA (gr σ 59) E T a) i) (swP (frA (gr σ 59) E T a) i) (nI (i + 1)) k0 s2 = K ((if sgnI (frA (gr σ 59) E T a (i + 1)) = 0 then swC (frA (gr σ 59) E T a) i else if sgnI (frA (gr σ 59) E T a (i + 1)) = -(swP (frA (gr σ 59) E T a) i) then swC (frA (gr σ 59) E T a) i + 1 else swC (frA (gr σ 59) E T a) i), (if sgnI (frA (gr σ 59) E T a (i + 1)) = 0 then swP (frA (gr σ 59) E T a) i else sgnI (frA (gr σ 59) E T a (i + 1))), nI (i + 1 + 1), s2) := by
          intro k0 hk
          subst hk
          unfold f_X12_swings_64 f_X12_swings_89 f_X12_swings_90 f_X12_swings_95
          by_cases c0 : sgnI (frA (gr σ 59) E T a (i + 1)) = 0
          · rw [if_pos c0, if_pos c0, if_pos c0, nI_1]
            rfl
          · rw [if_neg c0, if_neg c0, if_neg c0, nI_1]
            have hiff := sw_iff ((sgn_cases (frA (gr σ 59) E T a (i + 1))).resolve_left c0) (swP_cases (frA (gr σ 59) E T a) i)
            by_cases c1 : swP (frA (gr σ 59) E T a) i = 0
            · rw [if_pos c1, if_neg (fun z => (hiff.mp z).1 c1), Int32.add_zero]
              rfl
            · rw [if_neg c1]
              by_cases c2 : swP (frA (gr σ 59) E T a) i = sgnI (frA (gr σ 59) E T a (i + 1))
              · rw [if_pos c2, if_neg (fun z => (hiff.mp z).2 c2), Int32.add_zero]
                rfl
              · rw [if_neg c2, if_pos (hiff.mpr ⟨c1, c2⟩)]
                rfl
        unfold g_X12_swings_24
        dsimp only
        rw [show inb (0 : Int32) (ln 59) = true from rfl, gd_tt, show gr s2 59 (0 : Int32).toNatClampNeg = nI M from v2.2.2.mM, if_neg (nI_nlt (by omega) (by omega)), inb_ln (n := 61) rfl (by omega) (by omega), gd_tt, gd_tt, nI_clamp (by omega), g2 _ (by omega)]
        by_cases c1 : frA (gr σ 59) E T a (i + 1) ≤ 0
        · rw [if_pos c1]
          by_cases c2 : 0 ≤ frA (gr σ 59) E T a (i + 1)
          · rw [if_pos c2]
            exact h64 _ (by unfold sgnI; rw [if_pos c1, if_pos c2])
          · rw [if_neg c2]
            exact h64 _ (by unfold sgnI; rw [if_pos c1, if_neg c2])
        · rw [if_neg c1]
          exact h64 _ (by unfold sgnI; rw [if_neg c1])
      · unfold g_X12_swings_24
        dsimp only
        rw [show inb (0 : Int32) (ln 59) = true from rfl, gd_tt, show gr s2 59 (0 : Int32).toNatClampNeg = nI M from v2.2.2.mM, if_pos (nI_lt (by omega) (by omega))]
  · refine ⟨-2, σ, σ, by rw [b2_f c, if_pos rfl], ?_, hI⟩
    rw [S_areTrains v, bd_mk, b2_f c, if_pos rfl]
/-! how far the front moves behind a minute -/
def absI (x : Int32) : Int32 := if 0 ≤ x then x else 0 - x
def farV (f : Nat → Int32) (t : Nat) : Nat → Int32
  | 0 => 0
  | i + 1 => if farV f t i < absI (f (t + 1 + i) - f t) then absI (f (t + 1 + i) - f t) else farV f t i
theorem farV_le (f : Nat → Int32) (t : Nat) (p : Int32) (hp : 0 ≤ p) : ∀ c, farV f t c ≤ p ↔ ∀ i, i < c → absI (f (t + 1 + i) - f t) ≤ p := by
  intro c
  induction c with
  | zero => exact ⟨fun _ i hi => absurd hi (by omega), fun _ => hp⟩
  | succ c ih =>
    have e : farV f t (c + 1) ≤ p ↔ (farV f t c ≤ p ∧ absI (f (t + 1 + c) - f t) ≤ p) := by
      show (if farV f t c < absI (f (t + 1 + c) - f t) then absI (f (t + 1 + c) - f t) else farV f t c) ≤ p ↔ _
      by_cases g : farV f t c < absI (f (t + 1 + c) - f t)
      · rw [if_pos g, le_toInt, le_toInt]
        rw [lt_toInt] at g
        constructor
        · intro h; omega
        · intro h; exact h.2
      · rw [if_neg g, le_toInt, le_toInt]
        rw [lt_toInt] at g
        constructor
        · intro h; omega
        · intro h; exact h.1
    rw [e, ih]
    constructor
    · rintro ⟨h1, h2⟩ i hi
      by_cases g : i = c
      · rw [g]; exact h2
      · exact h1 i (by omega)
    · intro h
      exact ⟨fun i hi => h i (by omega), h c (by omega)⟩
theorem farV_pos (f : Nat → Int32) (t : Nat) : ∀ c, 0 ≤ (farV f t c).toInt := by
  intro c
  induction c with
  | zero => show 0 ≤ (0 : Int32).toInt; decide
  | succ c ih =>
    show 0 ≤ (if farV f t c < absI (f (t + 1 + c) - f t) then absI (f (t + 1 + c) - f t) else farV f t c).toInt
    by_cases g : farV f t c < absI (f (t + 1 + c) - f t)
    · rw [if_pos g]
      rw [lt_toInt] at g
      omega
    · rw [if_neg g]; exact ih
theorem V_far {s1 : St} {f : Nat → Int32} {M t : Nat} (hM : M ≤ 60) (ht : t ≤ M) (hm : gf s1 1 1 = nI M) (g1 : ∀ j, j ≤ M → gr s1 32 j = f j) : f_X2_farthestFrom (nI t) s1 = some (farV f t (M - t), s1) := by
  unfold f_X2_farthestFrom
  rw [bnd_mk, nI_1]
  refine itr_cnt (fun i => (nI t, farV f t i, nI (t + 1 + i), s1)) (M - t) _ (fun i K hi => ?_) (fun K => ?_) (M - t) 0 FU (by omega) (by unfold FU; omega)
  · unfold g_X2_farthestFrom_6
    dsimp only
    rw [hm, if_neg (nI_nlt (by omega) (by omega)), S_behind (by omega), bd_mk, S_behind (by omega), bd_mk, g1 _ (by omega), g1 _ (by omega), nI_1]
    rfl
  · unfold g_X2_farthestFrom_6
    dsimp only
    rw [hm, if_pos (nI_lt (by omega) (by omega))]
def allV (Q : Nat → Prop) [DecidablePred Q] : Nat → Nat → Int32
  | 0, _ => 1
  | c + 1, i => if Q i then allV Q c (i + 1) else 0
theorem itr_all {α : Type} {body : (α → Option (Int32 × St)) → α → Option (Int32 × St)} (X : Nat → α) (m : Nat) (s : St) (Q : Nat → Prop) [DecidablePred Q] (hs : ∀ i (K : α → Option (Int32 × St)), i < m → body K (X i) = if Q i then K (X (i + 1)) else some (0, s)) (he : ∀ K : α → Option (Int32 × St), body K (X m) = some (1, s)) : ∀ (c i n : Nat), i + c = m → c < n → itr body n (X i) = some (allV Q c i, s) := by
  intro c
  induction c with
  | zero =>
    intro i n hi hn
    obtain ⟨R, rfl⟩ : ∃ R, n = R + 1 := ⟨n - 1, by omega⟩
    obtain rfl : i = m := by omega
    rw [itr_succ, he]
    rfl
  | succ c ih =>
    intro i n hi hn
    obtain ⟨R, rfl⟩ : ∃ R, n = R + 1 := ⟨n - 1, by omega⟩
    rw [itr_succ, hs i _ (by omega)]
    show _ = some ((if Q i then allV Q c (i + 1) else 0), s)
    by_cases e : Q i
    · rw [if_pos e, if_pos e]
      exact ih (i + 1) R (by omega) (by omega)
    · rw [if_neg e, if_neg e]
theorem allV_eq (Q : Nat → Prop) [DecidablePred Q] : ∀ c i, ((∀ j, j < c → Q (i + j)) → allV Q c i = 1) ∧ ((¬ ∀ j, j < c → Q (i + j)) → allV Q c i = 0) := by
  intro c
  induction c with
  | zero => exact fun i => ⟨fun _ => rfl, fun h => absurd (fun j hj => absurd hj (by omega)) h⟩
  | succ c ih =>
    intro i
    have e : allV Q (c + 1) i = if Q i then allV Q c (i + 1) else 0 := rfl
    rw [e]
    by_cases g : Q i
    · rw [if_pos g]
      refine ⟨fun h => (ih (i + 1)).1 (fun j hj => ?_), fun h => (ih (i + 1)).2 (fun h2 => h (fun j hj => ?_))⟩
      · have := h (j + 1) (by omega)
        rw [show i + 1 + j = i + (j + 1) by omega]
        exact this
      · rcases j with _ | j
        · exact g
        · have := h2 j (by omega)
          rw [show i + (j + 1) = i + 1 + j by omega]
          exact this
    · rw [if_neg g]
      exact ⟨fun h => absurd (h 0 (by omega)) g, fun _ => rfl⟩
theorem M_isTreaty {s2 : St} {f : Nat → Int32} {M t : Nat} {p : Int32} (hM : M ≤ 60) (ht : t ≤ M) (hm : gr s2 59 0 = nI M) (g2 : ∀ j, j ≤ M → gr s2 65 j = f j) (hp : 0 ≤ p) : f_X12_isTreaty (nI t) p s2 = some ((if farV f t (M - t) ≤ p then 1 else 0), s2) := by
  have h1 : f_X12_isTreaty (nI t) p s2 = some (allV (fun i => absI (f (t + 1 + i) - f t) ≤ p) (M - t) 0, s2) := by
    unfold f_X12_isTreaty
    rw [bnd_mk, nI_1]
    refine itr_all (fun i => (nI t, p, nI (t + 1 + i), s2)) (M - t) s2 (fun i => absI (f (t + 1 + i) - f t) ≤ p) (fun i K hi => ?_) (fun K => ?_) (M - t) 0 FU (by omega) (by unfold FU; omega)
    · unfold g_X12_isTreaty_4
      dsimp only
      rw [show inb (0 : Int32) (ln 59) = true from rfl, gd_tt, show gr s2 59 (0 : Int32).toNatClampNeg = nI M from hm, if_neg (nI_nlt (by omega) (by omega)), inb_ln (n := 61) rfl (by omega) (by omega), gd_tt, inb_ln (n := 61) rfl (by omega) (by omega), gd_tt, nI_clamp (by omega), nI_clamp (by omega), g2 _ (by omega), g2 _ (by omega), nI_1, bz_0, gd_tt]
      rfl
    · unfold g_X12_isTreaty_4
      dsimp only
      rw [show inb (0 : Int32) (ln 59) = true from rfl, gd_tt, show gr s2 59 (0 : Int32).toNatClampNeg = nI M from hm, if_pos (nI_lt (by omega) (by omega)), bz_1, gd_tt]
  rw [h1]
  have h2 := allV_eq (fun i => absI (f (t + 1 + i) - f t) ≤ p) (M - t) 0
  have h3 := farV_le f t p hp (M - t)
  simp only [Nat.zero_add] at h2
  by_cases c : farV f t (M - t) ≤ p
  · rw [if_pos c, h2.1 (h3.mp c)]
  · rw [if_neg c, h2.2 (fun z => c (h3.mpr z))]
def trA (f : Nat → Int32) (M : Nat) (p : Int32) : Nat → Int64
  | 0 => 0
  | i + 1 => trA f M p i ||| (if farV f (i + 1) (M - (i + 1)) ≤ p then (1 : Int64) <<< ((nI (i + 1) - 1).toInt64 &&& 63) else 0)
theorem D_treaties (a : Int32) (σ : St) (hI : IV σ) : ∃ r s1 s2, f_X11_treaties a σ = some (r, s1) ∧ f_X12_treaties a s1 = some (r, s2) ∧ IV s2 := by
  obtain ⟨M, T, S, E, A, U, Y, L, P, N, v⟩ := hI.vw
  have hM := v.2.2.hM
  have hP := v.2.2.hP
  have hp0 : (0 : Int32) ≤ nI P := nI_pos' (by omega)
  unfold f_X11_treaties f_X12_treaties
  rw [S_hasSet v, bd_mk]
  by_cases c : 1 ≤ N ∧ 0 ≤ a.toInt ∧ a.toInt < S
  · obtain ⟨r0, s1, e1, f1, g1⟩ := V_follow v a
    have v1 := v.fr f1 (by decide)
    obtain ⟨r2, s2, e2, q2, f2, g2⟩ := M_last v1 a
    have v2 := v1.fr f2 (by decide)
    refine ⟨trA (frA (gr σ 59) E T a) M (nI P) M, s1, s2, ?_, ?_, hI.f2 f1 f2⟩
    · rw [b2_t c, if_neg n10, e1, bd_mk]
      have key : f_X2_treatyEnds s1 = some (trA (frA (gr σ 59) E T a) M (nI P) M, s1) := by
        unfold f_X2_treatyEnds
        refine itr_cnt (fun i => (trA (frA (gr σ 59) E T a) M (nI P) i, nI (i + 1), s1)) M _ (fun i K hi => ?_) (fun K => ?_) M 0 FU (by omega) (by unfold FU; omega)
        · unfold g_X2_treatyEnds_4 f_X2_treatyEnds_38
          dsimp only
          rw [show gf s1 1 1 = nI M from v1.2.2.cM, if_neg (nI_nlt (by omega) (by omega)), V_far hM (by omega) v1.2.2.cM g1, bd_mk, show gf s1 1 3 = nI P from v1.2.2.cP, nI_1]
          show _ = K (trA (frA (gr σ 59) E T a) M (nI P) i ||| (if farV (frA (gr σ 59) E T a) (i + 1) (M - (i + 1)) ≤ nI P then (1 : Int64) <<< ((nI (i + 1) - 1).toInt64 &&& 63) else 0), nI (i + 1 + 1), s1)
          by_cases e : farV (frA (gr σ 59) E T a) (i + 1) (M - (i + 1)) ≤ nI P
          · rw [if_pos e, if_neg (by rw [le_toInt] at e; rw [lt_toInt]; omega)]
            rfl
          · rw [if_neg e, if_pos (by rw [le_toInt] at e; rw [lt_toInt]; omega), or0L]
            rfl
        · unfold g_X2_treatyEnds_4
          dsimp only
          rw [show gf s1 1 1 = nI M from v1.2.2.cM, if_pos (nI_lt (by omega) (by omega))]
      rw [key, bd_mk]
    · rw [S_areTrains v1, bd_mk, b2_t c, if_neg n10, e2, bd_mk]
      refine itr_cnt (fun i => (trA (frA (gr σ 59) E T a) M (nI P) i, nI (i + 1), s2)) M _ (fun i K hi => ?_) (fun K => ?_) M 0 FU (by omega) (by unfold FU; omega)
      · unfold g_X12_treaties_23 f_X12_treaties_60
        dsimp only
        rw [show inb (0 : Int32) (ln 59) = true from rfl, gd_tt, show gr s2 59 (0 : Int32).toNatClampNeg = nI M from v2.2.2.mM, if_neg (nI_nlt (by omega) (by omega)), show inb (2 : Int32) (ln 59) = true from rfl, gd_tt, show gr s2 59 (2 : Int32).toNatClampNeg = nI P from v2.2.2.mP, M_isTreaty hM (by omega) v2.2.2.mM g2 hp0, bd_mk, nI_1]
        show _ = K (trA (frA (gr σ 59) E T a) M (nI P) i ||| (if farV (frA (gr σ 59) E T a) (i + 1) (M - (i + 1)) ≤ nI P then (1 : Int64) <<< ((nI (i + 1) - 1).toInt64 &&& 63) else 0), nI (i + 1 + 1), s2)
        by_cases e : farV (frA (gr σ 59) E T a) (i + 1) (M - (i + 1)) ≤ nI P
        · rw [if_pos e, if_pos e, if_neg n10]
          rfl
        · rw [if_neg e, if_neg e, if_pos rfl]
          rfl
      · unfold g_X12_treaties_23
        dsimp only
        rw [show inb (0 : Int32) (ln 59) = true from rfl, gd_tt, show gr s2 59 (0 : Int32).toNatClampNeg = nI M from v2.2.2.mM, if_pos (nI_lt (by omega) (by omega))]
  · refine ⟨-2, σ, σ, by rw [b2_f c, if_pos rfl], ?_, hI⟩
    rw [S_areTrains v, bd_mk, b2_f c, if_pos rfl]
theorem D_price (a b : Int32) (σ : St) (hI : IV σ) : ∃ r s1 s2, f_X11_price a b σ = some (r, s1) ∧ f_X12_price a b s1 = some (r, s2) ∧ IV s2 := by
  obtain ⟨M, T, S, E, A, U, Y, L, P, N, v⟩ := hI.vw
  have hM := v.2.2.hM
  have z1 : (1 : Int32).toInt = 1 := rfl
  have ref : ∀ s : St, VW s (gr σ 59) M T S E A U Y L P N → f_X12_price a b s = (if 1 ≤ N ∧ 0 ≤ b.toInt ∧ b.toInt < S then (if 1 ≤ a.toInt ∧ a.toInt ≤ M then (bd (f_X12_lastFront b s) fun _ s' => itr g_X12_price_35 FU (a, 0, s')) else some (-2, s)) else some (-2, s)) := fun s v => by
    unfold f_X12_price f_X12_price_24
    rw [S_areTrains v, bd_mk]
    by_cases c : 1 ≤ N ∧ 0 ≤ b.toInt ∧ b.toInt < S
    · rw [b2_t c, if_neg n10, if_pos c, show inb (0 : Int32) (ln 59) = true from rfl, gd_tt, M_inB _ 1 (gr s 59 (0 : Int32).toNatClampNeg).toInt64 (a := 1) (b := M) rfl (by rw [show gr s 59 (0 : Int32).toNatClampNeg = nI M from v.2.2.mM, Int32.toInt_toInt64, nI_toInt (by omega)]), bd_mk]
      by_cases c1 : 1 ≤ a.toInt ∧ a.toInt ≤ M
      · rw [b2_t c1, if_neg n10, if_pos c1]
      · rw [b2_f c1, if_pos rfl, if_neg c1]
    · rw [b2_f c, if_pos rfl, if_neg c]
  unfold f_X11_price f_X11_price_27 f_X11_price_58
  rw [S_hasSet v, bd_mk, show gf σ 1 1 = nI M from v.2.2.cM]
  by_cases c : 1 ≤ N ∧ 0 ≤ b.toInt ∧ b.toInt < S
  · rw [b2_t c, if_neg n10]
    by_cases c1 : 1 ≤ a.toInt ∧ a.toInt ≤ M
    · obtain ⟨t, ht, rfl⟩ := nI_ofT (x := a) (n := 60) (by omega) (by omega)
      have ht' : t ≤ M := by
        have := c1.2
        rw [nI_toInt (by omega)] at this
        omega
      rw [if_neg (by rw [lt_toInt]; omega), if_pos (nI_le ht' (by omega))]
      obtain ⟨r0, s1, e1, f1, g1⟩ := V_follow v b
      have v1 := v.fr f1 (by decide)
      obtain ⟨r2, s2, e2, q2, f2, g2⟩ := M_last v1 b
      have v2 := v1.fr f2 (by decide)
      have hpos := farV_pos (frA (gr σ 59) E T b) t (M - t)
      have z60 : (60 : Int32).toInt = 60 := rfl
      refine ⟨if (60 : Int32) < farV (frA (gr σ 59) E T b) t (M - t) then -1 else farV (frA (gr σ 59) E T b) t (M - t), s1, s2, ?_, ?_, hI.f2 f1 f2⟩
      · rw [e1, bd_mk, V_far hM ht' v1.2.2.cM g1, bd_mk]
        by_cases e : (60 : Int32) < farV (frA (gr σ 59) E T b) t (M - t)
        · rw [if_pos e, if_pos e]
        · rw [if_neg e, if_neg e]
      · rw [ref s1 v1, if_pos c, if_pos c1, e2, bd_mk]
        have step : ∀ i (K : Int32 × Int32 × St → Option (Int32 × St)), i ≤ 60 → g_X12_price_35 K (nI t, nI i, s2) = if farV (frA (gr σ 59) E T b) t (M - t) ≤ nI i then some (nI i, s2) else K (nI t, nI (i + 1), s2) := fun i K hi => by
          unfold g_X12_price_35
          dsimp only
          rw [if_neg (show ¬ (60 : Int32) < nI i from nI_nlt (b := i) (a := 60) (by omega) (by omega)), M_isTreaty hM ht' v2.2.2.mM g2 (nI_pos' (by omega)), bd_mk, nI_1]
          by_cases e : farV (frA (gr σ 59) E T b) t (M - t) ≤ nI i
          · rw [if_pos e, if_neg n10, if_pos e]
          · rw [if_neg e, if_pos rfl, if_neg e]
            rfl
        by_cases e : (60 : Int32) < farV (frA (gr σ 59) E T b) t (M - t)
        · rw [if_pos e]
          rw [lt_toInt] at e
          refine itr_cnt (fun i => (nI t, nI i, s2)) 61 _ (fun i K hi => ?_) (fun K => ?_) 61 0 FU (by omega) (by unfold FU; omega)
          · rw [step i K (by omega), if_neg]
            rw [le_toInt, nI_toInt (by omega)]
            omega
          · unfold g_X12_price_35
            dsimp only
            rw [if_pos (show (60 : Int32) < nI 61 from by decide)]
        · rw [if_neg e]
          rw [lt_toInt] at e
          obtain ⟨k, hk, ek⟩ := nI_ofT (x := farV (frA (gr σ 59) E T b) t (M - t)) (n := 60) hpos (by omega)
          rw [ek]
          rw [ek] at step
          refine itr_cnt (fun i => (nI t, nI i, s2)) k _ (fun i K hi => ?_) (fun K => ?_) k 0 FU (by omega) (by unfold FU; omega)
          · rw [step i K (by omega), if_neg (nI_ge hi (by omega))]
          · rw [step k K hk, if_pos (le_rf k)]
    · refine ⟨-2, σ, σ, ?_, by rw [ref σ v, if_pos c, if_neg c1], hI⟩
      by_cases e : a < (1 : Int32)
      · rw [if_pos e]
      · rw [if_neg e, if_neg]
        rw [lt_toInt] at e
        rw [le_toInt, nI_toInt (by omega)]
        omega
  · exact ⟨-2, σ, σ, by rw [b2_f c, if_pos rfl], by rw [ref σ v, if_neg c], hI⟩
/-! Wednesdays -/
theorem S_isPercent (p : Int32) (σ : St) : f_X11_isPercent p σ = some (b2 (0 ≤ p.toInt ∧ p.toInt ≤ 100), σ) := by
  have z0 : (0 : Int32).toInt = 0 := rfl
  have z9 : (100 : Int32).toInt = 100 := rfl
  unfold f_X11_isPercent f_X11_isPercent_14 f_X11_isPercent_15
  rw [bz_0, bz_1, gd_tt, gd_tt]
  by_cases c : p < 0
  · rw [if_pos c, b2_f]
    rw [lt_toInt] at c
    omega
  · rw [if_neg c]
    rw [lt_toInt] at c
    by_cases c1 : (100 : Int32) < p
    · rw [if_pos c1, b2_f]
      rw [lt_toInt] at c1
      omega
    · rw [if_neg c1, b2_t]
      rw [lt_toInt] at c1
      omega
def wdA (r : Int32) : Nat → Int32
  | 0 => 1000000
  | i + 1 => (wdA r i * r) / 100
theorem D_insist (a : Int32) (σ : St) (hI : IV σ) : ∃ r s1 s2, f_X11_insist a σ = some (r, s1) ∧ f_X12_insist a s1 = some (r, s2) ∧ IV s2 := by
  obtain ⟨M, T, S, E, A, U, Y, L, P, N, v⟩ := hI.vw
  have hN := v.2.2.hN
  obtain ⟨q, q1, q2⟩ : ∃ q, gf σ 1 4 = q ∧ gr σ 59 3 = q := by
    obtain ⟨l, m, a', p, r, d, e, y1, y2, y3, y4, y5, y6, y7, y8, u1, u2, u3, u4, u5, u6, u7, u8, u9, u10, -⟩ := v.1.1
    exact ⟨nI r, u9, u10⟩
  unfold f_X11_insist f_X11_insist_31 f_X11_insist_33 f_X12_insist f_X12_insist_19
  rw [S_isTold hN v.2.2.cN, bd_mk]
  by_cases c : 1 ≤ N
  · rw [b2_t c, if_neg n10, S_isPercent, bd_mk]
    by_cases c1 : 0 ≤ a.toInt ∧ a.toInt ≤ 100
    · have key : ∃ r, itr g_X1_wednesdaysToInsist_5 FU (q, a, wdA q 0, nI (0 + 1), σ) = some (r, σ) ∧ itr g_X12_insist_28 FU (a, wdA q 0, nI (0 + 1), σ) = some (r, σ) := by
        refine itr_two (fun i => (q, a, wdA q i, nI (i + 1), σ)) (fun i => (a, wdA q i, nI (i + 1), σ)) 60 σ σ (fun i hi => ?_) ?_ 60 0 FU FU (by omega) (by unfold FU; omega) (by unfold FU; omega)
        · have hC : ∀ K : Int32 × Int32 × Int32 × Int32 × St → Option (Int32 × St), g_X1_wednesdaysToInsist_5 K (q, a, wdA q i, nI (i + 1), σ) = if ((10000 : Int32) * ((100 : Int32) - a)) < wdA q (i + 1) then K (q, a, wdA q (i + 1), nI (i + 1 + 1), σ) else some (nI (i + 1), σ) := fun K => by
            unfold g_X1_wednesdaysToInsist_5
            dsimp only
            rw [if_neg (show ¬ (60 : Int32) < nI (i + 1) from nI_nlt (b := i + 1) (a := 60) (by omega) (by omega)), bnd_mk, nI_1]
            rfl
          have hM : ∀ K : Int32 × Int32 × Int32 × St → Option (Int32 × St), g_X12_insist_28 K (a, wdA q i, nI (i + 1), σ) = if ((10000 : Int32) * ((100 : Int32) - a)) < wdA q (i + 1) then K (a, wdA q (i + 1), nI (i + 1 + 1), σ) else some (nI (i + 1), σ) := fun K => by
            unfold g_X12_insist_28
            dsimp only
            rw [if_neg (show ¬ (60 : Int32) < nI (i + 1) from nI_nlt (b := i + 1) (a := 60) (by omega) (by omega)), show inb (3 : Int32) (ln 59) = true from rfl, gd_tt, show gr σ 59 (3 : Int32).toNatClampNeg = q from q2, bnd_mk, nI_1]
            rfl
          by_cases e : ((10000 : Int32) * ((100 : Int32) - a)) < wdA q (i + 1)
          · exact Or.inr ⟨fun K => by rw [hC, if_pos e], fun K => by rw [hM, if_pos e]⟩
          · exact Or.inl ⟨nI (i + 1), fun K => by rw [hC, if_neg e], fun K => by rw [hM, if_neg e]⟩
        · refine ⟨-1, fun K => ?_, fun K => ?_⟩
          · unfold g_X1_wednesdaysToInsist_5
            dsimp only
            rw [if_pos (show (60 : Int32) < nI (60 + 1) from by decide)]
          · unfold g_X12_insist_28
            dsimp only
            rw [if_pos (show (60 : Int32) < nI (60 + 1) from by decide)]
      obtain ⟨r, h1, h2⟩ := key
      refine ⟨r, σ, σ, ?_, ?_, hI⟩
      · rw [b2_t c1, if_neg n10]
        unfold f_X1_wednesdaysToInsist
        rw [q1, show itr g_X1_wednesdaysToInsist_5 FU (q, a, (1000000 : Int32), (1 : Int32), σ) = some (r, σ) from h1, bd_mk]
      · rw [S_isWar hN v.2.2.mN, bd_mk, b2_t c, if_neg n10, M_inB _ 0 100 (a := 0) (b := 100) rfl rfl, bd_mk, b2_t c1, if_neg n10]
        exact h2
    · refine ⟨-2, σ, σ, by rw [b2_f c1, if_pos rfl], ?_, hI⟩
      rw [S_isWar hN v.2.2.mN, bd_mk, b2_t c, if_neg n10, M_inB _ 0 100 (a := 0) (b := 100) rfl rfl, bd_mk, b2_f c1, if_pos rfl]
  · refine ⟨-2, σ, σ, by rw [b2_f c, if_pos rfl], ?_, hI⟩
    rw [S_isWar hN v.2.2.mN, bd_mk, b2_f c, if_pos rfl]
/-! SPIES that fit -/
def fitA (F : Nat → Int32) (x : Int32) : Nat → Int32
  | 0 => 0
  | i + 1 => fitA F x i ||| (if (x &&& (F (115 + i) ^^^ (-1 : Int32))) = 0 then (1 : Int32) <<< (nI i &&& 31) else 0)
theorem V_fit {s : St} {F : Nat → Int32} {M T S E A U Y L P N : Nat} (v : VW s F M T S E A U Y L P N) (x : Int32) : f_X8_fitting x s = some (fitA F x Y, s) := by
  have hY := v.2.2.hY
  unfold f_X8_fitting
  refine itr_cnt (fun i => (x, fitA F x i, nI i, s)) Y _ (fun i K hi => ?_) (fun K => ?_) Y 0 FU (by omega) (by unfold FU; omega)
  · unfold g_X8_fitting_4 f_X8_fitting_36 f_X8_knownTo
    dsimp only
    rw [show gf s 11 3 = nI Y from v.2.2.cY, if_neg (lt_ge hi (by omega)), V_c11 v hi, bd_mk, bd_mk, nI_1]
    show _ = K (x, fitA F x i ||| (if (x &&& (F (115 + i) ^^^ (-1 : Int32))) = 0 then (1 : Int32) <<< (nI i &&& 31) else 0), nI (i + 1), s)
    by_cases c : (x &&& (F (115 + i) ^^^ (-1 : Int32))) = 0
    · rw [if_pos c, if_pos c]
      rfl
    · rw [if_neg c, if_neg c, or0]
      rfl
  · unfold g_X8_fitting_4
    dsimp only
    rw [show gf s 11 3 = nI Y from v.2.2.cY, if_pos (le_rf Y)]
theorem M_fit {s : St} {F : Nat → Int32} {M T S E A U Y L P N : Nat} (v : VW s F M T S E A U Y L P N) (x : Int32) : f_X12_spiesBy x s = some (fitA F x Y, s) := by
  have hY := v.2.2.hY
  unfold f_X12_spiesBy
  refine itr_cnt (fun i => (x, fitA F x i, nI i, s)) Y _ (fun i K hi => ?_) (fun K => ?_) Y 0 FU (by omega) (by unfold FU; omega)
  · unfold g_X12_spiesBy_4 f_X12_spiesBy_39
    dsimp only
    rw [show inb (8 : Int32) (ln 59) = true from rfl, gd_tt, show gr s 59 (8 : Int32).toNatClampNeg = nI Y from v.2.2.mY, if_neg (lt_ge hi (by omega)), zL115, nI_add, inb_ln (n := 240) rfl (show 115 + i < 240 by omega) (by omega), gd_tt, nI_clamp (by omega), v.2.1, nI_1]
    show _ = K (x, fitA F x i ||| (if (x &&& (F (115 + i) ^^^ (-1 : Int32))) = 0 then (1 : Int32) <<< (nI i &&& 31) else 0), nI (i + 1), s)
    by_cases c : (x &&& (F (115 + i) ^^^ (-1 : Int32))) = 0
    · rw [if_pos c, if_pos c]
      rfl
    · rw [if_neg c, if_neg c]
      rfl
  · unfold g_X12_spiesBy_4
    dsimp only
    rw [show inb (8 : Int32) (ln 59) = true from rfl, gd_tt, show gr s 59 (8 : Int32).toNatClampNeg = nI Y from v.2.2.mY, if_pos (le_rf Y)]
theorem D_spies (a : Int32) (σ : St) (hI : IV σ) : ∃ r s1 s2, f_X11_spies a σ = some (r, s1) ∧ f_X12_spies a s1 = some (r, s2) ∧ IV s2 := by
  obtain ⟨M, T, S, E, A, U, Y, L, P, N, v⟩ := hI.vw
  unfold f_X11_spies f_X11_spies_24 f_X12_spies f_X12_spies_18
  rw [S_hasSet v, bd_mk]
  by_cases c : 1 ≤ N ∧ 0 ≤ a.toInt ∧ a.toInt < S
  · refine ⟨_, σ, σ, by rw [b2_t c, if_neg n10, V_fit v, bd_mk], ?_, hI⟩
    rw [S_areTrains v, bd_mk, b2_t c, if_neg n10, M_fit v, bd_mk]
  · refine ⟨-2, σ, σ, by rw [b2_f c, if_pos rfl], ?_, hI⟩
    rw [S_areTrains v, bd_mk, b2_f c, if_pos rfl]
