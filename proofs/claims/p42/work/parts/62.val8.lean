/-! ===== values: the spy ===== -/
theorem lsb_shl {i j : Nat} (hi : i < 31) (hj : j < 31) : ((1 : Int32) <<< (nI i &&& 31)).toBitVec.getLsbD j = decide (j = i) := by
  rw [nI_sh1 i hi]
  show (BitVec.ofNat 32 (2 ^ i)).getLsbD j = _
  rw [BitVec.getLsbD_ofNat, Nat.testBit_two_pow]
  have : decide (j < 32) = true := decide_eq_true (by omega)
  rw [this, Bool.true_and]
  by_cases c : j = i
  · rw [decide_eq_true c, decide_eq_true c.symm]
  · rw [decide_eq_false c, decide_eq_false (fun z => c z.symm)]
theorem lsb_0 (j : Nat) : (0 : Int32).toBitVec.getLsbD j = false := BitVec.getLsbD_zero
/-- who of the first i fits -/
theorem fit_lsb (F : Nat → Int32) (x : Int32) {j : Nat} (hj : j < 31) : ∀ i, i ≤ 31 → (fitA F x i).toBitVec.getLsbD j = decide (j < i ∧ (x &&& (F (115 + j) ^^^ (-1 : Int32))) = 0) := by
  intro i
  induction i with
  | zero =>
    intro _
    rw [decide_eq_false (by omega)]
    exact lsb_0 j
  | succ i ih =>
    intro hi
    have e : fitA F x (i + 1) = fitA F x i ||| (if (x &&& (F (115 + i) ^^^ (-1 : Int32))) = 0 then (1 : Int32) <<< (nI i &&& 31) else 0) := rfl
    rw [e, Int32.toBitVec_or, BitVec.getLsbD_or, ih (by omega)]
    by_cases c : (x &&& (F (115 + i) ^^^ (-1 : Int32))) = 0
    · rw [if_pos c, lsb_shl (by omega) hj]
      by_cases g : j = i
      · subst g
        rw [decide_eq_true (rfl : j = j), Bool.or_true, decide_eq_true ⟨by omega, c⟩]
      · rw [decide_eq_false g, Bool.or_false]
        apply decide_eq_decide.mpr
        constructor
        · exact fun z => ⟨by omega, z.2⟩
        · exact fun z => ⟨by omega, z.2⟩
    · rw [if_neg c, lsb_0, Bool.or_false]
      apply decide_eq_decide.mpr
      constructor
      · exact fun z => ⟨by omega, z.2⟩
      · intro z
        refine ⟨?_, z.2⟩
        by_cases g : j = i
        · subst g; exact absurd z.2 c
        · omega
def okS (F : Nat → Int32) (x : Int32) (i : Nat) : Prop := (x &&& (F (115 + i) ^^^ (-1 : Int32))) = 0
theorem bit_fit (F : Nat → Int32) (x : Int32) (Y : Nat) (hY : Y ≤ 31) {i : Nat} (hi : i < 31) : bitOf (fitA F x Y) i = if i < Y ∧ (x &&& (F (115 + i) ^^^ (-1 : Int32))) = 0 then 1 else 0 := by
  rw [bit_lsb _ hi, fit_lsb F x hi Y hY]
  by_cases c : i < Y ∧ (x &&& (F (115 + i) ^^^ (-1 : Int32))) = 0
  · rw [if_pos c, decide_eq_true c]
    rfl
  · rw [if_neg c, decide_eq_false c]
    rfl
/-- how many of the first i spies of x know TRAIN t -/
def knoA (F : Nat → Int32) (x : Int32) (t : Nat) : Nat → Int32
  | 0 => 0
  | i + 1 => knoA F x t i + bitOf x i * bitOf (F (115 + i)) t
theorem M_knowing {s : St} {F : Nat → Int32} {M T S E A U Y L P N : Nat} (v : VW s F M T S E A U Y L P N) (x : Int32) (t : Nat) : f_X12_knowing x (nI t) s = some (knoA F x t Y, s) := by
  have hY := v.2.2.hY
  unfold f_X12_knowing
  refine itr_cnt (fun i => (x, nI t, knoA F x t i, nI i, s)) Y _ (fun i K hi => ?_) (fun K => ?_) Y 0 FU (by omega) (by unfold FU; omega)
  · unfold g_X12_knowing_5
    dsimp only
    rw [show inb (8 : Int32) (ln 59) = true from rfl, gd_tt, show gr s 59 (8 : Int32).toNatClampNeg = nI Y from v.2.2.mY, if_neg (lt_ge hi (by omega)), S_bit, bd_mk, zL115, nI_add, inb_ln (n := 240) rfl (show 115 + i < 240 by omega) (by omega), gd_tt, nI_clamp (by omega), v.2.1, S_bit, bd_mk, nI_1]
    rfl
  · unfold g_X12_knowing_5
    dsimp only
    rw [show inb (8 : Int32) (ln 59) = true from rfl, gd_tt, show gr s 59 (8 : Int32).toNatClampNeg = nI Y from v.2.2.mY, if_pos (le_rf Y)]
/-- counting as Nat -/
def cntN (Q : Nat → Bool) : Nat → Nat
  | 0 => 0
  | i + 1 => cntN Q i + (if Q i then 1 else 0)
theorem cntN_le (Q : Nat → Bool) : ∀ i, cntN Q i ≤ i := by
  intro i
  induction i with
  | zero => exact Nat.le_refl _
  | succ i ih =>
    show cntN Q i + (if Q i then 1 else 0) ≤ i + 1
    split <;> omega
theorem cntN_cut (Q : Nat → Bool) (y : Nat) (h : ∀ i, y ≤ i → Q i = false) : ∀ c, cntN Q (y + c) = cntN Q y := by
  intro c
  induction c with
  | zero => rfl
  | succ c ih =>
    show cntN Q (y + c) + (if Q (y + c) then 1 else 0) = cntN Q y
    rw [h (y + c) (by omega), ih]
    rfl
theorem bits_cnt (x : Int32) (Q : Nat → Bool) : ∀ n, (∀ i, i < n → bitOf x i = if Q i then 1 else 0) → bitsA x n = nI (cntN Q n) := by
  intro n
  induction n with
  | zero => exact fun _ => rfl
  | succ n ih =>
    intro h
    show bitsA x n + bitOf x n = nI (cntN Q n + (if Q n then 1 else 0))
    rw [ih (fun i hi => h i (by omega)), h n (by omega)]
    cases Q n
    · show nI (cntN Q n) + 0 = nI (cntN Q n + 0)
      rw [Int32.add_zero, Nat.add_zero]
    · show nI (cntN Q n) + 1 = nI (cntN Q n + 1)
      rw [nI_1]
theorem kno_cnt (F : Nat → Int32) (x : Int32) (t : Nat) (Q : Nat → Bool) : ∀ n, (∀ i, i < n → bitOf x i * bitOf (F (115 + i)) t = if Q i then 1 else 0) → knoA F x t n = nI (cntN Q n) := by
  intro n
  induction n with
  | zero => exact fun _ => rfl
  | succ n ih =>
    intro h
    show knoA F x t n + bitOf x n * bitOf (F (115 + n)) t = nI (cntN Q n + (if Q n then 1 else 0))
    rw [ih (fun i hi => h i (by omega)), h n (by omega)]
    cases Q n
    · show nI (cntN Q n) + 0 = nI (cntN Q n + 0)
      rw [Int32.add_zero, Nat.add_zero]
    · show nI (cntN Q n) + 1 = nI (cntN Q n + 1)
      rw [nI_1]
/-- the fits of a set, as a test -/
def fitQ (F : Nat → Int32) (Y : Nat) (x : Int32) : Nat → Bool := fun i => decide (i < Y ∧ (x &&& (F (115 + i) ^^^ (-1 : Int32))) = 0)
theorem fit_bits (F : Nat → Int32) (Y : Nat) (x : Int32) (hY : Y ≤ 5) : bitsA (fitA F x Y) 12 = nI (cntN (fitQ F Y x) Y) := by
  rw [bits_cnt _ (fitQ F Y x) 12 (fun i hi => by
    rw [bit_fit F x Y (by omega) (by omega)]
    unfold fitQ
    by_cases c : i < Y ∧ (x &&& (F (115 + i) ^^^ (-1 : Int32))) = 0
    · rw [if_pos c, decide_eq_true c]; rfl
    · rw [if_neg c, decide_eq_false c]; rfl)]
  have := cntN_cut (fitQ F Y x) Y (fun i hi => by unfold fitQ; exact decide_eq_false (by omega)) (12 - Y)
  rw [show Y + (12 - Y) = 12 by omega] at this
  rw [this]
theorem fit_bc (F : Nat → Int32) (Y : Nat) (x : Int32) (hY : Y ≤ 5) : bcV (fitA F x Y) = nI (cntN (fitQ F Y x) Y) := by
  have hb : ∃ k, k < 512 ∧ fitA F x Y = nI k := by
    have key : ∀ i, i ≤ 5 → ∃ k, k < 512 ∧ fitA F x i = nI k := by
      intro i
      induction i with
      | zero => exact fun _ => ⟨0, by omega, rfl⟩
      | succ i ih =>
        intro hi
        obtain ⟨k, hk, e⟩ := ih (by omega)
        show ∃ k, k < 512 ∧ fitA F x i ||| (if (x &&& (F (115 + i) ^^^ (-1 : Int32))) = 0 then (1 : Int32) <<< (nI i &&& 31) else 0) = nI k
        rw [e]
        by_cases c : (x &&& (F (115 + i) ^^^ (-1 : Int32))) = 0
        · rw [if_pos c, nI_sh1 i (by omega), nI_or]
          exact ⟨_, or_512 hk (two_512 (by omega)), rfl⟩
        · rw [if_neg c, or0]
          exact ⟨k, hk, rfl⟩
    exact key Y (by omega)
  obtain ⟨k, hk, e⟩ := hb
  rw [e, bc_bits k hk, ← e, fit_bits F Y x hY]
/-- x with TRAIN t more -/
theorem okS_more (F : Nat → Int32) (x : Int32) {t : Nat} (ht : t < 9) (i : Nat) : ((x ||| ((1 : Int32) <<< (nI t &&& 31))) &&& (F (115 + i) ^^^ (-1 : Int32))) = 0 ↔ ((x &&& (F (115 + i) ^^^ (-1 : Int32))) = 0 ∧ bitOf (F (115 + i)) t = 1) := by
  have dist : ((x ||| ((1 : Int32) <<< (nI t &&& 31))) &&& (F (115 + i) ^^^ (-1 : Int32))) = (x &&& (F (115 + i) ^^^ (-1 : Int32))) ||| (((1 : Int32) <<< (nI t &&& 31)) &&& (F (115 + i) ^^^ (-1 : Int32))) := by
    apply Int32.toBitVec.inj
    rw [Int32.toBitVec_and, Int32.toBitVec_or, Int32.toBitVec_or, Int32.toBitVec_and, Int32.toBitVec_and]
    apply BitVec.eq_of_getLsbD_eq
    intro j hj
    simp only [BitVec.getLsbD_and, BitVec.getLsbD_or]
    cases x.toBitVec.getLsbD j <;> cases ((1 : Int32) <<< (nI t &&& 31)).toBitVec.getLsbD j <;> simp
  have or_0 : ∀ a b : Int32, a ||| b = 0 ↔ (a = 0 ∧ b = 0) := fun a b => by
    constructor
    · intro h
      have hb : ∀ j, a.toBitVec.getLsbD j = false ∧ b.toBitVec.getLsbD j = false := fun j => by
        have h2 := congrArg (fun z : Int32 => z.toBitVec.getLsbD j) h
        rw [Int32.toBitVec_or, BitVec.getLsbD_or, lsb_0] at h2
        cases ha : a.toBitVec.getLsbD j <;> cases hb : b.toBitVec.getLsbD j <;> rw [ha, hb] at h2 <;> simp at h2 ⊢
      constructor
      · apply Int32.toBitVec.inj
        apply BitVec.eq_of_getLsbD_eq
        intro j _
        rw [(hb j).1, lsb_0]
      · apply Int32.toBitVec.inj
        apply BitVec.eq_of_getLsbD_eq
        intro j _
        rw [(hb j).2, lsb_0]
    · rintro ⟨rfl, rfl⟩
      decide
  have one : (((1 : Int32) <<< (nI t &&& 31)) &&& (F (115 + i) ^^^ (-1 : Int32))) = 0 ↔ bitOf (F (115 + i)) t = 1 := by
    rw [bit_lsb _ (show t < 31 by omega)]
    have hm1 : ∀ j, j < 32 → (Int32.toBitVec (-1)).getLsbD j = true := fun j hj => by
      show (BitVec.allOnes 32).getLsbD j = true
      rw [BitVec.getLsbD_allOnes]
      simp
      omega
    constructor
    · intro h
      have h2 := congrArg (fun z : Int32 => z.toBitVec.getLsbD t) h
      rw [Int32.toBitVec_and, Int32.toBitVec_xor, BitVec.getLsbD_and, BitVec.getLsbD_xor, lsb_shl (by omega) (by omega), hm1 t (by omega), lsb_0, decide_eq_true (rfl : t = t), Bool.true_and] at h2
      cases hx : (F (115 + i)).toBitVec.getLsbD t
      · rw [hx] at h2; simp at h2
      · rfl
    · intro h
      have hx : (F (115 + i)).toBitVec.getLsbD t = true := by
        cases hx : (F (115 + i)).toBitVec.getLsbD t
        · rw [hx] at h; exact absurd h (by decide)
        · rfl
      apply Int32.toBitVec.inj
      rw [Int32.toBitVec_and, Int32.toBitVec_xor]
      apply BitVec.eq_of_getLsbD_eq
      intro j hj
      rw [BitVec.getLsbD_and, BitVec.getLsbD_xor, hm1 j hj, lsb_0]
      by_cases c : j = t
      · rw [c, hx]; simp
      · have : ((1 : Int32) <<< (nI t &&& 31)).toBitVec.getLsbD j = false := by
          rw [nI_sh1 t (by omega)]
          show (BitVec.ofNat 32 (2 ^ t)).getLsbD j = false
          rw [BitVec.getLsbD_ofNat, Nat.testBit_two_pow, decide_eq_false (p := t = j) (fun z => c z.symm), Bool.and_false]
        rw [this, Bool.false_and]
  rw [dist, or_0, one]
/-- as many stay, one way, as know it -/
theorem fit_kno (F : Nat → Int32) (Y : Nat) (x : Int32) {t : Nat} (hY : Y ≤ 5) (ht : t < 9) : bcV (fitA F (x ||| ((1 : Int32) <<< (nI t &&& 31))) Y) = knoA F (fitA F x Y) t Y := by
  rw [fit_bc F Y _ hY]
  symm
  refine kno_cnt F (fitA F x Y) t (fitQ F Y (x ||| ((1 : Int32) <<< (nI t &&& 31)))) Y (fun i hi => ?_)
  rw [bit_fit F x Y (by omega) (by omega)]
  unfold fitQ
  have hm := okS_more F x ht i
  by_cases c : (x &&& (F (115 + i) ^^^ (-1 : Int32))) = 0
  · rw [if_pos ⟨hi, c⟩, Int32.one_mul]
    rcases bit01 (F (115 + i)) t with e | e
    · rw [e, decide_eq_false (fun z => by rw [(hm.mp z.2).2] at e; exact absurd e (by decide))]
      rfl
    · rw [e, decide_eq_true ⟨hi, hm.mpr ⟨c, e⟩⟩]
      rfl
  · rw [if_neg (fun z => c z.2), Int32.zero_mul, decide_eq_false (fun z => c (hm.mp z.2).1)]
    rfl
/-- how many are left at worst when TRAIN t is watched -/
def lefA (F : Nat → Int32) (Y : Nat) (x : Int32) (t : Nat) : Int32 := if knoA F (fitA F x Y) t Y < (bcV (fitA F x Y) - knoA F (fitA F x Y) t Y) then (bcV (fitA F x Y) - knoA F (fitA F x Y) t Y) else knoA F (fitA F x Y) t Y
theorem V_left {s : St} {F : Nat → Int32} {M T S E A U Y L P N : Nat} (v : VW s F M T S E A U Y L P N) (x : Int32) {t : Nat} (ht : t < 9) : f_X8_leftAtWorst x (nI t) s = some (lefA F Y x t, s) := by
  have hY := v.2.2.hY
  unfold f_X8_leftAtWorst lefA
  rw [V_fit v, bd_mk, S_bc, bd_mk, if_neg (nI_m1' (by omega)), V_fit v, bd_mk, S_bc, bd_mk, fit_kno F Y x hY ht]
/-- what to watch, of the first i: the TRAIN (or -1), how many are left -/
def watA (F : Nat → Int32) (Y : Nat) (x : Int32) : Nat → Int32 × Int32
  | 0 => (-1, bcV (fitA F x Y))
  | i + 1 => if bitOf x i = 0 then (if (watA F Y x i).2 ≤ lefA F Y x i then watA F Y x i else (nI i, lefA F Y x i)) else watA F Y x i
theorem V_watch {s : St} {F : Nat → Int32} {M T S E A U Y L P N : Nat} (v : VW s F M T S E A U Y L P N) (x : Int32) : f_X8_trainToWatch x s = some ((watA F Y x T).1, s) := by
  have hT := v.2.2.hT
  unfold f_X8_trainToWatch
  rw [V_fit v, bd_mk, S_bc, bd_mk]
  refine itr_cnt (fun i => (x, (watA F Y x i).1, (watA F Y x i).2, nI i, s)) T _ (fun i K hi => ?_) (fun K => ?_) T 0 FU (by omega) (by unfold FU; omega)
  · unfold g_X8_trainToWatch_14 f_X8_trainToWatch_59
    dsimp only
    rw [show gf s 3 3 = nI T from v.2.2.cT, if_neg (lt_ge hi (by omega)), V_left v x (by omega), bd_mk, S_isIn, bd_mk, nI_1]
    show _ = K (x, (if bitOf x i = 0 then (if (watA F Y x i).2 ≤ lefA F Y x i then watA F Y x i else (nI i, lefA F Y x i)) else watA F Y x i).1, (if bitOf x i = 0 then (if (watA F Y x i).2 ≤ lefA F Y x i then watA F Y x i else (nI i, lefA F Y x i)) else watA F Y x i).2, nI (i + 1), s)
    by_cases c : bitOf x i = 0
    · rw [if_pos c, if_pos c]
      by_cases c1 : (watA F Y x i).2 ≤ lefA F Y x i
      · rw [if_pos c1, if_pos c1]
        rfl
      · rw [if_neg c1, if_neg c1]
        rfl
    · rw [if_neg c, if_neg c]
      rfl
  · unfold g_X8_trainToWatch_14
    dsimp only
    rw [show gf s 3 3 = nI T from v.2.2.cT, if_pos (le_rf T)]
theorem watA_inv (F : Nat → Int32) (Y : Nat) (x : Int32) : ∀ i, watA F Y x i = (-1, bcV (fitA F x Y)) ∨ ∃ t, t < i ∧ watA F Y x i = (nI t, lefA F Y x t) := by
  intro i
  induction i with
  | zero => exact Or.inl rfl
  | succ i ih =>
    have old : watA F Y x i = (-1, bcV (fitA F x Y)) ∨ ∃ t, t < i + 1 ∧ watA F Y x i = (nI t, lefA F Y x t) := by
      rcases ih with h | ⟨b, hb, h⟩
      · exact Or.inl h
      · exact Or.inr ⟨b, by omega, h⟩
    have e : watA F Y x (i + 1) = if bitOf x i = 0 then (if (watA F Y x i).2 ≤ lefA F Y x i then watA F Y x i else (nI i, lefA F Y x i)) else watA F Y x i := rfl
    rw [e]
    by_cases c : bitOf x i = 0
    · rw [if_pos c]
      by_cases c1 : (watA F Y x i).2 ≤ lefA F Y x i
      · rw [if_pos c1]; exact old
      · rw [if_neg c1]; exact Or.inr ⟨i, by omega, rfl⟩
    · rw [if_neg c]; exact old
theorem M_watch {s : St} {F : Nat → Int32} {M T S E A U Y L P N : Nat} (v : VW s F M T S E A U Y L P N) (x : Int32) : Ok (fun r s' => r = (watA F Y x T).1 ∧ gf s' 58 26 = (watA F Y x T).2 ∧ Fr [58] s s' ∧ ∀ c, c < 14 → gf s' 58 c = gf s 58 c) (f_X12_watchOf x s) := by
  have hT := v.2.2.hT
  have hY := v.2.2.hY
  have hfb : bitsA (fitA F x Y) 12 = bcV (fitA F x Y) := by rw [fit_bits F Y x hY, fit_bc F Y x hY]
  unfold f_X12_watchOf
  rw [M_fit v, bd_mk, S_bits, bd_mk, bnd_mk, hfb]
  refine okC (fun (i : Nat) (y : Int32 × Int32 × Int32 × Int32 × St) => y.1 = x ∧ y.2.1 = fitA F x Y ∧ y.2.2.1 = (watA F Y x i).1 ∧ y.2.2.2.1 = nI i ∧ gf y.2.2.2.2 58 26 = (watA F Y x i).2 ∧ Fr [58] s y.2.2.2.2 ∧ ∀ c, c < 14 → gf y.2.2.2.2 58 c = gf s 58 c) T ?_ (i := 0) (by unfold FU; omega) (by omega) ⟨rfl, rfl, rfl, rfl, by
    show gf (sf s 58 26 (bcV (fitA F x Y))) 58 26 = bcV (fitA F x Y)
    rw [gf_sf_s, if_pos rfl], Fr.c1 (by simp), fun c hc => by
    show gf (sf s 58 26 (bcV (fitA F x Y))) 58 c = _
    rw [gf_sf_s, if_neg (by omega)]⟩
  rintro i ⟨y1, y2, y3, y4, s1⟩ K hi ⟨e1, e2, e3, e4, e5, hf, h14⟩ hK
  dsimp only at e1 e2 e3 e4 e5 hf h14
  subst e1 e2 e3 e4
  have v1 := v.fr hf (by decide)
  unfold g_X12_watchOf_19 f_X12_watchOf_85
  dsimp only
  refine okD rfl ?_
  rw [show gr s1 59 (4 : Int32).toNatClampNeg = nI T from v1.2.2.mT]
  refine okI (fun c => okR ?_) (fun c => ?_)
  · have : i = T := by
      rw [le_toInt, nI_toInt (by omega), nI_toInt (by omega)] at c
      omega
    rw [this] at e5 ⊢
    exact ⟨rfl, e5, hf, h14⟩
  · replace c : i < T := cnt_le rfl (by omega) c hi
    rw [M_knowing v1, bd_mk, S_bits, bd_mk, M_knowing v1, bd_mk, bnd_mk, S_bit, bd_mk, hfb, nI_1]
    have nx : watA F Y y1 (i + 1) = if bitOf y1 i = 0 then (if (watA F Y y1 i).2 ≤ lefA F Y y1 i then watA F Y y1 i else (nI i, lefA F Y y1 i)) else watA F Y y1 i := rfl
    refine okI (fun c1 => hK _ c ⟨rfl, rfl, ?_, rfl, ?_, hf, h14⟩) (fun c1 => ?_)
    · rw [nx, if_neg (by rw [c1]; decide)]
    · rw [nx, if_neg (by rw [c1]; decide)]; exact e5
    · have b0 := (bit01 y1 i).resolve_right c1
      have nx0 := nx
      rw [if_pos b0] at nx0
      rw [e5]
      refine okI (fun c2 => ?_) (fun c2 => ?_)
      · have c3 : lefA F Y y1 i < (watA F Y y1 i).2 := c2
        have hle : ¬ (watA F Y y1 i).2 ≤ lefA F Y y1 i := by
          rw [lt_toInt] at c3
          rw [le_toInt]
          omega
        rw [if_neg hle] at nx0
        rw [bnd_mk]
        refine hK _ c ⟨rfl, rfl, ?_, rfl, ?_, hf.tr (Fr.c1 (by simp)), fun c' hc' => ?_⟩
        · rw [nx0]
        · rw [nx0]
          show gf (sf s1 58 26 (lefA F Y y1 i)) 58 26 = _
          rw [gf_sf_s, if_pos rfl]
        · show gf (sf s1 58 26 (lefA F Y y1 i)) 58 c' = _
          rw [gf_sf_s, if_neg (by omega)]
          exact h14 c' hc'
      · have c3 : ¬ lefA F Y y1 i < (watA F Y y1 i).2 := c2
        have hle : (watA F Y y1 i).2 ≤ lefA F Y y1 i := by
          rw [lt_toInt] at c3
          rw [le_toInt]
          omega
        rw [if_pos hle] at nx0
        refine hK _ c ⟨rfl, rfl, ?_, rfl, ?_, hf, h14⟩
        · rw [nx0]
        · rw [nx0]; exact e5
theorem D_watch (a : Int32) (σ : St) (hI : IV σ) : ∃ r s1 s2, f_X11_watch a σ = some (r, s1) ∧ f_X12_watch a s1 = some (r, s2) ∧ IV s2 := by
  obtain ⟨M, T, S, E, A, U, Y, L, P, N, v⟩ := hI.vw
  unfold f_X11_watch f_X11_watch_24 f_X12_watch f_X12_watch_18
  rw [S_hasSet v, bd_mk]
  by_cases c : 1 ≤ N ∧ 0 ≤ a.toInt ∧ a.toInt < S
  · obtain ⟨r, s2, e2, q, -, f2, h14⟩ := M_watch v a
    refine ⟨_, σ, s2, by rw [b2_t c, if_neg n10, V_watch v, bd_mk], ?_, hI.fr0 f2 (by decide) h14⟩
    rw [S_areTrains v, bd_mk, b2_t c, if_neg n10, e2, bd_mk, q]
  · refine ⟨-2, σ, σ, by rw [b2_f c, if_pos rfl], ?_, hI⟩
    rw [S_areTrains v, bd_mk, b2_f c, if_pos rfl]
theorem D_leaves (a : Int32) (σ : St) (hI : IV σ) : ∃ r s1 s2, f_X11_leaves a σ = some (r, s1) ∧ f_X12_leaves a s1 = some (r, s2) ∧ IV s2 := by
  obtain ⟨M, T, S, E, A, U, Y, L, P, N, v⟩ := hI.vw
  have hT := v.2.2.hT
  unfold f_X11_leaves f_X11_leaves_32 f_X12_leaves
  rw [S_hasSet v, bd_mk]
  by_cases c : 1 ≤ N ∧ 0 ≤ a.toInt ∧ a.toInt < S
  · obtain ⟨r, s2, e2, q, g, f2, h14⟩ := M_watch v a
    refine ⟨(watA (gr σ 59) Y a T).2, σ, s2, ?_, ?_, hI.fr0 f2 (by decide) h14⟩
    · rw [b2_t c, if_neg n10, V_watch v, bd_mk]
      rcases watA_inv (gr σ 59) Y a T with h | ⟨t, ht, h⟩
      · rw [h]
        unfold f_X8_leftAtWorst
        rw [V_fit v, bd_mk, S_bc, bd_mk, if_pos rfl, bd_mk]
      · rw [h]
        dsimp only
        rw [V_left v a (by omega), bd_mk]
    · rw [S_areTrains v, bd_mk, b2_t c, if_neg n10, e2, bd_mk, g]
  · refine ⟨-2, σ, σ, by rw [b2_f c, if_pos rfl], ?_, hI⟩
    rw [S_areTrains v, bd_mk, b2_f c, if_pos rfl]
