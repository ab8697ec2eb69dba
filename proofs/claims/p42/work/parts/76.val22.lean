/-! ===== values: the cannon shared ===== -/
def atN (F : Nat → Int32) (a : Nat) : Nat := (F (75 + 4 * a + 1)).toInt.toNat
def enF (F : Nat → Int32) (a : Nat) : Nat := atN F a + (F (75 + 4 * a + 2)).toInt.toNat
theorem VW.ask {s : St} {F : Nat → Int32} {M T S E A U Y L P N : Nat} (v : VW s F M T S E A U Y L P N) {a : Nat} (ha : a < A) : F (75 + 4 * a + 1) = nI (atN F a) ∧ atN F a ≤ 59 ∧ nI (atN F a) + F (75 + 4 * a + 2) = nI (enF F a) ∧ atN F a < enF F a ∧ enF F a ≤ 79 := by
  have hA := v.2.2.hA
  obtain ⟨k, a1, a2, a3, a4⟩ := v.1.2.2.2.1
  obtain rfl : A = k := (nI_eq (by omega) (by omega)).mp (v.2.2.cA.symm.trans a2)
  have h1 : (0 : Int) ≤ (F (75 + 4 * a + 1)).toInt ∧ (F (75 + 4 * a + 1)).toInt ≤ 59 := (a4 a ha 1 (by omega)).2
  have h2 : (1 : Int) ≤ (F (75 + 4 * a + 2)).toInt ∧ (F (75 + 4 * a + 2)).toInt ≤ 20 := (a4 a ha 2 (by omega)).2
  obtain ⟨p, hp, e1⟩ := nI_ofT (x := F (75 + 4 * a + 1)) (n := 59) h1.1 h1.2
  obtain ⟨d, hd, e2⟩ := nI_ofT (x := F (75 + 4 * a + 2)) (n := 20) (by omega) h2.2
  have ep : atN F a = p := by
    unfold atN
    rw [e1, nI_toInt (by omega), Int.toNat_natCast]
  have ed : (F (75 + 4 * a + 2)).toInt.toNat = d := by rw [e2, nI_toInt (by omega), Int.toNat_natCast]
  have hd1 : 1 ≤ d := by
    rw [e2, nI_toInt (by omega)] at h2
    omega
  have ee : enF F a = p + d := by
    unfold enF
    rw [ep, ed]
  rw [ep, ee, e1, e2, nI_add]
  exact ⟨rfl, hp, rfl, by omega, by omega⟩
theorem M_ask {s : St} {F : Nat → Int32} {M T S E A U Y L P N : Nat} (v : VW s F M T S E A U Y L P N) {i c : Nat} (hi : i < 8) (hc : c < 4) : f_X12_ofAsk (nI i) (nI c) s = some (F (75 + 4 * i + c), s) := by
  unfold f_X12_ofAsk
  rw [v.2.1]
  simp only [zL75, zL4, nI_add, nI_mul]
  rw [inb_ln (n := 240) rfl (by omega) (by omega), gd_tt, nI_clamp (by omega)]
theorem M_askEnd {s : St} {F : Nat → Int32} {M T S E A U Y L P N : Nat} (v : VW s F M T S E A U Y L P N) {b : Nat} (hb : b < A) : f_X12_endOf (nI b) s = some (nI (enF F b), s) := by
  have hA := v.2.2.hA
  obtain ⟨h1, h2, h3, h4, h5⟩ := v.ask hb
  unfold f_X12_endOf
  rw [show f_X12_ofAsk (nI b) (1 : Int32) s = some (F (75 + 4 * b + 1), s) from M_ask v (c := 1) (by omega) (by omega), bd_mk, show f_X12_ofAsk (nI b) (2 : Int32) s = some (F (75 + 4 * b + 2), s) from M_ask v (c := 2) (by omega) (by omega), bd_mk, h1, h3]
/-! by minute, then by number -/
abbrev ltA (F : Nat → Int32) (a b : Nat) : Prop := atN F a < atN F b ∨ (atN F a = atN F b ∧ a < b)
def SO (F : Nat → Int32) (g : Nat → Int32) (n : Nat) (o : Nat → Nat) : Prop := (∀ j, j < n → g j = nI (o j) ∧ o j < n) ∧ (∀ b, b < n → ∃ j, j < n ∧ o j = b) ∧ ∀ j j', j < j' → j' < n → ltA F (o j) (o j')
theorem V_sort {s : St} {F : Nat → Int32} {M T S E A U Y L P N : Nat} (v : VW s F M T S E A U Y L P N) : Ok (fun _ s' => Fr [51] s s' ∧ ∃ o, SO F (gr s' 51) A o) (f_X0_sortByMinute s) := by
  have hA := v.2.2.hA
  unfold f_X0_sortByMinute
  refine okC (fun (n : Nat) (y : Int32 × St) => y.1 = nI n ∧ Fr [51] s y.2 ∧ ∃ o, SO F (gr y.2 51) n o) A ?_ (i := 0) (by unfold FU; omega) (by omega) ⟨rfl, Fr.rf, fun j => j, fun j hj => absurd hj (by omega), fun b hb => absurd hb (by omega), fun j j' h1 h2 => absurd h2 (by omega)⟩
  rintro n ⟨y1, s1⟩ K hn ⟨e1, hf, o, hS1, hS2, hS3⟩ hK
  dsimp only at e1 hf hS1
  subst e1
  have v1 := v.fr hf (by decide)
  unfold g_X0_sortByMinute_2 f_X0_sortByMinute_98
  dsimp only
  rw [show gf s1 7 3 = nI A from v1.2.2.cA]
  refine okI (fun c => okR ?_) (fun c => ?_)
  · have : n = A := by
      rw [le_toInt, nI_toInt (by omega), nI_toInt (by omega)] at c
      omega
    subst this
    exact ⟨hf, o, hS1, hS2, hS3⟩
  · replace c : n < A := cnt_le rfl (by omega) c hn
    rw [if_neg (show ¬ nI (ln 51) ≤ nI n from lt_ge (m := 8) (by omega) (by omega))]
    refine okC (fun (i : Nat) (y : Int32 × Int32 × St) => y.1 = nI n ∧ y.2.1 = nI (n - i) ∧ Fr [51] s y.2.2 ∧ (∀ j, j < n - i → gr y.2.2 51 j = nI (o j)) ∧ (∀ j, n - i ≤ j → j < n → gr y.2.2 51 (j + 1) = nI (o j) ∧ atN F n < atN F (o j))) n ?_ (i := 0) (by unfold FU; omega) (by omega) ⟨rfl, rfl, hf, fun j hj => (hS1 j (by omega)).1, fun j h1 h2 => absurd h2 (by omega)⟩
    rintro i ⟨y1, y2, s2⟩ K2 hi ⟨e1, e2, hf2, hlo, hhi⟩ hK2
    dsimp only at e1 e2 hf2 hlo hhi
    subst e1 e2
    have v2 := v.fr hf2 (by decide)
    have stop : (∀ j, j < n - i → atN F (o j) ≤ atN F n) → Ok (fun _ s' => Fr [51] s s' ∧ ∃ o, SO F (gr s' 51) A o) (f_X0_sortByMinute_85 K (nI n) (nI (n - i)) s2) := by
      intro hle
      unfold f_X0_sortByMinute_85
      rw [inb_ln (n := 8) rfl (show n - i < 8 by omega) (by omega), gd_tt, nI_clamp (by omega), bnd_mk, bnd_mk, nI_1]
      refine hK _ c ⟨rfl, hf2.tr (Fr.c2 (by simp)), fun j => if j < n - i then o j else if j = n - i then n else o (j - 1), fun j hj => ?_, fun b hb => ?_, fun j j' h1 h2 => ?_⟩
      · show gr (sr s2 51 (n - i) (nI n)) 51 j = nI (if j < n - i then o j else if j = n - i then n else o (j - 1)) ∧ (if j < n - i then o j else if j = n - i then n else o (j - 1)) < n + 1
        rw [gr_sr_s]
        by_cases c1 : j < n - i
        · have hne : ¬ j = n - i := by omega
          rw [if_pos c1, if_neg hne]
          exact ⟨hlo j c1, Nat.lt_succ_of_lt (hS1 j (by omega)).2⟩
        · rw [if_neg c1]
          by_cases c2 : j = n - i
          · rw [if_pos c2, if_pos c2]
            exact ⟨rfl, by omega⟩
          · rw [if_neg c2, if_neg c2]
            have h1 := (hhi (j - 1) (by omega) (by omega)).1
            rw [show j - 1 + 1 = j by omega] at h1
            exact ⟨h1, Nat.lt_succ_of_lt (hS1 (j - 1) (by omega)).2⟩
      · by_cases e : b = n
        · refine ⟨n - i, by omega, ?_⟩
          show (if n - i < n - i then o (n - i) else if n - i = n - i then n else o (n - i - 1)) = b
          rw [if_neg (by omega), if_pos rfl, e]
        · obtain ⟨j, hj, ej⟩ := hS2 b (by omega)
          by_cases c1 : j < n - i
          · refine ⟨j, by omega, ?_⟩
            show (if j < n - i then o j else if j = n - i then n else o (j - 1)) = b
            rw [if_pos c1, ej]
          · refine ⟨j + 1, by omega, ?_⟩
            show (if j + 1 < n - i then o (j + 1) else if j + 1 = n - i then n else o (j + 1 - 1)) = b
            rw [if_neg (by omega), if_neg (by omega), Nat.add_sub_cancel, ej]
      · show ltA F (if j < n - i then o j else if j = n - i then n else o (j - 1)) (if j' < n - i then o j' else if j' = n - i then n else o (j' - 1))
        by_cases c1 : j' < n - i
        · rw [if_pos c1, if_pos (show j < n - i by omega)]
          exact hS3 j j' h1 (by omega)
        · rw [if_neg c1]
          by_cases c2 : j' = n - i
          · rw [if_pos c2, if_pos (show j < n - i by omega)]
            have h3 := hle j (by omega)
            have h4 := (hS1 j (by omega)).2
            rcases Nat.lt_or_ge (atN F (o j)) (atN F n) with z | z
            · exact Or.inl z
            · exact Or.inr ⟨by omega, h4⟩
          · rw [if_neg c2]
            by_cases d1 : j < n - i
            · rw [if_pos d1]
              exact hS3 j (j' - 1) (by omega) (by omega)
            · rw [if_neg d1]
              by_cases d2 : j = n - i
              · rw [if_pos d2]
                exact Or.inl (hhi (j' - 1) (by omega) (by omega)).2
              · rw [if_neg d2]
                exact hS3 (j - 1) (j' - 1) (by omega) (by omega)
    unfold g_X0_sortByMinute_27
    dsimp only
    refine okI (fun c0 => stop ?_) (fun c0 => ?_)
    · have z0 : (0 : Int32).toInt = 0 := rfl
      rw [le_toInt, nI_toInt (by omega), z0] at c0
      exact fun j hj => absurd hj (by omega)
    · have z0 : (0 : Int32).toInt = 0 := rfl
      have hpos : 0 < n - i := by
        rw [le_toInt, nI_toInt (by omega), z0] at c0
        omega
      have ho := (hS1 (n - i - 1) (by omega)).2
      have g1 := v.ask (show o (n - i - 1) < A by omega)
      have g2 := v.ask c
      rw [show nI (n - i) - (1 : Int32) = nI (n - i - 1) from nI_subl (a := n - i) (b := 1) (by omega), inb_ln (n := 8) rfl (show n - i - 1 < 8 by omega) (by omega), gd_tt, nI_clamp (show n - i - 1 < 2 ^ 31 by omega), hlo (n - i - 1) (by omega), show f_X9_cell 7 (nI (o (n - i - 1))) (1 : Int32) s2 = some (F (75 + 4 * o (n - i - 1) + 1), s2) from V_c7 v2 (c := 1) (by omega) (by omega), bd_mk, show f_X9_cell 7 (nI n) (1 : Int32) s2 = some (F (75 + 4 * n + 1), s2) from V_c7 v2 (c := 1) c (by omega), bd_mk, g1.1, g2.1]
      refine okI (fun c1 => stop ?_) (fun c1 => ?_)
      · rw [le_toInt, nI_toInt (by omega), nI_toInt (by omega)] at c1
        intro j hj
        by_cases e : j = n - i - 1
        · rw [e]
          omega
        · have h3 := hS3 j (n - i - 1) (by omega) (by omega)
          rcases h3 with z | z
          · omega
          · omega
      · rw [le_toInt, nI_toInt (by omega), nI_toInt (by omega)] at c1
        refine okD rfl (okD (inb_ln (n := 8) rfl (show n - i < 8 by omega) (by omega)) ?_)
        have hlo1 := hlo (n - i - 1) (by omega)
        rw [nI_clamp (show n - i < 2 ^ 31 by omega), bnd_mk, bnd_mk, show nI (n - i) + (-1 : Int32) = nI (n - (i + 1)) from by
          have e : nI (n - i - 1 + 1) + (-1 : Int32) = nI (n - i - 1) := by
            rw [← nI_1, Int32.add_assoc, show (1 : Int32) + (-1) = 0 from by decide, Int32.add_zero]
          rw [show n - i - 1 + 1 = n - i by omega] at e
          rw [show n - (i + 1) = n - i - 1 by omega]
          exact e]
        refine hK2 _ (by omega) ⟨rfl, rfl, hf2.tr (Fr.c2 (by simp)), fun j hj => ?_, fun j h1 h2 => ?_⟩
        · show gr (sr s2 51 (n - i) _) 51 j = _
          rw [gr_sr_s, if_neg (by omega)]
          exact hlo j (by omega)
        · show gr (sr s2 51 (n - i) _) 51 (j + 1) = _ ∧ _
          rw [gr_sr_s]
          by_cases e : j + 1 = n - i
          · rw [if_pos e, show j = n - i - 1 by omega]
            exact ⟨hlo1, by omega⟩
          · rw [if_neg e]
            exact hhi j (by omega) h2
/-! the next ASK that begins at f or later -/
def nk (F : Nat → Int32) (x f : Nat) : Nat → Option Nat
  | 0 => none
  | i + 1 => if x.testBit i = true ∧ f ≤ atN F i then (match nk F x f i with | none => some i | some b => if atN F b ≤ atN F i then some b else some i) else nk F x f i
def enc : Option Nat → Int32
  | none => -1
  | some b => nI b
theorem nk_s (F : Nat → Int32) (x f i : Nat) : nk F x f (i + 1) = if x.testBit i = true ∧ f ≤ atN F i then (match nk F x f i with | none => some i | some b => if atN F b ≤ atN F i then some b else some i) else nk F x f i := rfl
theorem nk_spec (F : Nat → Int32) (x f : Nat) : ∀ n, (nk F x f n = none ∧ ∀ b, b < n → x.testBit b = true → ¬ f ≤ atN F b) ∨ (∃ b, nk F x f n = some b ∧ b < n ∧ x.testBit b = true ∧ f ≤ atN F b ∧ ∀ b', b' < n → x.testBit b' = true → f ≤ atN F b' → b' = b ∨ ltA F b b') := by
  intro n
  induction n with
  | zero => exact Or.inl ⟨rfl, fun b hb => absurd hb (by omega)⟩
  | succ n ih =>
    rw [nk_s]
    by_cases c : x.testBit n = true ∧ f ≤ atN F n
    · rw [if_pos c]
      rcases ih with ⟨h, hno⟩ | ⟨b, h, hb, h1, h2, h3⟩
      · rw [h]
        refine Or.inr ⟨n, rfl, by omega, c.1, c.2, fun b' hb' t1 t2 => ?_⟩
        by_cases e : b' = n
        · exact Or.inl e
        · exact absurd t2 (hno b' (by omega) t1)
      · rw [h]
        dsimp only
        by_cases d : atN F b ≤ atN F n
        · rw [if_pos d]
          refine Or.inr ⟨b, rfl, by omega, h1, h2, fun b' hb' t1 t2 => ?_⟩
          by_cases e : b' = n
          · subst e
            rcases Nat.lt_or_ge (atN F b) (atN F b') with z | z
            · exact Or.inr (Or.inl z)
            · exact Or.inr (Or.inr ⟨by omega, hb⟩)
          · exact h3 b' (by omega) t1 t2
        · rw [if_neg d]
          refine Or.inr ⟨n, rfl, by omega, c.1, c.2, fun b' hb' t1 t2 => ?_⟩
          by_cases e : b' = n
          · exact Or.inl e
          · rcases h3 b' (by omega) t1 t2 with z | z
            · subst z
              exact Or.inr (Or.inl (by omega))
            · rcases z with z | z
              · exact Or.inr (Or.inl (by omega))
              · exact Or.inr (Or.inl (by omega))
    · rw [if_neg c]
      rcases ih with ⟨h, hno⟩ | ⟨b, h, hb, h1, h2, h3⟩
      · refine Or.inl ⟨h, fun b hb t1 t2 => ?_⟩
        by_cases e : b = n
        · subst e
          exact c ⟨t1, t2⟩
        · exact hno b (by omega) t1 t2
      · refine Or.inr ⟨b, h, by omega, h1, h2, fun b' hb' t1 t2 => ?_⟩
        by_cases e : b' = n
        · subst e
          exact absurd ⟨t1, t2⟩ c
        · exact h3 b' (by omega) t1 t2
theorem M_next {s : St} {F : Nat → Int32} {M T S E A U Y L P N : Nat} (v : VW s F M T S E A U Y L P N) {x f : Nat} (hx : x < 512) (hf : f ≤ 1000) : f_X12_nextAsk (nI x) (nI f) s = some (enc (nk F x f A), s) := by
  have hA := v.2.2.hA
  unfold f_X12_nextAsk
  refine itr_cnt (fun i => (nI x, nI f, enc (nk F x f i), nI i, s)) A _ (fun i K hi => ?_) (fun K => ?_) A 0 FU (by omega) (by unfold FU; omega)
  · have ga := v.ask hi
    have ea : f_X12_ofAsk (nI i) (1 : Int32) s = some (nI (atN F i), s) := (M_ask v (c := 1) (by omega) (by omega)).trans (by rw [ga.1])
    unfold g_X12_nextAsk_5 f_X12_nextAsk_59 f_X12_nextAsk_62
    dsimp only
    rw [show inb (6 : Int32) (ln 59) = true from rfl, gd_tt, show gr s 59 (6 : Int32).toNatClampNeg = nI A from v.2.2.mA, if_neg (lt_ge hi (by omega)), S_bit, bd_mk, bit_nI hx (by omega), ea, bd_mk, nI_1, nk_s]
    cases hb : x.testBit i
    · rw [if_neg nfT, if_neg (show ¬ (0 : Int32) = 1 from by decide), if_neg (show ¬ (false = true ∧ f ≤ atN F i) from fun z => nfT z.1), bnd_mk]
    · rw [if_pos rfl, if_pos rfl]
      by_cases c : f ≤ atN F i
      · rw [if_neg (show ¬ nI (atN F i) < nI f from nI_nlt c (by omega)), if_pos (show true = true ∧ f ≤ atN F i from ⟨rfl, c⟩)]
        rcases nk_spec F x f i with ⟨h, -⟩ | ⟨b, h, hbi, -, -, -⟩
        · rw [h, if_pos (show enc none = -1 from rfl), bnd_mk]
          rfl
        · have gb := v.ask (show b < A by omega)
          have eb : f_X12_ofAsk (nI b) (1 : Int32) s = some (nI (atN F b), s) := (M_ask v (c := 1) (by omega) (by omega)).trans (by rw [gb.1])
          rw [h, if_neg (show ¬ enc (some b) = -1 from nI_m1' (by omega)), ea, bd_mk, show f_X12_ofAsk (enc (some b)) (1 : Int32) s = some (nI (atN F b), s) from eb, bd_mk]
          dsimp only
          by_cases d : atN F b ≤ atN F i
          · rw [if_pos (show nI (atN F b) ≤ nI (atN F i) from by rw [le_toInt, nI_toInt (by omega), nI_toInt (by omega)]; omega), if_pos d, bnd_mk]
          · rw [if_neg (show ¬ nI (atN F b) ≤ nI (atN F i) from nI_ge (by omega) (by omega)), if_neg d, bnd_mk]
            rfl
      · rw [if_pos (show nI (atN F i) < nI f from nI_lt (by omega) (by omega)), if_neg (show ¬ (true = true ∧ f ≤ atN F i) from fun z => c z.2), bnd_mk]
  · unfold g_X12_nextAsk_5
    dsimp only
    rw [show inb (6 : Int32) (ln 59) = true from rfl, gd_tt, show gr s 59 (6 : Int32).toNatClampNeg = nI A from v.2.2.mA, if_pos (le_rf A)]
/-! counts -/
theorem smN_lt {f g : Nat → Nat} {a : Nat} : ∀ n, a < n → (∀ i, i < n → f i ≤ g i) → f a + 1 ≤ g a → smN f n + 1 ≤ smN g n := by
  intro n
  induction n with
  | zero => exact fun h => absurd h (by omega)
  | succ n ih =>
    intro ha h h1
    show smN f n + f n + 1 ≤ smN g n + g n
    by_cases e : a = n
    · subst e
      have := smN_le a (fun i hi => h i (by omega))
      omega
    · have := ih (by omega) (fun i hi => h i (by omega)) h1
      have := h n (by omega)
      omega
theorem smN_upd {f g : Nat → Nat} {a d : Nat} : ∀ n, a < n → (∀ i, i < n → i ≠ a → g i = f i) → g a = f a + d → smN g n = smN f n + d := by
  intro n
  induction n with
  | zero => exact fun h => absurd h (by omega)
  | succ n ih =>
    intro ha h h1
    show smN g n + g n = smN f n + f n + d
    by_cases e : a = n
    · subst e
      have := smN_congr a (fun i hi => h i (by omega) (by omega))
      omega
    · have := ih (by omega) (fun i hi => h i (by omega)) h1
      have := h n (by omega) (fun z => e z.symm)
      omega
theorem ob_sm (x : Nat) : ∀ n, obN x n = smN (fun b => if x.testBit b then 1 else 0) n := by
  intro n
  induction n with
  | zero => rfl
  | succ n ih =>
    show obN x n + (if x.testBit n then 1 else 0) = smN (fun b => if x.testBit b then 1 else 0) n + (if x.testBit n then 1 else 0)
    rw [ih]
/-- how many of x begin at f or later -/
def cnN (F : Nat → Int32) (x A f : Nat) : Nat := smN (fun b => if x.testBit b = true ∧ f ≤ atN F b then 1 else 0) A
theorem cn_drop {F : Nat → Int32} {x A f f' b : Nat} (hb : b < A) (hx : x.testBit b = true) (h1 : f ≤ atN F b) (h2 : atN F b < f') : cnN F x A f' + 1 ≤ cnN F x A f := by
  refine smN_lt (a := b) A hb (fun i _ => ?_) ?_
  · show (if x.testBit i = true ∧ f' ≤ atN F i then 1 else 0) ≤ (if x.testBit i = true ∧ f ≤ atN F i then 1 else 0)
    by_cases c : x.testBit i = true ∧ f' ≤ atN F i
    · rw [if_pos c, if_pos ⟨c.1, by omega⟩]
      exact Nat.le_refl _
    · rw [if_neg c]
      exact Nat.zero_le _
  · show (if x.testBit b = true ∧ f' ≤ atN F b then 1 else 0) + 1 ≤ (if x.testBit b = true ∧ f ≤ atN F b then 1 else 0)
    rw [if_neg (fun z => absurd z.2 (by omega)), if_pos ⟨hx, h1⟩]
    exact Nat.le_refl _
theorem M_bitsN {x A : Nat} (hA : A ≤ 8) (hx : x < 2 ^ A) (s : St) : f_X12_bits (nI x) s = some (nI (obN x A), s) := by
  have h5 : x < 512 := Nat.lt_of_lt_of_le hx (by
    calc 2 ^ A ≤ 2 ^ 9 := Nat.pow_le_pow_right (by decide) (by omega)
      _ = 512 := rfl)
  have h := ob_cut hx (12 - A)
  rw [show A + (12 - A) = 12 by omega] at h
  rw [S_bits, bits_ob h5 12 (by omega), h]
theorem M_g41 {s : St} {F : Nat → Int32} {M T S E A U Y L P N : Nat} (v : VW s F M T S E A U Y L P N) {x c b : Nat} (hx : x < 512) (hb : b < A) (md : Int32) (K : Int32 × Int32 × Int32 × Int32 × Int32 × St → Option (Int32 × St)) : f_X12_canGrant_41 K (nI x) md (nI c) (nI b) s = K (nI x, md, nI (c + 1), F (75 + 4 * b + 0), enc (nk F x (enF F b) A), s) := by
  have hA := v.2.2.hA
  have g := v.ask hb
  unfold f_X12_canGrant_41
  rw [show f_X12_ofAsk (nI b) (0 : Int32) s = some (F (75 + 4 * b + 0), s) from M_ask v (c := 0) (by omega) (by omega), bd_mk, M_askEnd v hb, bd_mk, bnd_mk, M_next v hx (by omega), bd_mk, nI_1]
/-- once one is passed over, no -/
theorem M_skip {s : St} {F : Nat → Int32} {M T S E A U Y L P N : Nat} (v : VW s F M T S E A U Y L P N) {x : Nat} (hx : x < 2 ^ A) (md : Int32) : ∀ (w c f n : Nat) (l : Int32), cnN F x A f ≤ w → c + cnN F x A f < obN x A → w < n → f ≤ 1000 → itr g_X12_canGrant_17 n (nI x, md, nI c, l, enc (nk F x f A), s) = some (0, s) := by
  have hA := v.2.2.hA
  have h5 : x < 512 := Nat.lt_of_lt_of_le hx (by
    calc 2 ^ A ≤ 2 ^ 9 := Nat.pow_le_pow_right (by decide) (by omega)
      _ = 512 := rfl)
  have hob := ob_le x A
  intro w
  induction w with
  | zero =>
    intro c f n l h1 h2 h3 h4
    obtain ⟨m, rfl⟩ : ∃ m, n = m + 1 := ⟨n - 1, by omega⟩
    rw [itr_succ]
    rcases nk_spec F x f A with ⟨h, -⟩ | ⟨b, h, hb, hxb, hfb, -⟩
    · unfold g_X12_canGrant_17 f_X12_canGrant_86
      dsimp only
      rw [h, if_pos (show enc none = -1 from rfl), M_bitsN hA hx, bd_mk, if_neg (fun z => absurd ((nI_eq (by omega) (by omega)).mp z) (by omega)), bz_0, gd_tt]
    · have := cn_drop (f' := atN F b + 1) hb hxb hfb (by omega)
      omega
  | succ w ih =>
    intro c f n l h1 h2 h3 h4
    obtain ⟨m, rfl⟩ : ∃ m, n = m + 1 := ⟨n - 1, by omega⟩
    rw [itr_succ]
    rcases nk_spec F x f A with ⟨h, -⟩ | ⟨b, h, hb, hxb, hfb, -⟩
    · unfold g_X12_canGrant_17 f_X12_canGrant_86
      dsimp only
      rw [h, if_pos (show enc none = -1 from rfl), M_bitsN hA hx, bd_mk, if_neg (fun z => absurd ((nI_eq (by omega) (by omega)).mp z) (by omega)), bz_0, gd_tt]
    · have g := v.ask hb
      have hd := cn_drop (f' := enF F b) hb hxb hfb g.2.2.2.1
      have go := ih (c + 1) (enF F b) m (F (75 + 4 * b + 0)) (by omega) (by omega) (by omega) (by omega)
      have c41 := (M_g41 v h5 hb md (c := c) (itr g_X12_canGrant_17 m)).trans go
      generalize itr g_X12_canGrant_17 m = K at c41 ⊢
      unfold g_X12_canGrant_17
      dsimp only
      rw [h, if_neg (show ¬ enc (some b) = -1 from nI_m1' (by omega)), show enc (some b) = nI b from rfl, show f_X12_ofAsk (nI b) (0 : Int32) s = some (F (75 + 4 * b + 0), s) from M_ask v (c := 0) (by omega) (by omega), bd_mk, bz_0, gd_tt, c41]
      by_cases c0 : md = 0
      · rw [if_pos c0]
      · rw [if_neg c0]
        split <;> rfl
def pz (o : Nat → Nat) : Nat → Nat → Bool
  | 0, _ => false
  | i + 1, b => decide (o i = b) || pz o i b
theorem pz_iff (o : Nat → Nat) (b : Nat) : ∀ i, pz o i b = true ↔ ∃ j, j < i ∧ o j = b := by
  intro i
  induction i with
  | zero => exact ⟨fun h => absurd h nfT, fun ⟨j, hj, _⟩ => absurd hj (by omega)⟩
  | succ i ih =>
    show (decide (o i = b) || pz o i b) = true ↔ _
    rw [Bool.or_eq_true, decide_eq_true_iff, ih]
    constructor
    · rintro (h | ⟨j, hj, h⟩)
      · exact ⟨i, by omega, h⟩
      · exact ⟨j, by omega, h⟩
    · rintro ⟨j, hj, h⟩
      by_cases e : j = i
      · subst e
        exact Or.inl h
      · exact Or.inr ⟨j, by omega, h⟩
def ctN (o : Nat → Nat) (x A i : Nat) : Nat := smN (fun b => if (x.testBit b && pz o i b) = true then 1 else 0) A
theorem SO.pos {F g : Nat → Int32} {n : Nat} {o : Nat → Nat} (h : SO F g n o) {j k : Nat} (hj : j < n) (hk : k < n) (hl : ltA F (o j) (o k)) : j < k := by
  rcases Nat.lt_trichotomy j k with z | z | z
  · exact z
  · subst z
    rcases hl with z | z <;> omega
  · have h1 := h.2.2 k j z hj
    rcases hl with a | a <;> rcases h1 with c | c <;> omega
theorem SO.inj {F g : Nat → Int32} {n : Nat} {o : Nat → Nat} (h : SO F g n o) {j k : Nat} (hk : k < n) (hjk : j < k) : o j ≠ o k := by
  intro e
  have h1 := h.2.2 j k hjk hk
  rw [e] at h1
  rcases h1 with z | z <;> omega
theorem ct_s {F g : Nat → Int32} {A x i : Nat} {o : Nat → Nat} (h : SO F g A o) (hi : i < A) : ctN o x A (i + 1) = ctN o x A i + (if x.testBit (o i) then 1 else 0) := by
  have h0 : pz o i (o i) = false := by
    cases hb : pz o i (o i)
    · rfl
    · obtain ⟨j, hj, e⟩ := (pz_iff o (o i) i).mp hb
      exact absurd e (h.inj hi hj)
  refine smN_upd (a := o i) A (h.1 i hi).2 (fun b _ hne => ?_) ?_
  · show (if (x.testBit b && (decide (o i = b) || pz o i b)) = true then 1 else 0) = _
    rw [decide_eq_false (fun z => hne z.symm), Bool.false_or]
  · show (if (x.testBit (o i) && (decide (o i = o i) || pz o i (o i))) = true then 1 else 0) = (if (x.testBit (o i) && pz o i (o i)) = true then 1 else 0) + _
    rw [h0, decide_eq_true rfl]
    cases x.testBit (o i) <;> rfl
/-- class and reference agree on a set -/
theorem cs_cg {s s' : St} {F : Nat → Int32} {M T S E A U Y L P N : Nat} (v : VW s F M T S E A U Y L P N) (v' : VW s' F M T S E A U Y L P N) {o : Nat → Nat} (hO : SO F (gr s 51) A o) {x : Nat} (hx : x < 2 ^ A) (md : Int32) : ∀ (w i f n1 n2 : Nat) (l : Int32), i + w = A → w < n1 → cnN F x A f < n2 → f ≤ 1000 → (∀ b, b < A → x.testBit b = true → pz o i b = true → atN F b < f) → ∃ r, itr g_X0_canStand_8 n1 (nI x, md, nI f, l, nI i, s) = some (r, s) ∧ itr g_X12_canGrant_17 n2 (nI x, md, nI (ctN o x A i), l, enc (nk F x f A), s') = some (r, s') := by
  have hA := v.2.2.hA
  have h5 : x < 512 := Nat.lt_of_lt_of_le hx (by
    calc 2 ^ A ≤ 2 ^ 9 := Nat.pow_le_pow_right (by decide) (by omega)
      _ = 512 := rfl)
  have hob := ob_le x A
  intro w
  induction w with
  | zero =>
    intro i f n1 n2 l hi h1 h2 hf inv
    obtain rfl : i = A := by omega
    obtain ⟨m1, rfl⟩ : ∃ m, n1 = m + 1 := ⟨n1 - 1, by omega⟩
    obtain ⟨m2, rfl⟩ : ∃ m, n2 = m + 1 := ⟨n2 - 1, by omega⟩
    have hall : ∀ b, b < i → pz o i b = true := fun b hb => (pz_iff o b i).mpr (hO.2.1 b hb)
    refine ⟨1, ?_, ?_⟩
    · rw [itr_succ]
      unfold g_X0_canStand_8 f_X0_canStand_146
      dsimp only
      rw [show gf s 7 3 = nI i from v.2.2.cA, if_pos (le_rf i), bz_1, gd_tt]
    · rw [itr_succ]
      rcases nk_spec F x f i with ⟨h, -⟩ | ⟨b, h, hb, hxb, hfb, -⟩
      · have hc : ctN o x i i = obN x i := by
          rw [ob_sm]
          refine smN_congr i (fun b hb => ?_)
          show (if (x.testBit b && pz o i b) = true then 1 else 0) = _
          rw [hall b hb, Bool.and_true]
        unfold g_X12_canGrant_17 f_X12_canGrant_86
        dsimp only
        rw [h, if_pos (show enc none = -1 from rfl), M_bitsN hA hx, bd_mk, hc, if_pos rfl, bz_1, gd_tt]
      · have := inv b hb hxb (hall b hb)
        omega
  | succ w ih =>
    intro i f n1 n2 l hi h1 h2 hf inv
    have hiA : i < A := by omega
    obtain ⟨m1, rfl⟩ : ∃ m, n1 = m + 1 := ⟨n1 - 1, by omega⟩
    obtain ⟨e51, hoA⟩ := hO.1 i hiA
    have g := v.ask hoA
    have hs := ct_s (x := x) hO hiA
    rw [itr_succ]
    generalize hK : itr g_X0_canStand_8 m1 = K1
    unfold g_X0_canStand_8
    dsimp only
    rw [show gf s 7 3 = nI A from v.2.2.cA, if_neg (lt_ge hiA (by omega)), if_neg (show ¬ nI (ln 51) ≤ nI i from lt_ge (m := 8) (by omega) (by omega)), inb_ln (n := 8) rfl (show i < 8 by omega) (by omega), gd_tt, nI_clamp (by omega), bnd_mk, e51, S_isIn, bd_mk, bit_nI h5 (by omega)]
    cases hb : x.testBit (o i)
    · rw [hb, if_neg nfT, Nat.add_zero (ctN o x A i)] at hs
      rw [if_neg nfT, if_pos rfl]
      unfold f_X0_canStand_140
      rw [bnd_mk, nI_1, ← hs, ← hK]
      refine ih (i + 1) f m1 n2 l (by omega) (by omega) h2 hf (fun b hbA t1 t2 => ?_)
      obtain ⟨j, hj, e⟩ := (pz_iff o b (i + 1)).mp t2
      by_cases d : j = i
      · subst d
        rw [e, t1] at hb
        exact absurd hb (by decide)
      · exact inv b hbA t1 ((pz_iff o b i).mpr ⟨j, by omega, e⟩)
    · rw [hb, if_pos rfl] at hs
      rw [if_pos rfl, if_neg n10, show f_X9_cell 7 (nI (o i)) (1 : Int32) s = some (F (75 + 4 * o i + 1), s) from V_c7 v (c := 1) hoA (by omega), bd_mk, show f_X9_cell 7 (nI (o i)) (0 : Int32) s = some (F (75 + 4 * o i + 0), s) from V_c7 v (c := 0) hoA (by omega), bd_mk, g.1]
      by_cases hlt : atN F (o i) < f
      · refine ⟨0, ?_, ?_⟩
        · unfold f_X0_canStand_89 f_X0_canStand_106
          rw [if_pos (nI_lt hlt (by omega)), if_pos (nI_lt hlt (by omega)), bz_0, gd_tt]
          split <;> rfl
        · refine M_skip v' hx md (cnN F x A f) (ctN o x A i) f n2 l (Nat.le_refl _) ?_ h2 hf
          have key : smN (fun b => (if (x.testBit b && pz o i b) = true then 1 else 0) + (if x.testBit b = true ∧ f ≤ atN F b then 1 else 0)) A + 1 ≤ smN (fun b => if x.testBit b then 1 else 0) A := by
            refine smN_lt (a := o i) A hoA (fun b hbA => ?_) ?_
            · show (if (x.testBit b && pz o i b) = true then 1 else 0) + (if x.testBit b = true ∧ f ≤ atN F b then 1 else 0) ≤ (if x.testBit b then 1 else 0)
              cases t1 : x.testBit b
              · rw [Bool.false_and, if_neg nfT, if_neg (fun z => nfT z.1)]
                exact Nat.le_refl _
              · rw [Bool.true_and, if_pos rfl]
                cases t2 : pz o i b
                · rw [if_neg nfT]
                  split <;> omega
                · have := inv b hbA t1 t2
                  rw [if_pos rfl, if_neg (fun z => absurd z.2 (by omega))]
                  exact Nat.le_refl _
            · show (if (x.testBit (o i) && pz o i (o i)) = true then 1 else 0) + (if x.testBit (o i) = true ∧ f ≤ atN F (o i) then 1 else 0) + 1 ≤ (if x.testBit (o i) then 1 else 0)
              have h0 : pz o i (o i) = false := by
                cases hz : pz o i (o i)
                · rfl
                · obtain ⟨j, hj, e⟩ := (pz_iff o (o i) i).mp hz
                  exact absurd e (hO.inj hiA hj)
              rw [h0, Bool.and_false, if_neg nfT, if_neg (fun z => absurd z.2 (by omega)), hb, if_pos rfl]
              exact Nat.le_refl _
          rw [smN_plus (fun b => if (x.testBit b && pz o i b) = true then 1 else 0) (fun b => if x.testBit b = true ∧ f ≤ atN F b then 1 else 0), ← ob_sm] at key
          have k2 : ctN o x A i + cnN F x A f + 1 ≤ obN x A := key
          omega
      · have hnk : nk F x f A = some (o i) := by
          rcases nk_spec F x f A with ⟨h, hno⟩ | ⟨b, h, hbA, hxb, hfb, hmin⟩
          · exact absurd (show f ≤ atN F (o i) by omega) (hno (o i) hoA hb)
          · rcases hmin (o i) hoA hb (by omega) with z | z
            · rw [h, z]
            · obtain ⟨j, hj, e⟩ := hO.2.1 b hbA
              subst e
              have hji := hO.pos hj hiA z
              have := inv (o j) hbA hxb ((pz_iff o (o j) i).mpr ⟨j, hji, rfl⟩)
              omega
        obtain ⟨m2, rfl⟩ : ∃ m, n2 = m + 1 := ⟨n2 - 1, by omega⟩
        have hd := cn_drop (f' := enF F (o i)) hoA hb (show f ≤ atN F (o i) by omega) g.2.2.2.1
        obtain ⟨r, r1, r2⟩ := ih (i + 1) (enF F (o i)) m1 m2 (F (75 + 4 * o i + 0)) (by omega) (by omega) (by omega) (by omega) (fun b hbA t1 t2 => by
          obtain ⟨j, hj, e⟩ := (pz_iff o b (i + 1)).mp t2
          by_cases d : j = i
          · subst d
            rw [← e]
            exact g.2.2.2.1
          · have := inv b hbA t1 ((pz_iff o b i).mpr ⟨j, by omega, e⟩)
            have := g.2.2.2.1
            omega)
        rw [hs] at r2
        rw [hK] at r1
        have c108 : f_X0_canStand_108 K1 (nI x) md (nI i) (nI (o i)) (nI (atN F (o i))) s = some (r, s) := by
          unfold f_X0_canStand_108 f_X0_canStand_140
          rw [show f_X9_cell 7 (nI (o i)) (2 : Int32) s = some (F (75 + 4 * o i + 2), s) from V_c7 v (c := 2) hoA (by omega), bd_mk, bnd_mk, show f_X9_cell 7 (nI (o i)) (0 : Int32) s = some (F (75 + 4 * o i + 0), s) from V_c7 v (c := 0) hoA (by omega), bd_mk, bnd_mk, nI_1, g.2.2.1]
          exact r1
        have c41 : f_X12_canGrant_41 (itr g_X12_canGrant_17 m2) (nI x) md (nI (ctN o x A i)) (nI (o i)) s' = some (r, s') := (M_g41 v' h5 hoA md _).trans r2
        have ea : f_X12_ofAsk (nI (o i)) (0 : Int32) s' = some (F (75 + 4 * o i + 0), s') := M_ask v' (c := 0) (by omega) (by omega)
        rw [itr_succ, hnk]
        generalize itr g_X12_canGrant_17 m2 = K2 at c41 ⊢
        unfold f_X0_canStand_89 f_X0_canStand_106 g_X12_canGrant_17
        dsimp only
        rw [show enc (some (o i)) = nI (o i) from rfl, if_neg (show ¬ nI (o i) = -1 from nI_m1' (by omega)), if_neg (show ¬ nI (atN F (o i)) < nI f from nI_nlt (by omega) (by omega)), if_neg (show ¬ nI (atN F (o i)) < nI f from nI_nlt (by omega) (by omega)), bz_0, gd_tt]
        by_cases c0 : md = 0
        · refine ⟨r, ?_, ?_⟩
          · rw [if_pos c0, c108]
            split <;> rfl
          · rw [if_pos c0, c41]
        · by_cases cl : F (75 + 4 * o i + 0) = l
          · refine ⟨0, ?_, ?_⟩
            · rw [if_pos cl, if_neg c0, if_neg n10]
            · rw [if_neg c0, ea, bd_mk, if_pos cl, gd_tt]
          · refine ⟨r, ?_, ?_⟩
            · rw [if_neg cl, if_neg c0, if_pos rfl, c108]
            · rw [if_neg c0, ea, bd_mk, if_neg cl, c41]
def csV (md : Int32) (s : St) (x : Nat) : Int32 := match f_X0_canStand (nI x) md s with
  | some (r, _) => r
  | none => 0
theorem cs_eq {s s' : St} {F : Nat → Int32} {M T S E A U Y L P N : Nat} (v : VW s F M T S E A U Y L P N) (v' : VW s' F M T S E A U Y L P N) {o : Nat → Nat} (hO : SO F (gr s 51) A o) {x : Nat} (hx : x < 2 ^ A) (md : Int32) : f_X0_canStand (nI x) md s = some (csV md s x, s) ∧ f_X12_canGrant (nI x) md s' = some (csV md s x, s') := by
  have hA := v.2.2.hA
  have h5 : x < 512 := Nat.lt_of_lt_of_le hx (by
    calc 2 ^ A ≤ 2 ^ 9 := Nat.pow_le_pow_right (by decide) (by omega)
      _ = 512 := rfl)
  have hcn : cnN F x A 0 ≤ A := by
    have h1 := smN_le (f := fun b => if x.testBit b = true ∧ 0 ≤ atN F b then 1 else 0) (g := fun b => if x.testBit b then 1 else 0) A (fun b _ => by
      show (if x.testBit b = true ∧ 0 ≤ atN F b then 1 else 0) ≤ (if x.testBit b then 1 else 0)
      cases x.testBit b
      · rw [if_neg (fun z => nfT z.1)]
        exact Nat.zero_le _
      · rw [if_pos rfl]
        split <;> omega)
    rw [← ob_sm] at h1
    exact Nat.le_trans h1 (ob_le x A)
  obtain ⟨r, r1, r2⟩ := cs_cg v v' hO hx md A 0 0 FU FU (-1) (by omega) (by unfold FU; omega) (by unfold FU; omega) (by omega) (fun b _ _ h => absurd h nfT)
  have e1 : f_X0_canStand (nI x) md s = some (r, s) := r1
  have er : csV md s x = r := by
    unfold csV
    rw [e1]
  have hc0 : ctN o x A 0 = 0 := smN_z A (fun b _ => by
    show (if (x.testBit b && false) = true then 1 else 0) = 0
    rw [Bool.and_false, if_neg nfT])
  rw [hc0] at r2
  rw [er]
  refine ⟨e1, ?_⟩
  unfold f_X12_canGrant
  rw [show f_X12_nextAsk (nI x) (0 : Int32) s' = some (enc (nk F x 0 A), s') from M_next v' (f := 0) h5 (by omega), bd_mk]
  exact r2
def woA (F : Nat → Int32) (x : Nat) : Nat → Int32
  | 0 => 0
  | i + 1 => woA F x i + bitOf (nI x) i * F (75 + 4 * i + 3)
theorem V_worth {s : St} {F : Nat → Int32} {M T S E A U Y L P N : Nat} (v : VW s F M T S E A U Y L P N) (x : Nat) : f_X0_worthOf (nI x) s = some (woA F x A, s) := by
  have hA := v.2.2.hA
  unfold f_X0_worthOf
  refine itr_cnt (fun i => (nI x, woA F x i, nI i, s)) A _ (fun i K hi => ?_) (fun K => ?_) A 0 FU (by omega) (by unfold FU; omega)
  · unfold g_X0_worthOf_4 f_X0_worthOf_41
    dsimp only
    rw [show gf s 7 3 = nI A from v.2.2.cA, if_neg (lt_ge hi (by omega)), S_isIn, bd_mk, nI_1]
    show _ = K (nI x, woA F x i + bitOf (nI x) i * F (75 + 4 * i + 3), nI (i + 1), s)
    rcases bit01 (nI x) i with e | e
    · rw [e, if_pos rfl, Int32.zero_mul, Int32.add_zero]
      rfl
    · rw [e, if_neg n10, show f_X9_cell 7 (nI i) (3 : Int32) s = some (F (75 + 4 * i + 3), s) from V_c7 v (c := 3) hi (by omega), bd_mk, Int32.one_mul]
      rfl
  · unfold g_X0_worthOf_4
    dsimp only
    rw [show gf s 7 3 = nI A from v.2.2.cA, if_pos (le_rf A)]
def btA (wo cs : Nat → Int32) : Nat → Nat × Int32
  | 0 => (0, 0)
  | i + 1 => if wo (i + 1) ≤ (btA wo cs i).2 then btA wo cs i else if cs (i + 1) = 0 then btA wo cs i else (i + 1, wo (i + 1))
theorem bt_s (wo cs : Nat → Int32) (i : Nat) : btA wo cs (i + 1) = if wo (i + 1) ≤ (btA wo cs i).2 then btA wo cs i else if cs (i + 1) = 0 then btA wo cs i else (i + 1, wo (i + 1)) := rfl
theorem bt_inv (wo cs : Nat → Int32) (h0 : wo 0 = 0) : ∀ i, (btA wo cs i).1 ≤ i ∧ (btA wo cs i).2 = wo (btA wo cs i).1 := by
  intro i
  induction i with
  | zero => exact ⟨Nat.le_refl _, h0.symm⟩
  | succ i ih =>
    rw [bt_s]
    by_cases c : wo (i + 1) ≤ (btA wo cs i).2
    · rw [if_pos c]
      exact ⟨by omega, ih.2⟩
    · rw [if_neg c]
      by_cases c1 : cs (i + 1) = 0
      · rw [if_pos c1]
        exact ⟨by omega, ih.2⟩
      · rw [if_neg c1]
        exact ⟨Nat.le_refl _, rfl⟩
theorem wo_0 (F : Nat → Int32) : ∀ n, n ≤ 9 → woA F 0 n = 0 := by
  intro n
  induction n with
  | zero => exact fun _ => rfl
  | succ n ih =>
    intro hn
    show woA F 0 n + bitOf (nI 0) n * F (75 + 4 * n + 3) = 0
    rw [ih (by omega), show bitOf (nI 0) n = 0 from bit_00 (by omega), Int32.zero_mul]
    rfl
theorem two256 {A : Nat} (hA : A ≤ 8) : 1 ≤ 2 ^ A ∧ 2 ^ A ≤ 256 := ⟨Nat.one_le_two_pow, by
  calc 2 ^ A ≤ 2 ^ 8 := Nat.pow_le_pow_right (by decide) hA
    _ = 256 := rfl⟩
abbrev bsA (F : Nat → Int32) (A : Nat) (md : Int32) (s : St) : Nat × Int32 := btA (fun x => woA F x A) (csV md s) (2 ^ A - 1)
theorem V_best {s : St} {F : Nat → Int32} {M T S E A U Y L P N : Nat} (v : VW s F M T S E A U Y L P N) (md : Int32) : Ok (fun r s' => Fr [51] s s' ∧ (∃ o, SO F (gr s' 51) A o) ∧ r = nI (bsA F A md s').1) (f_X0_bestSet md s) := by
  have hA := v.2.2.hA
  obtain ⟨h1, h2⟩ := two256 hA
  unfold f_X0_bestSet
  refine okB (V_sort v) ?_
  rintro _ s1 ⟨f1, o, hO⟩
  have v1 := v.fr f1 (by decide)
  refine ⟨_, s1, ?_, f1, ⟨o, hO⟩, rfl⟩
  refine itr_cnt (fun i => (md, nI (btA (fun x => woA F x A) (csV md s1) i).1, (btA (fun x => woA F x A) (csV md s1) i).2, nI (i + 1), s1)) (2 ^ A - 1) _ (fun i K hi => ?_) (fun K => ?_) (2 ^ A - 1) 0 FU (by omega) (by unfold FU; omega)
  · unfold g_X0_bestSet_11 f_X0_bestSet_58
    dsimp only
    rw [show gf s1 7 3 = nI A from v1.2.2.cA, nI_sh1 A (by omega), if_neg (lt_ge (show i + 1 < 2 ^ A by omega) (by omega)), V_worth v1, bd_mk, (cs_eq v1 v1 hO (show i + 1 < 2 ^ A by omega) md).1, bd_mk, nI_1, bt_s]
    generalize btA (fun x => woA F x A) (csV md s1) i = w at *
    by_cases c : woA F (i + 1) A ≤ w.2
    · rw [if_pos c, if_pos c, bnd_mk]
    · rw [if_neg c, if_neg c]
      by_cases c1 : csV md s1 (i + 1) = 0
      · rw [if_pos c1, if_pos c1, bnd_mk]
      · rw [if_neg c1, if_neg c1, bnd_mk]
  · unfold g_X0_bestSet_11
    dsimp only
    rw [show gf s1 7 3 = nI A from v1.2.2.cA, nI_sh1 A (by omega), if_pos (show nI (2 ^ A) ≤ nI (2 ^ A - 1 + 1) from by rw [show 2 ^ A - 1 + 1 = 2 ^ A by omega]; exact le_rf _)]
theorem M_grantOf {s : St} {F : Nat → Int32} {M T S E A U Y L P N : Nat} (v : VW s F M T S E A U Y L P N) {o : Nat → Nat} (hO : SO F (gr s 51) A o) (md : Int32) : Ok (fun r s' => r = (bsA F A md s).2 ∧ gf s' 58 27 = nI (bsA F A md s).1 ∧ Fr [58] s s' ∧ ∀ c, c < 14 → gf s' 58 c = gf s 58 c) (f_X12_grantOf md s) := by
  have hA := v.2.2.hA
  obtain ⟨h1, h2⟩ := two256 hA
  unfold f_X12_grantOf
  refine okC (fun (i : Nat) (y : Int32 × Int32 × Int32 × St) => y.1 = md ∧ y.2.2.1 = nI i ∧ (i = 0 → y.2.1 = -1) ∧ (1 ≤ i → y.2.1 = (btA (fun x => woA F x A) (csV md s) (i - 1)).2 ∧ gf y.2.2.2 58 27 = nI (btA (fun x => woA F x A) (csV md s) (i - 1)).1) ∧ Fr [58] s y.2.2.2 ∧ ∀ c, c < 14 → gf y.2.2.2 58 c = gf s 58 c) (2 ^ A) ?_ (i := 0) (by unfold FU; omega) (by omega) ⟨rfl, rfl, fun _ => rfl, fun h => absurd h (by omega), Fr.rf, fun _ _ => rfl⟩
  rintro i ⟨y1, y2, y3, s1⟩ K hi ⟨e1, e3, h0, hp, hf, h14⟩ hK
  dsimp only at e1 e3 h0 hp hf h14
  subst e1 e3
  have v1 := v.fr hf (by decide)
  unfold g_X12_grantOf_4
  dsimp only
  rw [show inb (6 : Int32) (ln 59) = true from rfl, gd_tt, show gr s1 59 (6 : Int32).toNatClampNeg = nI A from v1.2.2.mA, nI_sh1 A (by omega)]
  refine okI (fun c => okR ?_) (fun c => ?_)
  · have : i = 2 ^ A := by
      rw [le_toInt, nI_toInt (by omega), nI_toInt (by omega)] at c
      omega
    obtain ⟨a1, a2⟩ := hp (by omega)
    rw [this] at a1 a2
    exact ⟨a1, a2, hf, h14⟩
  · replace c : i < 2 ^ A := cnt_le rfl (by omega) c hi
    have hcg := (cs_eq v v1 hO c y1).2
    have inner : itr (g_X12_grantOf_23 K) FU (y1, y2, nI i, 0, 0, s1) = if woA F i A ≤ y2 then f_X12_grantOf_86 K y1 y2 (nI i) s1 else if csV y1 s i = 0 then f_X12_grantOf_86 K y1 y2 (nI i) s1 else f_X12_grantOf_86 K y1 (woA F i A) (nI i) (sf s1 58 27 (nI i)) := by
      refine itr_cnt (fun a => (y1, y2, nI i, woA F i a, nI a, s1)) A _ (fun a K2 ha => ?_) (fun K2 => ?_) A 0 FU (by omega) (by unfold FU; omega)
      · unfold g_X12_grantOf_23
        dsimp only
        rw [show inb (6 : Int32) (ln 59) = true from rfl, gd_tt, show gr s1 59 (6 : Int32).toNatClampNeg = nI A from v1.2.2.mA, if_neg (lt_ge ha (by omega)), S_bit, bd_mk, show f_X12_ofAsk (nI a) (3 : Int32) s1 = some (F (75 + 4 * a + 3), s1) from M_ask v1 (c := 3) (by omega) (by omega), bd_mk, bnd_mk, bnd_mk, nI_1]
        rfl
      · unfold g_X12_grantOf_23
        dsimp only
        rw [show inb (6 : Int32) (ln 59) = true from rfl, gd_tt, show gr s1 59 (6 : Int32).toNatClampNeg = nI A from v1.2.2.mA, if_pos (le_rf A), hcg, bd_mk, bnd_mk]
    rw [inner]
    have keep : (1 ≤ i ∧ btA (fun x => woA F x A) (csV y1 s) i = btA (fun x => woA F x A) (csV y1 s) (i - 1)) → Ok (fun r s' => r = (bsA F A y1 s).2 ∧ gf s' 58 27 = nI (bsA F A y1 s).1 ∧ Fr [58] s s' ∧ ∀ c, c < 14 → gf s' 58 c = gf s 58 c) (f_X12_grantOf_86 K y1 y2 (nI i) s1) := by
      rintro ⟨hi1, hw⟩
      unfold f_X12_grantOf_86
      rw [bnd_mk, nI_1]
      refine hK _ c ⟨rfl, rfl, fun z => absurd z (by omega), fun _ => ?_, hf, h14⟩
      rw [show i + 1 - 1 = i by omega, hw]
      exact hp hi1
    have repl : btA (fun x => woA F x A) (csV y1 s) i = (i, woA F i A) → Ok (fun r s' => r = (bsA F A y1 s).2 ∧ gf s' 58 27 = nI (bsA F A y1 s).1 ∧ Fr [58] s s' ∧ ∀ c, c < 14 → gf s' 58 c = gf s 58 c) (f_X12_grantOf_86 K y1 (woA F i A) (nI i) (sf s1 58 27 (nI i))) := by
      intro hw
      unfold f_X12_grantOf_86
      rw [bnd_mk, nI_1]
      refine hK _ c ⟨rfl, rfl, fun z => absurd z (by omega), fun _ => ?_, hf.tr (Fr.c1 (by simp)), fun c' hc' => ?_⟩
      · rw [show i + 1 - 1 = i by omega, hw]
        refine ⟨rfl, ?_⟩
        show gf (sf s1 58 27 (nI i)) 58 27 = _
        rw [gf_sf_s, if_pos rfl]
      · show gf (sf s1 58 27 (nI i)) 58 c' = _
        rw [gf_sf_s, if_neg (by omega)]
        exact h14 c' hc'
    rcases Nat.eq_zero_or_pos i with hz | hi1
    · subst hz
      have hw0 : woA F 0 A = 0 := wo_0 F A (by omega)
      have hcs : csV y1 s 0 = 1 := by
        have h3 := hcg
        unfold f_X12_canGrant at h3
        rw [show f_X12_nextAsk (nI 0) (0 : Int32) s1 = some (enc (nk F 0 0 A), s1) from M_next v1 (x := 0) (f := 0) (by omega) (by omega), bd_mk, show FU = (FU - 1) + 1 from by unfold FU; omega, itr_succ] at h3
        rcases nk_spec F 0 0 A with ⟨h, -⟩ | ⟨b, h, hb, hxb, hfb, -⟩
        · unfold g_X12_canGrant_17 f_X12_canGrant_86 at h3
          dsimp only at h3
          rw [h, if_pos (show enc none = -1 from rfl), M_bitsN hA c, bd_mk, ob_0, if_pos (show (0 : Int32) = nI 0 from rfl), bz_1, gd_tt] at h3
          injection h3 with h4
          injection h4 with h5 h6
          exact h5.symm
        · rw [Nat.zero_testBit] at hxb
          exact absurd hxb (by decide)
      rw [hw0, h0 rfl, if_neg (show ¬ (0 : Int32) ≤ -1 from by decide), hcs, if_neg n10, ← hw0]
      exact repl (by rw [hw0]; rfl)
    · obtain ⟨j, rfl⟩ : ∃ j, i = j + 1 := ⟨i - 1, by omega⟩
      obtain ⟨a1, a2⟩ := hp hi1
      rw [Nat.add_sub_cancel] at a1 a2 keep
      have nx := bt_s (fun x => woA F x A) (csV y1 s) j
      refine okI (fun d => ?_) (fun d => ?_)
      · refine keep ⟨hi1, ?_⟩
        rw [a1] at d
        rw [nx, if_pos d]
      · rw [a1] at d
        rw [if_neg d] at nx
        refine okI (fun d1 => ?_) (fun d1 => ?_)
        · exact keep ⟨hi1, by rw [nx, if_pos d1]⟩
        · exact repl (by rw [nx, if_neg d1])
theorem IV.f51 {σ s1 s2 : St} (hI : IV σ) (h1 : Fr [51] σ s1) (h2 : Fr [58] s1 s2) (h14 : ∀ c, c < 14 → gf s2 58 c = gf s1 58 c) : IV s2 := by
  have i1 : IV s1 := hI.fr0 h1 (by decide) (fun c _ => by rw [(h1.1 58 (by decide)).1])
  exact i1.fr0 h2 (by decide) h14
theorem D_granted (σ : St) (hI : IV σ) : ∃ r s1 s2, f_X11_granted σ = some (r, s1) ∧ f_X12_granted s1 = some (r, s2) ∧ IV s2 := by
  obtain ⟨M, T, S, E, A, U, Y, L, P, N, v⟩ := hI.vw
  have hb := v.2.2
  unfold f_X11_granted f_X11_granted_23 f_X12_granted
  rw [S_isTold hb.hN hb.cN, bd_mk]
  by_cases c : 1 ≤ N
  · obtain ⟨r1, s1, e1, f1, ⟨o, hO⟩, q1⟩ := V_best v (0 : Int32)
    have v1 := v.fr f1 (by decide)
    obtain ⟨r2, s2, e2, q2, q3, f2, h14⟩ := M_grantOf v1 hO (0 : Int32)
    have iv2 := hI.f51 f1 f2 h14
    refine ⟨r1, s1, s2, by rw [b2_t c, if_neg n10, e1, bd_mk], ?_, iv2⟩
    rw [S_isWar hb.hN v1.2.2.mN, bd_mk, b2_t c, if_neg n10, e2, bd_mk, q3, q1]
  · refine ⟨-2, σ, σ, by rw [b2_f c, if_pos rfl], ?_, hI⟩
    rw [S_isWar hb.hN hb.mN, bd_mk, b2_f c, if_pos rfl]
theorem D_grant (σ : St) (hI : IV σ) : ∃ r s1 s2, f_X11_grant σ = some (r, s1) ∧ f_X12_grant s1 = some (r, s2) ∧ IV s2 := by
  obtain ⟨M, T, S, E, A, U, Y, L, P, N, v⟩ := hI.vw
  have hb := v.2.2
  unfold f_X11_grant f_X11_grant_30 f_X12_grant f_X12_grant_17
  rw [S_isTold hb.hN hb.cN, bd_mk]
  by_cases c : 1 ≤ N
  · obtain ⟨r1, s1, e1, f1, ⟨o, hO⟩, q1⟩ := V_best v (0 : Int32)
    have v1 := v.fr f1 (by decide)
    obtain ⟨r2, s2, e2, q2, q3, f2, h14⟩ := M_grantOf v1 hO (0 : Int32)
    have iv2 := hI.f51 f1 f2 h14
    refine ⟨r2, s1, s2, ?_, ?_, iv2⟩
    · rw [b2_t c, if_neg n10, e1, bd_mk, q1, V_worth v1, bd_mk, q2, (bt_inv (fun x => woA (gr σ 59) x A) (csV (0 : Int32) s1) (wo_0 (gr σ 59) A (by have := hb.hA; omega)) (2 ^ A - 1)).2]
    · rw [S_isWar hb.hN v1.2.2.mN, bd_mk, b2_t c, if_neg n10, e2, bd_mk]
  · refine ⟨-2, σ, σ, by rw [b2_f c, if_pos rfl], ?_, hI⟩
    rw [S_isWar hb.hN hb.mN, bd_mk, b2_f c, if_pos rfl]
theorem D_halved (σ : St) (hI : IV σ) : ∃ r s1 s2, f_X11_halved σ = some (r, s1) ∧ f_X12_halved s1 = some (r, s2) ∧ IV s2 := by
  obtain ⟨M, T, S, E, A, U, Y, L, P, N, v⟩ := hI.vw
  have hb := v.2.2
  unfold f_X11_halved f_X11_halved_23 f_X12_halved
  rw [S_isTold hb.hN hb.cN, bd_mk]
  by_cases c : 1 ≤ N
  · obtain ⟨r1, s1, e1, f1, ⟨o, hO⟩, q1⟩ := V_best v (1 : Int32)
    have v1 := v.fr f1 (by decide)
    obtain ⟨r2, s2, e2, q2, q3, f2, h14⟩ := M_grantOf v1 hO (1 : Int32)
    have iv2 := hI.f51 f1 f2 h14
    refine ⟨r1, s1, s2, by rw [b2_t c, if_neg n10, e1, bd_mk], ?_, iv2⟩
    rw [S_isWar hb.hN v1.2.2.mN, bd_mk, b2_t c, if_neg n10, e2, bd_mk, q3, q1]
  · refine ⟨-2, σ, σ, by rw [b2_f c, if_pos rfl], ?_, hI⟩
    rw [S_isWar hb.hN hb.mN, bd_mk, b2_f c, if_pos rfl]
theorem D_halves (σ : St) (hI : IV σ) : ∃ r s1 s2, f_X11_halves σ = some (r, s1) ∧ f_X12_halves s1 = some (r, s2) ∧ IV s2 := by
  obtain ⟨M, T, S, E, A, U, Y, L, P, N, v⟩ := hI.vw
  have hb := v.2.2
  unfold f_X11_halves f_X11_halves_30 f_X12_halves f_X12_halves_17
  rw [S_isTold hb.hN hb.cN, bd_mk]
  by_cases c : 1 ≤ N
  · obtain ⟨r1, s1, e1, f1, ⟨o, hO⟩, q1⟩ := V_best v (1 : Int32)
    have v1 := v.fr f1 (by decide)
    obtain ⟨r2, s2, e2, q2, q3, f2, h14⟩ := M_grantOf v1 hO (1 : Int32)
    have iv2 := hI.f51 f1 f2 h14
    refine ⟨r2, s1, s2, ?_, ?_, iv2⟩
    · rw [b2_t c, if_neg n10, e1, bd_mk, q1, V_worth v1, bd_mk, q2, (bt_inv (fun x => woA (gr σ 59) x A) (csV (1 : Int32) s1) (wo_0 (gr σ 59) A (by have := hb.hA; omega)) (2 ^ A - 1)).2]
    · rw [S_isWar hb.hN v1.2.2.mN, bd_mk, b2_t c, if_neg n10, e2, bd_mk]
  · refine ⟨-2, σ, σ, by rw [b2_f c, if_pos rfl], ?_, hI⟩
    rw [S_isWar hb.hN hb.mN, bd_mk, b2_f c, if_pos rfl]
