/-! ===== values: what the questions answer ===== -/
def VW (s : St) (F : Nat → Int32) (M T S E A U Y L P N : Nat) : Prop := WR s 1 F ∧ gr s 59 = F ∧ BB s M T S E A U Y L P N
theorem IV.vw {σ : St} (h : IV σ) : ∃ M T S E A U Y L P N, VW σ (gr σ 59) M T S E A U Y L P N := by
  obtain ⟨M, T, S, E, A, U, Y, L, P, N, hb⟩ := (h.2.2.2.2.1).1.bb
  exact ⟨M, T, S, E, A, U, Y, L, P, N, (h.2.2.2.2.1).1, rfl, hb⟩
theorem TV.cell {σ : St} {t : Nat} {F : Nat → Int32} {ix base wd room k i c : Nat} {lo hi : List Int} (h : TV σ t F ix base wd room lo hi) (hT : TB4 t wd room) (hk : gf σ t 3 = nI k) (hk6 : k ≤ 60) (hi' : i < k) (hc : c < wd) : f_X9_cell t (nI i) (nI c) σ = some (F (base + wd * i + c), σ) := by
  have hr : room ≤ 60 := hT.2.2.2.2.2.2.2.2.2.1
  obtain ⟨k', a1, a2, a3, a4⟩ := h
  obtain rfl : k = k' := (nI_eq (by omega) (by omega)).mp (hk.symm.trans a2)
  rw [S_getc hT a1 hi' hc a2, (a4 i hi' c hc).1]
theorem V_c3 {s : St} {F : Nat → Int32} {M T S E A U Y L P N : Nat} (v : VW s F M T S E A U Y L P N) {i c : Nat} (hi : i < T) (hc : c < 6) : f_X9_cell 3 (nI i) (nI c) s = some (F (13 + 6 * i + c), s) := by
  have := v.2.2.hT
  exact v.1.2.1.cell tb3 v.2.2.cT (by omega) hi hc
theorem V_c5 {s : St} {F : Nat → Int32} {M T S E A U Y L P N : Nat} (v : VW s F M T S E A U Y L P N) {i c : Nat} (hi : i < E) (hc : c < 2) : f_X9_cell 5 (nI i) (nI c) s = some (F (67 + 2 * i + c), s) := by
  have := v.2.2.hE
  exact v.1.2.2.1.cell tb5 v.2.2.cE (by omega) hi hc
/-! loops that count and change nothing -/
theorem itr_cnt {α β : Type} {body : (α → Option β) → α → Option β} (X : Nat → α) (m : Nat) (r : Option β) (hs : ∀ i (K : α → Option β), i < m → body K (X i) = K (X (i + 1))) (he : ∀ K : α → Option β, body K (X m) = r) : ∀ (c i n : Nat), i + c = m → c < n → itr body n (X i) = r := by
  intro c
  induction c with
  | zero =>
    intro i n hi hn
    obtain ⟨R, rfl⟩ : ∃ R, n = R + 1 := ⟨n - 1, by omega⟩
    obtain rfl : i = m := by omega
    rw [itr_succ]
    exact he _
  | succ c ih =>
    intro i n hi hn
    obtain ⟨R, rfl⟩ : ∃ R, n = R + 1 := ⟨n - 1, by omega⟩
    rw [itr_succ, hs i _ (by omega)]
    exact ih (i + 1) R (by omega) (by omega)
/-- two loops side by side, which may end early -/
theorem itr_two {α β γ : Type} {b1 : (α → Option (γ × St)) → α → Option (γ × St)} {b2 : (β → Option (γ × St)) → β → Option (γ × St)} (X : Nat → α) (Z : Nat → β) (m : Nat) (s1 s2 : St)
    (hs : ∀ i, i < m → (∃ r, (∀ K, b1 K (X i) = some (r, s1)) ∧ ∀ K, b2 K (Z i) = some (r, s2)) ∨ ((∀ K, b1 K (X i) = K (X (i + 1))) ∧ ∀ K, b2 K (Z i) = K (Z (i + 1))))
    (he : ∃ r, (∀ K, b1 K (X m) = some (r, s1)) ∧ ∀ K, b2 K (Z m) = some (r, s2)) : ∀ (c i n n' : Nat), i + c = m → c < n → c < n' → ∃ r, itr b1 n (X i) = some (r, s1) ∧ itr b2 n' (Z i) = some (r, s2) := by
  intro c
  induction c with
  | zero =>
    intro i n n' hi hn hn'
    obtain ⟨R, rfl⟩ : ∃ R, n = R + 1 := ⟨n - 1, by omega⟩
    obtain ⟨R', rfl⟩ : ∃ R', n' = R' + 1 := ⟨n' - 1, by omega⟩
    obtain rfl : i = m := by omega
    obtain ⟨r, h1, h2⟩ := he
    exact ⟨r, by rw [itr_succ, h1], by rw [itr_succ, h2]⟩
  | succ c ih =>
    intro i n n' hi hn hn'
    obtain ⟨R, rfl⟩ : ∃ R, n = R + 1 := ⟨n - 1, by omega⟩
    obtain ⟨R', rfl⟩ : ∃ R', n' = R' + 1 := ⟨n' - 1, by omega⟩
    rcases hs i (by omega) with ⟨r, h1, h2⟩ | ⟨h1, h2⟩
    · exact ⟨r, by rw [itr_succ, h1], by rw [itr_succ, h2]⟩
    · obtain ⟨r, g1, g2⟩ := ih (i + 1) R R' (by omega) (by omega) (by omega)
      exact ⟨r, by rw [itr_succ, h1, g1], by rw [itr_succ, h2, g2]⟩
theorem lt_ge {i m : Nat} (h : i < m) (hm : m < 2147483648) : ¬ nI m ≤ nI i := nI_ge h (by omega)
theorem le_rf (m : Nat) : nI m ≤ nI m := by rw [le_toInt]; exact Int.le_refl _
/-! TEAS -/
theorem V_isTea {s : St} {F : Nat → Int32} {M T S E A U Y L P N : Nat} (v : VW s F M T S E A U Y L P N) (m : Int32) : ∃ r, f_X10_isTea 1 m s = some (r, s) ∧ f_X12_isTea m s = some (r, s) := by
  have hE := v.2.2.hE
  unfold f_X10_isTea f_X12_isTea
  rw [isW_lit (Or.inl rfl), gd_tt]
  refine itr_two (fun i => (m, nI i, s)) (fun i => (m, nI i, s)) E s s (fun i hi => ?_) ?_ E 0 FU FU (by omega) (by unfold FU; omega) (by unfold FU; omega)
  · have e1 : inb ((67 : Int32) + (2 : Int32) * nI i) (ln 59) = true ∧ ((67 : Int32) + (2 : Int32) * nI i).toNatClampNeg = 67 + 2 * i := by
      simp only [zL67, zL2, nI_mul, nI_add]
      exact ⟨inb_ln (n := 240) rfl (by omega) (by omega), nI_clamp (by omega)⟩
    have e2 : inb ((67 : Int32) + (2 : Int32) * nI i + 1) (ln 59) = true ∧ ((67 : Int32) + (2 : Int32) * nI i + 1).toNatClampNeg = 67 + 2 * i + 1 := by
      simp only [zL67, zL2, nI_mul, nI_add, nI_1]
      exact ⟨inb_ln (n := 240) rfl (by omega) (by omega), nI_clamp (by omega)⟩
    have hM : ∀ K : Int32 × Int32 × St → Option (Int32 × St), g_X12_isTea_2 K (m, nI i, s) = if F (67 + 2 * i) ≤ m ∧ m ≤ F (67 + 2 * i + 1) then some (1, s) else K (m, nI (i + 1), s) := fun K => by
      unfold g_X12_isTea_2
      dsimp only
      rw [show inb (5 : Int32) (ln 59) = true from rfl, gd_tt, show gr s 59 (5 : Int32).toNatClampNeg = nI E from v.2.2.mE, if_neg (lt_ge hi (by omega)), e1.1, gd_tt, e2.1, gd_tt, e1.2, e2.2, v.2.1, S_in32, bd_mk, nI_1, bz_1, gd_tt]
      by_cases c : F (67 + 2 * i) ≤ m ∧ m ≤ F (67 + 2 * i + 1)
      · rw [if_pos c, b2_t (by rw [le_toInt, le_toInt] at c; exact c), if_neg n10]
      · rw [if_neg c, b2_f (by rw [le_toInt, le_toInt] at c; exact c), if_pos rfl]
        rfl
    have hC : ∀ K : Int32 × Int32 × St → Option (Int32 × St), g_X10_isTea_2 1 K (m, nI i, s) = if F (67 + 2 * i) ≤ m ∧ m ≤ F (67 + 2 * i + 1) then some (1, s) else K (m, nI (i + 1), s) := fun K => by
      unfold g_X10_isTea_2 f_X10_isTea_41
      dsimp only
      rw [isW_lit (Or.inl rfl), gd_tt, show gf s (1 + 4) 3 = nI E from v.2.2.cE, if_neg (lt_ge hi (by omega)), show f_X9_cell (1 + 4) (nI i) (0 : Int32) s = some (F (67 + 2 * i), s) from V_c5 v (c := 0) hi (by omega), bd_mk, isW_lit (Or.inl rfl), gd_tt, show f_X9_cell (1 + 4) (nI i) (1 : Int32) s = some (F (67 + 2 * i + 1), s) from V_c5 v (c := 1) hi (by omega), bd_mk, nI_1, bz_1, gd_tt]
      by_cases c1 : m < F (67 + 2 * i)
      · rw [if_pos c1, if_neg]
        · rfl
        · rw [lt_toInt] at c1
          rw [le_toInt, le_toInt]
          omega
      · rw [if_neg c1]
        by_cases c2 : F (67 + 2 * i + 1) < m
        · rw [if_pos c2, if_neg]
          · rfl
          · rw [lt_toInt] at c2
            rw [le_toInt, le_toInt]
            omega
        · rw [if_neg c2, if_pos]
          rw [lt_toInt] at c1 c2
          rw [le_toInt, le_toInt]
          omega
    by_cases c : F (67 + 2 * i) ≤ m ∧ m ≤ F (67 + 2 * i + 1)
    · exact Or.inl ⟨1, fun K => by rw [hC, if_pos c], fun K => by rw [hM, if_pos c]⟩
    · exact Or.inr ⟨fun K => by rw [hC, if_neg c], fun K => by rw [hM, if_neg c]⟩
  · refine ⟨0, fun K => ?_, fun K => ?_⟩
    · unfold g_X10_isTea_2
      dsimp only
      rw [isW_lit (Or.inl rfl), gd_tt, show gf s (1 + 4) 3 = nI E from v.2.2.cE, if_pos (le_rf E), bz_0, gd_tt]
    · unfold g_X12_isTea_2
      dsimp only
      rw [show inb (5 : Int32) (ln 59) = true from rfl, gd_tt, show gr s 59 (5 : Int32).toNatClampNeg = nI E from v.2.2.mE, if_pos (le_rf E), bz_0, gd_tt]
/-! how many -/
/-! ===== values: who is there, who has surrendered ===== -/
/-- is TRAIN i among these -/
def bitOf (x : Int32) (i : Nat) : Int32 := (x >>> (nI i &&& 31)) &&& 1
theorem and1 (x : Int32) : x &&& 1 = 0 ∨ x &&& 1 = 1 := by
  obtain ⟨k, hk, e⟩ := and_lt (i := 1) (n := 2) x (by omega) (by omega)
  have e2 : x &&& 1 = nI k := by
    rw [← e]
    apply Int32.toBitVec.inj
    rw [Int32.toBitVec_and, Int32.toBitVec_and]
    exact BitVec.and_comm _ _
  rw [e2]
  rcases (by omega : k = 0 ∨ k = 1) with rfl | rfl
  · exact Or.inl rfl
  · exact Or.inr rfl
theorem S_isIn (x : Int32) (i : Nat) (σ : St) : f_X10_isIn x (nI i) σ = some (bitOf x i, σ) := by
  unfold f_X10_isIn f_X10_isIn_13 bitOf
  rw [bz_0, bz_1, gd_tt, gd_tt]
  rcases and1 (x >>> (nI i &&& 31)) with e | e
  · rw [e, if_pos rfl]
  · rw [e, if_neg n10]
theorem bit01 (x : Int32) (i : Nat) : bitOf x i = 0 ∨ bitOf x i = 1 := and1 _
/-- when TRAIN i comes -/
def arrA (F : Nat → Int32) (x : Int32) (i : Nat) : Int32 := F (13 + 6 * i + 2) + bitOf x i * F (13 + 6 * i + 4)
theorem V_arrival {s : St} {F : Nat → Int32} {M T S E A U Y L P N : Nat} (v : VW s F M T S E A U Y L P N) {i : Nat} (x : Int32) (hi : i < T) : f_X10_arrival 1 (nI i) x s = some (arrA F x i, s) := by
  unfold f_X10_arrival f_X10_arrival_30 arrA
  rw [isW_lit (Or.inl rfl), gd_tt, show f_X9_cell (1 + 2) (nI i) (2 : Int32) s = some (F (13 + 6 * i + 2), s) from V_c3 v (c := 2) hi (by omega), bd_mk, S_isIn, bd_mk]
  rcases bit01 x i with e | e
  · rw [e, if_pos rfl, Int32.zero_mul]
  · rw [e, if_neg n10, isW_lit (Or.inl rfl), gd_tt, show f_X9_cell (1 + 2) (nI i) (4 : Int32) s = some (F (13 + 6 * i + 4), s) from V_c3 v (c := 4) hi (by omega), bd_mk, Int32.one_mul]
/-- MEN of a side at a minute, of the first i TRAINS -/
def menA (F : Nat → Int32) (p m x : Int32) : Nat → Int32
  | 0 => 0
  | i + 1 => menA F p m x i + (if F (13 + 6 * i + 0) = p ∧ ¬ m < arrA F x i then F (13 + 6 * i + 1) else 0)
theorem V_men {s : St} {F : Nat → Int32} {M T S E A U Y L P N : Nat} (v : VW s F M T S E A U Y L P N) (p m x : Int32) : f_X10_menThere 1 p m x s = some (menA F p m x T, s) := by
  have hT := v.2.2.hT
  unfold f_X10_menThere
  rw [isW_lit (Or.inl rfl), gd_tt]
  refine itr_cnt (fun i => (p, m, x, menA F p m x i, nI i, s)) T _ (fun i K hi => ?_) (fun K => ?_) T 0 FU (by omega) (by unfold FU; omega)
  · unfold g_X10_menThere_6 f_X10_menThere_58
    dsimp only
    rw [isW_lit (Or.inl rfl), gd_tt, show gf s (1 + 2) 3 = nI T from v.2.2.cT, if_neg (lt_ge hi (by omega)), show f_X9_cell (1 + 2) (nI i) (0 : Int32) s = some (F (13 + 6 * i + 0), s) from V_c3 v (c := 0) hi (by omega), bd_mk, nI_1]
    show _ = K (p, m, x, menA F p m x i + (if F (13 + 6 * i + 0) = p ∧ ¬ m < arrA F x i then F (13 + 6 * i + 1) else 0), nI (i + 1), s)
    by_cases c : F (13 + 6 * i + 0) = p
    · rw [if_pos c, V_arrival v x hi, bd_mk]
      by_cases c1 : m < arrA F x i
      · rw [if_pos c1, if_neg (fun z => z.2 c1), Int32.add_zero]
        rfl
      · rw [if_neg c1, if_pos ⟨c, c1⟩, isW_lit (Or.inl rfl), gd_tt, show f_X9_cell (1 + 2) (nI i) (1 : Int32) s = some (F (13 + 6 * i + 1), s) from V_c3 v (c := 1) hi (by omega), bd_mk]
        rfl
    · rw [if_neg c, if_neg (fun z => c z.1), Int32.add_zero]
      rfl
  · unfold g_X10_menThere_6
    dsimp only
    rw [isW_lit (Or.inl rfl), gd_tt, show gf s (1 + 2) 3 = nI T from v.2.2.cT, if_pos (le_rf T)]
theorem V_need {s : St} {F : Nat → Int32} {M T S E A U Y L P N : Nat} (v : VW s F M T S E A U Y L P N) {i : Nat} (hi : i < 2) : f_X10_needOf 1 (nI i) s = some (F (11 + i), s) := by
  rw [S_needOf hi]
  obtain ⟨l, m, a, p, r, d, e, y1, y2, y3, y4, y5, y6, y7, y8, u1, u2, u3, u4, u5, u6, u7, u8, u9, u10, u11, u12, u13, u14⟩ := v.1.1
  rcases (by omega : i = 0 ∨ i = 1) with rfl | rfl
  · rw [show gr s 2 0 = nI d from u11, show F (11 + 0) = nI d from u12]
  · rw [show gr s 2 1 = nI e from u13, show F (11 + 1) = nI e from u14]
/-- has side i not enough by the last minute -/
def lateA (F : Nat → Int32) (L T : Nat) (i : Nat) (x : Int32) : Int32 := if F (11 + i) ≤ menA F (nI i) (nI L) x T then 0 else 1
def lat2 (F : Nat → Int32) (L T : Nat) (x : Int32) : Nat → Int32
  | 0 => 0
  | i + 1 => if F (11 + i) ≤ menA F (nI i) (nI L) x T then lat2 F L T x i else lat2 F L T x i ||| ((1 : Int32) <<< (nI i &&& 31))
def comA (F : Nat → Int32) (m x : Int32) : Nat → Int32
  | 0 => 0
  | i + 1 => comA F m x i ||| (if arrA F x i = m then (1 : Int32) <<< (nI i &&& 31) else 0)
theorem or0 (x : Int32) : x ||| 0 = x := by
  apply Int32.toBitVec.inj
  rw [Int32.toBitVec_or]
  exact BitVec.or_zero
theorem V_comes {s : St} {F : Nat → Int32} {M T S E A U Y L P N : Nat} (v : VW s F M T S E A U Y L P N) (m x : Int32) : f_X10_comingIn 1 m x s = some (comA F m x T, s) := by
  have hT := v.2.2.hT
  unfold f_X10_comingIn
  rw [isW_lit (Or.inl rfl), gd_tt]
  refine itr_cnt (fun i => (m, x, comA F m x i, nI i, s)) T _ (fun i K hi => ?_) (fun K => ?_) T 0 FU (by omega) (by unfold FU; omega)
  · unfold g_X10_comingIn_5 f_X10_comingIn_35
    dsimp only
    rw [isW_lit (Or.inl rfl), gd_tt, show gf s (1 + 2) 3 = nI T from v.2.2.cT, if_neg (lt_ge hi (by omega)), V_arrival v x hi, bd_mk, nI_1]
    show _ = K (m, x, comA F m x i ||| (if arrA F x i = m then (1 : Int32) <<< (nI i &&& 31) else 0), nI (i + 1), s)
    by_cases c : arrA F x i = m
    · rw [if_pos c, if_pos c]
      rfl
    · rw [if_neg c, if_neg c, or0]
      rfl
  · unfold g_X10_comingIn_5
    dsimp only
    rw [isW_lit (Or.inl rfl), gd_tt, show gf s (1 + 2) 3 = nI T from v.2.2.cT, if_pos (le_rf T)]
/-! ===== values: the front ===== -/
theorem VW.fr {s s' : St} {F : Nat → Int32} {M T S E A U Y L P N : Nat} {l : List Nat} (v : VW s F M T S E A U Y L P N) (hf : Fr l s s') (hl : ∀ i ∈ l, 15 ≤ i ∧ i ≠ 59) : VW s' F M T S E A U Y L P N := by
  have hn : ∀ i, (i < 15 ∨ i = 59) → gf s' i = gf s i ∧ gr s' i = gr s i := fun i hi => by
    have := hf.1 i (fun hm => by have := hl i hm; omega)
    exact ⟨this.1, this.2.1⟩
  obtain ⟨h1, h2, a1, a2, a3, a4, a5, a6, a7, a8, a9, a10, b0, b1, b2', b3, b4, b5, b6, b7, b8, c1, c2, c3, c4, c5, c6, c7, c8, c9⟩ := v
  have g1 := (hn 1 (by omega)).1
  have g59 := (hn 59 (by omega)).2
  refine ⟨?_, by rw [g59]; exact h2, a1, a2, a3, a4, a5, a6, a7, a8, a9, a10, by rw [g1]; exact b0, by rw [g1]; exact b1, by rw [g1]; exact b2', by rw [g1]; exact b3, by rw [(hn 3 (by omega)).1]; exact b4, by rw [(hn 5 (by omega)).1]; exact b5, by rw [(hn 7 (by omega)).1]; exact b6, by rw [(hn 9 (by omega)).1]; exact b7, by rw [(hn 11 (by omega)).1]; exact b8, by rw [g59]; exact c1, by rw [g59]; exact c2, by rw [g59]; exact c3, by rw [g59]; exact c4, by rw [g59]; exact c5, by rw [g59]; exact c6, by rw [g59]; exact c7, by rw [g59]; exact c8, by rw [g59]; exact c9⟩
  refine WR.be (w := 1) (u := 1) h1 ⟨fun k _ => by rw [(hn 1 (by omega)).1], fun j _ => by rw [(hn (1 + 1) (by omega)).2], fun t ht => ?_⟩
  have ht' : t ≤ 12 := by omega
  exact ⟨by rw [(hn (1 + t) (by omega)).1], fun j _ => by rw [(hn (1 + t + 1) (by omega)).2]⟩
/-- the first that fits -/
def anyV (Q : Nat → Prop) [DecidablePred Q] : Nat → Nat → Int32
  | 0, _ => 0
  | c + 1, i => if Q i then 1 else anyV Q c (i + 1)
theorem itr_any {α : Type} {body : (α → Option (Int32 × St)) → α → Option (Int32 × St)} (X : Nat → α) (m : Nat) (s : St) (Q : Nat → Prop) [DecidablePred Q] (hs : ∀ i (K : α → Option (Int32 × St)), i < m → body K (X i) = if Q i then some (1, s) else K (X (i + 1))) (he : ∀ K : α → Option (Int32 × St), body K (X m) = some (0, s)) : ∀ (c i n : Nat), i + c = m → c < n → itr body n (X i) = some (anyV Q c i, s) := by
  intro c
  induction c with
  | zero =>
    intro i n hi hn
    obtain ⟨R, rfl⟩ : ∃ R, n = R + 1 := ⟨n - 1, by omega⟩
    obtain rfl : i = m := by omega
    rw [itr_succ, he]
    rfl
  | succ c ih =>
    intro i n hi hn
    obtain ⟨R, rfl⟩ : ∃ R, n = R + 1 := ⟨n - 1, by omega⟩
    rw [itr_succ, hs i _ (by omega)]
    show _ = some ((if Q i then 1 else anyV Q c (i + 1)), s)
    by_cases e : Q i
    · rw [if_pos e, if_pos e]
    · rw [if_neg e, if_neg e]
      exact ih (i + 1) R (by omega) (by omega)
def teaV (F : Nat → Int32) (E : Nat) (m : Int32) : Int32 := anyV (fun i => F (67 + 2 * i) ≤ m ∧ m ≤ F (67 + 2 * i + 1)) E 0
theorem M_tea {s : St} {F : Nat → Int32} {M T S E A U Y L P N : Nat} (v : VW s F M T S E A U Y L P N) (m : Int32) : f_X12_isTea m s = some (teaV F E m, s) := by
  have hE := v.2.2.hE
  unfold f_X12_isTea
  refine itr_any (fun i => (m, nI i, s)) E s (fun i => F (67 + 2 * i) ≤ m ∧ m ≤ F (67 + 2 * i + 1)) (fun i K hi => ?_) (fun K => ?_) E 0 FU (by omega) (by unfold FU; omega)
  · have e1 : inb ((67 : Int32) + (2 : Int32) * nI i) (ln 59) = true ∧ ((67 : Int32) + (2 : Int32) * nI i).toNatClampNeg = 67 + 2 * i := by
      simp only [zL67, zL2, nI_mul, nI_add]
      exact ⟨inb_ln (n := 240) rfl (by omega) (by omega), nI_clamp (by omega)⟩
    have e2 : inb ((67 : Int32) + (2 : Int32) * nI i + 1) (ln 59) = true ∧ ((67 : Int32) + (2 : Int32) * nI i + 1).toNatClampNeg = 67 + 2 * i + 1 := by
      simp only [zL67, zL2, nI_mul, nI_add, nI_1]
      exact ⟨inb_ln (n := 240) rfl (by omega) (by omega), nI_clamp (by omega)⟩
    unfold g_X12_isTea_2
    dsimp only
    rw [show inb (5 : Int32) (ln 59) = true from rfl, gd_tt, show gr s 59 (5 : Int32).toNatClampNeg = nI E from v.2.2.mE, if_neg (lt_ge hi (by omega)), e1.1, gd_tt, e2.1, gd_tt, e1.2, e2.2, v.2.1, S_in32, bd_mk, nI_1, bz_1, gd_tt]
    by_cases c : F (67 + 2 * i) ≤ m ∧ m ≤ F (67 + 2 * i + 1)
    · rw [if_pos c, b2_t (by rw [le_toInt, le_toInt] at c; exact c), if_neg n10]
    · rw [if_neg c, b2_f (by rw [le_toInt, le_toInt] at c; exact c), if_pos rfl]
      rfl
  · unfold g_X12_isTea_2
    dsimp only
    rw [show inb (5 : Int32) (ln 59) = true from rfl, gd_tt, show gr s 59 (5 : Int32).toNatClampNeg = nI E from v.2.2.mE, if_pos (le_rf E), bz_0, gd_tt]
theorem V_tea {s : St} {F : Nat → Int32} {M T S E A U Y L P N : Nat} (v : VW s F M T S E A U Y L P N) (m : Int32) : f_X10_isTea 1 m s = some (teaV F E m, s) := by
  obtain ⟨r, h1, h2⟩ := V_isTea v m
  rw [M_tea v] at h2
  rw [h1]
  cases h2
  rfl
def sgnI (x : Int32) : Int32 := if x ≤ 0 then (if 0 ≤ x then 0 else -1) else 1
/-- where the front stands -/
def frA (F : Nat → Int32) (E T : Nat) (x : Int32) : Nat → Int32
  | 0 => 0
  | i + 1 => frA F E T x i + sgnI (if teaV F E (nI i) = 0 then menA F 0 (nI i) x T - menA F 1 (nI i) x T else 0)
theorem S_sgn (x : Int32) (σ : St) : f_X2_signOf x σ = some (sgnI x, σ) := by
  unfold f_X2_signOf f_X2_signOf_17 sgnI
  by_cases c : x ≤ 0
  · rw [if_pos c, if_pos c]
    by_cases c1 : 0 ≤ x
    · rw [if_pos c1, if_pos c1]
    · rw [if_neg c1, if_neg c1]
  · rw [if_neg c, if_neg c]
theorem sgn0 : sgnI 0 = 0 := by decide
theorem IV.f2 {σ s1 s2 : St} (hI : IV σ) (h1 : Fr [32] σ s1) (h2 : Fr [65] s1 s2) : IV s2 := by
  have h := (h1.mo (l' := [32, 65]) (by simp)).tr (h2.mo (l' := [32, 65]) (by simp))
  exact hI.fr0 h (by decide) (fun c _ => by rw [(h.1 58 (by decide)).1])
/-- who wins -/
def winA (F : Nat → Int32) (M E T L : Nat) (x : Int32) : Int32 := if lateA F L T 0 x = lateA F L T 1 x then (if frA F E T x M ≤ 0 then (if 0 ≤ frA F E T x M then -1 else 1) else 0) else (if lateA F L T 0 x = 0 then 0 else 1)
theorem lat2_cases (F : Nat → Int32) (L T : Nat) (x : Int32) : (lateA F L T 0 x = 0 ∧ lateA F L T 1 x = 0 ∧ lat2 F L T x 2 = 0) ∨ (lateA F L T 0 x = 1 ∧ lateA F L T 1 x = 0 ∧ lat2 F L T x 2 = 1) ∨ (lateA F L T 0 x = 0 ∧ lateA F L T 1 x = 1 ∧ lat2 F L T x 2 = 2) ∨ (lateA F L T 0 x = 1 ∧ lateA F L T 1 x = 1 ∧ lat2 F L T x 2 = 3) := by
  have e : lat2 F L T x 2 = (if F (11 + 1) ≤ menA F (nI 1) (nI L) x T then (if F (11 + 0) ≤ menA F (nI 0) (nI L) x T then (0 : Int32) else 0 ||| ((1 : Int32) <<< (nI 0 &&& 31))) else (if F (11 + 0) ≤ menA F (nI 0) (nI L) x T then (0 : Int32) else 0 ||| ((1 : Int32) <<< (nI 0 &&& 31))) ||| ((1 : Int32) <<< (nI 1 &&& 31))) := rfl
  rw [e]
  unfold lateA
  by_cases c0 : F (11 + 0) ≤ menA F (nI 0) (nI L) x T
  · by_cases c1 : F (11 + 1) ≤ menA F (nI 1) (nI L) x T
    · exact Or.inl ⟨if_pos c0, if_pos c1, by rw [if_pos c1, if_pos c0]⟩
    · exact Or.inr (Or.inr (Or.inl ⟨if_pos c0, if_neg c1, by rw [if_neg c1, if_pos c0]; rfl⟩))
  · by_cases c1 : F (11 + 1) ≤ menA F (nI 1) (nI L) x T
    · exact Or.inr (Or.inl ⟨if_neg c0, if_pos c1, by rw [if_pos c1, if_neg c0]; rfl⟩)
    · exact Or.inr (Or.inr (Or.inr ⟨if_neg c0, if_neg c1, by rw [if_neg c1, if_neg c0]; rfl⟩))
theorem S_winner (F : Nat → Int32) (M E T L : Nat) (x : Int32) (σ : St) : f_X2_winner (lat2 F L T x 2) (frA F E T x M) σ = some (winA F M E T L x, σ) := by
  have hf : (if frA F E T x M ≤ 0 then if 0 ≤ frA F E T x M then f_X2_winner_49 (-1) σ else f_X2_winner_49 1 σ else f_X2_winner_49 0 σ) = some ((if frA F E T x M ≤ 0 then (if 0 ≤ frA F E T x M then -1 else 1) else 0), σ) := by
    unfold f_X2_winner_49
    by_cases c : frA F E T x M ≤ 0
    · rw [if_pos c, if_pos c]
      by_cases c1 : 0 ≤ frA F E T x M
      · rw [if_pos c1, if_pos c1]
      · rw [if_neg c1, if_neg c1]
    · rw [if_neg c, if_neg c]
  unfold f_X2_winner winA
  rcases lat2_cases F L T x with ⟨a, b, c⟩ | ⟨a, b, c⟩ | ⟨a, b, c⟩ | ⟨a, b, c⟩
  · rw [a, b, c, if_neg (by decide), if_neg (by decide), if_pos rfl]; exact hf
  · rw [a, b, c, if_pos rfl, if_neg (by decide), if_neg (by decide)]
  · rw [a, b, c, if_neg (by decide), if_pos rfl, if_neg (by decide), if_pos rfl]
  · rw [a, b, c, if_neg (by decide), if_neg (by decide), if_pos rfl]; exact hf
/-! ===== values: swings, treaties, prices of peace, Wednesdays, spies ===== -/
/-! how far the front moves behind a minute -/
/-! Wednesdays -/
/-! SPIES that fit -/
/-! ===== values: wars drawn ===== -/
theorem VW.rain {s : St} {F : Nat → Int32} {M T S E A U Y L P N : Nat} (v : VW s F M T S E A U Y L P N) : gf s 1 4 = F 3 := by
  obtain ⟨l, m, a', p, r, d, e, y1, y2, y3, y4, y5, y6, y7, y8, u1, u2, u3, u4, u5, u6, u7, u8, u9, u10, -⟩ := v.1.1
  exact u9.trans u10.symm
/-! ===== values: readings of the rules ===== -/
/-! the closest and the widest reading -/
/-! ===== values: bits, bounds to be told ===== -/
theorem sh31 : ∀ j, j < 32 → nI j &&& 31 = nI j := by decide +kernel
theorem smod32 : ∀ j, j < 32 → ((nI j).toBitVec.smod 32).toNat = j := by decide +kernel
theorem bit_lsb (x : Int32) {j : Nat} (hj : j < 31) : bitOf x j = if x.toBitVec.getLsbD j then 1 else 0 := by
  have e : bitOf x j = if x.toBitVec.getLsbD j = true then (1 : Int32) else 0 := by
    unfold bitOf
    rw [sh31 j (by omega)]
    apply Int32.toBitVec.inj
    rw [Int32.toBitVec_and, Int32.toBitVec_shiftRight]
    have hs := smod32 j (by omega)
    apply BitVec.eq_of_getLsbD_eq
    intro i hi
    rw [BitVec.getLsbD_and, BitVec.sshiftRight', BitVec.getLsbD_sshiftRight, hs]
    by_cases c : x.toBitVec.getLsbD j = true
    · rw [if_pos c]
      by_cases i0 : i = 0
      · subst i0
        simp [c]
        omega
      · have h1 : (Int32.toBitVec 1).getLsbD i = false := by
          show (1#32).getLsbD i = false
          rw [BitVec.getLsbD_one]
          simp [i0]
        rw [h1, Bool.and_false]
    · rw [if_neg c]
      have h0 : (Int32.toBitVec 0).getLsbD i = false := by
        show (0#32).getLsbD i = false
        exact BitVec.getLsbD_zero
      rw [h0]
      by_cases i0 : i = 0
      · subst i0
        simp at c
        simp [c]
        omega
      · have h1 : (Int32.toBitVec 1).getLsbD i = false := by
          show (1#32).getLsbD i = false
          rw [BitVec.getLsbD_one]
          simp [i0]
        rw [h1, Bool.and_false]
  exact e
theorem least {Q : Nat → Prop} : ∀ n, Q n → ∃ k, k ≤ n ∧ Q k ∧ ∀ j, j < k → ¬ Q j := by
  intro n
  induction n using Nat.strongRecOn with
  | ind n ih =>
    intro h
    by_cases c : ∃ j, j < n ∧ Q j
    · obtain ⟨j, hj, hq⟩ := c
      obtain ⟨k, a, b, d⟩ := ih j hj hq
      exact ⟨k, by omega, b, d⟩
    · exact ⟨n, Nat.le_refl _, h, fun j hj hq => c ⟨j, hj, hq⟩⟩
/-! ===== values: the spy ===== -/
theorem lsb_0 (j : Nat) : (0 : Int32).toBitVec.getLsbD j = false := BitVec.getLsbD_zero
/-! ===== values: what is known to the spies that fit ===== -/
theorem lsb_nI {k j : Nat} (hk : k < 512) (hj : j < 32) : (nI k).toBitVec.getLsbD j = k.testBit j := by
  show (BitVec.ofNat 32 k).getLsbD j = _
  rw [BitVec.getLsbD_ofNat, decide_eq_true hj, Bool.true_and]
theorem VW.spy {s : St} {F : Nat → Int32} {M T S E A U Y L P N : Nat} (v : VW s F M T S E A U Y L P N) {i : Nat} (hi : i < Y) : ∃ f, f < 2 ^ T ∧ f < 512 ∧ F (115 + i) = nI f := by
  have hY := v.2.2.hY
  have hT := v.2.2.hT
  obtain ⟨k, a1, a2, a3, a4⟩ := v.1.2.2.2.2.2.1
  obtain rfl : Y = k := (nI_eq (by omega) (by omega)).mp (v.2.2.cY.symm.trans a2)
  have h := (a4 i hi 0 (by omega)).2
  rw [Nat.one_mul, Nat.add_zero] at h
  replace h : 0 ≤ (F (115 + i)).toInt ∧ (F (115 + i)).toInt ≤ 511 := h
  obtain ⟨f, hf, e⟩ := nI_ofT (x := F (115 + i)) (n := 511) h.1 h.2
  have hs := v.1.2.2.2.2.2.2.2.2.1 Y T a3 hY (by rw [← v.2.1]; exact v.2.2.mT) hT i hi
  rw [e, nI_toInt (by omega)] at hs
  refine ⟨f, ?_, by omega, e⟩
  have : ((f : Nat) : Int) < ((2 ^ T : Nat) : Int) := by
    rw [Int.natCast_pow]
    exact hs
  omega
/-! ===== values: Wednesdays without rain ===== -/
/-! powers, choices -/
/-! ===== values: all sets of delays at once ===== -/
theorem or_add {i t : Nat} (h : i < 2 ^ t) : i ||| 2 ^ t = 2 ^ t + i := by
  have := Nat.two_pow_add_eq_or_of_lt h 1
  rw [Nat.mul_one] at this
  rw [this, Nat.or_comm]
theorem or_split {x t : Nat} (h1 : 2 ^ t ≤ x) (h2 : x < 2 ^ (t + 1)) : x - 2 ^ t < 2 ^ t ∧ x = (x - 2 ^ t) ||| 2 ^ t := by
  rw [Nat.pow_succ] at h2
  have h3 : x - 2 ^ t < 2 ^ t := by omega
  refine ⟨h3, ?_⟩
  rw [or_add h3]
  omega
theorem bit_nI {k i : Nat} (hk : k < 512) (hi : i < 31) : bitOf (nI k) i = if k.testBit i then 1 else 0 := by
  rw [bit_lsb _ hi, lsb_nI hk (by omega)]
theorem V_spread {u t : Nat} {p : Int32} {s : St} (ht : t < 9) (hu : kd u = 13 ∧ u < 75) (hl : ln u = 512) : Ok (fun _ s' => Fr [u] s s' ∧ (∀ i, i < 2 ^ t → gr s' u (i ||| 2 ^ t) = gr s u i + p) ∧ ∀ z, z < 2 ^ t → gr s' u z = gr s u z) (f_X10_spread u (nI t) p s) := by
  have hA : ∀ s, isA s u = true := fun s => by
    unfold isA
    rw [decide_eq_true hu.1, decide_eq_true (lt_lit hu.2)]
    rfl
  have hk := two_512 ht
  have hp : 2 ^ t ≤ 256 := by
    calc 2 ^ t ≤ 2 ^ 8 := Nat.pow_le_pow_right (by decide) (by omega)
      _ = 256 := rfl
  unfold f_X10_spread
  rw [hA, gd_tt, bnd_mk, nI_shl (by omega)]
  refine okC (fun (i : Nat) (x : Int32 × Int32 × Int32 × St) => x.1 = p ∧ x.2.1 = nI (2 ^ t) ∧ x.2.2.1 = nI i ∧ Fr [u] s x.2.2.2 ∧ (∀ j, j < i → gr x.2.2.2 u (j ||| 2 ^ t) = gr s u j + p) ∧ ∀ z, z < 2 ^ t → gr x.2.2.2 u z = gr s u z) (2 ^ t) ?_ (i := 0) (by unfold FU; omega) (Nat.zero_le _) ⟨rfl, rfl, rfl, Fr.rf, fun j hj => absurd hj (by omega), fun _ _ => rfl⟩
  rintro i ⟨v1, v2, v3, s2⟩ K hi ⟨e1, e2, e3, hf, h1, h2⟩ hK
  dsimp only at e1 e2 e3 hf h1 h2
  subst e1 e2 e3
  unfold g_X10_spread_7 f_X10_spread_40
  dsimp only
  refine okI (fun c => okR ?_) (fun c => ?_)
  · have : i = 2 ^ t := by
      rw [le_toInt, nI_toInt (by omega), nI_toInt (by omega)] at c
      omega
    rw [this] at h1
    exact ⟨hf, h1, h2⟩
  · have c1 := cnt_le rfl (by omega) c hi
    have c2 : i ||| 2 ^ t < 512 := or_512 (by omega) hk
    refine okD (hA _) ?_
    rw [nI_or, hl, if_neg (lt_ge c2 (by omega)), inb_nI (show i < 512 by omega) (by omega), gd_tt, inb_nI c2 (by omega), gd_tt, nI_clamp (by omega), nI_clamp (by omega), bnd_mk, bnd_mk, nI_1]
    refine hK _ c1 ⟨rfl, rfl, rfl, hf.tr (Fr.c2 (by simp)), fun j hj => ?_, fun z hz => ?_⟩
    · show gr (sr s2 u (i ||| 2 ^ t) (gr s2 u i + v1)) u (j ||| 2 ^ t) = _
      rw [gr_sr_s]
      by_cases e : j = i
      · rw [if_pos (by rw [e]), e, h2 i c1]
      · rw [if_neg (by rw [or_add (by omega), or_add c1]; omega)]
        exact h1 j (by omega)
    · show gr (sr s2 u (i ||| 2 ^ t) (gr s2 u i + v1)) u z = _
      rw [gr_sr_s, if_neg (by rw [or_add c1]; omega)]
      exact h2 z hz
theorem VW.trn {s : St} {F : Nat → Int32} {M T S E A U Y L P N : Nat} (v : VW s F M T S E A U Y L P N) {t : Nat} (ht : t < T) : ∃ a d : Nat, a ≤ 59 ∧ 1 ≤ d ∧ d ≤ 30 ∧ F (13 + 6 * t + 2) = nI a ∧ F (13 + 6 * t + 4) = nI d ∧ (F (13 + 6 * t + 0) = 0 ∨ F (13 + 6 * t + 0) = 1) := by
  have hT := v.2.2.hT
  obtain ⟨k, a1, a2, a3, a4⟩ := v.1.2.1
  obtain rfl : T = k := (nI_eq (by omega) (by omega)).mp (v.2.2.cT.symm.trans a2)
  have h0 : (0 : Int) ≤ (F (13 + 6 * t + 0)).toInt ∧ (F (13 + 6 * t + 0)).toInt ≤ 1 := (a4 t ht 0 (by omega)).2
  have h2 : (0 : Int) ≤ (F (13 + 6 * t + 2)).toInt ∧ (F (13 + 6 * t + 2)).toInt ≤ 59 := (a4 t ht 2 (by omega)).2
  have h4 : (1 : Int) ≤ (F (13 + 6 * t + 4)).toInt ∧ (F (13 + 6 * t + 4)).toInt ≤ 30 := (a4 t ht 4 (by omega)).2
  obtain ⟨a, ha, ea⟩ := nI_ofT (x := F (13 + 6 * t + 2)) (n := 59) h2.1 h2.2
  obtain ⟨d, hd, ed⟩ := nI_ofT (x := F (13 + 6 * t + 4)) (n := 30) (by omega) h4.2
  obtain ⟨b, hb, eb⟩ := nI_ofT (x := F (13 + 6 * t + 0)) (n := 1) h0.1 h0.2
  refine ⟨a, d, ha, ?_, hd, ea, ed, ?_⟩
  · rw [ed, nI_toInt (by omega)] at h4
    omega
  · rw [eb]
    rcases (by omega : b = 0 ∨ b = 1) with rfl | rfl
    · exact Or.inl rfl
    · exact Or.inr rfl
/-- MEN that TRAIN t's delay costs at minute m -/
def lostA (F : Nat → Int32) (t : Nat) (m : Int32) : Int32 := if m - F (13 + 6 * t + 2) < 0 then 0 else if F (13 + 6 * t + 4) ≤ m - F (13 + 6 * t + 2) then 0 else F (13 + 6 * t + 1)
theorem V_lost {s : St} {F : Nat → Int32} {M T S E A U Y L P N : Nat} (v : VW s F M T S E A U Y L P N) {t : Nat} (m : Int32) (ht : t < T) : f_X10_menLost 1 (nI t) m s = some (lostA F t m, s) := by
  unfold f_X10_menLost f_X10_menLost_41 f_X10_menLost_42 lostA
  rw [isW_lit (Or.inl rfl), gd_tt, show f_X9_cell (1 + 2) (nI t) (2 : Int32) s = some (F (13 + 6 * t + 2), s) from V_c3 v (c := 2) ht (by omega), bd_mk, bnd_mk]
  by_cases c : m - F (13 + 6 * t + 2) < 0
  · rw [if_pos c, if_pos c]
  · rw [if_neg c, if_neg c, isW_lit (Or.inl rfl), gd_tt, show f_X9_cell (1 + 2) (nI t) (4 : Int32) s = some (F (13 + 6 * t + 4), s) from V_c3 v (c := 4) ht (by omega), bd_mk]
    by_cases c1 : F (13 + 6 * t + 4) ≤ m - F (13 + 6 * t + 2)
    · rw [if_pos c1, if_pos c1]
    · rw [if_neg c1, if_neg c1, isW_lit (Or.inl rfl), gd_tt, show f_X9_cell (1 + 2) (nI t) (1 : Int32) s = some (F (13 + 6 * t + 1), s) from V_c3 v (c := 1) ht (by omega), bd_mk]
theorem nI_sub_toInt {m a : Nat} (hm : m ≤ 1000) (ha : a ≤ 1000) : (nI m - nI a).toInt = (m : Int) - a := by
  rw [Int32.toInt_sub, nI_toInt (by omega), nI_toInt (by omega)]
  apply Int.bmod_eq_of_le
  · omega
  · omega
/-- one TRAIN's part, late and not -/
theorem men1 {s : St} {F : Nat → Int32} {M T S E A U Y L P N : Nat} (v : VW s F M T S E A U Y L P N) {t m : Nat} (ht : t < T) (hm : m ≤ 99) : (if ¬ nI m < F (13 + 6 * t + 2) + 1 * F (13 + 6 * t + 4) then F (13 + 6 * t + 1) else 0) = (if ¬ nI m < F (13 + 6 * t + 2) + 0 * F (13 + 6 * t + 4) then F (13 + 6 * t + 1) else 0) + -(lostA F t (nI m)) := by
  obtain ⟨a, d, ha, hd1, hd2, ea, ed, -⟩ := v.trn ht
  unfold lostA
  have hs := nI_sub_toInt (m := m) (a := a) (by omega) (by omega)
  have z0 : (0 : Int32).toInt = 0 := rfl
  rw [ea, ed, Int32.one_mul, Int32.zero_mul, Int32.add_zero, nI_add]
  by_cases c1 : m < a
  · rw [if_neg (fun z => z (nI_lt (by omega) (by omega))), if_neg (fun z => z (nI_lt (by omega) (by omega))), if_pos (by rw [lt_toInt, hs]; omega)]
    decide
  · rw [if_neg (show ¬ (nI m - nI a < 0) from by rw [lt_toInt, hs]; omega)]
    by_cases c2 : m < a + d
    · rw [if_neg (fun z => z (nI_lt (by omega) (by omega))), if_pos (nI_nlt (by omega) (by omega)), if_neg (show ¬ (nI d ≤ nI m - nI a) from by rw [le_toInt, hs, nI_toInt (by omega)]; omega), ← Int32.sub_eq_add_neg, Int32.sub_self]
    · rw [if_pos (nI_nlt (by omega) (by omega)), if_pos (nI_nlt (by omega) (by omega)), if_pos (show nI d ≤ nI m - nI a from by rw [le_toInt, hs, nI_toInt (by omega)]; omega)]
      rw [show -(0 : Int32) = 0 from by decide, Int32.add_zero]
theorem men_more {s : St} {F : Nat → Int32} {M T S E A U Y L P N : Nat} (v : VW s F M T S E A U Y L P N) {t x m : Nat} (ht : t < T) (hx : x < 2 ^ t) (hm : m ≤ 99) (p : Int32) : ∀ n, n ≤ T → menA F p (nI m) (nI (x ||| 2 ^ t)) n = menA F p (nI m) (nI x) n + (if t < n ∧ F (13 + 6 * t + 0) = p then -(lostA F t (nI m)) else 0) := by
  have hT := v.2.2.hT
  have h2 := two_512 (show t < 9 by omega)
  have hx5 : x < 512 := by omega
  have ho : x ||| 2 ^ t < 512 := or_512 hx5 h2
  intro n
  induction n with
  | zero =>
    intro _
    rw [if_neg (by omega), Int32.add_zero]
    rfl
  | succ n ih =>
    intro hn
    show menA F p (nI m) (nI (x ||| 2 ^ t)) n + (if F (13 + 6 * n + 0) = p ∧ ¬ nI m < arrA F (nI (x ||| 2 ^ t)) n then F (13 + 6 * n + 1) else 0) = (menA F p (nI m) (nI x) n + (if F (13 + 6 * n + 0) = p ∧ ¬ nI m < arrA F (nI x) n then F (13 + 6 * n + 1) else 0)) + _
    rw [ih (by omega)]
    unfold arrA
    rw [bit_nI ho (by omega), bit_nI hx5 (by omega), Nat.testBit_or, Nat.testBit_two_pow]
    by_cases e : t = n
    · subst e
      have hb : x.testBit t = false := Nat.testBit_lt_two_pow hx
      rw [hb, decide_eq_true (rfl : t = t), if_neg (by omega), Int32.add_zero]
      show _ + (if F (13 + 6 * t + 0) = p ∧ ¬ nI m < F (13 + 6 * t + 2) + 1 * F (13 + 6 * t + 4) then F (13 + 6 * t + 1) else 0) = (_ + (if F (13 + 6 * t + 0) = p ∧ ¬ nI m < F (13 + 6 * t + 2) + 0 * F (13 + 6 * t + 4) then F (13 + 6 * t + 1) else 0)) + _
      have h1 := men1 v ht hm
      by_cases c : F (13 + 6 * t + 0) = p
      · rw [if_pos (show t < t + 1 ∧ F (13 + 6 * t + 0) = p from ⟨by omega, c⟩), Int32.add_assoc]
        congr 1
        by_cases g1 : nI m < F (13 + 6 * t + 2) + 1 * F (13 + 6 * t + 4)
        · by_cases g2 : nI m < F (13 + 6 * t + 2) + 0 * F (13 + 6 * t + 4)
          · rw [if_neg (fun z => z g1), if_neg (fun z => z g2)] at h1
            rw [if_neg (fun z => z.2 g1), if_neg (fun z => z.2 g2)]
            exact h1
          · rw [if_neg (fun z => z g1), if_pos g2] at h1
            rw [if_neg (fun z => z.2 g1), if_pos ⟨c, g2⟩]
            exact h1
        · by_cases g2 : nI m < F (13 + 6 * t + 2) + 0 * F (13 + 6 * t + 4)
          · rw [if_pos g1, if_neg (fun z => z g2)] at h1
            rw [if_pos ⟨c, g1⟩, if_neg (fun z => z.2 g2)]
            exact h1
          · rw [if_pos g1, if_pos g2] at h1
            rw [if_pos ⟨c, g1⟩, if_pos ⟨c, g2⟩]
            exact h1
      · rw [if_neg (fun z => c z.1), if_neg (fun z => c z.1), if_neg (fun z => c z.2), Int32.add_zero, Int32.add_zero]
    · rw [decide_eq_false e, Bool.or_false]
      have hiff : (t < n ∧ F (13 + 6 * t + 0) = p) ↔ (t < n + 1 ∧ F (13 + 6 * t + 0) = p) := ⟨fun z => ⟨by omega, z.2⟩, fun z => ⟨by omega, z.2⟩⟩
      rw [Int32.add_assoc, Int32.add_assoc]
      congr 1
      by_cases g : t < n ∧ F (13 + 6 * t + 0) = p
      · rw [if_pos g, if_pos (hiff.mp g), Int32.add_comm]
      · rw [if_neg g, if_neg (fun z => g (hiff.mpr z)), Int32.add_comm]
/-- what row 33 holds behind takeMen -/
def tkA (F : Nat → Int32) (T : Nat) (p q m x : Int32) : Int32 := p * menA F 0 m x T + q * menA F 1 m x T
theorem tk_more {s : St} {F : Nat → Int32} {M T S E A U Y L P N : Nat} (v : VW s F M T S E A U Y L P N) {t x m : Nat} (ht : t < T) (hx : x < 2 ^ t) (hm : m ≤ 99) (p q : Int32) : tkA F T p q (nI m) (nI (x ||| 2 ^ t)) = tkA F T p q (nI m) (nI x) + (-(if F (13 + 6 * t + 0) = 0 then p else q)) * lostA F t (nI m) := by
  unfold tkA
  rw [men_more v ht hx hm 0 T (by omega), men_more v ht hx hm 1 T (by omega), Int32.mul_add, Int32.mul_add]
  obtain ⟨-, -, -, -, -, -, -, hs⟩ := v.trn ht
  rcases hs with e | e
  · rw [if_pos (show t < T ∧ F (13 + 6 * t + 0) = 0 from ⟨ht, e⟩), if_neg (show ¬ (t < T ∧ F (13 + 6 * t + 0) = 1) from fun z => by rw [e] at z; exact absurd z.2 (by decide)), if_pos e, Int32.mul_zero, Int32.add_zero, Int32.mul_neg, Int32.neg_mul, Int32.add_assoc, Int32.add_assoc]
    congr 1
    rw [Int32.add_comm]
  · rw [if_neg (show ¬ (t < T ∧ F (13 + 6 * t + 0) = 0) from fun z => by rw [e] at z; exact absurd z.2 (by decide)), if_pos (show t < T ∧ F (13 + 6 * t + 0) = 1 from ⟨ht, e⟩), if_neg (show ¬ F (13 + 6 * t + 0) = 0 from by rw [e]; decide), Int32.mul_zero, Int32.add_zero, Int32.mul_neg, Int32.neg_mul, Int32.add_assoc]
theorem V_takeMen {s : St} {F : Nat → Int32} {M T S E A U Y L P N : Nat} (v : VW s F M T S E A U Y L P N) {m : Nat} (hm : m ≤ 99) (p q : Int32) : Ok (fun _ s' => Fr [33] s s' ∧ ∀ x, x < S → gr s' 33 x = tkA F T p q (nI m) (nI x)) (f_X2_takeMen (nI m) p q s) := by
  have hT := v.2.2.hT
  unfold f_X2_takeMen
  rw [V_men v, bd_mk, V_men v, bd_mk]
  refine okD rfl ?_
  rw [bnd_mk]
  refine okC (fun (t : Nat) (y : Int32 × Int32 × Int32 × Int32 × St) => y.1 = nI m ∧ y.2.1 = p ∧ y.2.2.1 = q ∧ y.2.2.2.1 = nI t ∧ Fr [33] s y.2.2.2.2 ∧ ∀ x, x < 2 ^ t → gr y.2.2.2.2 33 x = tkA F T p q (nI m) (nI x)) T ?_ (i := 0) (by unfold FU; omega) (by omega) ⟨rfl, rfl, rfl, rfl, Fr.c2 (by simp), fun x hx => by
    obtain rfl : x = 0 := by
      rw [Nat.pow_zero] at hx
      omega
    show gr (sr s 33 0 _) 33 0 = _
    rw [gr_sr_s, if_pos rfl]
    rfl⟩
  rintro t ⟨y1, y2, y3, y4, s1⟩ K hi ⟨e1, e2, e3, e4, hf, hr⟩ hK
  dsimp only at e1 e2 e3 e4 hf hr
  subst e1 e2 e3 e4
  have v1 := v.fr hf (by decide)
  unfold g_X2_takeMen_34
  dsimp only
  rw [show gf s1 3 3 = nI T from v1.2.2.cT]
  refine okI (fun c => okR ?_) (fun c => ?_)
  · have : t = T := by
      rw [le_toInt, nI_toInt (by omega), nI_toInt (by omega)] at c
      omega
    subst this
    rw [← v.2.2.hS] at hr
    exact ⟨hf, hr⟩
  · replace c : t < T := cnt_le rfl (by omega) c hi
    have key : ∀ k0, k0 = (if F (13 + 6 * t + 0) = 0 then y2 else y3) → Ok (fun _ s' => Fr [33] s s' ∧ ∀ x, x < S → gr s' 33 x = tkA F T y2 y3 (nI m) (nI x)) (f_X2_takeMen_70 K (nI m) y2 y3 (nI t) k0 s1) := by
      intro k0 hk
      unfold f_X2_takeMen_70
      rw [V_lost v1 _ c, bd_mk]
      refine okB (V_spread (u := 33) (p := (-k0) * lostA F t (nI m)) (s := s1) (show t < 9 by omega) ⟨by decide, by decide⟩ rfl) ?_
      rintro _ s2 ⟨f2, g1, g2⟩
      rw [bnd_mk, nI_1]
      refine hK _ c ⟨rfl, rfl, rfl, rfl, hf.tr f2, fun x hx => ?_⟩
      show gr s2 33 x = _
      by_cases e : x < 2 ^ t
      · rw [g2 x e]; exact hr x e
      · obtain ⟨h1, h2⟩ := or_split (by omega) hx
        rw [h2, g1 _ h1, hr _ h1, tk_more v c h1 hm, hk]
    rw [show f_X9_cell 3 (nI t) (0 : Int32) s1 = some (F (13 + 6 * t + 0), s1) from V_c3 v1 (c := 0) c (by omega), bd_mk]
    exact okI (fun e => key _ (by rw [if_pos e])) (fun e => key _ (by rw [if_neg e]))
theorem V_sets {s : St} {F : Nat → Int32} {M T S E A U Y L P N : Nat} (v : VW s F M T S E A U Y L P N) : f_X10_sets 1 s = some (nI S, s) := by
  have hb := v.2.2
  have h5 := hb.S512
  unfold f_X10_sets
  rw [isW_lit (Or.inl rfl), gd_tt, show gf s (1 + 2) 3 = nI T from hb.cT, nI_shl (by have := hb.hT; omega), ← hb.hS, if_neg (show ¬ (512 : Int32) < nI S from nI_nlt (b := S) (a := 512) (by omega) (by omega))]
theorem V_moveEnds {s : St} {F : Nat → Int32} {M T S E A U Y L P N : Nat} (v : VW s F M T S E A U Y L P N) (c : Int32) : Ok (fun _ s' => Fr [34] s s' ∧ ∀ x, x < S → gr s' 34 x = gr s 34 x + c * sgnI (gr s 33 x)) (f_X2_moveEnds c s) := by
  have h5 := v.2.2.S512
  unfold f_X2_moveEnds
  refine okC (fun (i : Nat) (y : Int32 × Int32 × St) => y.1 = c ∧ y.2.1 = nI i ∧ Fr [34] s y.2.2 ∧ ∀ x, gr y.2.2 34 x = if x < i then gr s 34 x + c * sgnI (gr s 33 x) else gr s 34 x) S ?_ (i := 0) (by unfold FU; omega) (by omega) ⟨rfl, rfl, Fr.rf, fun x => by rw [if_neg (by omega)]⟩
  rintro i ⟨y1, y2, s1⟩ K hi ⟨e1, e2, hf, hr⟩ hK
  dsimp only at e1 e2 hf hr
  subst e1 e2
  have v1 := v.fr hf (by decide)
  unfold g_X2_moveEnds_2
  dsimp only
  rw [V_sets v1, bd_mk]
  refine okI (fun g => okR ⟨hf, fun x hx => ?_⟩) (fun g => ?_)
  · have : i = S := by
      rw [le_toInt, nI_toInt (by omega), nI_toInt (by omega)] at g
      omega
    rw [hr x, if_pos (by omega)]
  · replace g : i < S := cnt_le rfl (by omega) g hi
    rw [inb_ln (n := 512) rfl (show i < 512 by omega) (by omega), gd_tt, inb_ln (n := 512) rfl (show i < 512 by omega) (by omega), gd_tt, S_sgn, bd_mk, gd_tt, nI_clamp (by omega), bnd_mk, bnd_mk, nI_1]
    refine hK _ g ⟨rfl, rfl, hf.tr (Fr.c2 (by simp)), fun x => ?_⟩
    show gr (sr s1 34 i (gr s1 34 i + y1 * sgnI (gr s1 33 i))) 34 x = _
    rw [gr_sr_s, (hf.1 33 (by decide)).2.1]
    by_cases e : x = i
    · rw [if_pos e, if_pos (by omega), e, hr i, if_neg (by omega)]
    · rw [if_neg e, hr x]
      by_cases e2 : x < i
      · rw [if_pos e2, if_pos (by omega)]
      · rw [if_neg e2, if_neg (by omega)]
/-! ===== values: what Course.reckon lays down ===== -/
theorem or_eq0 (a b : Int32) : a ||| b = 0 ↔ (a = 0 ∧ b = 0) := by
  constructor
  · intro h
    have hb : ∀ j, a.toBitVec.getLsbD j = false ∧ b.toBitVec.getLsbD j = false := fun j => by
      have h2 := congrArg (fun z : Int32 => z.toBitVec.getLsbD j) h
      rw [Int32.toBitVec_or, BitVec.getLsbD_or, lsb_0] at h2
      cases ha : a.toBitVec.getLsbD j <;> cases hb : b.toBitVec.getLsbD j <;> rw [ha, hb] at h2 <;> simp at h2 ⊢
    constructor
    · apply Int32.toBitVec.inj
      apply BitVec.eq_of_getLsbD_eq
      intro j _
      rw [(hb j).1, lsb_0]
    · apply Int32.toBitVec.inj
      apply BitVec.eq_of_getLsbD_eq
      intro j _
      rw [(hb j).2, lsb_0]
  · rintro ⟨rfl, rfl⟩
    decide
theorem com0 (F : Nat → Int32) (m x : Int32) : ∀ n, n ≤ 9 → comA F m x n = 0 → ∀ t, t < n → ¬ arrA F x t = m := by
  intro n
  induction n with
  | zero => exact fun _ _ t ht => absurd ht (by omega)
  | succ n ih =>
    intro hn h t ht e
    have h2 : comA F m x n ||| (if arrA F x n = m then (1 : Int32) <<< (nI n &&& 31) else 0) = 0 := h
    obtain ⟨h3, h4⟩ := (or_eq0 _ _).mp h2
    by_cases g : t = n
    · subst g
      rw [if_pos e, nI_sh1 t (by omega)] at h4
      exact nI_ne0 Nat.one_le_two_pow (by have := two_512 (show t < 9 by omega); omega) h4
    · exact ih (by omega) h3 t (by omega) e
theorem V_isArrival {s : St} {F : Nat → Int32} {M T S E A U Y L P N : Nat} (v : VW s F M T S E A U Y L P N) (m : Int32) : ∃ r, f_X2_isArrival m s = some (r, s) ∧ (r = 0 → ∀ t, t < T → ¬ arrA F 0 t = m ∧ ¬ arrA F (nI (S - 1)) t = m) := by
  have hT := v.2.2.hT
  have h5 := v.2.2.S512
  have hpr : nI S - 1 = nI (S - 1) := by
    obtain ⟨k, e⟩ : ∃ k, S = k + 1 := ⟨S - 1, by omega⟩
    rw [e, nI_pred, Nat.add_sub_cancel]
  unfold f_X2_isArrival f_X2_isArrival_35
  rw [V_comes v, bd_mk, V_sets v, bd_mk, hpr, V_comes v, bd_mk, bz_0, bz_1, gd_tt, gd_tt]
  by_cases c : comA F m 0 T ||| comA F m (nI (S - 1)) T = 0
  · obtain ⟨c1, c2⟩ := (or_eq0 _ _).mp c
    exact ⟨0, by rw [if_pos c], fun _ t ht => ⟨com0 F m 0 T hT c1 t ht, com0 F m _ T hT c2 t ht⟩⟩
  · exact ⟨1, by rw [if_neg c], fun z => absurd z (by decide)⟩
theorem bit_00 {j : Nat} (hj : j < 31) : bitOf 0 j = 0 := by
  rw [bit_lsb _ hj, lsb_0]
  rfl
theorem no_arr {s : St} {F : Nat → Int32} {M T S E A U Y L P N : Nat} (v : VW s F M T S E A U Y L P N) {m : Nat} (hm1 : 1 ≤ m) (hm : m ≤ 60) (h : ∀ t, t < T → ¬ arrA F 0 t = nI m ∧ ¬ arrA F (nI (S - 1)) t = nI m) (p x : Int32) : ∀ n, n ≤ T → menA F p (nI m) x n = menA F p (nI (m - 1)) x n := by
  have hT := v.2.2.hT
  have h5 := v.2.2.S512
  intro n
  induction n with
  | zero => exact fun _ => rfl
  | succ n ih =>
    intro hn
    show menA F p (nI m) x n + (if F (13 + 6 * n + 0) = p ∧ ¬ nI m < arrA F x n then F (13 + 6 * n + 1) else 0) = menA F p (nI (m - 1)) x n + (if F (13 + 6 * n + 0) = p ∧ ¬ nI (m - 1) < arrA F x n then F (13 + 6 * n + 1) else 0)
    rw [ih (by omega)]
    congr 1
    obtain ⟨a, d, ha, hd1, hd2, ea, ed, -⟩ := v.trn (show n < T by omega)
    obtain ⟨h0, hS⟩ := h n (by omega)
    have b0 : bitOf 0 n = 0 := bit_00 (by omega)
    have bS : bitOf (nI (S - 1)) n = 1 := by
      rw [bit_nI (by omega) (by omega), v.2.2.hS, Nat.testBit_two_pow_sub_one, decide_eq_true (show n < T by omega)]
      rfl
    unfold arrA at *
    rw [b0, ea, ed, Int32.zero_mul, Int32.add_zero] at h0
    rw [bS, ea, ed, Int32.one_mul, nI_add] at hS
    have key : ∀ k, k ≤ 89 → ¬ nI k = nI m → ((F (13 + 6 * n + 0) = p ∧ ¬ nI m < nI k) ↔ (F (13 + 6 * n + 0) = p ∧ ¬ nI (m - 1) < nI k)) := by
      intro k hk hne
      have hne' : k ≠ m := fun z => hne (by rw [z])
      rw [nI_ltI (by omega) (by omega), nI_ltI (by omega) (by omega)]
      constructor
      · exact fun z => ⟨z.1, by omega⟩
      · exact fun z => ⟨z.1, by omega⟩
    rw [ea, ed]
    rcases bit01 x n with e | e
    · rw [e, Int32.zero_mul, Int32.add_zero]
      have := key a (by omega) h0
      by_cases g : F (13 + 6 * n + 0) = p ∧ ¬ nI m < nI a
      · rw [if_pos g, if_pos (this.mp g)]
      · rw [if_neg g, if_neg (fun z => g (this.mpr z))]
    · rw [e, Int32.one_mul, nI_add]
      have := key (a + d) (by omega) hS
      by_cases g : F (13 + 6 * n + 0) = p ∧ ¬ nI m < nI (a + d)
      · rw [if_pos g, if_pos (this.mp g)]
      · rw [if_neg g, if_neg (fun z => g (this.mpr z))]
theorem V_fill {u n : Nat} {p : Int32} {s : St} (hu : kd u = 13 ∧ u < 75) (hl : ln u = n) (hn : n ≤ 1000) : Ok (fun _ s' => Fr [u] s s' ∧ ∀ x, x < n → gr s' u x = p) (f_J7_fill_53178 u p s) := by
  have hA : ∀ s, isA s u = true := fun s => by
    unfold isA
    rw [decide_eq_true hu.1, decide_eq_true (lt_lit hu.2)]
    rfl
  unfold f_J7_fill_53178
  rw [hA, gd_tt, bnd_mk, hl]
  refine okC (fun (i : Nat) (x : Int32 × Int32 × Int32 × St) => x.1 = p ∧ x.2.1 = nI i ∧ x.2.2.1 = nI n ∧ Fr [u] s x.2.2.2 ∧ ∀ j, j < i → gr x.2.2.2 u j = p) n ?_ (i := 0) (by unfold FU; omega) (by omega) ⟨rfl, rfl, rfl, Fr.rf, fun j hj => absurd hj (by omega)⟩
  rintro i ⟨v1, v2, v3, s2⟩ K hi ⟨e1, e2, e3, hf, hr⟩ hK
  dsimp only at e1 e2 e3 hf hr
  subst e1 e2 e3
  unfold g_J7_fill_53178_5
  dsimp only
  refine okI (fun c => okR ⟨hf, ?_⟩) (fun c => ?_)
  · have : i = n := by
      rw [le_toInt, nI_toInt (by omega), nI_toInt (by omega)] at c
      omega
    rw [this] at hr
    exact hr
  · have c1 := cnt_le rfl (by omega) c hi
    refine okD (hA _) ?_
    rw [inb_ln hl c1 (by omega), gd_tt, nI_clamp (by omega), bnd_mk, bnd_mk, nI_1]
    refine hK _ c1 ⟨rfl, rfl, rfl, hf.tr (Fr.c2 (by simp)), fun j hj => ?_⟩
    show gr (sr s2 u i v1) u j = _
    rw [gr_sr_s]
    by_cases e : j = i
    · rw [if_pos e]
    · rw [if_neg e]; exact hr j (by omega)
theorem tk_side (F : Nat → Int32) (T : Nat) {p : Nat} (hp : p < 2) (m x : Int32) : tkA F T ((1 : Int32) - nI p) (nI p) m x = menA F (nI p) m x T := by
  unfold tkA
  rcases (by omega : p = 0 ∨ p = 1) with rfl | rfl
  · rw [show (1 : Int32) - nI 0 = 1 from by decide, show nI 0 = 0 from rfl, Int32.one_mul, Int32.zero_mul, Int32.add_zero]
  · rw [show (1 : Int32) - nI 1 = 0 from by decide, show nI 1 = 1 from rfl, Int32.one_mul, Int32.zero_mul, Int32.zero_add]
theorem V_findWinners {s : St} {F : Nat → Int32} {M T S E A U Y L P N : Nat} (v : VW s F M T S E A U Y L P N) (h34 : ∀ x, x < S → gr s 34 x = frA F E T (nI x) M) : Ok (fun _ s' => Fr [33, 35] s s' ∧ ∀ x, x < S → gr s' 35 x = winA F M E T L (nI x)) (f_X2_findWinners s) := by
  have h5 := v.2.2.S512
  have hL := v.2.2.hL
  unfold f_X2_findWinners
  refine okB (V_fill (u := 35) (n := 512) (p := 0) (s := s) ⟨by decide, by decide⟩ rfl (by omega)) ?_
  rintro _ s0 ⟨f0, r0⟩
  refine okC (fun (p : Nat) (y : Int32 × St) => y.1 = nI p ∧ Fr [33, 35] s y.2 ∧ ∀ x, x < S → gr y.2 35 x = lat2 F L T (nI x) p) 2 ?_ (i := 0) (by unfold FU; omega) (by omega) ⟨rfl, f0.mo (by simp), fun x hx => r0 x (by omega)⟩
  rintro p ⟨y1, s1⟩ K hp ⟨e1, hf, hr⟩ hK
  dsimp only at e1 hf hr
  subst e1
  have v1 := v.fr hf (by decide)
  unfold g_X2_findWinners_10
  dsimp only
  refine okI (fun c => ?_) (fun c => ?_)
  · obtain rfl : p = 2 := by
      rw [le_toInt, nI_toInt (by omega)] at c
      have z2 : (2 : Int32).toInt = 2 := rfl
      omega
    refine okC (fun (i : Nat) (y : Int32 × St) => y.1 = nI i ∧ Fr [33, 35] s y.2 ∧ ∀ x, x < S → gr y.2 35 x = if x < i then winA F M E T L (nI x) else lat2 F L T (nI x) 2) S ?_ (i := 0) (by unfold FU; omega) (by omega) ⟨rfl, hf, fun x hx => by rw [if_neg (by omega)]; exact hr x hx⟩
    rintro i ⟨y1, s2⟩ K2 hi ⟨e1, hf2, hr2⟩ hK2
    dsimp only at e1 hf2 hr2
    subst e1
    have v2 := v.fr hf2 (by decide)
    unfold g_X2_findWinners_90
    dsimp only
    rw [V_sets v2, bd_mk]
    refine okI (fun g => okR ⟨hf2, fun x hx => ?_⟩) (fun g => ?_)
    · have : i = S := by
        rw [le_toInt, nI_toInt (by omega), nI_toInt (by omega)] at g
        omega
      rw [hr2 x hx, if_pos (by omega)]
    · replace g : i < S := cnt_le rfl (by omega) g hi
      rw [inb_ln (n := 512) rfl (show i < 512 by omega) (by omega), gd_tt, inb_ln (n := 512) rfl (show i < 512 by omega) (by omega), gd_tt, nI_clamp (by omega), hr2 i g, if_neg (by omega), (hf2.1 34 (by decide)).2.1, h34 i g, S_winner, bd_mk, gd_tt, bnd_mk, bnd_mk, nI_1]
      refine hK2 _ g ⟨rfl, hf2.tr (Fr.c2 (by simp)), fun x hx => ?_⟩
      show gr (sr s2 35 i (winA F M E T L (nI i))) 35 x = _
      rw [gr_sr_s]
      by_cases e : x = i
      · rw [if_pos e, if_pos (by omega), e]
      · rw [if_neg e, hr2 x hx]
        by_cases e2 : x < i
        · rw [if_pos e2, if_pos (by omega)]
        · rw [if_neg e2, if_neg (by omega)]
  · replace c : p < 2 := cnt_le (B := 2) rfl (by omega) c hp
    rw [show gf s1 1 2 = nI L from v1.2.2.cL]
    refine okB (V_takeMen v1 (show L ≤ 99 by omega) ((1 : Int32) - nI p) (nI p)) ?_
    rintro _ s2 ⟨f2, r2⟩
    have hf2 : Fr [33, 35] s s2 := hf.tr (f2.mo (by simp))
    refine okC (fun (i : Nat) (y : Int32 × Int32 × St) => y.1 = nI p ∧ y.2.1 = nI i ∧ Fr [33, 35] s y.2.2 ∧ (∀ x, x < S → gr y.2.2 33 x = menA F (nI p) (nI L) (nI x) T) ∧ ∀ x, x < S → gr y.2.2 35 x = if x < i then lat2 F L T (nI x) (p + 1) else lat2 F L T (nI x) p) S ?_ (i := 0) (by unfold FU; omega) (by omega) ⟨rfl, rfl, hf2, fun x hx => by
      show gr s2 33 x = _
      rw [r2 x hx, tk_side F T c], fun x hx => by
      show gr s2 35 x = _
      rw [if_neg (by omega), (f2.1 35 (by decide)).2.1]
      exact hr x hx⟩
    rintro i ⟨y1, y2, s3⟩ K3 hi ⟨e1, e2, hf3, h33, hr3⟩ hK3
    dsimp only at e1 e2 hf3 h33 hr3
    subst e1 e2
    have v3 := v.fr hf3 (by decide)
    unfold g_X2_findWinners_32
    dsimp only
    rw [V_sets v3, bd_mk]
    refine okI (fun g => ?_) (fun g => ?_)
    · have : i = S := by
        rw [le_toInt, nI_toInt (by omega), nI_toInt (by omega)] at g
        omega
      rw [bnd_mk, nI_1]
      exact hK _ c ⟨rfl, hf3, fun x hx => by rw [hr3 x hx, if_pos (by omega)]⟩
    · replace g : i < S := cnt_le rfl (by omega) g hi
      rw [inb_ln (n := 512) rfl (show i < 512 by omega) (by omega), gd_tt, inb_ln (n := 512) rfl (show i < 512 by omega) (by omega), gd_tt, V_need v3 c, bd_mk, nI_clamp (by omega), h33 i g, hr3 i g, if_neg (show ¬ i < i by omega)]
      have key : ∀ k0, lat2 F L T (nI i) p ||| k0 = lat2 F L T (nI i) (p + 1) → Ok (fun _ s' => Fr [33, 35] s s' ∧ ∀ x, x < S → gr s' 35 x = winA F M E T L (nI x)) (f_X2_findWinners_74 K K3 (nI p) (nI i) k0 (lat2 F L T (nI i) p) (nI i) s3) := by
        intro k0 hk
        unfold f_X2_findWinners_74
        rw [inb_ln (n := 512) rfl (show i < 512 by omega) (by omega), gd_tt, nI_clamp (by omega), bnd_mk, bnd_mk, nI_1, hk]
        refine hK3 _ g ⟨rfl, rfl, hf3.tr (Fr.c2 (by simp)), fun x hx => ?_, fun x hx => ?_⟩
        · show gr (sr s3 35 i _) 33 x = _
          rw [gr_sr_n _ _ _ _ (by decide)]
          exact h33 x hx
        · show gr (sr s3 35 i _) 35 x = _
          rw [gr_sr_s]
          by_cases e : x = i
          · rw [if_pos e, if_pos (by omega), e]
          · rw [if_neg e, hr3 x hx]
            by_cases e2 : x < i
            · rw [if_pos e2, if_pos (by omega)]
            · rw [if_neg e2, if_neg (by omega)]
      have nx : lat2 F L T (nI i) (p + 1) = if F (11 + p) ≤ menA F (nI p) (nI L) (nI i) T then lat2 F L T (nI i) p else lat2 F L T (nI i) p ||| ((1 : Int32) <<< (nI p &&& 31)) := rfl
      exact okI (fun e => key _ (by rw [nx, if_pos e, or0])) (fun e => key _ (by rw [nx, if_neg e]))
/-- the lead at minute m -/
def ldA (F : Nat → Int32) (T m : Nat) (x : Int32) : Int32 := menA F 0 (nI m) x T - menA F 1 (nI m) x T
theorem tk_ld (F : Nat → Int32) (T m : Nat) (x : Int32) : tkA F T 1 (-1) (nI m) x = ldA F T m x := by
  unfold tkA ldA
  rw [Int32.one_mul, Int32.neg_mul, Int32.one_mul, Int32.sub_eq_add_neg]
theorem fr_succ (F : Nat → Int32) (E T i : Nat) (x : Int32) : frA F E T x (i + 1) = frA F E T x i + (if teaV F E (nI i) = 0 then sgnI (ldA F T i x) else 0) := by
  show frA F E T x i + sgnI (if teaV F E (nI i) = 0 then menA F 0 (nI i) x T - menA F 1 (nI i) x T else 0) = _
  by_cases c : teaV F E (nI i) = 0
  · rw [if_pos c, if_pos c]
    rfl
  · rw [if_neg c, if_neg c, sgn0]
theorem V_reckon {s : St} {F : Nat → Int32} {M T S E A U Y L P N : Nat} (v : VW s F M T S E A U Y L P N) (h0 : gf s 31 5 = 0) : Ok (fun _ s' => Fr [31, 33, 34, 35] s s' ∧ gf s' 31 5 = 1 ∧ (∀ x, x < S → gr s' 34 x = frA F E T (nI x) M) ∧ ∀ x, x < S → gr s' 35 x = winA F M E T L (nI x)) (f_X2_reckon s) := by
  have hM := v.2.2.hM
  have h5 := v.2.2.S512
  unfold f_X2_reckon
  rw [if_pos h0]
  refine okB (V_fill (u := 34) (n := 512) (p := 0) (s := s) ⟨by decide, by decide⟩ rfl (by omega)) ?_
  rintro _ s0 ⟨f0, r0⟩
  refine okC (fun (i : Nat) (y : Int32 × Int32 × St) => y.2.1 = nI i ∧ Fr [33, 34] s y.2.2 ∧ (i = 0 → y.1 = 0 ∧ ∀ x, x < S → gr y.2.2 34 x = 0) ∧ (1 ≤ i → ∀ x, x < S → gr y.2.2 33 x = ldA F T (i - 1) (nI x) ∧ gr y.2.2 34 x + y.1 * sgnI (gr y.2.2 33 x) = frA F E T (nI x) i)) M ?_ (i := 0) (by unfold FU; omega) (by omega) ⟨rfl, f0.mo (by simp), fun _ => ⟨rfl, fun x hx => r0 x (by omega)⟩, fun h => absurd h (by omega)⟩
  rintro i ⟨y1, y2, s1⟩ K hi ⟨e1, hf, hz, hs⟩ hK
  dsimp only at e1 hf hz hs
  subst e1
  have v1 := v.fr hf (by decide)
  /- moving the ends: from here they are right -/
  have mv : Ok (fun _ s' => Fr [33, 34] s s' ∧ ∀ x, x < S → gr s' 34 x = frA F E T (nI x) i) (f_X2_moveEnds y1 s1) := by
    obtain ⟨r, s2, e2, f2, g2⟩ := V_moveEnds v1 y1
    refine ⟨r, s2, e2, hf.tr (f2.mo (by simp)), fun x hx => ?_⟩
    rw [g2 x hx]
    by_cases c : i = 0
    · obtain ⟨a1, a2⟩ := hz c
      rw [a1, a2 x hx, Int32.zero_mul, Int32.add_zero, c]
      rfl
    · exact (hs (by omega) x hx).2
  unfold g_X2_reckon_20
  dsimp only
  rw [show gf s1 1 1 = nI M from v1.2.2.cM]
  refine okI (fun c => ?_) (fun c => ?_)
  · have hiM : i = M := by
      rw [le_toInt, nI_toInt (by omega), nI_toInt (by omega)] at c
      omega
    refine okB mv ?_
    rintro _ s2 ⟨f2, g2⟩
    rw [hiM] at g2
    refine okB (V_findWinners (v.fr f2 (by decide)) g2) ?_
    rintro _ s3 ⟨f3, g3⟩
    refine okD rfl ?_
    rw [bnd_mk]
    refine okR ⟨((f2.mo (by simp)).tr (f3.mo (by simp))).tr (Fr.c1 (by simp)), by rw [gf_sf_s, if_pos rfl], fun x hx => ?_, fun x hx => g3 x hx⟩
    show gr s3 34 x = _
    rw [(f3.1 34 (by decide)).2.1]
    exact g2 x hx
  · replace c : i < M := cnt_le rfl (by omega) c hi
    /- behind the men of this minute -/
    have tail : ∀ (c1 : Int32) (s2 : St), Fr [33, 34] s s2 → (∀ x, x < S → gr s2 33 x = ldA F T i (nI x) ∧ gr s2 34 x + c1 * sgnI (gr s2 33 x) = frA F E T (nI x) i) → Ok (fun _ s' => Fr [31, 33, 34, 35] s s' ∧ gf s' 31 5 = 1 ∧ (∀ x, x < S → gr s' 34 x = frA F E T (nI x) M) ∧ ∀ x, x < S → gr s' 35 x = winA F M E T L (nI x)) (f_X2_reckon_57 K c1 (nI i) s2) := by
      intro c1 s2 f2 g2
      unfold f_X2_reckon_57 f_X2_reckon_71
      rw [V_tea (v.fr f2 (by decide)), bd_mk, nI_1]
      refine okI (fun e => ?_) (fun e => ?_)
      · refine hK _ c ⟨rfl, f2, fun z => absurd z (by omega), fun _ x hx => ?_⟩
        obtain ⟨a1, a2⟩ := g2 x hx
        refine ⟨a1, ?_⟩
        show gr s2 34 x + (c1 + 1) * sgnI (gr s2 33 x) = _
        rw [Int32.add_mul, Int32.one_mul, ← Int32.add_assoc, a2, fr_succ, if_pos e, a1]
      · refine hK _ c ⟨rfl, f2, fun z => absurd z (by omega), fun _ x hx => ?_⟩
        obtain ⟨a1, a2⟩ := g2 x hx
        refine ⟨a1, ?_⟩
        show gr s2 34 x + c1 * sgnI (gr s2 33 x) = _
        rw [a2, fr_succ, if_neg e, Int32.add_zero]
    have anew : Ok (fun _ s' => Fr [31, 33, 34, 35] s s' ∧ gf s' 31 5 = 1 ∧ (∀ x, x < S → gr s' 34 x = frA F E T (nI x) M) ∧ ∀ x, x < S → gr s' 35 x = winA F M E T L (nI x)) (f_X2_reckon_43 K y1 (nI i) s1) := by
      unfold f_X2_reckon_43
      refine okB mv ?_
      rintro _ s2 ⟨f2, g2⟩
      refine okB (V_takeMen (v.fr f2 (by decide)) (show i ≤ 99 by omega) 1 (-1)) ?_
      rintro _ s3 ⟨f3, g3⟩
      refine tail 0 s3 (f2.tr (f3.mo (by simp))) (fun x hx => ⟨?_, ?_⟩)
      · rw [g3 x hx, tk_ld]
      · rw [Int32.zero_mul, Int32.add_zero, (f3.1 34 (by decide)).2.1]
        exact g2 x hx
    refine okI (fun _ => anew) (fun c2 => ?_)
    have hi1 : 1 ≤ i := by
      rcases i with _ | i
      · exact absurd rfl c2
      · omega
    obtain ⟨r, e9, h9⟩ := V_isArrival v1 (nI i)
    rw [e9, bd_mk]
    refine okI (fun e => ?_) (fun _ => anew)
    refine tail y1 s1 hf (fun x hx => ?_)
    obtain ⟨a1, a2⟩ := hs hi1 x hx
    refine ⟨?_, a2⟩
    rw [a1]
    unfold ldA
    rw [no_arr v1 hi1 (by omega) (h9 e) 0 (nI x) T (by omega), no_arr v1 hi1 (by omega) (h9 e) 1 (nI x) T (by omega)]
/-! ===== the memo of Course.reckon, between calls ===== -/
def MR (σ : St) (M T S E L : Nat) : Prop := (∀ x, x < S → gr σ 34 x = frA (gr σ 59) E T (nI x) M) ∧ ∀ x, x < S → gr σ 35 x = winA (gr σ 59) M E T L (nI x)
def ME (σ : St) : Prop := gf σ 31 5 = 0 ∨ ∃ M T S E A U Y L P N, VW σ (gr σ 59) M T S E A U Y L P N ∧ MR σ M T S E L
theorem VW.uniq {s : St} {F F' : Nat → Int32} {M T S E A U Y L P N M' T' S' E' A' U' Y' L' P' N' : Nat} (v : VW s F M T S E A U Y L P N) (v' : VW s F' M' T' S' E' A' U' Y' L' P' N') : M = M' ∧ T = T' ∧ S = S' ∧ E = E' ∧ L = L' := by
  have b := v.2.2
  have b' := v'.2.2
  have q1 := b.hM
  have q2 := b.hT
  have q3 := b.hE
  have q4 := b.hL
  have q5 := b'.hM
  have q6 := b'.hT
  have q7 := b'.hE
  have q8 := b'.hL
  have hT : T = T' := (nI_eq (by omega) (by omega)).mp (b.cT.symm.trans b'.cT)
  exact ⟨(nI_eq (by omega) (by omega)).mp (b.cM.symm.trans b'.cM), hT, by rw [b.hS, b'.hS, hT], (nI_eq (by omega) (by omega)).mp (b.cE.symm.trans b'.cE), (nI_eq (by omega) (by omega)).mp (b.cL.symm.trans b'.cL)⟩
theorem ME.at' {σ : St} {M T S E A U Y L P N : Nat} (h : ME σ) (hf : ¬ gf σ 31 5 = 0) (v : VW σ (gr σ 59) M T S E A U Y L P N) : MR σ M T S E L := by
  obtain ⟨M', T', S', E', A', U', Y', L', P', N', v', hr⟩ := h.resolve_left hf
  obtain ⟨rfl, rfl, rfl, rfl, rfl⟩ := v.uniq v'
  exact hr
theorem ME.fr {σ σ' : St} {l : List Nat} (h : ME σ) (hf : Fr l σ σ') (hl : ∀ i ∈ l, 15 ≤ i ∧ i ≠ 31 ∧ i ≠ 34 ∧ i ≠ 35 ∧ i ≠ 59) : ME σ' := by
  have hn : ∀ i, (i = 31 ∨ i = 34 ∨ i = 35 ∨ i = 59) → gf σ' i = gf σ i ∧ gr σ' i = gr σ i := fun i hi => by
    have := hf.1 i (fun hm => by have := hl i hm; omega)
    exact ⟨this.1, this.2.1⟩
  rcases h with h | ⟨M, T, S, E, A, U, Y, L, P, N, v, h1, h2⟩
  · exact Or.inl (by rw [(hn 31 (by omega)).1]; exact h)
  · refine Or.inr ⟨M, T, S, E, A, U, Y, L, P, N, ?_, ?_, ?_⟩
    · rw [(hn 59 (by omega)).2]
      exact v.fr hf (fun i hi => by have := hl i hi; omega)
    · intro x hx
      rw [(hn 34 (by omega)).2, (hn 59 (by omega)).2]
      exact h1 x hx
    · intro x hx
      rw [(hn 35 (by omega)).2, (hn 59 (by omega)).2]
      exact h2 x hx
/-- reckon, from a state whose memo is right -/
theorem V_reck {s : St} {M T S E A U Y L P N : Nat} (v : VW s (gr s 59) M T S E A U Y L P N) (hm : ME s) : Ok (fun _ s' => Fr [31, 33, 34, 35] s s' ∧ ¬ gf s' 31 5 = 0 ∧ MR s' M T S E L) (f_X2_reckon s) := by
  by_cases c : gf s 31 5 = 0
  · obtain ⟨r, s', e, f, g1, g2, g3⟩ := V_reckon v c
    refine ⟨r, s', e, f, by rw [g1]; decide, ?_, ?_⟩
    · rw [(f.1 59 (by decide)).2.1]; exact g2
    · rw [(f.1 59 (by decide)).2.1]; exact g3
  · refine ⟨(), s, ?_, Fr.rf, c, hm.at' c v⟩
    unfold f_X2_reckon
    rw [if_neg c]
/-- what a question keeps, with the memo -/
def ZM (σ : St) : St → Prop := fun s => Fr SQ σ s ∧ ME s
theorem zm_of (σ : St) : ZZ (ZM σ) σ := by
  refine ⟨fun s h => h.1, fun s i f h hi => ⟨h.1.tr (Fr.cR ?_), h.2.fr (l := [i]) (Fr.cR (by simp)) ?_⟩, fun s i f h hi => ⟨h.1.tr (Fr.cJ ?_), h.2.fr (l := [i]) (Fr.cJ (by simp)) ?_⟩, fun s f h => ⟨h.1.tr (Fr.cF (by decide)), h.2.fr (l := [43]) (Fr.cF (by simp)) (by decide)⟩⟩
  · exact (show ∀ j ∈ SQf, j ∈ SQ by decide) i hi
  · intro j hj
    obtain rfl : j = i := by simpa using hj
    exact (show ∀ j ∈ SQf, 15 ≤ j ∧ j ≠ 31 ∧ j ≠ 34 ∧ j ≠ 35 ∧ j ≠ 59 by decide) j hi
  · exact (show ∀ j ∈ SQf, j ∈ SQ by decide) i hi
  · intro j hj
    obtain rfl : j = i := by simpa using hj
    exact (show ∀ j ∈ SQf, 15 ≤ j ∧ j ≠ 31 ∧ j ≠ 34 ∧ j ≠ 35 ∧ j ≠ 59 by decide) j hi
theorem rk_of {σ : St} (hI : IV σ) : RKZ (ZM σ) := by
  intro s h
  obtain ⟨M, T, S, E, A, U, Y, L, P, N, v⟩ := hI.vw
  have v1 : VW s (gr s 59) M T S E A U Y L P N := by
    rw [(h.1.1 59 (by decide)).2.1]
    exact v.fr h.1 (by decide)
  obtain ⟨r, s', e, f, g1, g2⟩ := V_reck v1 h.2
  refine ⟨r, s', e, h.1.tr (f.mo (by decide)), Or.inr ⟨M, T, S, E, A, U, Y, L, P, N, ?_, g2⟩⟩
  rw [(f.1 59 (by decide)).2.1]
  exact v1.fr f (by decide)
def ZRM (σ : St) : St → Prop := fun s => ZR σ s ∧ ME s
theorem zrm_of (σ : St) : ZQ (ZRM σ) σ := by
  have h0 := zq_of σ
  refine ⟨fun s h => h.1.1, fun s i f h hi => ⟨h0.2.1 s i f h.1 hi, h.2.fr (l := [i]) (Fr.cR (by simp)) (fun j hj => ?_)⟩, fun s c v h hc => ⟨h0.2.2 s c v h.1 hc, h.2.fr (l := [58]) (Fr.c1 (by simp)) (by decide)⟩⟩
  obtain rfl : j = i := by simpa using hj
  omega
/-- both, between calls -/
def JW (σ : St) : Prop := IV σ ∧ ME σ
/-- a question of both keeps the memo right -/
theorem Q_memo {α β : Type} {σ : St} {fc : St → Option (α × St)} {fr : St → Option (β × St)} (hI : JW σ)
    (hc : ∀ {Z : St → Prop} {M T S E A U Y L P N : Nat}, ZB Z σ M T S E A U Y L P N → RKZ Z → ∀ {s : St}, Z s → Ok (fun _ s' => Z s') (fc s))
    (hr : ∀ {Z : St → Prop} {σ0 : St} {M T S E A U Y L P N : Nat}, QB Z σ0 M T S E A U Y L P N → ∀ {s : St}, Z s → Ok (fun _ s' => Z s') (fr s)) :
    ∃ r1 s1 r2 s2, fc σ = some (r1, s1) ∧ fr s1 = some (r2, s2) ∧ JW s2 := by
  obtain ⟨M, T, S, E, A, U, Y, L, P, N, hb⟩ := (hI.1.2.2.2.2.1).1.bb
  have q : ZB (ZM σ) σ M T S E A U Y L P N := ⟨zm_of σ, hb⟩
  obtain ⟨r1, s1, e1, f1, m1⟩ := hc q (rk_of hI.1) ⟨Fr.rf, hI.2⟩
  have h1 : IV s1 := hI.1.fr0 f1 (by decide) (fun c _ => by rw [(f1.1 58 (by decide)).1])
  obtain ⟨M', T', S', E', A', U', Y', L', P', N', hb'⟩ := (h1.2.2.2.2.1).1.bb
  obtain ⟨r2, s2, e2, f2, m2⟩ := hr (Z := ZRM s1) ⟨zrm_of s1, hb', h1.2.2.2.2.1.1⟩ ⟨⟨Fr.rf, fun _ _ => rfl⟩, m1⟩
  exact ⟨r1, s1, r2, s2, e1, e2, h1.fr0 f2.1 (by decide) f2.2, m2⟩
/-! ===== values: the worst, the ways ===== -/
/-! ===== values: trains to have delayed, trains to guard ===== -/
theorem IV.f3 {σ s1 s2 : St} (hI : IV σ) (h1 : Fr [37, 38, 40] σ s1) (h2 : Fr [58] s1 s2) (h14 : ∀ c, c < 14 → gf s2 58 c = gf s1 58 c) : IV s2 := by
  have i1 : IV s1 := hI.fr0 h1 (by decide) (fun c _ => by rw [(h1.1 58 (by decide)).1])
  exact i1.fr0 h2 (by decide) h14
/-! ===== values: trains to guard, sets that spoil ===== -/
/-! what may be spoiled with a purse -/
/-! ===== values: trains whose delay changes nothing ===== -/
/-! ===== values: chances ===== -/
/-! sums -/
/-! how often just these are late -/
/-! ===== values: enough ===== -/
/-! ===== values: TRAINS to send by a chance ===== -/
theorem IV.f4 {σ s1 s2 : St} (hI : IV σ) (h1 : Fr [37, 38, 39, 40] σ s1) (h2 : Fr [58] s1 s2) (h14 : ∀ c, c < 14 → gf s2 58 c = gf s1 58 c) : IV s2 := by
  have i1 : IV s1 := hI.fr0 h1 (by decide) (fun c _ => by rw [(h1.1 58 (by decide)).1])
  exact i1.fr0 h2 (by decide) h14
/-! ===== values: the answer to a purse ===== -/
/-! sets and their sides -/
/-! ===== values: pairs that rest ===== -/
/-! ===== values: the cannon shared ===== -/
def atN (F : Nat → Int32) (a : Nat) : Nat := (F (75 + 4 * a + 1)).toInt.toNat
def enF (F : Nat → Int32) (a : Nat) : Nat := atN F a + (F (75 + 4 * a + 2)).toInt.toNat
theorem VW.ask {s : St} {F : Nat → Int32} {M T S E A U Y L P N : Nat} (v : VW s F M T S E A U Y L P N) {a : Nat} (ha : a < A) : F (75 + 4 * a + 1) = nI (atN F a) ∧ atN F a ≤ 59 ∧ nI (atN F a) + F (75 + 4 * a + 2) = nI (enF F a) ∧ atN F a < enF F a ∧ enF F a ≤ 79 := by
  have hA := v.2.2.hA
  obtain ⟨k, a1, a2, a3, a4⟩ := v.1.2.2.2.1
  obtain rfl : A = k := (nI_eq (by omega) (by omega)).mp (v.2.2.cA.symm.trans a2)
  have h1 : (0 : Int) ≤ (F (75 + 4 * a + 1)).toInt ∧ (F (75 + 4 * a + 1)).toInt ≤ 59 := (a4 a ha 1 (by omega)).2
  have h2 : (1 : Int) ≤ (F (75 + 4 * a + 2)).toInt ∧ (F (75 + 4 * a + 2)).toInt ≤ 20 := (a4 a ha 2 (by omega)).2
  obtain ⟨p, hp, e1⟩ := nI_ofT (x := F (75 + 4 * a + 1)) (n := 59) h1.1 h1.2
  obtain ⟨d, hd, e2⟩ := nI_ofT (x := F (75 + 4 * a + 2)) (n := 20) (by omega) h2.2
  have ep : atN F a = p := by
    unfold atN
    rw [e1, nI_toInt (by omega), Int.toNat_natCast]
  have ed : (F (75 + 4 * a + 2)).toInt.toNat = d := by rw [e2, nI_toInt (by omega), Int.toNat_natCast]
  have hd1 : 1 ≤ d := by
    rw [e2, nI_toInt (by omega)] at h2
    omega
  have ee : enF F a = p + d := by
    unfold enF
    rw [ep, ed]
  rw [ep, ee, e1, e2, nI_add]
  exact ⟨rfl, hp, rfl, by omega, by omega⟩
/-! by minute, then by number -/
abbrev ltA (F : Nat → Int32) (a b : Nat) : Prop := atN F a < atN F b ∨ (atN F a = atN F b ∧ a < b)
def SO (F : Nat → Int32) (g : Nat → Int32) (n : Nat) (o : Nat → Nat) : Prop := (∀ j, j < n → g j = nI (o j) ∧ o j < n) ∧ (∀ b, b < n → ∃ j, j < n ∧ o j = b) ∧ ∀ j j', j < j' → j' < n → ltA F (o j) (o j')
/-! the next ASK that begins at f or later -/
/-! counts -/
theorem SO.inj {F g : Nat → Int32} {n : Nat} {o : Nat → Nat} (h : SO F g n o) {j k : Nat} (hk : k < n) (hjk : j < k) : o j ≠ o k := by
  intro e
  have h1 := h.2.2 j k hjk hk
  rw [e] at h1
  rcases h1 with z | z <;> omega
