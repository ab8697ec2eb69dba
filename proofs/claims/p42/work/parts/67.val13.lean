/-! ===== the memo of Course.reckon, between calls ===== -/
def MR (σ : St) (M T S E L : Nat) : Prop := (∀ x, x < S → gr σ 34 x = frA (gr σ 59) E T (nI x) M) ∧ ∀ x, x < S → gr σ 35 x = winA (gr σ 59) M E T L (nI x)
def ME (σ : St) : Prop := gf σ 31 5 = 0 ∨ ∃ M T S E A U Y L P N, VW σ (gr σ 59) M T S E A U Y L P N ∧ MR σ M T S E L
theorem VW.uniq {s : St} {F F' : Nat → Int32} {M T S E A U Y L P N M' T' S' E' A' U' Y' L' P' N' : Nat} (v : VW s F M T S E A U Y L P N) (v' : VW s F' M' T' S' E' A' U' Y' L' P' N') : M = M' ∧ T = T' ∧ S = S' ∧ E = E' ∧ L = L' := by
  have b := v.2.2
  have b' := v'.2.2
  have q1 := b.hM
  have q2 := b.hT
  have q3 := b.hE
  have q4 := b.hL
  have q5 := b'.hM
  have q6 := b'.hT
  have q7 := b'.hE
  have q8 := b'.hL
  have hT : T = T' := (nI_eq (by omega) (by omega)).mp (b.cT.symm.trans b'.cT)
  exact ⟨(nI_eq (by omega) (by omega)).mp (b.cM.symm.trans b'.cM), hT, by rw [b.hS, b'.hS, hT], (nI_eq (by omega) (by omega)).mp (b.cE.symm.trans b'.cE), (nI_eq (by omega) (by omega)).mp (b.cL.symm.trans b'.cL)⟩
theorem ME.at' {σ : St} {M T S E A U Y L P N : Nat} (h : ME σ) (hf : ¬ gf σ 31 5 = 0) (v : VW σ (gr σ 59) M T S E A U Y L P N) : MR σ M T S E L := by
  obtain ⟨M', T', S', E', A', U', Y', L', P', N', v', hr⟩ := h.resolve_left hf
  obtain ⟨rfl, rfl, rfl, rfl, rfl⟩ := v.uniq v'
  exact hr
theorem ME.fr {σ σ' : St} {l : List Nat} (h : ME σ) (hf : Fr l σ σ') (hl : ∀ i ∈ l, 15 ≤ i ∧ i ≠ 31 ∧ i ≠ 34 ∧ i ≠ 35 ∧ i ≠ 59) : ME σ' := by
  have hn : ∀ i, (i = 31 ∨ i = 34 ∨ i = 35 ∨ i = 59) → gf σ' i = gf σ i ∧ gr σ' i = gr σ i := fun i hi => by
    have := hf.1 i (fun hm => by have := hl i hm; omega)
    exact ⟨this.1, this.2.1⟩
  rcases h with h | ⟨M, T, S, E, A, U, Y, L, P, N, v, h1, h2⟩
  · exact Or.inl (by rw [(hn 31 (by omega)).1]; exact h)
  · refine Or.inr ⟨M, T, S, E, A, U, Y, L, P, N, ?_, ?_, ?_⟩
    · rw [(hn 59 (by omega)).2]
      exact v.fr hf (fun i hi => by have := hl i hi; omega)
    · intro x hx
      rw [(hn 34 (by omega)).2, (hn 59 (by omega)).2]
      exact h1 x hx
    · intro x hx
      rw [(hn 35 (by omega)).2, (hn 59 (by omega)).2]
      exact h2 x hx
/-- reckon, from a state whose memo is right -/
theorem V_reck {s : St} {M T S E A U Y L P N : Nat} (v : VW s (gr s 59) M T S E A U Y L P N) (hm : ME s) : Ok (fun _ s' => Fr [31, 33, 34, 35] s s' ∧ ¬ gf s' 31 5 = 0 ∧ MR s' M T S E L) (f_X2_reckon s) := by
  by_cases c : gf s 31 5 = 0
  · obtain ⟨r, s', e, f, g1, g2, g3⟩ := V_reckon v c
    refine ⟨r, s', e, f, by rw [g1]; decide, ?_, ?_⟩
    · rw [(f.1 59 (by decide)).2.1]; exact g2
    · rw [(f.1 59 (by decide)).2.1]; exact g3
  · refine ⟨(), s, ?_, Fr.rf, c, hm.at' c v⟩
    unfold f_X2_reckon
    rw [if_neg c]
/-- what a question keeps, with the memo -/
def ZM (σ : St) : St → Prop := fun s => Fr SQ σ s ∧ ME s
theorem zm_of (σ : St) : ZZ (ZM σ) σ := by
  refine ⟨fun s h => h.1, fun s i f h hi => ⟨h.1.tr (Fr.cR ?_), h.2.fr (l := [i]) (Fr.cR (by simp)) ?_⟩, fun s i f h hi => ⟨h.1.tr (Fr.cJ ?_), h.2.fr (l := [i]) (Fr.cJ (by simp)) ?_⟩, fun s f h => ⟨h.1.tr (Fr.cF (by decide)), h.2.fr (l := [43]) (Fr.cF (by simp)) (by decide)⟩⟩
  · exact (show ∀ j ∈ SQf, j ∈ SQ by decide) i hi
  · intro j hj
    obtain rfl : j = i := by simpa using hj
    exact (show ∀ j ∈ SQf, 15 ≤ j ∧ j ≠ 31 ∧ j ≠ 34 ∧ j ≠ 35 ∧ j ≠ 59 by decide) j hi
  · exact (show ∀ j ∈ SQf, j ∈ SQ by decide) i hi
  · intro j hj
    obtain rfl : j = i := by simpa using hj
    exact (show ∀ j ∈ SQf, 15 ≤ j ∧ j ≠ 31 ∧ j ≠ 34 ∧ j ≠ 35 ∧ j ≠ 59 by decide) j hi
theorem rk_of {σ : St} (hI : IV σ) : RKZ (ZM σ) := by
  intro s h
  obtain ⟨M, T, S, E, A, U, Y, L, P, N, v⟩ := hI.vw
  have v1 : VW s (gr s 59) M T S E A U Y L P N := by
    rw [(h.1.1 59 (by decide)).2.1]
    exact v.fr h.1 (by decide)
  obtain ⟨r, s', e, f, g1, g2⟩ := V_reck v1 h.2
  refine ⟨r, s', e, h.1.tr (f.mo (by decide)), Or.inr ⟨M, T, S, E, A, U, Y, L, P, N, ?_, g2⟩⟩
  rw [(f.1 59 (by decide)).2.1]
  exact v1.fr f (by decide)
def ZRM (σ : St) : St → Prop := fun s => ZR σ s ∧ ME s
theorem zrm_of (σ : St) : ZQ (ZRM σ) σ := by
  have h0 := zq_of σ
  refine ⟨fun s h => h.1.1, fun s i f h hi => ⟨h0.2.1 s i f h.1 hi, h.2.fr (l := [i]) (Fr.cR (by simp)) (fun j hj => ?_)⟩, fun s c v h hc => ⟨h0.2.2 s c v h.1 hc, h.2.fr (l := [58]) (Fr.c1 (by simp)) (by decide)⟩⟩
  obtain rfl : j = i := by simpa using hj
  omega
/-- both, between calls -/
def JW (σ : St) : Prop := IV σ ∧ ME σ
/-- a question of both keeps the memo right -/
theorem Q_memo {α β : Type} {σ : St} {fc : St → Option (α × St)} {fr : St → Option (β × St)} (hI : JW σ)
    (hc : ∀ {Z : St → Prop} {M T S E A U Y L P N : Nat}, ZB Z σ M T S E A U Y L P N → RKZ Z → ∀ {s : St}, Z s → Ok (fun _ s' => Z s') (fc s))
    (hr : ∀ {Z : St → Prop} {σ0 : St} {M T S E A U Y L P N : Nat}, QB Z σ0 M T S E A U Y L P N → ∀ {s : St}, Z s → Ok (fun _ s' => Z s') (fr s)) :
    ∃ r1 s1 r2 s2, fc σ = some (r1, s1) ∧ fr s1 = some (r2, s2) ∧ JW s2 := by
  obtain ⟨M, T, S, E, A, U, Y, L, P, N, hb⟩ := (hI.1.2.2.2.2.1).1.bb
  have q : ZB (ZM σ) σ M T S E A U Y L P N := ⟨zm_of σ, hb⟩
  obtain ⟨r1, s1, e1, f1, m1⟩ := hc q (rk_of hI.1) ⟨Fr.rf, hI.2⟩
  have h1 : IV s1 := hI.1.fr0 f1 (by decide) (fun c _ => by rw [(f1.1 58 (by decide)).1])
  obtain ⟨M', T', S', E', A', U', Y', L', P', N', hb'⟩ := (h1.2.2.2.2.1).1.bb
  obtain ⟨r2, s2, e2, f2, m2⟩ := hr (Z := ZRM s1) ⟨zrm_of s1, hb', h1.2.2.2.2.1.1⟩ ⟨⟨Fr.rf, fun _ _ => rfl⟩, m1⟩
  exact ⟨r1, s1, r2, s2, e1, e2, h1.fr0 f2.1 (by decide) f2.2, m2⟩
/-! ===== values: the worst, the ways ===== -/
theorem sgn_b (x : Int32) : -1 ≤ (sgnI x).toInt ∧ (sgnI x).toInt ≤ 1 := by
  rcases sgn_cases x with e | e | e
  · rw [e]; decide
  · rw [e]; decide
  · rw [e]; decide
theorem fr_b (F : Nat → Int32) (E T : Nat) (x : Int32) : ∀ i : Nat, i ≤ 1000 → -(i : Int) ≤ (frA F E T x i).toInt ∧ (frA F E T x i).toInt ≤ i := by
  intro i
  induction i with
  | zero =>
    intro _
    have e : (frA F E T x 0).toInt = 0 := rfl
    omega
  | succ i ih =>
    intro hi
    have h1 := ih (by omega)
    have h2 := sgn_b (if teaV F E (nI i) = 0 then menA F 0 (nI i) x T - menA F 1 (nI i) x T else 0)
    have e : (frA F E T x (i + 1)).toInt = (frA F E T x i).toInt + (sgnI (if teaV F E (nI i) = 0 then menA F 0 (nI i) x T - menA F 1 (nI i) x T else 0)).toInt := by
      show (frA F E T x i + sgnI (if teaV F E (nI i) = 0 then menA F 0 (nI i) x T - menA F 1 (nI i) x T else 0)).toInt = _
      rw [Int32.toInt_add]
      apply Int.bmod_eq_of_le
      · omega
      · omega
    omega
theorem goo_b (p x : Int32) (h : -1000 ≤ x.toInt ∧ x.toInt ≤ 1000) : -1000 ≤ (gooA p x).toInt ∧ (gooA p x).toInt ≤ 1000 := by
  unfold gooA
  by_cases c : p = 0
  · rw [if_pos c]; exact h
  · rw [if_neg c]
    have e : (-x).toInt = -x.toInt := by
      rw [Int32.toInt_neg]
      apply Int.bmod_eq_of_le
      · omega
      · omega
    omega
/-- the worst of the first i + 1 sets, by goodness g and fewness -/
def wsA (g : Nat → Int32) : Nat → Nat
  | 0 => 0
  | i + 1 => if g (i + 1) < g (wsA g i) then i + 1 else if g (i + 1) = g (wsA g i) then (if bcV (nI (i + 1)) < bcV (nI (wsA g i)) then i + 1 else wsA g i) else wsA g i
theorem wsA_le (g : Nat → Int32) : ∀ i, wsA g i ≤ i := by
  intro i
  induction i with
  | zero => exact Nat.le_refl _
  | succ i ih =>
    show (if g (i + 1) < g (wsA g i) then i + 1 else if g (i + 1) = g (wsA g i) then (if bcV (nI (i + 1)) < bcV (nI (wsA g i)) then i + 1 else wsA g i) else wsA g i) ≤ i + 1
    split
    · omega
    · split
      · split <;> omega
      · omega
theorem S_goodEnd {σ : St} {x : Nat} (p : Int32) (hx : x < 512) : f_X2_goodAtEnd p (nI x) σ = some (gooA p (gr σ 34 x), σ) := by
  unfold f_X2_goodAtEnd f_X2_goodAtEnd_22
  rw [if_neg (nI_pos (by omega)), if_neg (show ¬ (512 : Int32) ≤ nI x from lt_ge (m := 512) hx (by omega)), inb_ln (n := 512) rfl hx (by omega), gd_tt, nI_clamp (by omega), S_good2, bd_mk]
def gfA (F : Nat → Int32) (M E T : Nat) (p : Int32) : Nat → Int32 := fun x => gooA p (frA F E T (nI x) M)
theorem V_worst {s : St} {M T S E A U Y L P N : Nat} (v : VW s (gr s 59) M T S E A U Y L P N) (hm : ME s) (p : Int32) : Ok (fun r s' => r = nI (wsA (gfA (gr s 59) M E T p) (S - 1)) ∧ Fr [31, 33, 34, 35] s s' ∧ ∀ x, x < S → gr s' 34 x = frA (gr s 59) E T (nI x) M) (f_X2_worstSet p s) := by
  have h5 := v.2.2.S512
  have hM := v.2.2.hM
  unfold f_X2_worstSet
  obtain ⟨r, s1, e1, f1, -, g34, -⟩ := V_reck v hm
  rw [e1, bd_mk]
  have v1 : VW s1 (gr s 59) M T S E A U Y L P N := v.fr f1 (by decide)
  rw [(f1.1 59 (by decide)).2.1] at g34
  refine ⟨_, s1, ?_, rfl, f1, g34⟩
  refine itr_cnt (fun i => (p, nI (wsA (gfA (gr s 59) M E T p) i), nI (i + 1), s1)) (S - 1) _ (fun i K hi => ?_) (fun K => ?_) (S - 1) 0 FU (by omega) (by unfold FU; omega)
  · have hw := wsA_le (gfA (gr s 59) M E T p) i
    unfold g_X2_worstSet_8 f_X2_worstSet_55 f_X2_worstSet_57
    dsimp only
    rw [V_sets v1, bd_mk, if_neg (lt_ge (show i + 1 < S by omega) (by omega)), S_goodEnd p (by omega), bd_mk, S_goodEnd p (by omega), bd_mk, bnd_mk, S_bc, bd_mk, S_bc, bd_mk, g34 _ (by omega), g34 _ (by omega), nI_1]
    show _ = K (p, nI (if gfA (gr s 59) M E T p (i + 1) < gfA (gr s 59) M E T p (wsA (gfA (gr s 59) M E T p) i) then i + 1 else if gfA (gr s 59) M E T p (i + 1) = gfA (gr s 59) M E T p (wsA (gfA (gr s 59) M E T p) i) then (if bcV (nI (i + 1)) < bcV (nI (wsA (gfA (gr s 59) M E T p) i)) then i + 1 else wsA (gfA (gr s 59) M E T p) i) else wsA (gfA (gr s 59) M E T p) i), nI (i + 1 + 1), s1)
    generalize wsA (gfA (gr s 59) M E T p) i = w at *
    show (if 0 < gfA (gr s 59) M E T p w - gfA (gr s 59) M E T p (i + 1) then _ else if gfA (gr s 59) M E T p w - gfA (gr s 59) M E T p (i + 1) = 0 then _ else _) = _
    have ha : -1000 ≤ (gfA (gr s 59) M E T p w).toInt ∧ (gfA (gr s 59) M E T p w).toInt ≤ 1000 := goo_b p _ (by have := fr_b (gr s 59) E T (nI w) M (by omega); omega)
    have hb : -1000 ≤ (gfA (gr s 59) M E T p (i + 1)).toInt ∧ (gfA (gr s 59) M E T p (i + 1)).toInt ≤ 1000 := goo_b p _ (by have := fr_b (gr s 59) E T (nI (i + 1)) M (by omega); omega)
    generalize gfA (gr s 59) M E T p w = x at *
    generalize gfA (gr s 59) M E T p (i + 1) = y at *
    have hd : (x - y).toInt = x.toInt - y.toInt := by
      rw [Int32.toInt_sub]
      apply Int.bmod_eq_of_le
      · omega
      · omega
    have z0 : (0 : Int32).toInt = 0 := rfl
    by_cases c1 : y < x
    · rw [if_pos (show (0 : Int32) < x - y from by rw [lt_toInt] at c1 ⊢; omega), if_pos c1]
      rfl
    · rw [if_neg (show ¬ (0 : Int32) < x - y from by rw [lt_toInt] at c1 ⊢; omega), if_neg c1]
      by_cases c2 : y = x
      · rw [if_pos (sub0.mpr c2.symm), if_pos c2]
        by_cases c3 : bcV (nI (i + 1)) < bcV (nI w)
        · rw [if_neg (show ¬ bcV (nI w) ≤ bcV (nI (i + 1)) from by rw [lt_toInt] at c3; rw [le_toInt]; omega), if_pos c3]
          rfl
        · rw [if_pos (show bcV (nI w) ≤ bcV (nI (i + 1)) from by rw [lt_toInt] at c3; rw [le_toInt]; omega), if_neg c3]
          rfl
      · rw [if_neg (fun z => c2 (sub0.mp z).symm), if_neg c2]
        rfl
  · unfold g_X2_worstSet_8
    dsimp only
    rw [V_sets v1, bd_mk, if_pos (show nI S ≤ nI (S - 1 + 1) from by rw [show S - 1 + 1 = S by omega]; exact le_rf S)]
theorem M_allT {s : St} {F : Nat → Int32} {M T S E A U Y L P N : Nat} (v : VW s F M T S E A U Y L P N) : f_X12_allTrains s = some (nI (S - 1), s) := by
  have hb := v.2.2
  have h5 := hb.S512
  unfold f_X12_allTrains
  rw [show inb (4 : Int32) (ln 59) = true from rfl, gd_tt, c64_4, hb.mT, nI_shl (by have := hb.hT; omega), ← hb.hS]
  obtain ⟨k, e⟩ : ∃ k, S = k + 1 := ⟨S - 1, by omega⟩
  rw [e, nI_pred, Nat.add_sub_cancel]
theorem M_worst {s : St} {F : Nat → Int32} {M T S E A U Y L P N : Nat} (v : VW s F M T S E A U Y L P N) (p : Int32) : Ok (fun r s' => r = gfA F M E T p (wsA (gfA F M E T p) (S - 1)) ∧ gf s' 58 16 = nI (wsA (gfA F M E T p) (S - 1)) ∧ Fr [58, 65] s s' ∧ ∀ c, c < 14 → gf s' 58 c = gf s 58 c) (f_X12_worstOf p s) := by
  have h5 := v.2.2.S512
  have hM := v.2.2.hM
  unfold f_X12_worstOf
  rw [bnd_mk]
  refine okC (fun (i : Nat) (y : Int32 × Int32 × Int32 × St) => y.1 = p ∧ y.2.2.1 = nI i ∧ (i = 0 → y.2.1 = 1000000) ∧ (1 ≤ i → y.2.1 = gfA F M E T p (wsA (gfA F M E T p) (i - 1)) ∧ gf y.2.2.2 58 16 = nI (wsA (gfA F M E T p) (i - 1))) ∧ Fr [58, 65] s y.2.2.2 ∧ ∀ c, c < 14 → gf y.2.2.2 58 c = gf s 58 c) S ?_ (i := 0) (by unfold FU; omega) (by omega) ⟨rfl, rfl, fun _ => rfl, fun h => absurd h (by omega), Fr.c1 (by simp), fun c hc => by
    show gf (sf s 58 16 0) 58 c = _
    rw [gf_sf_s, if_neg (by omega)]⟩
  rintro i ⟨y1, y2, y3, s1⟩ K hi ⟨e1, e2, h0, h1, hf, h14⟩ hK
  dsimp only at e1 e2 h0 h1 hf h14
  subst e1 e2
  have v1 := v.fr hf (by decide)
  unfold g_X12_worstOf_11
  dsimp only
  rw [M_allT v1, bd_mk]
  refine okI (fun c => okR ?_) (fun c => ?_)
  · have : i = S := by
      rw [nI_ltI (by omega) (by omega)] at c
      omega
    obtain ⟨a1, a2⟩ := h1 (by omega)
    rw [this] at a1 a2
    exact ⟨a1, a2, hf, h14⟩
  · have hiS : i < S := by
      rw [nI_ltI (by omega) (by omega)] at c
      omega
    obtain ⟨r4, s2, e4, q4, f4, -⟩ := M_last v1 (nI i)
    rw [e4, bd_mk, S_goodBy, bd_mk, q4]
    have hf2 : Fr [58, 65] s s2 := hf.tr (f4.mo (by simp))
    have g58 : gf s2 58 = gf s1 58 := (f4.1 58 (by decide)).1
    have h142 : ∀ c, c < 14 → gf s2 58 c = gf s 58 c := fun c hc => by rw [g58]; exact h14 c hc
    have hy : -1000 ≤ (gfA F M E T y1 i).toInt ∧ (gfA F M E T y1 i).toInt ≤ 1000 := goo_b y1 _ (by have := fr_b F E T (nI i) M (by omega); omega)
    have keep : 1 ≤ i → wsA (gfA F M E T y1) i = wsA (gfA F M E T y1) (i - 1) → ∀ s3, Fr [58, 65] s s3 → gf s3 58 = gf s1 58 → Ok (fun r s' => r = gfA F M E T y1 (wsA (gfA F M E T y1) (S - 1)) ∧ gf s' 58 16 = nI (wsA (gfA F M E T y1) (S - 1)) ∧ Fr [58, 65] s s' ∧ ∀ c, c < 14 → gf s' 58 c = gf s 58 c) (f_X12_worstOf_67 K y1 y2 (nI i) s3) := by
      intro hi1 hw s3 f3 g3
      unfold f_X12_worstOf_67
      rw [bnd_mk, nI_1]
      refine hK _ hiS ⟨rfl, rfl, fun z => absurd z (by omega), fun _ => ?_, f3, fun c hc => by
        show gf s3 58 c = _
        rw [g3]; exact h14 c hc⟩
      obtain ⟨a1, a2⟩ := h1 hi1
      rw [show i + 1 - 1 = i by omega, hw]
      exact ⟨a1, by show gf s3 58 16 = _; rw [g3]; exact a2⟩
    have repl : wsA (gfA F M E T y1) i = i → ∀ z, z = gfA F M E T y1 i → ∀ s3, Fr [58, 65] s s3 → gf s3 58 = gf s1 58 → Ok (fun r s' => r = gfA F M E T y1 (wsA (gfA F M E T y1) (S - 1)) ∧ gf s' 58 16 = nI (wsA (gfA F M E T y1) (S - 1)) ∧ Fr [58, 65] s s' ∧ ∀ c, c < 14 → gf s' 58 c = gf s 58 c) (f_X12_worstOf_59 K y1 (nI i) z s3) := by
      intro hw z hz s3 f3 g3
      unfold f_X12_worstOf_59 f_X12_worstOf_67
      rw [bnd_mk, bnd_mk, nI_1]
      refine hK _ hiS ⟨rfl, rfl, fun z => absurd z (by omega), fun _ => ?_, f3.tr (Fr.c1 (by simp)), fun c hc => by
        show gf (sf s3 58 16 (nI i)) 58 c = _
        rw [gf_sf_s, if_neg (by omega), g3]; exact h14 c hc⟩
      rw [show i + 1 - 1 = i by omega, hw]
      exact ⟨hz, by show gf (sf s3 58 16 (nI i)) 58 16 = _; rw [gf_sf_s, if_pos rfl]⟩
    show Ok _ (if y2 < gfA F M E T y1 i then _ else if gfA F M E T y1 i = y2 then _ else _)
    rcases Nat.eq_zero_or_pos i with hz | hi1
    · have e0 := h0 hz
      have zm : (1000000 : Int32).toInt = 1000000 := rfl
      rw [if_neg (by rw [e0, lt_toInt]; omega), if_neg (fun z => by rw [z, e0] at hy; omega)]
      exact repl (by rw [hz]; rfl) _ rfl s2 hf2 g58
    · obtain ⟨j, rfl⟩ : ∃ j, i = j + 1 := ⟨i - 1, by omega⟩
      obtain ⟨a1, a2⟩ := h1 hi1
      rw [Nat.add_sub_cancel] at a1 a2
      have hwl := wsA_le (gfA F M E T y1) j
      have nx : wsA (gfA F M E T y1) (j + 1) = if gfA F M E T y1 (j + 1) < gfA F M E T y1 (wsA (gfA F M E T y1) j) then j + 1 else if gfA F M E T y1 (j + 1) = gfA F M E T y1 (wsA (gfA F M E T y1) j) then (if bcV (nI (j + 1)) < bcV (nI (wsA (gfA F M E T y1) j)) then j + 1 else wsA (gfA F M E T y1) j) else wsA (gfA F M E T y1) j := rfl
      refine okI (fun c1 => ?_) (fun c1 => ?_)
      · refine keep hi1 ?_ s2 hf2 g58
        rw [a1, lt_toInt] at c1
        rw [nx, Nat.add_sub_cancel, if_neg (by rw [lt_toInt]; omega), if_neg (fun z => by rw [z] at c1; omega)]
      · rw [a1, lt_toInt] at c1
        refine okI (fun c2 => ?_) (fun c2 => ?_)
        · rw [a1] at c2
          rw [S_bits, bd_mk, S_bits, bd_mk, show gf s2 58 16 = nI (wsA (gfA F M E T y1) j) from by rw [g58]; exact a2, ← bc_bits (j + 1) (by omega), ← bc_bits (wsA (gfA F M E T y1) j) (by omega)]
          rw [if_neg (by rw [lt_toInt, c2]; omega), if_pos c2] at nx
          refine okI (fun c3 => ?_) (fun c3 => ?_)
          · rw [if_pos c3] at nx
            exact repl nx _ rfl s2 hf2 g58
          · rw [if_neg c3] at nx
            exact keep hi1 (by rw [nx, Nat.add_sub_cancel]) s2 hf2 g58
        · have c3 : ¬ (gfA F M E T y1 (j + 1)).toInt = (gfA F M E T y1 (wsA (gfA F M E T y1) j)).toInt := fun z => c2 (by rw [a1]; exact Int32.toInt_inj.mp z)
          rw [if_pos (by rw [lt_toInt]; omega)] at nx
          exact repl nx _ rfl s2 hf2 g58
theorem D_worst (a : Int32) (σ : St) (hI : JW σ) : ∃ r s1 s2, f_X11_worst a σ = some (r, s1) ∧ f_X12_worst a s1 = some (r, s2) := by
  obtain ⟨M, T, S, E, A, U, Y, L, P, N, v⟩ := hI.1.vw
  have hb := v.2.2
  have h5 := hb.S512
  unfold f_X11_worst f_X11_worst_33 f_X12_worst f_X12_worst_19
  rw [S_hasSide _ hb.hN hb.cN, bd_mk]
  by_cases c1 : 1 ≤ N ∧ (a = 0 ∨ a = 1)
  · obtain ⟨r1, s1, e1, q1, f1, g1⟩ := V_worst v hI.2 a
    have v1 := v.fr f1 (by decide)
    obtain ⟨r2, s2, e2, q2, -, -⟩ := M_worst v1 a
    have hw := wsA_le (gfA (gr σ 59) M E T a) (S - 1)
    refine ⟨r2, s1, s2, ?_, ?_⟩
    · rw [b2_t c1, if_neg n10, e1, bd_mk, q1, S_goodEnd a (by omega), bd_mk, g1 _ (by omega), q2]
      rfl
    · rw [S_isSide _ hb.hN v1.2.2.mN, bd_mk, b2_t c1, if_neg n10, e2, bd_mk]
  · refine ⟨-1000, σ, σ, by rw [b2_f c1, if_pos rfl], ?_⟩
    rw [S_isSide _ hb.hN hb.mN, bd_mk, b2_f c1, if_pos rfl]
theorem D_by (a : Int32) (σ : St) (hI : JW σ) : ∃ r s1 s2, f_X11_by a σ = some (r, s1) ∧ f_X12_by a s1 = some (r, s2) := by
  obtain ⟨M, T, S, E, A, U, Y, L, P, N, v⟩ := hI.1.vw
  have hb := v.2.2
  unfold f_X11_by f_X11_by_24 f_X12_by
  rw [S_hasSide _ hb.hN hb.cN, bd_mk]
  by_cases c1 : 1 ≤ N ∧ (a = 0 ∨ a = 1)
  · obtain ⟨r1, s1, e1, q1, f1, g1⟩ := V_worst v hI.2 a
    have v1 := v.fr f1 (by decide)
    obtain ⟨r2, s2, e2, -, q2, -⟩ := M_worst v1 a
    refine ⟨r1, s1, s2, by rw [b2_t c1, if_neg n10, e1, bd_mk], ?_⟩
    rw [S_isSide _ hb.hN v1.2.2.mN, bd_mk, b2_t c1, if_neg n10, e2, bd_mk, q1, q2]
  · refine ⟨-2, σ, σ, by rw [b2_f c1, if_pos rfl], ?_⟩
    rw [S_isSide _ hb.hN hb.mN, bd_mk, b2_f c1, if_pos rfl]
def wyA (F : Nat → Int32) (M E T L : Nat) (p : Int32) : Nat → Int32
  | 0 => 0
  | i + 1 => wyA F M E T L p i + (if winA F M E T L (nI i) = p then 1 else 0)
theorem S_reckoned {σ : St} {x : Nat} (hx : x < 512) : f_X2_reckonedWinner (nI x) σ = some (gr σ 35 x, σ) := by
  unfold f_X2_reckonedWinner f_X2_reckonedWinner_21
  rw [if_neg (nI_pos (by omega)), if_neg (show ¬ (512 : Int32) ≤ nI x from lt_ge (m := 512) hx (by omega)), inb_ln (n := 512) rfl hx (by omega), gd_tt, nI_clamp (by omega)]
theorem D_ways (a : Int32) (σ : St) (hI : JW σ) : ∃ r s1 s2, f_X11_ways a σ = some (r, s1) ∧ f_X12_ways a s1 = some (r, s2) := by
  obtain ⟨M, T, S, E, A, U, Y, L, P, N, v⟩ := hI.1.vw
  have hb := v.2.2
  have h5 := hb.S512
  unfold f_X11_ways f_X11_ways_24 f_X12_ways
  rw [S_hasSide _ hb.hN hb.cN, bd_mk]
  by_cases c1 : 1 ≤ N ∧ (a = 0 ∨ a = 1)
  · obtain ⟨r, s1, e1, f1, -, -, g35⟩ := V_reck v hI.2
    have v1 : VW s1 (gr σ 59) M T S E A U Y L P N := v.fr f1 (by decide)
    rw [(f1.1 59 (by decide)).2.1] at g35
    have hC : f_X2_countWays a σ = some (wyA (gr σ 59) M E T L a S, s1) := by
      unfold f_X2_countWays
      rw [e1, bd_mk]
      refine itr_cnt (fun i => (a, wyA (gr σ 59) M E T L a i, nI i, s1)) S _ (fun i K hi => ?_) (fun K => ?_) S 0 FU (by omega) (by unfold FU; omega)
      · unfold g_X2_countWays_8 f_X2_countWays_31
        dsimp only
        rw [V_sets v1, bd_mk, if_neg (lt_ge hi (by omega)), S_reckoned (by omega), bd_mk, g35 i hi, nI_1]
        show _ = K (a, wyA (gr σ 59) M E T L a i + (if winA (gr σ 59) M E T L (nI i) = a then 1 else 0), nI (i + 1), s1)
        by_cases c : winA (gr σ 59) M E T L (nI i) = a
        · rw [if_pos c, if_pos c]
          rfl
        · rw [if_neg c, if_neg c, Int32.add_zero]
          rfl
      · unfold g_X2_countWays_8
        dsimp only
        rw [V_sets v1, bd_mk, if_pos (le_rf S)]
    have hR : Ok (fun r s' => r = wyA (gr σ 59) M E T L a S ∧ Fr [65] s1 s') (itr g_X12_ways_15 FU (a, 0, 0, s1)) := by
      refine okC (fun (i : Nat) (y : Int32 × Int32 × Int32 × St) => y.1 = a ∧ y.2.1 = wyA (gr σ 59) M E T L a i ∧ y.2.2.1 = nI i ∧ Fr [65] s1 y.2.2.2) S ?_ (i := 0) (by unfold FU; omega) (by omega) ⟨rfl, rfl, rfl, Fr.rf⟩
      rintro i ⟨y1, y2, y3, s3⟩ K hi ⟨e1, e2, e3, hf⟩ hK
      dsimp only at e1 e2 e3 hf
      subst e1 e2 e3
      have v3 := v1.fr hf (by decide)
      unfold g_X12_ways_15 f_X12_ways_38
      dsimp only
      rw [M_allT v3, bd_mk]
      refine okI (fun c => okR ⟨?_, hf⟩) (fun c => ?_)
      · have : i = S := by
          rw [nI_ltI (by omega) (by omega)] at c
          omega
        rw [this]
      · have hiS : i < S := by
          rw [nI_ltI (by omega) (by omega)] at c
          omega
        obtain ⟨r4, s4, e4, q4, f4⟩ := M_winner v3 (nI i)
        rw [e4, bd_mk, q4, nI_1]
        have nx : wyA (gr σ 59) M E T L y1 (i + 1) = wyA (gr σ 59) M E T L y1 i + (if winA (gr σ 59) M E T L (nI i) = y1 then 1 else 0) := rfl
        refine okI (fun w => hK _ hiS ⟨rfl, ?_, rfl, hf.tr f4⟩) (fun w => hK _ hiS ⟨rfl, ?_, rfl, hf.tr f4⟩)
        · rw [nx, if_pos w]
        · rw [nx, if_neg w]
    obtain ⟨r2, s2, h2, q2, -⟩ := hR
    refine ⟨_, s1, s2, by rw [b2_t c1, if_neg n10, hC, bd_mk], ?_⟩
    rw [S_isSide _ hb.hN v1.2.2.mN, bd_mk, b2_t c1, if_neg n10, ← q2]
    exact h2
  · refine ⟨-2, σ, σ, by rw [b2_f c1, if_pos rfl], ?_⟩
    rw [S_isSide _ hb.hN hb.mN, bd_mk, b2_f c1, if_pos rfl]
