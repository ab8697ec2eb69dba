/-! ===== what holds between calls ===== -/
/-- a WAR without lines is empty -/
def WN (σ : St) (w : Nat) (F : Nat → Int32) : Prop := WR σ w F ∧ (gf σ w 0 = nI 0 → gf σ (w + 2) 3 = nI 0)
theorem WN.be {σ σ' : St} {w u : Nat} {F : Nat → Int32} (h : WN σ u F) (hb : BE σ σ' w u) : WN σ' w F := by
  refine ⟨h.1.be hb, ?_⟩
  rw [hb.1 0 (by omega), (hb.2.2 2 (by omega)).1]
  exact h.2
theorem WN.row {σ : St} {w : Nat} {F G : Nat → Int32} (h : WN σ w F) (hg : ∀ j, j < 240 → G j = F j) : WN σ w G := ⟨h.1.row hg, h.2⟩
def IM (σ : St) : Prop := ∀ k, k < 3 → (gm σ k = none ∧ gr σ 61 k = 0) ∨ ∃ b, gm σ k = some b ∧ gr σ 61 k = 1 ∧ WN σ (75 + 14 * b) (fun j => gr σ 60 (240 * k + j))
def IJ (σ : St) : Prop := ∀ k k' b, gm σ k = some b → gm σ k' = some b → k = k'
def c1 (o : Option Nat) : Nat := match o with
  | none => 0
  | some _ => 1
def IC (σ : St) : Prop := gn σ = c1 (gm σ 0) + c1 (gm σ 1) + c1 (gm σ 2)
def IV (σ : St) : Prop := TP σ ∧ SL σ ∧ FE σ ∧ MI σ ∧ WN σ 1 (gr σ 59) ∧ IM σ ∧ IJ σ ∧ IC σ
theorem c1_le (o : Option Nat) : c1 o ≤ 1 := by
  cases o with
  | none => exact Nat.zero_le _
  | some b => exact Nat.le_refl _
theorem IV.n3 {σ : St} (h : IV σ) : gn σ ≤ 3 := by
  have e : IC σ := h.2.2.2.2.2.2.2
  unfold IC at e
  have := c1_le (gm σ 0)
  have := c1_le (gm σ 1)
  have := c1_le (gm σ 2)
  omega
theorem WN.kp {σ σ' : St} {w : Nat} {F : Nat → Int32} (h : WN σ w F) (hk : ∀ i, w ≤ i → i < w + 14 → gf σ' i = gf σ i ∧ gr σ' i = gr σ i) : WN σ' w F := by
  refine h.be ⟨fun k _ => by rw [(hk w (by omega) (by omega)).1], fun j _ => by rw [(hk (w + 1) (by omega) (by omega)).2], fun t ht => ?_⟩
  have ht' : t ≤ 12 := by omega
  exact ⟨by rw [(hk (w + t) (by omega) (by omega)).1], fun j _ => by rw [(hk (w + t + 1) (by omega) (by omega)).2]⟩
theorem IM.kp {σ σ' : St} (h : IM σ) (hk : ∀ i, (i = 60 ∨ i = 61 ∨ 75 ≤ i) → gf σ' i = gf σ i ∧ gr σ' i = gr σ i) (hm : gm σ' = gm σ) : IM σ' := by
  intro k hk3
  rcases h k hk3 with ⟨a, b⟩ | ⟨b, a1, a2, a3⟩
  · exact Or.inl ⟨by rw [hm]; exact a, by rw [(hk 61 (by omega)).2]; exact b⟩
  · refine Or.inr ⟨b, by rw [hm]; exact a1, by rw [(hk 61 (by omega)).2]; exact a2, ?_⟩
    rw [(hk 60 (by omega)).2]
    exact a3.kp (fun i hi _ => hk i (by omega))
theorem IV.fr {σ σ' : St} {l : List Nat} (h : IV σ) (hf : Fr l σ σ') (hl : ∀ i ∈ l, 15 ≤ i ∧ i < 75 ∧ i ≠ 59 ∧ i ≠ 60 ∧ i ≠ 61) (hT : TP σ') (hS : SL σ') (hF : FE σ') : IV σ' := by
  obtain ⟨-, -, -, a4, a5, a6, a7, a8⟩ := h
  have hk : ∀ i, (i < 15 ∨ i = 59 ∨ i = 60 ∨ i = 61 ∨ 75 ≤ i) → gf σ' i = gf σ i ∧ gr σ' i = gr σ i := fun i hi => by
    have := hf.1 i (fun hm => by have := hl i hm; omega)
    exact ⟨this.1, this.2.1⟩
  refine ⟨hT, hS, hF, ?_, ?_, a6.kp (fun i hi => hk i (by omega)) hf.2.1, ?_, ?_⟩
  · intro k b hb
    rw [hf.2.1] at hb
    rw [hf.2.2]
    exact a4 k b hb
  · rw [(hk 59 (by omega)).2]
    exact a5.kp (fun i _ hi => hk i (by omega))
  · intro k k' b
    rw [hf.2.1]
    exact a7 k k' b
  · unfold IC
    rw [hf.2.1, hf.2.2]
    exact a8
theorem TP.fr {σ σ' : St} {l : List Nat} (h : TP σ) (hf : Fr l σ σ') (hl : 29 ∉ l ∧ 30 ∉ l ∧ 62 ∉ l) (h5 : gf σ' 58 5 = gf σ 58 5) : TP σ' := by
  obtain ⟨n, a1, a2, a3, a4, a5⟩ := h
  refine ⟨n, a1, by rw [(hf.1 29 hl.1).1]; exact a2, h5.trans a3, fun j hj => ?_, fun j hj => ?_⟩
  · rw [(hf.1 30 hl.2.1).2.1, (hf.1 62 hl.2.2).2.1]; exact a4 j hj
  · rw [(hf.1 30 hl.2.1).2.1]; exact a5 j hj
theorem FE.fr {σ σ' : St} {l : List Nat} (h : FE σ) (hf : Fr l σ σ') (hl : 29 ∉ l) (h12 : gf σ' 58 12 = gf σ 58 12) (h13 : gf σ' 58 13 = gf σ 58 13) : FE σ' := by
  unfold FE at *
  rw [(hf.1 29 hl).1, h12, h13]
  exact h
/-- a change to objects that no row speaks of -/
theorem IV.fr0 {σ σ' : St} {l : List Nat} (h : IV σ) (hf : Fr l σ σ') (hl : ∀ i ∈ l, 30 < i ∧ i < 75 ∧ i ≠ 53 ∧ i ≠ 54 ∧ i ≠ 55 ∧ i ≠ 59 ∧ i ≠ 60 ∧ i ≠ 61 ∧ i ≠ 62 ∧ i ≠ 71 ∧ i ≠ 72) (h5 : ∀ c, c < 14 → gf σ' 58 c = gf σ 58 c) : IV σ' := by
  have hn : ∀ i, (i = 29 ∨ i = 30 ∨ i = 62 ∨ i = 53 ∨ i = 54 ∨ i = 55 ∨ i = 71 ∨ i = 72) → i ∉ l := fun i hi hm => by have := hl i hm; omega
  exact h.fr hf (fun i hi => by have := hl i hi; omega) (h.1.fr hf ⟨hn _ (by omega), hn _ (by omega), hn _ (by omega)⟩ (h5 _ (by omega))) (h.2.1.fr hf (hn _ (by omega)) (hn _ (by omega)) (hn _ (by omega)) (hn _ (by omega)) (hn _ (by omega))) (h.2.2.1.fr hf (hn _ (by omega)) (h5 _ (by omega)) (h5 _ (by omega)))
theorem zz_of (σ : St) : ZZ (fun s => Fr SQ σ s) σ := by
  refine ⟨fun s h => h, fun s i f h hi => h.tr (Fr.cR ?_), fun s i f h hi => h.tr (Fr.cJ ?_), fun s f h => h.tr (Fr.cF (by decide))⟩
  · exact (show ∀ j ∈ SQf, j ∈ SQ by decide) i hi
  · exact (show ∀ j ∈ SQf, j ∈ SQ by decide) i hi
theorem mz_of (σ : St) : MZ (fun s => Fr SQ σ s) := by
  refine ⟨fun s i f h hi => h.tr (Fr.cR ?_), fun s f h => h.tr (Fr.cF (by decide))⟩
  rcases hi with rfl | rfl
  · decide
  · decide
def ZR (σ : St) : St → Prop := fun s => Fr SRf σ s ∧ ∀ c, c < 14 → gf s 58 c = gf σ 58 c
theorem zq_of (σ : St) : ZQ (ZR σ) σ := by
  refine ⟨fun s h => h.1, fun s i f h hi => ⟨h.1.tr (Fr.cR ?_), fun c hc => h.2 c hc⟩, fun s c v h hc => ⟨h.1.tr (Fr.c1 (by decide)), fun c' hc' => ?_⟩⟩
  · rcases hi with rfl | rfl | rfl
    · decide
    · decide
    · decide
  · rw [← h.2 c' hc']
    show gf (sF s 58 (upd (gf s 58) c v)) 58 c' = _
    rw [gf_sF, if_pos rfl]
    unfold upd
    rw [if_neg (by omega)]
/-- a question of both -/
theorem Q_pair {α β : Type} {σ : St} {fc : St → Option (α × St)} {fr : St → Option (β × St)} (hI : IV σ)
    (hc : ∀ {Z : St → Prop} {M T S E A U Y L P N : Nat}, ZB Z σ M T S E A U Y L P N → RKZ Z → ∀ {s : St}, Z s → Ok (fun _ s' => Z s') (fc s))
    (hr : ∀ {Z : St → Prop} {σ0 : St} {M T S E A U Y L P N : Nat}, QB Z σ0 M T S E A U Y L P N → ∀ {s : St}, Z s → Ok (fun _ s' => Z s') (fr s)) :
    ∃ r1 s1 r2 s2, fc σ = some (r1, s1) ∧ fr s1 = some (r2, s2) ∧ IV s2 := by
  obtain ⟨M, T, S, E, A, U, Y, L, P, N, hb⟩ := (hI.2.2.2.2.1).1.bb
  have q : ZB (fun s => Fr SQ σ s) σ M T S E A U Y L P N := ⟨zz_of σ, hb⟩
  obtain ⟨r1, s1, e1, f1⟩ := hc q (fun s h => T_X2_reckon q (mz_of σ) h) Fr.rf
  have h1 : IV s1 := hI.fr0 f1 (by decide) (fun c _ => by rw [(f1.1 58 (by decide)).1])
  obtain ⟨M', T', S', E', A', U', Y', L', P', N', hb'⟩ := (h1.2.2.2.2.1).1.bb
  obtain ⟨r2, s2, e2, f2⟩ := hr (Z := ZR s1) ⟨zq_of s1, hb', h1.2.2.2.2.1.1⟩ ⟨Fr.rf, fun _ _ => rfl⟩
  exact ⟨r1, s1, r2, s2, e1, e2, h1.fr0 f2.1 (by decide) f2.2⟩
