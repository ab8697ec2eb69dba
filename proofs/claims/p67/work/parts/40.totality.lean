/-! ===== that a call comes to an end: a calculus ===== -/
def Ok {α : Type} (P : α → St → Prop) (o : Option (α × St)) : Prop := ∃ r s, o = some (r, s) ∧ P r s
theorem okR {α : Type} {P : α → St → Prop} {r : α} {s : St} (h : P r s) : Ok P (some (r, s)) := ⟨r, s, rfl, h⟩
theorem okB {α β : Type} {P : β → St → Prop} {Q : α → St → Prop} {o : Option (α × St)} {k : α → St → Option (β × St)} (h : Ok Q o) (hk : ∀ r s, Q r s → Ok P (k r s)) : Ok P (bd o k) := by
  obtain ⟨r, s, rfl, hq⟩ := h
  exact hk r s hq
theorem okN {α β : Type} {P : β → St → Prop} {a : α} {k : α → Option (β × St)} (h : Ok P (k a)) : Ok P (bnd a k) := h
theorem okZ {β : Type} {P : β → St → Prop} {Z : St → Prop} {a : St} {k : St → Option (β × St)} (ha : Z a) (h : ∀ s, Z s → Ok P (k s)) : Ok P (bnd a k) := h a ha
theorem okD {α : Type} {P : α → St → Prop} {b : Bool} {o : Option (α × St)} (hb : b = true) (h : Ok P o) : Ok P (gd b o) := by
  rw [hb, gd_tt]; exact h
theorem okI {α : Type} {P : α → St → Prop} {c : Prop} [Decidable c] {a b : Option (α × St)} (h1 : c → Ok P a) (h2 : ¬ c → Ok P b) : Ok P (if c then a else b) := by
  by_cases h : c
  · rw [if_pos h]; exact h1 h
  · rw [if_neg h]; exact h2 h
theorem okW {α : Type} {P Q : α → St → Prop} {o : Option (α × St)} (h : Ok Q o) (hq : ∀ r s, Q r s → P r s) : Ok P o := by
  obtain ⟨r, s, rfl, hr⟩ := h
  exact ⟨r, s, rfl, hq r s hr⟩
/-- a loop that counts up to B -/
theorem okC {α β : Type} {body : (α → Option (β × St)) → α → Option (β × St)} {P : β → St → Prop} (J : Nat → α → Prop) (B : Nat)
    (hb : ∀ i x (K : α → Option (β × St)), i ≤ B → J i x → (∀ y, i < B → J (i + 1) y → Ok P (K y)) → Ok P (body K x)) {n i : Nat} {x : α} (hn : B < n + i) (hi : i ≤ B) (h0 : J i x) : Ok P (itr body n x) := by
  have main : ∀ (c n i : Nat) (x : α), i + c = B → c < n → J i x → Ok P (itr body n x) := by
    intro c
    induction c with
    | zero =>
      intro n i x hc hn hJ
      obtain ⟨m, rfl⟩ : ∃ m, n = m + 1 := ⟨n - 1, by omega⟩
      rw [itr_succ]
      exact hb i x _ (by omega) hJ (fun y hy _ => absurd hy (by omega))
    | succ c ih =>
      intro n i x hc hn hJ
      obtain ⟨m, rfl⟩ : ∃ m, n = m + 1 := ⟨n - 1, by omega⟩
      rw [itr_succ]
      exact hb i x _ (by omega) hJ (fun y _ hy => ih m (i + 1) y (by omega) (by omega) hy)
  exact main (B - i) n i x (by omega) (by omega) h0
/-- any loop, by a measure -/
theorem okM {α β : Type} {body : (α → Option (β × St)) → α → Option (β × St)} {P : β → St → Prop} (J : α → Prop) (μ : α → Nat)
    (hb : ∀ x (K : α → Option (β × St)), J x → (∀ y, J y → μ y < μ x → Ok P (K y)) → Ok P (body K x)) {n : Nat} {x : α} (hn : μ x < n) (h0 : J x) : Ok P (itr body n x) := by
  have main : ∀ (n : Nat) (x : α), μ x < n → J x → Ok P (itr body n x) := by
    intro n
    induction n with
    | zero => intro x hx; omega
    | succ n ih =>
      intro x hx hJ
      rw [itr_succ]
      exact hb x _ hJ (fun y hy hlt => ih y (by omega) hy)
  exact main n x hn h0
theorem cnt_le {x : Int32} {i B : Nat} (hx : x = nI B) (hB : B < 2147483648) (hc : ¬ x ≤ nI i) (hi : i ≤ B) : i < B := by
  rcases Nat.lt_or_ge i B with h | h
  · exact h
  · obtain rfl : i = B := by omega
    exact absurd (by rw [hx, le_toInt]; exact Int.le_refl _) hc
theorem cnt_lt {x : Int32} {i B : Nat} (hx : x = nI B) (hB : B < 2147483647) (hc : ¬ x < nI i) (hi : i ≤ B + 1) : i < B + 1 := by
  rcases Nat.lt_or_ge i (B + 1) with h | h
  · exact h
  · obtain rfl : i = B + 1 := by omega
    refine absurd ?_ hc
    rw [hx, lt_toInt, nI_toInt (by omega), nI_toInt (by omega)]
    omega
theorem inb_ln {j n k : Nat} (hk : ln k = n) (h : j < n) (hn : n ≤ 2147483648) : inb (nI j) (ln k) = true := by
  rw [hk]; exact inb_nI h (by omega)
/-- the objects that questions write to; those without the memo of reckon -/
abbrev SQ : List Nat := [31, 32, 33, 34, 35, 36, 37, 38, 39, 40, 41, 42, 43, 44, 45, 46, 47, 51, 65, 66, 67, 68, 69, 70]
abbrev SQf : List Nat := [32, 33, 36, 37, 38, 39, 40, 41, 42, 43, 44, 45, 46, 47, 51, 65, 66, 67, 68, 69, 70]
def ZZ (Z : St → Prop) (σ0 : St) : Prop := (∀ s, Z s → Fr SQ σ0 s) ∧ (∀ s i f, Z s → i ∈ SQf → Z (sR s i f)) ∧ (∀ s i f, Z s → i ∈ SQf → Z (sJ s i f)) ∧ (∀ s f, Z s → Z (sF s 43 f))
theorem ZZ.base {Z : St → Prop} {σ0 : St} (h : ZZ Z σ0) : ∀ s, Z s → Fr SQ σ0 s := h.1
theorem ZZ.wr {Z : St → Prop} {σ0 : St} (h : ZZ Z σ0) : ∀ s i f, Z s → i ∈ SQf → Z (sR s i f) := h.2.1
theorem ZZ.wj {Z : St → Prop} {σ0 : St} (h : ZZ Z σ0) : ∀ s i f, Z s → i ∈ SQf → Z (sJ s i f) := h.2.2.1
/-- reckon keeps it; the memo's rows may be written -/
def RKZ (Z : St → Prop) : Prop := ∀ s, Z s → Ok (fun _ s' => Z s') (f_X2_reckon s)
/-- the sizes of a WAR, as both have them -/
def BB (σ : St) (M T S E A U Y L P N : Nat) : Prop := (M ≤ 60) ∧ (T ≤ 9) ∧ (S = 2 ^ T) ∧ (E ≤ 4) ∧ (A ≤ 8) ∧ (U ≤ 4) ∧ (Y ≤ 5) ∧ (L ≤ 59) ∧ (P ≤ 60) ∧ (N ≤ 1200) ∧ (gf σ 1 0 = nI N) ∧ (gf σ 1 1 = nI M) ∧ (gf σ 1 2 = nI L) ∧ (gf σ 1 3 = nI P) ∧ (gf σ 3 3 = nI T) ∧ (gf σ 5 3 = nI E) ∧ (gf σ 7 3 = nI A) ∧ (gf σ 9 3 = nI U) ∧ (gf σ 11 3 = nI Y) ∧ (gr σ 59 0 = nI M) ∧ (gr σ 59 1 = nI L) ∧ (gr σ 59 2 = nI P) ∧ (gr σ 59 4 = nI T) ∧ (gr σ 59 5 = nI E) ∧ (gr σ 59 6 = nI A) ∧ (gr σ 59 7 = nI U) ∧ (gr σ 59 8 = nI Y) ∧ (gr σ 59 9 = nI N)
theorem BB.hM {σ : St} {M T S E A U Y L P N : Nat} (h : BB σ M T S E A U Y L P N) : M ≤ 60 := h.1
theorem BB.hT {σ : St} {M T S E A U Y L P N : Nat} (h : BB σ M T S E A U Y L P N) : T ≤ 9 := h.2.1
theorem BB.hS {σ : St} {M T S E A U Y L P N : Nat} (h : BB σ M T S E A U Y L P N) : S = 2 ^ T := h.2.2.1
theorem BB.hE {σ : St} {M T S E A U Y L P N : Nat} (h : BB σ M T S E A U Y L P N) : E ≤ 4 := h.2.2.2.1
theorem BB.hA {σ : St} {M T S E A U Y L P N : Nat} (h : BB σ M T S E A U Y L P N) : A ≤ 8 := h.2.2.2.2.1
theorem BB.hU {σ : St} {M T S E A U Y L P N : Nat} (h : BB σ M T S E A U Y L P N) : U ≤ 4 := h.2.2.2.2.2.1
theorem BB.hY {σ : St} {M T S E A U Y L P N : Nat} (h : BB σ M T S E A U Y L P N) : Y ≤ 5 := h.2.2.2.2.2.2.1
theorem BB.hL {σ : St} {M T S E A U Y L P N : Nat} (h : BB σ M T S E A U Y L P N) : L ≤ 59 := h.2.2.2.2.2.2.2.1
theorem BB.hP {σ : St} {M T S E A U Y L P N : Nat} (h : BB σ M T S E A U Y L P N) : P ≤ 60 := h.2.2.2.2.2.2.2.2.1
theorem BB.hN {σ : St} {M T S E A U Y L P N : Nat} (h : BB σ M T S E A U Y L P N) : N ≤ 1200 := h.2.2.2.2.2.2.2.2.2.1
theorem BB.cN {σ : St} {M T S E A U Y L P N : Nat} (h : BB σ M T S E A U Y L P N) : gf σ 1 0 = nI N := h.2.2.2.2.2.2.2.2.2.2.1
theorem BB.cM {σ : St} {M T S E A U Y L P N : Nat} (h : BB σ M T S E A U Y L P N) : gf σ 1 1 = nI M := h.2.2.2.2.2.2.2.2.2.2.2.1
theorem BB.cL {σ : St} {M T S E A U Y L P N : Nat} (h : BB σ M T S E A U Y L P N) : gf σ 1 2 = nI L := h.2.2.2.2.2.2.2.2.2.2.2.2.1
theorem BB.cT {σ : St} {M T S E A U Y L P N : Nat} (h : BB σ M T S E A U Y L P N) : gf σ 3 3 = nI T := h.2.2.2.2.2.2.2.2.2.2.2.2.2.2.1
theorem BB.cE {σ : St} {M T S E A U Y L P N : Nat} (h : BB σ M T S E A U Y L P N) : gf σ 5 3 = nI E := h.2.2.2.2.2.2.2.2.2.2.2.2.2.2.2.1
theorem BB.cA {σ : St} {M T S E A U Y L P N : Nat} (h : BB σ M T S E A U Y L P N) : gf σ 7 3 = nI A := h.2.2.2.2.2.2.2.2.2.2.2.2.2.2.2.2.1
theorem BB.cU {σ : St} {M T S E A U Y L P N : Nat} (h : BB σ M T S E A U Y L P N) : gf σ 9 3 = nI U := h.2.2.2.2.2.2.2.2.2.2.2.2.2.2.2.2.2.1
theorem BB.cY {σ : St} {M T S E A U Y L P N : Nat} (h : BB σ M T S E A U Y L P N) : gf σ 11 3 = nI Y := h.2.2.2.2.2.2.2.2.2.2.2.2.2.2.2.2.2.2.1
theorem BB.mM {σ : St} {M T S E A U Y L P N : Nat} (h : BB σ M T S E A U Y L P N) : gr σ 59 0 = nI M := h.2.2.2.2.2.2.2.2.2.2.2.2.2.2.2.2.2.2.2.1
theorem BB.mT {σ : St} {M T S E A U Y L P N : Nat} (h : BB σ M T S E A U Y L P N) : gr σ 59 4 = nI T := h.2.2.2.2.2.2.2.2.2.2.2.2.2.2.2.2.2.2.2.2.2.2.1
theorem BB.mE {σ : St} {M T S E A U Y L P N : Nat} (h : BB σ M T S E A U Y L P N) : gr σ 59 5 = nI E := h.2.2.2.2.2.2.2.2.2.2.2.2.2.2.2.2.2.2.2.2.2.2.2.1
theorem BB.mA {σ : St} {M T S E A U Y L P N : Nat} (h : BB σ M T S E A U Y L P N) : gr σ 59 6 = nI A := h.2.2.2.2.2.2.2.2.2.2.2.2.2.2.2.2.2.2.2.2.2.2.2.2.1
theorem BB.mU {σ : St} {M T S E A U Y L P N : Nat} (h : BB σ M T S E A U Y L P N) : gr σ 59 7 = nI U := h.2.2.2.2.2.2.2.2.2.2.2.2.2.2.2.2.2.2.2.2.2.2.2.2.2.1
theorem BB.mY {σ : St} {M T S E A U Y L P N : Nat} (h : BB σ M T S E A U Y L P N) : gr σ 59 8 = nI Y := h.2.2.2.2.2.2.2.2.2.2.2.2.2.2.2.2.2.2.2.2.2.2.2.2.2.2.1
theorem BB.mN {σ : St} {M T S E A U Y L P N : Nat} (h : BB σ M T S E A U Y L P N) : gr σ 59 9 = nI N := h.2.2.2.2.2.2.2.2.2.2.2.2.2.2.2.2.2.2.2.2.2.2.2.2.2.2.2
theorem BB.fr {σ σ' : St} {M T S E A U Y L P N : Nat} (h : BB σ M T S E A U Y L P N) (hf : Fr SQ σ σ') : BB σ' M T S E A U Y L P N := by
  obtain ⟨a1, a2, a3, a4, a5, a6, a7, a8, a9, a10, b0, b1, b2', b3, b4, b5, b6, b7, b8, c1, c2, c3, c4, c5, c6, c7, c8, c9⟩ := h
  have g1 := (hf.1 1 (by decide)).1
  have g59 := (hf.1 59 (by decide)).2.1
  exact ⟨a1, a2, a3, a4, a5, a6, a7, a8, a9, a10, by rw [g1]; exact b0, by rw [g1]; exact b1, by rw [g1]; exact b2', by rw [g1]; exact b3, by rw [(hf.1 3 (by decide)).1]; exact b4, by rw [(hf.1 5 (by decide)).1]; exact b5, by rw [(hf.1 7 (by decide)).1]; exact b6, by rw [(hf.1 9 (by decide)).1]; exact b7, by rw [(hf.1 11 (by decide)).1]; exact b8, by rw [g59]; exact c1, by rw [g59]; exact c2, by rw [g59]; exact c3, by rw [g59]; exact c4, by rw [g59]; exact c5, by rw [g59]; exact c6, by rw [g59]; exact c7, by rw [g59]; exact c8, by rw [g59]; exact c9⟩
theorem BB.S512 {σ : St} {M T S E A U Y L P N : Nat} (h : BB σ M T S E A U Y L P N) : 1 ≤ S ∧ S ≤ 512 := by
  rw [h.hS]
  exact ⟨Nat.one_le_two_pow, by
    calc 2 ^ T ≤ 2 ^ 9 := Nat.pow_le_pow_right (by decide) h.hT
      _ = 512 := rfl⟩
/-- where a predicate and the sizes stand together -/
def ZB (Z : St → Prop) (σ0 : St) (M T S E A U Y L P N : Nat) : Prop := (ZZ Z σ0) ∧ (BB σ0 M T S E A U Y L P N)
theorem ZB.z {Z : St → Prop} {σ0 : St} {M T S E A U Y L P N : Nat} (h : ZB Z σ0 M T S E A U Y L P N) : ZZ Z σ0 := h.1
theorem ZB.b {Z : St → Prop} {σ0 : St} {M T S E A U Y L P N : Nat} (h : ZB Z σ0 M T S E A U Y L P N) : BB σ0 M T S E A U Y L P N := h.2
theorem ZB.at' {Z : St → Prop} {σ0 : St} {M T S E A U Y L P N : Nat} (q : ZB Z σ0 M T S E A U Y L P N) {s : St} (h : Z s) : BB s M T S E A U Y L P N := q.b.fr (q.z.base s h)
theorem BB.sA {σ : St} {M T S E A U Y L P N : Nat} (h : BB σ M T S E A U Y L P N) : (1 : Int32) <<< (gf σ 7 3 &&& 31) = nI (2 ^ A) := by
  rw [h.cA]; exact nI_sh1 _ (by have := h.hA; omega)
theorem BB.rA {σ : St} {M T S E A U Y L P N : Nat} (h : BB σ M T S E A U Y L P N) : (1 : Int32) <<< (gr σ 59 6 &&& 31) = nI (2 ^ A) := by
  rw [h.mA]; exact nI_sh1 _ (by have := h.hA; omega)
theorem BB.A256 {σ : St} {M T S E A U Y L P N : Nat} (h : BB σ M T S E A U Y L P N) : 1 ≤ 2 ^ A ∧ 2 ^ A ≤ 256 := 
  ⟨Nat.one_le_two_pow, by
    calc 2 ^ A ≤ 2 ^ 8 := Nat.pow_le_pow_right (by decide) h.hA
      _ = 256 := rfl⟩
theorem BB.U256 {σ : St} {M T S E A U Y L P N : Nat} (h : BB σ M T S E A U Y L P N) : 1 ≤ 2 ^ (2 * U) ∧ 2 ^ (2 * U) ≤ 256 := 
  ⟨Nat.one_le_two_pow, by
    calc 2 ^ (2 * U) ≤ 2 ^ 8 := Nat.pow_le_pow_right (by decide) (by have := h.hU; omega)
      _ = 256 := rfl⟩
theorem nI_shl {t : Nat} (h : t ≤ 30) : (1 : Int32) <<< (nI t &&& 31) = nI (2 ^ t) := nI_sh1 t (by omega)
theorem WR.bb {σ : St} (h : WR σ 1 (gr σ 59)) : ∃ M T S E A U Y L P N, BB σ M T S E A U Y L P N := by
  obtain ⟨⟨l, m, a, p, r, d, e, y1, y2, y3, y4, y5, y6, y7, y8, u1, u2, u3, u4, u5, u6, u7, u8, -⟩, ⟨T, t1, t2, t3, -⟩, ⟨E, e1, e2, e3, -⟩, ⟨A, a1, a2, a3, -⟩, ⟨U, v1, v2, v3, -⟩, ⟨Y, w1, w2, w3, -⟩, -⟩ := h
  exact ⟨m, T, 2 ^ T, E, A, U, Y, a, p, l, y2, t1, rfl, e1, a1, v1, w1, y3, y4, y1, u1, u3, u5, u7, t2, e2, a2, v2, w2, u4, u6, u8, t3, e3, a3, v3, w3, u2⟩
/-! ===== the class's questions come to an end ===== -/
theorem T_cellg {t wd room k : Nat} {s : St} (hT : TB4 t wd room) (hk : k ≤ room) (h : gf s t 3 = nI k) (p0 p1 : Int32) : ∃ r, f_X9_cell t p0 p1 s = some (r, s) := by
  have hi := hT.isT s
  have hT0 := hT
  obtain ⟨h1, h2, h3, h4, h5, h6, h7, h8, h9, h10, -⟩ := hT
  by_cases c0 : p0 < 0
  · refine ⟨-2, ?_⟩
    unfold f_X9_cell f_X9_cell_24
    rw [hi, gd_tt, if_pos c0]
  · by_cases c1 : gf s t 3 ≤ p0
    · refine ⟨-2, ?_⟩
      unfold f_X9_cell f_X9_cell_24
      rw [hi, gd_tt, if_neg c0, if_pos c1]
    · by_cases c2 : p1 < 0
      · refine ⟨-2, ?_⟩
        unfold f_X9_cell f_X9_cell_24
        rw [hi, gd_tt, if_neg c0, if_neg c1, if_pos c2]
      · by_cases c3 : p1 < tw t
        · have z0 : (0 : Int32).toInt = 0 := rfl
          rw [h, le_toInt, nI_toInt (by omega)] at c1
          rw [lt_toInt] at c0 c2 c3
          rw [h1, nI_toInt (by omega)] at c3
          obtain ⟨i, hi', rfl⟩ := nI_ofT (x := p0) (n := k) (by omega) (by omega)
          obtain ⟨c, hc', rfl⟩ := nI_ofT (x := p1) (n := wd) (by omega) (by omega)
          rw [nI_toInt (by omega)] at c1 c3
          exact ⟨_, S_getc hT0 hk (by omega) (by omega) h⟩
        · refine ⟨-2, ?_⟩
          unfold f_X9_cell f_X9_cell_24
          rw [hi, gd_tt, if_neg c0, if_neg c1, if_neg c2, if_neg c3]
theorem ok_pure {α : Type} {Z : St → Prop} {o : Option (α × St)} {s : St} (h : Z s) (ho : ∃ r, o = some (r, s)) : Ok (fun _ s' => Z s') o := by
  obtain ⟨r, hr⟩ := ho
  exact ⟨r, s, hr, h⟩
theorem tb3 : TB4 3 6 9 := by unfold TB4; decide
theorem T_X9_cell3 {Z : St → Prop} {σ0 : St} {M T S E A U Y L P N : Nat} (q : ZB Z σ0 M T S E A U Y L P N) {p0 p1 : Int32} {s : St} (h : Z s) : Ok (fun _ s' => Z s') (f_X9_cell 3 p0 p1 s) := ok_pure h (T_cellg tb3 q.b.hT (q.at' h).cT p0 p1)
theorem tb5 : TB4 5 2 4 := by unfold TB4; decide
theorem T_X9_cell5 {Z : St → Prop} {σ0 : St} {M T S E A U Y L P N : Nat} (q : ZB Z σ0 M T S E A U Y L P N) {p0 p1 : Int32} {s : St} (h : Z s) : Ok (fun _ s' => Z s') (f_X9_cell 5 p0 p1 s) := ok_pure h (T_cellg tb5 q.b.hE (q.at' h).cE p0 p1)
theorem tb7 : TB4 7 4 8 := by unfold TB4; decide
theorem T_X9_cell7 {Z : St → Prop} {σ0 : St} {M T S E A U Y L P N : Nat} (q : ZB Z σ0 M T S E A U Y L P N) {p0 p1 : Int32} {s : St} (h : Z s) : Ok (fun _ s' => Z s') (f_X9_cell 7 p0 p1 s) := ok_pure h (T_cellg tb7 q.b.hA (q.at' h).cA p0 p1)
theorem tb9 : TB4 9 2 4 := by unfold TB4; decide
theorem T_X9_cell9 {Z : St → Prop} {σ0 : St} {M T S E A U Y L P N : Nat} (q : ZB Z σ0 M T S E A U Y L P N) {p0 p1 : Int32} {s : St} (h : Z s) : Ok (fun _ s' => Z s') (f_X9_cell 9 p0 p1 s) := ok_pure h (T_cellg tb9 q.b.hU (q.at' h).cU p0 p1)
theorem tb11 : TB4 11 1 5 := by unfold TB4; decide
theorem T_X9_cell11 {Z : St → Prop} {σ0 : St} {M T S E A U Y L P N : Nat} (q : ZB Z σ0 M T S E A U Y L P N) {p0 p1 : Int32} {s : St} (h : Z s) : Ok (fun _ s' => Z s') (f_X9_cell 11 p0 p1 s) := ok_pure h (T_cellg tb11 q.b.hY (q.at' h).cY p0 p1)
theorem S_X10_sets {Z : St → Prop} {σ0 : St} {M T S E A U Y L P N : Nat} (q : ZB Z σ0 M T S E A U Y L P N) {s : St} (h : Z s) : f_X10_sets 1 s = some (nI S, s) := by
  have hb := q.at' h
  have h5 := hb.S512
  unfold f_X10_sets
  rw [isW_lit (Or.inl rfl), gd_tt, show gf s (1 + 2) 3 = nI T from hb.cT, nI_shl (by have := hb.hT; omega), ← hb.hS, if_neg (show ¬ (512 : Int32) < nI S from nI_nlt (b := S) (a := 512) (by omega) (by omega))]
theorem S_X4_allReadings {Z : St → Prop} {σ0 : St} {M T S E A U Y L P N : Nat} (q : ZB Z σ0 M T S E A U Y L P N) {s : St} (h : Z s) : f_X4_allReadings s = some (nI (2 ^ (2 * U)), s) := by
  have hb := q.at' h
  unfold f_X4_allReadings
  rw [hb.cU, show (2 : Int32) = nI 2 from rfl, nI_mul, nI_shl (by have := hb.hU; omega)]
theorem ndz {v : Int64} (h : ¬ lg_cmp v 0 = 0) : (!decide (v = 0)) = true := by
  rw [Bool.not_eq_true', decide_eq_false_iff_not]
  rintro rfl
  exact h (by decide)
theorem inb_cond {x y : Int32} {n k : Nat} (h0 : ¬ x < 0) (h1 : ¬ y ≤ x) (hl : ln k = n) (hy : y = nI n ∧ n ≤ 1200) : inb x (ln k) = true := by
  have z0 : (0 : Int32).toInt = 0 := rfl
  rw [lt_toInt] at h0
  rw [le_toInt, hy.1, nI_toInt (by omega)] at h1
  obtain ⟨j, hj, rfl⟩ := nI_ofT (x := x) (n := n) (by omega) (by omega)
  rw [nI_toInt (by omega)] at h1
  exact inb_ln hl (by omega) (by omega)
theorem and_cond {x : Int32} (y : Int32) (h0 : ¬ x < 0) (h1 : ¬ (512 : Int32) ≤ x) : 0 ≤ (x &&& y).toInt ∧ (x &&& y).toInt < 512 := by
  have z0 : (0 : Int32).toInt = 0 := rfl
  have z5 : (512 : Int32).toInt = 512 := rfl
  rw [lt_toInt] at h0
  rw [le_toInt] at h1
  obtain ⟨j, hj, rfl⟩ := nI_ofT (x := x) (n := 511) (by omega) (by omega)
  have e : nI j &&& y = nI (j &&& y.toBitVec.toNat) := by
    apply Int32.toBitVec.inj
    apply BitVec.eq_of_toNat_eq
    rw [Int32.toBitVec_and, BitVec.toNat_and]
    show (BitVec.ofNat 32 j).toNat &&& y.toBitVec.toNat = (BitVec.ofNat 32 (j &&& y.toBitVec.toNat)).toNat
    have h3 : j &&& y.toBitVec.toNat ≤ j := Nat.and_le_left
    rw [BitVec.toNat_ofNat, BitVec.toNat_ofNat, Nat.mod_eq_of_lt (by omega), Nat.mod_eq_of_lt (by omega)]
  have h3 : j &&& y.toBitVec.toNat ≤ j := Nat.and_le_left
  rw [e, nI_toInt (by omega)]
  omega
theorem inb_and {x y : Int32} {k : Nat} (hl : ln k = 512) (h0 : ¬ x < 0) (h1 : ¬ (512 : Int32) ≤ x) : inb (x &&& y) (ln k) = true := by
  obtain ⟨a, b⟩ := and_cond y h0 h1
  obtain ⟨j, hj, e⟩ := nI_ofT (x := x &&& y) (n := 511) a (by omega)
  rw [e]
  exact inb_ln hl (by omega) (by omega)
theorem zL1 : (1 : Int32) = nI 1 := rfl
theorem zL2 : (2 : Int32) = nI 2 := rfl
theorem zL4 : (4 : Int32) = nI 4 := rfl
theorem zL6 : (6 : Int32) = nI 6 := rfl
theorem zL11 : (11 : Int32) = nI 11 := rfl
theorem zL13 : (13 : Int32) = nI 13 := rfl
theorem zL67 : (67 : Int32) = nI 67 := rfl
theorem zL75 : (75 : Int32) = nI 75 := rfl
theorem zL107 : (107 : Int32) = nI 107 := rfl
theorem zL115 : (115 : Int32) = nI 115 := rfl
/-! War of the class -/
theorem T_X10_isIn {Z : St → Prop} {σ0 : St} {M T S E A U Y L P N : Nat} (q : ZB Z σ0 M T S E A U Y L P N) {p0 : Int32} {p1 : Int32} {s : St} (h : Z s) : Ok (fun _ s' => Z s') (f_X10_isIn p0 p1 s) := by
  have qM := q.b.hM
  have qT := q.b.hT
  have qS := q.b.S512
  have qE := q.b.hE
  have qA := q.b.hA
  have qU := q.b.hU
  have qY := q.b.hY
  unfold f_X10_isIn
  refine okI (fun c1 => ?_) (fun c1 => ?_)
  ·
    unfold f_X10_isIn_13
    refine okD rfl ?_
    exact okR h
  ·
    unfold f_X10_isIn_13
    refine okD rfl ?_
    exact okR h
theorem T_X10_isTold {Z : St → Prop} {σ0 : St} {M T S E A U Y L P N : Nat} (q : ZB Z σ0 M T S E A U Y L P N)  {s : St} (h : Z s) : Ok (fun _ s' => Z s') (f_X10_isTold 1 s) := by
  have qM := q.b.hM
  have qT := q.b.hT
  have qS := q.b.S512
  have qE := q.b.hE
  have qA := q.b.hA
  have qU := q.b.hU
  have qY := q.b.hY
  unfold f_X10_isTold
  refine okD (isW_lit (Or.inl rfl)) ?_
  refine okI (fun c1 => ?_) (fun c1 => ?_)
  ·
    unfold f_X10_isTold_12
    refine okD rfl ?_
    exact okR h
  ·
    unfold f_X10_isTold_12
    refine okD rfl ?_
    exact okR h
theorem T_X10_hasSide {Z : St → Prop} {σ0 : St} {M T S E A U Y L P N : Nat} (q : ZB Z σ0 M T S E A U Y L P N) {p0 : Int32} {s : St} (h : Z s) : Ok (fun _ s' => Z s') (f_X10_hasSide 1 p0 s) := by
  have qM := q.b.hM
  have qT := q.b.hT
  have qS := q.b.S512
  have qE := q.b.hE
  have qA := q.b.hA
  have qU := q.b.hU
  have qY := q.b.hY
  unfold f_X10_hasSide
  refine okD (isW_lit (Or.inl rfl)) ?_
  refine okB (T_X10_isTold q h) ?_
  intro r3 s1 h2
  refine okI (fun c4 => ?_) (fun c4 => ?_)
  ·
    unfold f_X10_hasSide_20
    unfold f_X10_hasSide_21
    refine okD rfl ?_
    exact okR h2
  ·
    refine okI (fun c5 => ?_) (fun c5 => ?_)
    ·
      try subst c5
      unfold f_X10_hasSide_16
      unfold f_X10_hasSide_21
      refine okD rfl ?_
      exact okR h2
    ·
      refine okI (fun c6 => ?_) (fun c6 => ?_)
      ·
        try subst c6
        unfold f_X10_hasSide_16
        unfold f_X10_hasSide_21
        refine okD rfl ?_
        exact okR h2
      ·
        unfold f_X10_hasSide_20
        unfold f_X10_hasSide_21
        refine okD rfl ?_
        exact okR h2
theorem T_X10_needOf {Z : St → Prop} {σ0 : St} {M T S E A U Y L P N : Nat} (q : ZB Z σ0 M T S E A U Y L P N) {p0 : Int32} {s : St} (h : Z s) : Ok (fun _ s' => Z s') (f_X10_needOf 1 p0 s) := by
  have qM := q.b.hM
  have qT := q.b.hT
  have qS := q.b.S512
  have qE := q.b.hE
  have qA := q.b.hA
  have qU := q.b.hU
  have qY := q.b.hY
  unfold f_X10_needOf
  refine okD (isW_lit (Or.inl rfl)) ?_
  refine okI (fun c1 => ?_) (fun c1 => ?_)
  ·
    try subst c1
    unfold f_X10_needOf_9
    refine okD (isW_lit (Or.inl rfl)) ?_
    refine okD (by first | rfl | exact inb_ln rfl (by omega) (by omega)) ?_
    unfold f_X10_needOf_19
    exact okR h
  ·
    refine okI (fun c2 => ?_) (fun c2 => ?_)
    ·
      try subst c2
      unfold f_X10_needOf_9
      refine okD (isW_lit (Or.inl rfl)) ?_
      refine okD (by first | rfl | exact inb_ln rfl (by omega) (by omega)) ?_
      unfold f_X10_needOf_19
      exact okR h
    ·
      unfold f_X10_needOf_19
      exact okR h
theorem T_X10_trainsOf {Z : St → Prop} {σ0 : St} {M T S E A U Y L P N : Nat} (q : ZB Z σ0 M T S E A U Y L P N) {p0 : Int32} {s : St} (h : Z s) : Ok (fun _ s' => Z s') (f_X10_trainsOf 1 p0 s) := by
  have qM := q.b.hM
  have qT := q.b.hT
  have qS := q.b.S512
  have qE := q.b.hE
  have qA := q.b.hA
  have qU := q.b.hU
  have qY := q.b.hY
  unfold f_X10_trainsOf
  refine okD (isW_lit (Or.inl rfl)) ?_
  refine okC (fun (i : Nat) (x : Int32 × Int32 × Int32 × St) => x.2.2.1 = nI i ∧ Z x.2.2.2) T ?_ (i := 0) (by unfold FU; omega) (by omega) ⟨rfl, h⟩
  rintro i1 ⟨v8, v9, v10, s6⟩ K2 hi3 ⟨hv5, h7⟩ hK4
  dsimp only at hv5 h7
  subst hv5
  unfold g_X10_trainsOf_4
  dsimp only
  refine okD (isW_lit (Or.inl rfl)) ?_
  refine okI (fun _ => ?_) (fun c11 => ?_)
  ·
    exact okR h7
  ·
    replace c11 : i1 < T := cnt_le (q.at' h7).cT (by omega) c11 hi3
    refine okB (T_X9_cell3 q h7) ?_
    intro r14 s12 h13
    refine okI (fun c15 => ?_) (fun c15 => ?_)
    ·
      refine okN ?_
      unfold f_X10_trainsOf_34
      refine okN ?_
      exact hK4 _ c11 ⟨nI_1 _, h13⟩
    ·
      unfold f_X10_trainsOf_34
      refine okN ?_
      exact hK4 _ c11 ⟨nI_1 _, h13⟩
theorem T_X10_priceOf {Z : St → Prop} {σ0 : St} {M T S E A U Y L P N : Nat} (q : ZB Z σ0 M T S E A U Y L P N) {p0 : Int32} {s : St} (h : Z s) : Ok (fun _ s' => Z s') (f_X10_priceOf 1 p0 s) := by
  have qM := q.b.hM
  have qT := q.b.hT
  have qS := q.b.S512
  have qE := q.b.hE
  have qA := q.b.hA
  have qU := q.b.hU
  have qY := q.b.hY
  unfold f_X10_priceOf
  refine okD (isW_lit (Or.inl rfl)) ?_
  refine okI (fun c1 => ?_) (fun c1 => ?_)
  ·
    try subst c1
    exact okR h
  ·
    refine okC (fun (i : Nat) (x : Int32 × Int32 × Int32 × St) => x.2.2.1 = nI i ∧ Z x.2.2.2) T ?_ (i := 0) (by unfold FU; omega) (by omega) ⟨rfl, h⟩
    rintro i2 ⟨v9, v10, v11, s7⟩ K3 hi4 ⟨hv6, h8⟩ hK5
    dsimp only at hv6 h8
    subst hv6
    unfold g_X10_priceOf_11
    dsimp only
    refine okD (isW_lit (Or.inl rfl)) ?_
    refine okI (fun _ => ?_) (fun c12 => ?_)
    ·
      exact okR h8
    ·
      replace c12 : i2 < T := cnt_le (q.at' h8).cT (by omega) c12 hi4
      refine okB (T_X10_isIn q h8) ?_
      intro r15 s13 h14
      refine okI (fun c16 => ?_) (fun c16 => ?_)
      ·
        unfold f_X10_priceOf_42
        refine okN ?_
        exact hK5 _ c12 ⟨nI_1 _, h14⟩
      ·
        refine okD (isW_lit (Or.inl rfl)) ?_
        refine okB (T_X9_cell3 q h14) ?_
        intro r19 s17 h18
        refine okN ?_
        unfold f_X10_priceOf_42
        refine okN ?_
        exact hK5 _ c12 ⟨nI_1 _, h18⟩
theorem T_X10_arrival {Z : St → Prop} {σ0 : St} {M T S E A U Y L P N : Nat} (q : ZB Z σ0 M T S E A U Y L P N) {p0 : Int32} {p1 : Int32} {s : St} (h : Z s) : Ok (fun _ s' => Z s') (f_X10_arrival 1 p0 p1 s) := by
  have qM := q.b.hM
  have qT := q.b.hT
  have qS := q.b.S512
  have qE := q.b.hE
  have qA := q.b.hA
  have qU := q.b.hU
  have qY := q.b.hY
  unfold f_X10_arrival
  refine okD (isW_lit (Or.inl rfl)) ?_
  refine okB (T_X9_cell3 q h) ?_
  intro r3 s1 h2
  refine okB (T_X10_isIn q h2) ?_
  intro r6 s4 h5
  refine okI (fun c7 => ?_) (fun c7 => ?_)
  ·
    unfold f_X10_arrival_30
    exact okR h5
  ·
    refine okD (isW_lit (Or.inl rfl)) ?_
    refine okB (T_X9_cell3 q h5) ?_
    intro r10 s8 h9
    unfold f_X10_arrival_30
    exact okR h9
theorem T_X10_comingIn {Z : St → Prop} {σ0 : St} {M T S E A U Y L P N : Nat} (q : ZB Z σ0 M T S E A U Y L P N) {p0 : Int32} {p1 : Int32} {s : St} (h : Z s) : Ok (fun _ s' => Z s') (f_X10_comingIn 1 p0 p1 s) := by
  have qM := q.b.hM
  have qT := q.b.hT
  have qS := q.b.S512
  have qE := q.b.hE
  have qA := q.b.hA
  have qU := q.b.hU
  have qY := q.b.hY
  unfold f_X10_comingIn
  refine okD (isW_lit (Or.inl rfl)) ?_
  refine okC (fun (i : Nat) (x : Int32 × Int32 × Int32 × Int32 × St) => x.2.2.2.1 = nI i ∧ Z x.2.2.2.2) T ?_ (i := 0) (by unfold FU; omega) (by omega) ⟨rfl, h⟩
  rintro i1 ⟨v8, v9, v10, v11, s6⟩ K2 hi3 ⟨hv5, h7⟩ hK4
  dsimp only at hv5 h7
  subst hv5
  unfold g_X10_comingIn_5
  dsimp only
  refine okD (isW_lit (Or.inl rfl)) ?_
  refine okI (fun _ => ?_) (fun c12 => ?_)
  ·
    exact okR h7
  ·
    replace c12 : i1 < T := cnt_le (q.at' h7).cT (by omega) c12 hi3
    refine okB (T_X10_arrival q h7) ?_
    intro r15 s13 h14
    refine okI (fun c16 => ?_) (fun c16 => ?_)
    ·
      refine okN ?_
      unfold f_X10_comingIn_35
      refine okN ?_
      exact hK4 _ c12 ⟨nI_1 _, h14⟩
    ·
      unfold f_X10_comingIn_35
      refine okN ?_
      exact hK4 _ c12 ⟨nI_1 _, h14⟩
theorem T_X10_menThere {Z : St → Prop} {σ0 : St} {M T S E A U Y L P N : Nat} (q : ZB Z σ0 M T S E A U Y L P N) {p0 : Int32} {p1 : Int32} {p2 : Int32} {s : St} (h : Z s) : Ok (fun _ s' => Z s') (f_X10_menThere 1 p0 p1 p2 s) := by
  have qM := q.b.hM
  have qT := q.b.hT
  have qS := q.b.S512
  have qE := q.b.hE
  have qA := q.b.hA
  have qU := q.b.hU
  have qY := q.b.hY
  unfold f_X10_menThere
  refine okD (isW_lit (Or.inl rfl)) ?_
  refine okC (fun (i : Nat) (x : Int32 × Int32 × Int32 × Int32 × Int32 × St) => x.2.2.2.2.1 = nI i ∧ Z x.2.2.2.2.2) T ?_ (i := 0) (by unfold FU; omega) (by omega) ⟨rfl, h⟩
  rintro i1 ⟨v8, v9, v10, v11, v12, s6⟩ K2 hi3 ⟨hv5, h7⟩ hK4
  dsimp only at hv5 h7
  subst hv5
  unfold g_X10_menThere_6
  dsimp only
  refine okD (isW_lit (Or.inl rfl)) ?_
  refine okI (fun _ => ?_) (fun c13 => ?_)
  ·
    exact okR h7
  ·
    replace c13 : i1 < T := cnt_le (q.at' h7).cT (by omega) c13 hi3
    refine okB (T_X9_cell3 q h7) ?_
    intro r16 s14 h15
    refine okI (fun c17 => ?_) (fun c17 => ?_)
    ·
      refine okB (T_X10_arrival q h15) ?_
      intro r20 s18 h19
      refine okI (fun c21 => ?_) (fun c21 => ?_)
      ·
        unfold f_X10_menThere_58
        refine okN ?_
        exact hK4 _ c13 ⟨nI_1 _, h19⟩
      ·
        refine okD (isW_lit (Or.inl rfl)) ?_
        refine okB (T_X9_cell3 q h19) ?_
        intro r24 s22 h23
        refine okN ?_
        unfold f_X10_menThere_58
        refine okN ?_
        exact hK4 _ c13 ⟨nI_1 _, h23⟩
    ·
      unfold f_X10_menThere_58
      refine okN ?_
      exact hK4 _ c13 ⟨nI_1 _, h15⟩
theorem T_X10_menLost {Z : St → Prop} {σ0 : St} {M T S E A U Y L P N : Nat} (q : ZB Z σ0 M T S E A U Y L P N) {p0 : Int32} {p1 : Int32} {s : St} (h : Z s) : Ok (fun _ s' => Z s') (f_X10_menLost 1 p0 p1 s) := by
  have qM := q.b.hM
  have qT := q.b.hT
  have qS := q.b.S512
  have qE := q.b.hE
  have qA := q.b.hA
  have qU := q.b.hU
  have qY := q.b.hY
  unfold f_X10_menLost
  refine okD (isW_lit (Or.inl rfl)) ?_
  refine okB (T_X9_cell3 q h) ?_
  intro r3 s1 h2
  refine okN ?_
  refine okI (fun c4 => ?_) (fun c4 => ?_)
  ·
    unfold f_X10_menLost_41
    unfold f_X10_menLost_42
    exact okR h2
  ·
    refine okD (isW_lit (Or.inl rfl)) ?_
    refine okB (T_X9_cell3 q h2) ?_
    intro r7 s5 h6
    refine okI (fun c8 => ?_) (fun c8 => ?_)
    ·
      unfold f_X10_menLost_41
      unfold f_X10_menLost_42
      exact okR h6
    ·
      refine okD (isW_lit (Or.inl rfl)) ?_
      refine okB (T_X9_cell3 q h6) ?_
      intro r11 s9 h10
      unfold f_X10_menLost_42
      exact okR h10
theorem T_X10_leadIn {Z : St → Prop} {σ0 : St} {M T S E A U Y L P N : Nat} (q : ZB Z σ0 M T S E A U Y L P N) {p0 : Int32} {p1 : Int32} {s : St} (h : Z s) : Ok (fun _ s' => Z s') (f_X10_leadIn 1 p0 p1 s) := by
  have qM := q.b.hM
  have qT := q.b.hT
  have qS := q.b.S512
  have qE := q.b.hE
  have qA := q.b.hA
  have qU := q.b.hU
  have qY := q.b.hY
  unfold f_X10_leadIn
  refine okD (isW_lit (Or.inl rfl)) ?_
  refine okB (T_X10_menThere q h) ?_
  intro r3 s1 h2
  refine okB (T_X10_menThere q h2) ?_
  intro r6 s4 h5
  exact okR h5
theorem T_X10_isTea {Z : St → Prop} {σ0 : St} {M T S E A U Y L P N : Nat} (q : ZB Z σ0 M T S E A U Y L P N) {p0 : Int32} {s : St} (h : Z s) : Ok (fun _ s' => Z s') (f_X10_isTea 1 p0 s) := by
  have qM := q.b.hM
  have qT := q.b.hT
  have qS := q.b.S512
  have qE := q.b.hE
  have qA := q.b.hA
  have qU := q.b.hU
  have qY := q.b.hY
  unfold f_X10_isTea
  refine okD (isW_lit (Or.inl rfl)) ?_
  refine okC (fun (i : Nat) (x : Int32 × Int32 × St) => x.2.1 = nI i ∧ Z x.2.2) E ?_ (i := 0) (by unfold FU; omega) (by omega) ⟨rfl, h⟩
  rintro i1 ⟨v8, v9, s6⟩ K2 hi3 ⟨hv5, h7⟩ hK4
  dsimp only at hv5 h7
  subst hv5
  unfold g_X10_isTea_2
  dsimp only
  refine okD (isW_lit (Or.inl rfl)) ?_
  refine okI (fun _ => ?_) (fun c10 => ?_)
  ·
    refine okD rfl ?_
    exact okR h7
  ·
    replace c10 : i1 < E := cnt_le (q.at' h7).cE (by omega) c10 hi3
    refine okB (T_X9_cell5 q h7) ?_
    intro r13 s11 h12
    refine okI (fun c14 => ?_) (fun c14 => ?_)
    ·
      unfold f_X10_isTea_41
      refine okN ?_
      exact hK4 _ c10 ⟨nI_1 _, h12⟩
    ·
      refine okD (isW_lit (Or.inl rfl)) ?_
      refine okB (T_X9_cell5 q h12) ?_
      intro r17 s15 h16
      refine okI (fun c18 => ?_) (fun c18 => ?_)
      ·
        unfold f_X10_isTea_41
        refine okN ?_
        exact hK4 _ c10 ⟨nI_1 _, h16⟩
      ·
        refine okD rfl ?_
        exact okR h16
theorem T_X10_lateSides {Z : St → Prop} {σ0 : St} {M T S E A U Y L P N : Nat} (q : ZB Z σ0 M T S E A U Y L P N) {p0 : Int32} {s : St} (h : Z s) : Ok (fun _ s' => Z s') (f_X10_lateSides 1 p0 s) := by
  have qM := q.b.hM
  have qT := q.b.hT
  have qS := q.b.S512
  have qE := q.b.hE
  have qA := q.b.hA
  have qU := q.b.hU
  have qY := q.b.hY
  unfold f_X10_lateSides
  refine okD (isW_lit (Or.inl rfl)) ?_
  refine okC (fun (i : Nat) (x : Int32 × Int32 × Int32 × St) => x.2.2.1 = nI i ∧ Z x.2.2.2) 2 ?_ (i := 0) (by unfold FU; omega) (by omega) ⟨rfl, h⟩
  rintro i1 ⟨v8, v9, v10, s6⟩ K2 hi3 ⟨hv5, h7⟩ hK4
  dsimp only at hv5 h7
  subst hv5
  unfold g_X10_lateSides_4
  dsimp only
  refine okI (fun _ => ?_) (fun c11 => ?_)
  ·
    exact okR h7
  ·
    replace c11 : i1 < 2 := cnt_le rfl (by omega) c11 hi3
    refine okD (isW_lit (Or.inl rfl)) ?_
    refine okB (T_X10_menThere q h7) ?_
    intro r14 s12 h13
    refine okB (T_X10_needOf q h13) ?_
    intro r17 s15 h16
    refine okI (fun c18 => ?_) (fun c18 => ?_)
    ·
      unfold f_X10_lateSides_33
      refine okN ?_
      exact hK4 _ c11 ⟨nI_1 _, h16⟩
    ·
      refine okN ?_
      unfold f_X10_lateSides_33
      refine okN ?_
      exact hK4 _ c11 ⟨nI_1 _, h16⟩
/-! ===== loops of the class that want a hand ===== -/
theorem n_or0 {x : Int32} (h : x.toInt ≤ 1000) : x ≤ 0 ∨ ∃ k : Nat, k ≤ 1000 ∧ x = nI k := by
  by_cases c : x ≤ 0
  · exact Or.inl c
  · rw [le_toInt] at c
    have z0 : (0 : Int32).toInt = 0 := rfl
    exact Or.inr (nI_ofT (by omega) (by omega))
theorem T_X1_power {Z : St → Prop} {σ0 : St} {M T S E A U Y L P N : Nat} (q : ZB Z σ0 M T S E A U Y L P N) {p0 p1 : Int32} {s : St} (h : Z s) (hp : p1.toInt ≤ 1000) : Ok (fun _ s' => Z s') (f_X1_power p0 p1 s) := by
  unfold f_X1_power
  rcases n_or0 hp with c | ⟨k, hk, rfl⟩
  · rw [show FU = 4999 + 1 from rfl, itr_succ]
    unfold g_X1_power_5
    dsimp only
    rw [if_pos c]
    exact okR h
  · refine okC (fun (i : Nat) (x : Int32 × Int32 × Int64 × Int32 × St) => x.2.2.2.1 = nI i ∧ x.2.1 = nI k ∧ Z x.2.2.2.2) k ?_ (i := 0) (by unfold FU; omega) (by omega) ⟨rfl, rfl, h⟩
    rintro i ⟨v1, v2, v3, v4, s2⟩ K hi ⟨hv, hw, h2⟩ hK
    dsimp only at hv hw h2
    subst hv hw
    unfold g_X1_power_5
    dsimp only
    refine okI (fun _ => okR h2) (fun c => ?_)
    exact hK _ (cnt_le rfl (by omega) c hi) ⟨nI_1 _, rfl, h2⟩
theorem T_X1_choices {Z : St → Prop} {σ0 : St} {M T S E A U Y L P N : Nat} (q : ZB Z σ0 M T S E A U Y L P N) {p0 p1 : Int32} {s : St} (h : Z s) (hp : p1.toInt ≤ 1000) : Ok (fun _ s' => Z s') (f_X1_choices p0 p1 s) := by
  unfold f_X1_choices
  rcases n_or0 hp with c | ⟨k, hk, rfl⟩
  · rw [show FU = 4999 + 1 from rfl, itr_succ]
    unfold g_X1_choices_5
    dsimp only
    rw [if_pos (show p1 < 1 from by
      rw [le_toInt] at c
      rw [lt_toInt]
      have z0 : (0 : Int32).toInt = 0 := rfl
      have z1 : (1 : Int32).toInt = 1 := rfl
      omega)]
    exact okR h
  · refine okC (fun (i : Nat) (x : Int32 × Int32 × Int64 × Int32 × St) => x.2.2.2.1 = nI (i + 1) ∧ x.2.1 = nI k ∧ Z x.2.2.2.2) k ?_ (i := 0) (by unfold FU; omega) (by omega) ⟨rfl, rfl, h⟩
    rintro i ⟨v1, v2, v3, v4, s2⟩ K hi ⟨hv, hw, h2⟩ hK
    dsimp only at hv hw h2
    subst hv hw
    unfold g_X1_choices_5
    dsimp only
    refine okI (fun _ => okR h2) (fun c => ?_)
    have c1 := cnt_lt rfl (by omega) c (by omega)
    refine okD ?_ ?_
    · rw [Bool.not_eq_true', decide_eq_false_iff_not]
      intro e
      have e2 := congrArg Int64.toInt e
      rw [Int32.toInt_toInt64, nI_toInt (by omega)] at e2
      have z0 : (0 : Int64).toInt = 0 := rfl
      omega
    · exact hK _ (by omega) ⟨nI_1 _, rfl, h2⟩
theorem T_J7_fill_53178 {Z : St → Prop} {σ0 : St} {M T S E A U Y L P N : Nat} (q : ZB Z σ0 M T S E A U Y L P N) {u n : Nat} {p1 : Int32} {s : St} (h : Z s) (hu : kd u = 13 ∧ u < 75) (hl : ln u = n) (hn : n ≤ 1000) (hw : ∀ s f, Z s → Z (sR s u f)) : Ok (fun _ s' => Z s') (f_J7_fill_53178 u p1 s) := by
  have hA : ∀ s, isA s u = true := fun s => by
    unfold isA
    rw [decide_eq_true hu.1, decide_eq_true (lt_lit hu.2)]
    rfl
  unfold f_J7_fill_53178
  rw [hA, gd_tt, bnd_mk, hl]
  refine okC (fun (i : Nat) (x : Int32 × Int32 × Int32 × St) => x.2.1 = nI i ∧ x.2.2.1 = nI n ∧ Z x.2.2.2) n ?_ (i := 0) (by unfold FU; omega) (by omega) ⟨rfl, rfl, h⟩
  rintro i ⟨v1, v2, v3, s2⟩ K hi ⟨hv, hw', h2⟩ hK
  dsimp only at hv hw' h2
  subst hv hw'
  unfold g_J7_fill_53178_5
  dsimp only
  refine okI (fun _ => okR h2) (fun c => ?_)
  have c1 := cnt_le rfl (by omega) c hi
  refine okD (hA _) ?_
  refine okD (inb_ln hl c1 (by omega)) ?_
  refine okZ (Z := Z) (hw _ _ h2) (fun s3 h3 => ?_)
  exact hK _ c1 ⟨nI_1 _, rfl, h3⟩
theorem or_512 {a b : Nat} (ha : a < 512) (hb : b < 512) : a ||| b < 512 := Nat.or_lt_two_pow (n := 9) ha hb
theorem T_X10_spread {Z : St → Prop} {σ0 : St} {M T S E A U Y L P N : Nat} (q : ZB Z σ0 M T S E A U Y L P N) {u t : Nat} {p2 : Int32} {s : St} (h : Z s) (ht : t < 9) (hu : kd u = 13 ∧ u < 75) (hl : ln u = 512) (hw : ∀ s f, Z s → Z (sR s u f)) : Ok (fun _ s' => Z s') (f_X10_spread u (nI t) p2 s) := by
  have hA : ∀ s, isA s u = true := fun s => by
    unfold isA
    rw [decide_eq_true hu.1, decide_eq_true (lt_lit hu.2)]
    rfl
  have hk : 2 ^ t ≤ 256 := by
    calc 2 ^ t ≤ 2 ^ 8 := Nat.pow_le_pow_right (by decide) (by omega)
      _ = 256 := rfl
  unfold f_X10_spread
  rw [hA, gd_tt, bnd_mk, nI_shl (by omega)]
  generalize 2 ^ t = k at hk
  refine okC (fun (i : Nat) (x : Int32 × Int32 × Int32 × St) => x.2.2.1 = nI i ∧ x.2.1 = nI k ∧ Z x.2.2.2) k ?_ (i := 0) (by unfold FU; omega) (by omega) ⟨rfl, rfl, h⟩
  rintro i ⟨v1, v2, v3, s2⟩ K hi ⟨hv, hw', h2⟩ hK
  dsimp only at hv hw' h2
  subst hv hw'
  unfold g_X10_spread_7 f_X10_spread_40
  dsimp only
  refine okI (fun _ => okR h2) (fun c => ?_)
  have c1 := cnt_le rfl (by omega) c hi
  have c2 : i ||| k < 512 := or_512 (by omega) (by omega)
  refine okD (hA _) ?_
  refine okI (fun _ => okR h2) (fun _ => ?_)
  refine okD (inb_ln hl (by omega) (by omega)) ?_
  rw [nI_or]
  refine okD (inb_ln hl c2 (by omega)) ?_
  refine okZ (Z := Z) (hw _ _ h2) (fun s3 h3 => ?_)
  exact hK _ c1 ⟨nI_1 _, rfl, h3⟩
theorem T_X2_farthestFrom0 {Z : St → Prop} {σ0 : St} {M T S E A U Y L P N : Nat} (q : ZB Z σ0 M T S E A U Y L P N) {p0 : Int32} {s : St} (h : Z s) (T0 : ∀ {p0 : Int32} {s : St}, Z s → Ok (fun _ s' => Z s') (f_X2_frontBehind p0 s)) (hp : ∃ k : Nat, p0 = nI k ∧ k ≤ 1000) : Ok (fun _ s' => Z s') (f_X2_farthestFrom p0 s) := by
  obtain ⟨k, rfl, hk⟩ := hp
  have qM := q.b.hM
  unfold f_X2_farthestFrom
  rw [bnd_mk, nI_1]
  by_cases c : M < k + 1
  · rw [show FU = 4999 + 1 from rfl, itr_succ]
    generalize itr g_X2_farthestFrom_6 4999 = R
    unfold g_X2_farthestFrom_6
    dsimp only
    rw [(q.at' h).cM, if_pos (nI_lt c (by omega))]
    exact okR h
  · refine okC (fun (i : Nat) (x : Int32 × Int32 × Int32 × St) => x.2.2.1 = nI i ∧ Z x.2.2.2) (M + 1) ?_ (i := k + 1) (by unfold FU; omega) (by omega) ⟨rfl, h⟩
    rintro i ⟨v1, v2, v3, s2⟩ K hi ⟨hv, h2⟩ hK
    dsimp only at hv h2
    subst hv
    unfold g_X2_farthestFrom_6
    dsimp only
    refine okI (fun _ => okR h2) (fun c => ?_)
    have c1 := cnt_lt (q.at' h2).cM (by omega) c hi
    refine okB (T0 h2) ?_
    intro r3 s3 h3
    refine okB (T0 h3) ?_
    intro r4 s4 h4
    exact hK _ c1 ⟨nI_1 _, h4⟩
theorem T_X0_sortByMinute {Z : St → Prop} {σ0 : St} {M T S E A U Y L P N : Nat} (q : ZB Z σ0 M T S E A U Y L P N) {s : St} (h : Z s) : Ok (fun _ s' => Z s') (f_X0_sortByMinute s) := by
  have qA := q.b.hA
  unfold f_X0_sortByMinute
  refine okC (fun (i : Nat) (x : Int32 × St) => x.1 = nI i ∧ Z x.2) A ?_ (i := 0) (by unfold FU; omega) (by omega) ⟨rfl, h⟩
  rintro i ⟨v1, s2⟩ K hi ⟨hv, h2⟩ hK
  dsimp only at hv h2
  subst hv
  unfold g_X0_sortByMinute_2 f_X0_sortByMinute_98
  dsimp only
  refine okI (fun _ => okR h2) (fun c => ?_)
  have c1 := cnt_le (q.at' h2).cA (by omega) c hi
  refine okI (fun _ => okR h2) (fun _ => ?_)
  refine okM (fun (x : Int32 × Int32 × St) => x.1 = nI i ∧ (∃ j : Nat, j ≤ i ∧ x.2.1 = nI j) ∧ Z x.2.2) (fun x => x.2.1.toInt.toNat) ?_ ?_ ⟨rfl, ⟨i, by omega, rfl⟩, h2⟩
  · rintro ⟨w1, w2, s3⟩ K2 ⟨e1, ⟨j, hj, e2⟩, h3⟩ hK2
    dsimp only at e1 e2 h3 hK2
    subst e1 e2
    unfold g_X0_sortByMinute_27 f_X0_sortByMinute_85
    dsimp only
    have fin : ∀ s, Z s → Ok (fun _ s' => Z s') (gd (inb (nI j) (ln 51)) (bnd (sr s 51 (nI j).toNatClampNeg (nI i)) fun s2 => bnd (nI i + 1) fun x3 => K (x3, s2))) := fun s hs => by
      refine okD (inb_ln (n := 8) rfl (show j < 8 by omega) (by omega)) ?_
      refine okZ (Z := Z) (q.z.wr _ _ _ hs (by decide)) (fun s4 h4 => ?_)
      exact hK _ c1 ⟨nI_1 _, h4⟩
    by_cases j0 : j = 0
    · subst j0
      rw [if_pos (show nI 0 ≤ 0 from by decide)]
      exact fin _ h3
    · obtain ⟨j', rfl⟩ : ∃ j', j = j' + 1 := ⟨j - 1, by omega⟩
      refine okI (fun _ => fin _ h3) (fun _ => ?_)
      rw [nI_pred]
      refine okD (inb_ln (n := 8) rfl (show j' < 8 by omega) (by omega)) ?_
      refine okB (T_X9_cell7 q h3) ?_
      intro r4 s4 h4
      refine okB (T_X9_cell7 q h4) ?_
      intro r5 s5 h5
      refine okI (fun _ => fin _ h5) (fun _ => ?_)
      refine okD (inb_ln (n := 8) rfl (show j' < 8 by omega) (by omega)) ?_
      refine okD (inb_ln (n := 8) rfl (show j' + 1 < 8 by omega) (by omega)) ?_
      refine okZ (Z := Z) (q.z.wr _ _ _ h5 (by decide)) (fun s6 h6 => ?_)
      refine okN ?_
      have e : nI (j' + 1) + (-1 : Int32) = nI j' := by
        rw [← nI_pred j', Int32.sub_eq_add_neg]
      rw [e]
      refine hK2 _ ⟨rfl, ⟨j', by omega, rfl⟩, h6⟩ ?_
      show (nI j').toInt.toNat < (nI (j' + 1)).toInt.toNat
      rw [nI_toInt (by omega), nI_toInt (by omega)]
      omega
  · show (nI i).toInt.toNat < FU
    rw [nI_toInt (by omega)]
    unfold FU
    omega
/-! ===== questions of the class, 0 .. 44 ===== -/
theorem T_X1_wednesdaysToInsist {Z : St → Prop} {σ0 : St} {M T S E A U Y L P N : Nat} (q : ZB Z σ0 M T S E A U Y L P N) {p0 : Int32} {p1 : Int32} {s : St} (h : Z s) : Ok (fun _ s' => Z s') (f_X1_wednesdaysToInsist p0 p1 s) := by
  have qM := q.b.hM
  have qT := q.b.hT
  have qS := q.b.S512
  have qE := q.b.hE
  have qA := q.b.hA
  have qU := q.b.hU
  have qY := q.b.hY
  have qA2 := q.b.A256
  have qU2 := q.b.U256
  unfold f_X1_wednesdaysToInsist
  refine okC (fun (i : Nat) (x : Int32 × Int32 × Int32 × Int32 × St) => x.2.2.2.1 = nI i ∧ Z x.2.2.2.2) (60 + 1) ?_ (i := 1) (by unfold FU; omega) (by omega) ⟨rfl, h⟩
  rintro i1 ⟨v8, v9, v10, v11, s6⟩ K2 hi3 ⟨hv5, h7⟩ hK4
  dsimp only at hv5 h7
  subst hv5
  unfold g_X1_wednesdaysToInsist_5
  dsimp only
  refine okI (fun _ => ?_) (fun c12 => ?_)
  ·
    exact okR h7
  ·
    replace c12 : i1 < 60 + 1 := cnt_lt rfl (by omega) c12 hi3
    refine okN ?_
    refine okI (fun c13 => ?_) (fun c13 => ?_)
    ·
      refine okN ?_
      exact hK4 _ c12 ⟨nI_1 _, h7⟩
    ·
      exact okR h7
theorem T_X1_next {Z : St → Prop} {σ0 : St} {M T S E A U Y L P N : Nat} (q : ZB Z σ0 M T S E A U Y L P N) {p0 : Int64} {s : St} (h : Z s) : Ok (fun _ s' => Z s') (f_X1_next p0 s) := by
  have qM := q.b.hM
  have qT := q.b.hT
  have qS := q.b.S512
  have qE := q.b.hE
  have qA := q.b.hA
  have qU := q.b.hU
  have qY := q.b.hY
  have qA2 := q.b.A256
  have qU2 := q.b.U256
  unfold f_X1_next
  exact okR h
theorem T_X1_draw {Z : St → Prop} {σ0 : St} {M T S E A U Y L P N : Nat} (q : ZB Z σ0 M T S E A U Y L P N) {p0 : Int64} {s : St} (h : Z s) : Ok (fun _ s' => Z s') (f_X1_draw p0 s) := by
  have qM := q.b.hM
  have qT := q.b.hT
  have qS := q.b.S512
  have qE := q.b.hE
  have qA := q.b.hA
  have qU := q.b.hU
  have qY := q.b.hY
  have qA2 := q.b.A256
  have qU2 := q.b.U256
  unfold f_X1_draw
  exact okR h
theorem T_X1_commonDivisor {Z : St → Prop} {σ0 : St} {M T S E A U Y L P N : Nat} (q : ZB Z σ0 M T S E A U Y L P N) {p0 : Int64} {p1 : Int64} {s : St} (h : Z s) : Ok (fun _ s' => Z s') (f_X1_commonDivisor p0 p1 s) := by
  have qM := q.b.hM
  have qT := q.b.hT
  have qS := q.b.S512
  have qE := q.b.hE
  have qA := q.b.hA
  have qU := q.b.hU
  have qY := q.b.hY
  have qA2 := q.b.A256
  have qU2 := q.b.U256
  unfold f_X1_commonDivisor
  refine okC (fun (i : Nat) (x : Int64 × Int64 × Int32 × St) => x.2.2.1 = nI i ∧ Z x.2.2.2) 200 ?_ (i := 0) (by unfold FU; omega) (by omega) ⟨rfl, h⟩
  rintro i1 ⟨v8, v9, v10, s6⟩ K2 hi3 ⟨hv5, h7⟩ hK4
  dsimp only at hv5 h7
  subst hv5
  unfold g_X1_commonDivisor_3
  dsimp only
  refine okI (fun _ => ?_) (fun c11 => ?_)
  ·
    unfold f_X1_commonDivisor_33
    exact okR h7
  ·
    replace c11 : i1 < 200 := cnt_le rfl (by omega) c11 hi3
    refine okI (fun c12 => ?_) (fun c12 => ?_)
    ·
      unfold f_X1_commonDivisor_33
      exact okR h7
    ·
      refine okD (ndz (by assumption)) ?_
      refine okN ?_
      refine okN ?_
      exact hK4 _ c11 ⟨nI_1 _, h7⟩
theorem T_X2_frontBehind {Z : St → Prop} {σ0 : St} {M T S E A U Y L P N : Nat} (q : ZB Z σ0 M T S E A U Y L P N) {p0 : Int32} {s : St} (h : Z s) : Ok (fun _ s' => Z s') (f_X2_frontBehind p0 s) := by
  have qM := q.b.hM
  have qT := q.b.hT
  have qS := q.b.S512
  have qE := q.b.hE
  have qA := q.b.hA
  have qU := q.b.hU
  have qY := q.b.hY
  have qA2 := q.b.A256
  have qU2 := q.b.U256
  unfold f_X2_frontBehind
  refine okI (fun c1 => ?_) (fun c1 => ?_)
  ·
    unfold f_X2_frontBehind_22
    unfold f_X2_frontBehind_23
    exact okR h
  ·
    refine okI (fun c2 => ?_) (fun c2 => ?_)
    ·
      unfold f_X2_frontBehind_22
      unfold f_X2_frontBehind_23
      exact okR h
    ·
      refine okD (inb_cond (n := 61) (by assumption) (by assumption) rfl ⟨rfl, by decide⟩) ?_
      unfold f_X2_frontBehind_23
      exact okR h
theorem T_X2_farthestFrom {Z : St → Prop} {σ0 : St} {M T S E A U Y L P N : Nat} (q : ZB Z σ0 M T S E A U Y L P N) {p0 : Int32} {s : St} (h : Z s) (hp : ∃ k : Nat, p0 = nI k ∧ k ≤ 1000) : Ok (fun _ s' => Z s') (f_X2_farthestFrom p0 s) := T_X2_farthestFrom0 q h (fun h => T_X2_frontBehind q h) hp
theorem T_X2_treatyEnds {Z : St → Prop} {σ0 : St} {M T S E A U Y L P N : Nat} (q : ZB Z σ0 M T S E A U Y L P N)  {s : St} (h : Z s) : Ok (fun _ s' => Z s') (f_X2_treatyEnds s) := by
  have qM := q.b.hM
  have qT := q.b.hT
  have qS := q.b.S512
  have qE := q.b.hE
  have qA := q.b.hA
  have qU := q.b.hU
  have qY := q.b.hY
  have qA2 := q.b.A256
  have qU2 := q.b.U256
  unfold f_X2_treatyEnds
  refine okC (fun (i : Nat) (x : Int64 × Int32 × St) => x.2.1 = nI i ∧ Z x.2.2) (M + 1) ?_ (i := 1) (by unfold FU; omega) (by omega) ⟨rfl, h⟩
  rintro i1 ⟨v8, v9, s6⟩ K2 hi3 ⟨hv5, h7⟩ hK4
  dsimp only at hv5 h7
  subst hv5
  unfold g_X2_treatyEnds_4
  dsimp only
  refine okI (fun _ => ?_) (fun c10 => ?_)
  ·
    exact okR h7
  ·
    replace c10 : i1 < M + 1 := cnt_lt (q.at' h7).cM (by omega) c10 hi3
    refine okB (T_X2_farthestFrom q h7 ⟨_, rfl, by omega⟩) ?_
    intro r13 s11 h12
    refine okI (fun c14 => ?_) (fun c14 => ?_)
    ·
      unfold f_X2_treatyEnds_38
      refine okN ?_
      exact hK4 _ c10 ⟨nI_1 _, h12⟩
    ·
      refine okN ?_
      unfold f_X2_treatyEnds_38
      refine okN ?_
      exact hK4 _ c10 ⟨nI_1 _, h12⟩
theorem T_X2_reckonedWinner {Z : St → Prop} {σ0 : St} {M T S E A U Y L P N : Nat} (q : ZB Z σ0 M T S E A U Y L P N) {p0 : Int32} {s : St} (h : Z s) : Ok (fun _ s' => Z s') (f_X2_reckonedWinner p0 s) := by
  have qM := q.b.hM
  have qT := q.b.hT
  have qS := q.b.S512
  have qE := q.b.hE
  have qA := q.b.hA
  have qU := q.b.hU
  have qY := q.b.hY
  have qA2 := q.b.A256
  have qU2 := q.b.U256
  unfold f_X2_reckonedWinner
  refine okI (fun c1 => ?_) (fun c1 => ?_)
  ·
    unfold f_X2_reckonedWinner_20
    unfold f_X2_reckonedWinner_21
    exact okR h
  ·
    refine okI (fun c2 => ?_) (fun c2 => ?_)
    ·
      unfold f_X2_reckonedWinner_20
      unfold f_X2_reckonedWinner_21
      exact okR h
    ·
      refine okD (inb_cond (n := 512) (by assumption) (by assumption) rfl ⟨rfl, by decide⟩) ?_
      unfold f_X2_reckonedWinner_21
      exact okR h
theorem T_X2_winner {Z : St → Prop} {σ0 : St} {M T S E A U Y L P N : Nat} (q : ZB Z σ0 M T S E A U Y L P N) {p0 : Int32} {p1 : Int32} {s : St} (h : Z s) : Ok (fun _ s' => Z s') (f_X2_winner p0 p1 s) := by
  have qM := q.b.hM
  have qT := q.b.hT
  have qS := q.b.S512
  have qE := q.b.hE
  have qA := q.b.hA
  have qU := q.b.hU
  have qY := q.b.hY
  have qA2 := q.b.A256
  have qU2 := q.b.U256
  unfold f_X2_winner
  refine okI (fun c1 => ?_) (fun c1 => ?_)
  ·
    try subst c1
    exact okR h
  ·
    refine okI (fun c2 => ?_) (fun c2 => ?_)
    ·
      try subst c2
      exact okR h
    ·
      refine okI (fun c3 => ?_) (fun c3 => ?_)
      ·
        refine okI (fun c4 => ?_) (fun c4 => ?_)
        ·
          unfold f_X2_winner_49
          exact okR h
        ·
          unfold f_X2_winner_49
          exact okR h
      ·
        unfold f_X2_winner_49
        exact okR h
theorem T_X2_good {Z : St → Prop} {σ0 : St} {M T S E A U Y L P N : Nat} (q : ZB Z σ0 M T S E A U Y L P N) {p0 : Int32} {p1 : Int32} {s : St} (h : Z s) : Ok (fun _ s' => Z s') (f_X2_good p0 p1 s) := by
  have qM := q.b.hM
  have qT := q.b.hT
  have qS := q.b.S512
  have qE := q.b.hE
  have qA := q.b.hA
  have qU := q.b.hU
  have qY := q.b.hY
  have qA2 := q.b.A256
  have qU2 := q.b.U256
  unfold f_X2_good
  refine okI (fun c1 => ?_) (fun c1 => ?_)
  ·
    try subst c1
    unfold f_X2_good_10
    exact okR h
  ·
    unfold f_X2_good_10
    exact okR h
theorem T_X2_signOf {Z : St → Prop} {σ0 : St} {M T S E A U Y L P N : Nat} (q : ZB Z σ0 M T S E A U Y L P N) {p0 : Int32} {s : St} (h : Z s) : Ok (fun _ s' => Z s') (f_X2_signOf p0 s) := by
  have qM := q.b.hM
  have qT := q.b.hT
  have qS := q.b.S512
  have qE := q.b.hE
  have qA := q.b.hA
  have qU := q.b.hU
  have qY := q.b.hY
  have qA2 := q.b.A256
  have qU2 := q.b.U256
  unfold f_X2_signOf
  refine okI (fun c1 => ?_) (fun c1 => ?_)
  ·
    refine okI (fun c2 => ?_) (fun c2 => ?_)
    ·
      unfold f_X2_signOf_17
      exact okR h
    ·
      unfold f_X2_signOf_17
      exact okR h
  ·
    unfold f_X2_signOf_17
    exact okR h
theorem T_X3_isBought {Z : St → Prop} {σ0 : St} {M T S E A U Y L P N : Nat} (q : ZB Z σ0 M T S E A U Y L P N) {p0 : Int32} {p1 : Int32} {p2 : Int32} {s : St} (h : Z s) : Ok (fun _ s' => Z s') (f_X3_isBought p0 p1 p2 s) := by
  have qM := q.b.hM
  have qT := q.b.hT
  have qS := q.b.S512
  have qE := q.b.hE
  have qA := q.b.hA
  have qU := q.b.hU
  have qY := q.b.hY
  have qA2 := q.b.A256
  have qU2 := q.b.U256
  unfold f_X3_isBought
  refine okI (fun c1 => ?_) (fun c1 => ?_)
  ·
    unfold f_X3_isBought_41
    unfold f_X3_isBought_42
    refine okD rfl ?_
    exact okR h
  ·
    refine okI (fun c2 => ?_) (fun c2 => ?_)
    ·
      unfold f_X3_isBought_41
      unfold f_X3_isBought_42
      refine okD rfl ?_
      exact okR h
    ·
      refine okD (inb_and rfl (by assumption) (by assumption)) ?_
      refine okI (fun c3 => ?_) (fun c3 => ?_)
      ·
        unfold f_X3_isBought_41
        unfold f_X3_isBought_42
        refine okD rfl ?_
        exact okR h
      ·
        refine okD (inb_and rfl (by assumption) (by assumption)) ?_
        refine okI (fun c4 => ?_) (fun c4 => ?_)
        ·
          unfold f_X3_isBought_41
          unfold f_X3_isBought_42
          refine okD rfl ?_
          exact okR h
        ·
          unfold f_X3_isBought_42
          refine okD rfl ?_
          exact okR h
theorem T_X3_orPriceless {Z : St → Prop} {σ0 : St} {M T S E A U Y L P N : Nat} (q : ZB Z σ0 M T S E A U Y L P N) {p0 : Int32} {s : St} (h : Z s) : Ok (fun _ s' => Z s') (f_X3_orPriceless p0 s) := by
  have qM := q.b.hM
  have qT := q.b.hT
  have qS := q.b.S512
  have qE := q.b.hE
  have qA := q.b.hA
  have qU := q.b.hU
  have qY := q.b.hY
  have qA2 := q.b.A256
  have qU2 := q.b.U256
  unfold f_X3_orPriceless
  refine okI (fun c1 => ?_) (fun c1 => ?_)
  ·
    unfold f_X3_orPriceless_20
    unfold f_X3_orPriceless_22
    exact okR h
  ·
    refine okI (fun c2 => ?_) (fun c2 => ?_)
    ·
      unfold f_X3_orPriceless_20
      unfold f_X3_orPriceless_22
      exact okR h
    ·
      refine okD (inb_cond (n := 512) (by assumption) (by assumption) rfl ⟨rfl, by decide⟩) ?_
      unfold f_X3_orPriceless_22
      exact okR h
theorem T_X7_countRows {Z : St → Prop} {σ0 : St} {M T S E A U Y L P N : Nat} (q : ZB Z σ0 M T S E A U Y L P N)  {s : St} (h : Z s) : Ok (fun _ s' => Z s') (f_X7_countRows s) := by
  have qM := q.b.hM
  have qT := q.b.hT
  have qS := q.b.S512
  have qE := q.b.hE
  have qA := q.b.hA
  have qU := q.b.hU
  have qY := q.b.hY
  have qA2 := q.b.A256
  have qU2 := q.b.U256
  unfold f_X7_countRows
  refine okC (fun (i : Nat) (x : Int32 × Int32 × St) => x.2.1 = nI i ∧ Z x.2.2) 4 ?_ (i := 0) (by unfold FU; omega) (by omega) ⟨rfl, h⟩
  rintro i1 ⟨v8, v9, s6⟩ K2 hi3 ⟨hv5, h7⟩ hK4
  dsimp only at hv5 h7
  subst hv5
  unfold g_X7_countRows_4
  dsimp only
  refine okI (fun _ => ?_) (fun c10 => ?_)
  ·
    exact okR h7
  ·
    replace c10 : i1 < 4 := cnt_le rfl (by omega) c10 hi3
    refine okD (inb_ln (n := 4) rfl (by omega) (by omega)) ?_
    refine okI (fun c11 => ?_) (fun c11 => ?_)
    ·
      unfold f_X7_countRows_21
      refine okN ?_
      exact hK4 _ c10 ⟨nI_1 _, h7⟩
    ·
      refine okN ?_
      unfold f_X7_countRows_21
      refine okN ?_
      exact hK4 _ c10 ⟨nI_1 _, h7⟩
theorem T_X11_train {Z : St → Prop} {σ0 : St} {M T S E A U Y L P N : Nat} (q : ZB Z σ0 M T S E A U Y L P N) {p0 : Int32} {p1 : Int32} {s : St} (h : Z s) : Ok (fun _ s' => Z s') (f_X11_train p0 p1 s) := by
  have qM := q.b.hM
  have qT := q.b.hT
  have qS := q.b.S512
  have qE := q.b.hE
  have qA := q.b.hA
  have qU := q.b.hU
  have qY := q.b.hY
  have qA2 := q.b.A256
  have qU2 := q.b.U256
  unfold f_X11_train
  refine okB (T_X9_cell3 q h) ?_
  intro r3 s1 h2
  exact okR h2
theorem T_X11_need {Z : St → Prop} {σ0 : St} {M T S E A U Y L P N : Nat} (q : ZB Z σ0 M T S E A U Y L P N) {p0 : Int32} {s : St} (h : Z s) : Ok (fun _ s' => Z s') (f_X11_need p0 s) := by
  have qM := q.b.hM
  have qT := q.b.hT
  have qS := q.b.S512
  have qE := q.b.hE
  have qA := q.b.hA
  have qU := q.b.hU
  have qY := q.b.hY
  have qA2 := q.b.A256
  have qU2 := q.b.U256
  unfold f_X11_need
  refine okB (T_X10_hasSide q h) ?_
  intro r3 s1 h2
  refine okI (fun c4 => ?_) (fun c4 => ?_)
  ·
    unfold f_X11_need_24
    exact okR h2
  ·
    refine okB (T_X10_needOf q h2) ?_
    intro r7 s5 h6
    unfold f_X11_need_24
    exact okR h6
theorem T_X11_tea {Z : St → Prop} {σ0 : St} {M T S E A U Y L P N : Nat} (q : ZB Z σ0 M T S E A U Y L P N) {p0 : Int32} {s : St} (h : Z s) : Ok (fun _ s' => Z s') (f_X11_tea p0 s) := by
  have qM := q.b.hM
  have qT := q.b.hT
  have qS := q.b.S512
  have qE := q.b.hE
  have qA := q.b.hA
  have qU := q.b.hU
  have qY := q.b.hY
  have qA2 := q.b.A256
  have qU2 := q.b.U256
  unfold f_X11_tea
  refine okB (T_X10_isTold q h) ?_
  intro r3 s1 h2
  refine okI (fun c4 => ?_) (fun c4 => ?_)
  ·
    unfold f_X11_tea_25
    exact okR h2
  ·
    refine okI (fun c5 => ?_) (fun c5 => ?_)
    ·
      unfold f_X11_tea_25
      exact okR h2
    ·
      refine okI (fun c6 => ?_) (fun c6 => ?_)
      ·
        refine okB (T_X10_isTea q h2) ?_
        intro r9 s7 h8
        refine okI (fun c10 => ?_) (fun c10 => ?_)
        ·
          unfold f_X11_tea_44
          exact okR h8
        ·
          unfold f_X11_tea_44
          exact okR h8
      ·
        unfold f_X11_tea_25
        exact okR h2
theorem T_X11_cannon {Z : St → Prop} {σ0 : St} {M T S E A U Y L P N : Nat} (q : ZB Z σ0 M T S E A U Y L P N) {p0 : Int32} {p1 : Int32} {s : St} (h : Z s) : Ok (fun _ s' => Z s') (f_X11_cannon p0 p1 s) := by
  have qM := q.b.hM
  have qT := q.b.hT
  have qS := q.b.S512
  have qE := q.b.hE
  have qA := q.b.hA
  have qU := q.b.hU
  have qY := q.b.hY
  have qA2 := q.b.A256
  have qU2 := q.b.U256
  unfold f_X11_cannon
  refine okB (T_X9_cell7 q h) ?_
  intro r3 s1 h2
  exact okR h2
theorem T_X11_rule {Z : St → Prop} {σ0 : St} {M T S E A U Y L P N : Nat} (q : ZB Z σ0 M T S E A U Y L P N) {p0 : Int32} {p1 : Int32} {s : St} (h : Z s) : Ok (fun _ s' => Z s') (f_X11_rule p0 p1 s) := by
  have qM := q.b.hM
  have qT := q.b.hT
  have qS := q.b.S512
  have qE := q.b.hE
  have qA := q.b.hA
  have qU := q.b.hU
  have qY := q.b.hY
  have qA2 := q.b.A256
  have qU2 := q.b.U256
  unfold f_X11_rule
  refine okB (T_X9_cell9 q h) ?_
  intro r3 s1 h2
  exact okR h2
theorem T_X11_spy {Z : St → Prop} {σ0 : St} {M T S E A U Y L P N : Nat} (q : ZB Z σ0 M T S E A U Y L P N) {p0 : Int32} {s : St} (h : Z s) : Ok (fun _ s' => Z s') (f_X11_spy p0 s) := by
  have qM := q.b.hM
  have qT := q.b.hT
  have qS := q.b.S512
  have qE := q.b.hE
  have qA := q.b.hA
  have qU := q.b.hU
  have qY := q.b.hY
  have qA2 := q.b.A256
  have qU2 := q.b.U256
  unfold f_X11_spy
  refine okB (T_X9_cell11 q h) ?_
  intro r3 s1 h2
  exact okR h2
theorem T_X11_count {Z : St → Prop} {σ0 : St} {M T S E A U Y L P N : Nat} (q : ZB Z σ0 M T S E A U Y L P N) {p0 : Int32} {s : St} (h : Z s) : Ok (fun _ s' => Z s') (f_X11_count p0 s) := by
  have qM := q.b.hM
  have qT := q.b.hT
  have qS := q.b.S512
  have qE := q.b.hE
  have qA := q.b.hA
  have qU := q.b.hU
  have qY := q.b.hY
  have qA2 := q.b.A256
  have qU2 := q.b.U256
  unfold f_X11_count
  refine okI (fun c1 => ?_) (fun c1 => ?_)
  ·
    try subst c1
    exact okR h
  ·
    refine okI (fun c2 => ?_) (fun c2 => ?_)
    ·
      try subst c2
      exact okR h
    ·
      refine okI (fun c3 => ?_) (fun c3 => ?_)
      ·
        try subst c3
        exact okR h
      ·
        refine okI (fun c4 => ?_) (fun c4 => ?_)
        ·
          try subst c4
          exact okR h
        ·
          refine okI (fun c5 => ?_) (fun c5 => ?_)
          ·
            try subst c5
            exact okR h
          ·
            refine okI (fun c6 => ?_) (fun c6 => ?_)
            ·
              try subst c6
              exact okR h
            ·
              refine okI (fun c7 => ?_) (fun c7 => ?_)
              ·
                try subst c7
                exact okR h
              ·
                refine okI (fun c8 => ?_) (fun c8 => ?_)
                ·
                  try subst c8
                  exact okR h
                ·
                  refine okI (fun c9 => ?_) (fun c9 => ?_)
                  ·
                    try subst c9
                    exact okR h
                  ·
                    refine okI (fun c10 => ?_) (fun c10 => ?_)
                    ·
                      try subst c10
                      exact okR h
                    ·
                      refine okI (fun c11 => ?_) (fun c11 => ?_)
                      ·
                        try subst c11
                        exact okR h
                      ·
                        refine okI (fun c12 => ?_) (fun c12 => ?_)
                        ·
                          try subst c12
                          exact okR h
                        ·
                          refine okI (fun c13 => ?_) (fun c13 => ?_)
                          ·
                            try subst c13
                            refine okB (T_X7_countRows q h) ?_
                            intro r16 s14 h15
                            exact okR h15
                          ·
                            exact okR h
theorem T_X11_isMinute {Z : St → Prop} {σ0 : St} {M T S E A U Y L P N : Nat} (q : ZB Z σ0 M T S E A U Y L P N) {p0 : Int32} {s : St} (h : Z s) : Ok (fun _ s' => Z s') (f_X11_isMinute p0 s) := by
  have qM := q.b.hM
  have qT := q.b.hT
  have qS := q.b.S512
  have qE := q.b.hE
  have qA := q.b.hA
  have qU := q.b.hU
  have qY := q.b.hY
  have qA2 := q.b.A256
  have qU2 := q.b.U256
  unfold f_X11_isMinute
  refine okI (fun c1 => ?_) (fun c1 => ?_)
  ·
    unfold f_X11_isMinute_14
    unfold f_X11_isMinute_15
    refine okD rfl ?_
    exact okR h
  ·
    refine okI (fun c2 => ?_) (fun c2 => ?_)
    ·
      unfold f_X11_isMinute_14
      unfold f_X11_isMinute_15
      refine okD rfl ?_
      exact okR h
    ·
      unfold f_X11_isMinute_15
      refine okD rfl ?_
      exact okR h
theorem T_X11_isPeaceMinute {Z : St → Prop} {σ0 : St} {M T S E A U Y L P N : Nat} (q : ZB Z σ0 M T S E A U Y L P N) {p0 : Int32} {s : St} (h : Z s) : Ok (fun _ s' => Z s') (f_X11_isPeaceMinute p0 s) := by
  have qM := q.b.hM
  have qT := q.b.hT
  have qS := q.b.S512
  have qE := q.b.hE
  have qA := q.b.hA
  have qU := q.b.hU
  have qY := q.b.hY
  have qA2 := q.b.A256
  have qU2 := q.b.U256
  unfold f_X11_isPeaceMinute
  refine okB (T_X10_isTold q h) ?_
  intro r3 s1 h2
  refine okI (fun c4 => ?_) (fun c4 => ?_)
  ·
    unfold f_X11_isPeaceMinute_24
    unfold f_X11_isPeaceMinute_25
    refine okD rfl ?_
    exact okR h2
  ·
    refine okI (fun c5 => ?_) (fun c5 => ?_)
    ·
      unfold f_X11_isPeaceMinute_24
      unfold f_X11_isPeaceMinute_25
      refine okD rfl ?_
      exact okR h2
    ·
      refine okI (fun c6 => ?_) (fun c6 => ?_)
      ·
        unfold f_X11_isPeaceMinute_24
        unfold f_X11_isPeaceMinute_25
        refine okD rfl ?_
        exact okR h2
      ·
        unfold f_X11_isPeaceMinute_25
        refine okD rfl ?_
        exact okR h2
theorem T_X11_isPart {Z : St → Prop} {σ0 : St} {M T S E A U Y L P N : Nat} (q : ZB Z σ0 M T S E A U Y L P N) {p0 : Int32} {s : St} (h : Z s) : Ok (fun _ s' => Z s') (f_X11_isPart p0 s) := by
  have qM := q.b.hM
  have qT := q.b.hT
  have qS := q.b.S512
  have qE := q.b.hE
  have qA := q.b.hA
  have qU := q.b.hU
  have qY := q.b.hY
  have qA2 := q.b.A256
  have qU2 := q.b.U256
  unfold f_X11_isPart
  refine okI (fun c1 => ?_) (fun c1 => ?_)
  ·
    try subst c1
    unfold f_X11_isPart_9
    unfold f_X11_isPart_14
    refine okD rfl ?_
    exact okR h
  ·
    refine okI (fun c2 => ?_) (fun c2 => ?_)
    ·
      try subst c2
      unfold f_X11_isPart_9
      unfold f_X11_isPart_14
      refine okD rfl ?_
      exact okR h
    ·
      unfold f_X11_isPart_14
      refine okD rfl ?_
      exact okR h
theorem T_X11_isPercent {Z : St → Prop} {σ0 : St} {M T S E A U Y L P N : Nat} (q : ZB Z σ0 M T S E A U Y L P N) {p0 : Int32} {s : St} (h : Z s) : Ok (fun _ s' => Z s') (f_X11_isPercent p0 s) := by
  have qM := q.b.hM
  have qT := q.b.hT
  have qS := q.b.S512
  have qE := q.b.hE
  have qA := q.b.hA
  have qU := q.b.hU
  have qY := q.b.hY
  have qA2 := q.b.A256
  have qU2 := q.b.U256
  unfold f_X11_isPercent
  refine okI (fun c1 => ?_) (fun c1 => ?_)
  ·
    unfold f_X11_isPercent_14
    unfold f_X11_isPercent_15
    refine okD rfl ?_
    exact okR h
  ·
    refine okI (fun c2 => ?_) (fun c2 => ?_)
    ·
      unfold f_X11_isPercent_14
      unfold f_X11_isPercent_15
      refine okD rfl ?_
      exact okR h
    ·
      unfold f_X11_isPercent_15
      refine okD rfl ?_
      exact okR h
theorem T_X11_isRisk {Z : St → Prop} {σ0 : St} {M T S E A U Y L P N : Nat} (q : ZB Z σ0 M T S E A U Y L P N) {p0 : Int32} {p1 : Int32} {s : St} (h : Z s) : Ok (fun _ s' => Z s') (f_X11_isRisk p0 p1 s) := by
  have qM := q.b.hM
  have qT := q.b.hT
  have qS := q.b.S512
  have qE := q.b.hE
  have qA := q.b.hA
  have qU := q.b.hU
  have qY := q.b.hY
  have qA2 := q.b.A256
  have qU2 := q.b.U256
  unfold f_X11_isRisk
  refine okB (T_X10_hasSide q h) ?_
  intro r3 s1 h2
  refine okI (fun c4 => ?_) (fun c4 => ?_)
  ·
    unfold f_X11_isRisk_22
    unfold f_X11_isRisk_23
    refine okD rfl ?_
    exact okR h2
  ·
    refine okB (T_X11_isPercent q h2) ?_
    intro r7 s5 h6
    refine okI (fun c8 => ?_) (fun c8 => ?_)
    ·
      unfold f_X11_isRisk_22
      unfold f_X11_isRisk_23
      refine okD rfl ?_
      exact okR h6
    ·
      unfold f_X11_isRisk_23
      refine okD rfl ?_
      exact okR h6
theorem T_X11_isPurse {Z : St → Prop} {σ0 : St} {M T S E A U Y L P N : Nat} (q : ZB Z σ0 M T S E A U Y L P N) {p0 : Int32} {p1 : Int32} {s : St} (h : Z s) : Ok (fun _ s' => Z s') (f_X11_isPurse p0 p1 s) := by
  have qM := q.b.hM
  have qT := q.b.hT
  have qS := q.b.S512
  have qE := q.b.hE
  have qA := q.b.hA
  have qU := q.b.hU
  have qY := q.b.hY
  have qA2 := q.b.A256
  have qU2 := q.b.U256
  unfold f_X11_isPurse
  refine okB (T_X10_hasSide q h) ?_
  intro r3 s1 h2
  refine okI (fun c4 => ?_) (fun c4 => ?_)
  ·
    unfold f_X11_isPurse_26
    unfold f_X11_isPurse_27
    refine okD rfl ?_
    exact okR h2
  ·
    refine okI (fun c5 => ?_) (fun c5 => ?_)
    ·
      unfold f_X11_isPurse_26
      unfold f_X11_isPurse_27
      refine okD rfl ?_
      exact okR h2
    ·
      refine okI (fun c6 => ?_) (fun c6 => ?_)
      ·
        unfold f_X11_isPurse_26
        unfold f_X11_isPurse_27
        refine okD rfl ?_
        exact okR h2
      ·
        unfold f_X11_isPurse_27
        refine okD rfl ?_
        exact okR h2
theorem T_X11_isSeed {Z : St → Prop} {σ0 : St} {M T S E A U Y L P N : Nat} (q : ZB Z σ0 M T S E A U Y L P N) {p0 : Int32} {s : St} (h : Z s) : Ok (fun _ s' => Z s') (f_X11_isSeed p0 s) := by
  have qM := q.b.hM
  have qT := q.b.hT
  have qS := q.b.S512
  have qE := q.b.hE
  have qA := q.b.hA
  have qU := q.b.hU
  have qY := q.b.hY
  have qA2 := q.b.A256
  have qU2 := q.b.U256
  unfold f_X11_isSeed
  refine okB (T_X10_isTold q h) ?_
  intro r3 s1 h2
  refine okI (fun c4 => ?_) (fun c4 => ?_)
  ·
    unfold f_X11_isSeed_25
    unfold f_X11_isSeed_26
    refine okD rfl ?_
    exact okR h2
  ·
    refine okI (fun c5 => ?_) (fun c5 => ?_)
    ·
      unfold f_X11_isSeed_25
      unfold f_X11_isSeed_26
      refine okD rfl ?_
      exact okR h2
    ·
      refine okI (fun c6 => ?_) (fun c6 => ?_)
      ·
        unfold f_X11_isSeed_25
        unfold f_X11_isSeed_26
        refine okD rfl ?_
        exact okR h2
      ·
        unfold f_X11_isSeed_26
        refine okD rfl ?_
        exact okR h2
theorem T_J6_bitCount_0f7a4 {Z : St → Prop} {σ0 : St} {M T S E A U Y L P N : Nat} (q : ZB Z σ0 M T S E A U Y L P N) {p0 : Int32} {s : St} (h : Z s) : Ok (fun _ s' => Z s') (f_J6_bitCount_0f7a4 p0 s) := by
  have qM := q.b.hM
  have qT := q.b.hT
  have qS := q.b.S512
  have qE := q.b.hE
  have qA := q.b.hA
  have qU := q.b.hU
  have qY := q.b.hY
  have qA2 := q.b.A256
  have qU2 := q.b.U256
  unfold f_J6_bitCount_0f7a4
  refine okN ?_
  refine okN ?_
  refine okN ?_
  refine okN ?_
  refine okN ?_
  exact okR h
theorem T_X0_worthOf {Z : St → Prop} {σ0 : St} {M T S E A U Y L P N : Nat} (q : ZB Z σ0 M T S E A U Y L P N) {p0 : Int32} {s : St} (h : Z s) : Ok (fun _ s' => Z s') (f_X0_worthOf p0 s) := by
  have qM := q.b.hM
  have qT := q.b.hT
  have qS := q.b.S512
  have qE := q.b.hE
  have qA := q.b.hA
  have qU := q.b.hU
  have qY := q.b.hY
  have qA2 := q.b.A256
  have qU2 := q.b.U256
  unfold f_X0_worthOf
  refine okC (fun (i : Nat) (x : Int32 × Int32 × Int32 × St) => x.2.2.1 = nI i ∧ Z x.2.2.2) A ?_ (i := 0) (by unfold FU; omega) (by omega) ⟨rfl, h⟩
  rintro i1 ⟨v8, v9, v10, s6⟩ K2 hi3 ⟨hv5, h7⟩ hK4
  dsimp only at hv5 h7
  subst hv5
  unfold g_X0_worthOf_4
  dsimp only
  refine okI (fun _ => ?_) (fun c11 => ?_)
  ·
    exact okR h7
  ·
    replace c11 : i1 < A := cnt_le (q.at' h7).cA (by omega) c11 hi3
    refine okB (T_X10_isIn q h7) ?_
    intro r14 s12 h13
    refine okI (fun c15 => ?_) (fun c15 => ?_)
    ·
      unfold f_X0_worthOf_41
      refine okN ?_
      exact hK4 _ c11 ⟨nI_1 _, h13⟩
    ·
      refine okB (T_X9_cell7 q h13) ?_
      intro r18 s16 h17
      refine okN ?_
      unfold f_X0_worthOf_41
      refine okN ?_
      exact hK4 _ c11 ⟨nI_1 _, h17⟩
theorem T_X0_canStand {Z : St → Prop} {σ0 : St} {M T S E A U Y L P N : Nat} (q : ZB Z σ0 M T S E A U Y L P N) {p0 : Int32} {p1 : Int32} {s : St} (h : Z s) : Ok (fun _ s' => Z s') (f_X0_canStand p0 p1 s) := by
  have qM := q.b.hM
  have qT := q.b.hT
  have qS := q.b.S512
  have qE := q.b.hE
  have qA := q.b.hA
  have qU := q.b.hU
  have qY := q.b.hY
  have qA2 := q.b.A256
  have qU2 := q.b.U256
  unfold f_X0_canStand
  refine okC (fun (i : Nat) (x : Int32 × Int32 × Int32 × Int32 × Int32 × St) => x.2.2.2.2.1 = nI i ∧ Z x.2.2.2.2.2) A ?_ (i := 0) (by unfold FU; omega) (by omega) ⟨rfl, h⟩
  rintro i1 ⟨v8, v9, v10, v11, v12, s6⟩ K2 hi3 ⟨hv5, h7⟩ hK4
  dsimp only at hv5 h7
  subst hv5
  unfold g_X0_canStand_8
  dsimp only
  refine okI (fun _ => ?_) (fun c13 => ?_)
  ·
    unfold f_X0_canStand_146
    refine okD rfl ?_
    exact okR h7
  ·
    replace c13 : i1 < A := cnt_le (q.at' h7).cA (by omega) c13 hi3
    refine okI (fun c14 => ?_) (fun c14 => ?_)
    ·
      unfold f_X0_canStand_146
      refine okD rfl ?_
      exact okR h7
    ·
      refine okD (inb_ln (n := 8) rfl (by omega) (by omega)) ?_
      refine okN ?_
      refine okB (T_X10_isIn q h7) ?_
      intro r17 s15 h16
      refine okI (fun c18 => ?_) (fun c18 => ?_)
      ·
        unfold f_X0_canStand_140
        refine okN ?_
        exact hK4 _ c13 ⟨nI_1 _, h16⟩
      ·
        refine okB (T_X9_cell7 q h16) ?_
        intro r21 s19 h20
        refine okB (T_X9_cell7 q h20) ?_
        intro r24 s22 h23
        refine okI (fun c25 => ?_) (fun c25 => ?_)
        ·
          unfold f_X0_canStand_89
          refine okI (fun c26 => ?_) (fun c26 => ?_)
          ·
            unfold f_X0_canStand_106
            refine okD rfl ?_
            exact okR h23
          ·
            refine okI (fun c27 => ?_) (fun c27 => ?_)
            ·
              unfold f_X0_canStand_108
              refine okB (T_X9_cell7 q h23) ?_
              intro r30 s28 h29
              refine okN ?_
              refine okB (T_X9_cell7 q h29) ?_
              intro r33 s31 h32
              unfold f_X0_canStand_140
              refine okN ?_
              exact hK4 _ c13 ⟨nI_1 _, h32⟩
            ·
              refine okI (fun c34 => ?_) (fun c34 => ?_)
              ·
                unfold f_X0_canStand_108
                refine okB (T_X9_cell7 q h23) ?_
                intro r37 s35 h36
                refine okN ?_
                refine okB (T_X9_cell7 q h36) ?_
                intro r40 s38 h39
                unfold f_X0_canStand_140
                refine okN ?_
                exact hK4 _ c13 ⟨nI_1 _, h39⟩
              ·
                unfold f_X0_canStand_106
                refine okD rfl ?_
                exact okR h23
        ·
          unfold f_X0_canStand_89
          refine okI (fun c41 => ?_) (fun c41 => ?_)
          ·
            unfold f_X0_canStand_106
            refine okD rfl ?_
            exact okR h23
          ·
            refine okI (fun c42 => ?_) (fun c42 => ?_)
            ·
              unfold f_X0_canStand_108
              refine okB (T_X9_cell7 q h23) ?_
              intro r45 s43 h44
              refine okN ?_
              refine okB (T_X9_cell7 q h44) ?_
              intro r48 s46 h47
              unfold f_X0_canStand_140
              refine okN ?_
              exact hK4 _ c13 ⟨nI_1 _, h47⟩
            ·
              refine okI (fun c49 => ?_) (fun c49 => ?_)
              ·
                unfold f_X0_canStand_108
                refine okB (T_X9_cell7 q h23) ?_
                intro r52 s50 h51
                refine okN ?_
                refine okB (T_X9_cell7 q h51) ?_
                intro r55 s53 h54
                unfold f_X0_canStand_140
                refine okN ?_
                exact hK4 _ c13 ⟨nI_1 _, h54⟩
              ·
                unfold f_X0_canStand_106
                refine okD rfl ?_
                exact okR h23
theorem T_X1_delayParts {Z : St → Prop} {σ0 : St} {M T S E A U Y L P N : Nat} (q : ZB Z σ0 M T S E A U Y L P N) {p1 : Int32} {s : St} (h : Z s) : Ok (fun _ s' => Z s') (f_X1_delayParts 1 p1 s) := by
  have qM := q.b.hM
  have qT := q.b.hT
  have qS := q.b.S512
  have qE := q.b.hE
  have qA := q.b.hA
  have qU := q.b.hU
  have qY := q.b.hY
  have qA2 := q.b.A256
  have qU2 := q.b.U256
  unfold f_X1_delayParts
  refine okD (isW_lit (Or.inl rfl)) ?_
  refine okC (fun (i : Nat) (x : Int32 × Int64 × Int32 × St) => x.2.2.1 = nI i ∧ Z x.2.2.2) T ?_ (i := 0) (by unfold FU; omega) (by omega) ⟨rfl, h⟩
  rintro i1 ⟨v8, v9, v10, s6⟩ K2 hi3 ⟨hv5, h7⟩ hK4
  dsimp only at hv5 h7
  subst hv5
  unfold g_X1_delayParts_5
  dsimp only
  refine okD (isW_lit (Or.inl rfl)) ?_
  refine okI (fun _ => ?_) (fun c11 => ?_)
  ·
    exact okR h7
  ·
    replace c11 : i1 < T := cnt_le (q.at' h7).cT (by omega) c11 hi3
    refine okB (T_X9_cell3 q h7) ?_
    intro r14 s12 h13
    refine okB (T_X10_isIn q h13) ?_
    intro r17 s15 h16
    refine okI (fun c18 => ?_) (fun c18 => ?_)
    ·
      unfold f_X1_delayParts_51
      refine okN ?_
      refine okN ?_
      exact hK4 _ c11 ⟨nI_1 _, h16⟩
    ·
      unfold f_X1_delayParts_51
      refine okN ?_
      refine okN ?_
      exact hK4 _ c11 ⟨nI_1 _, h16⟩
theorem T_X1_drawnDelays {Z : St → Prop} {σ0 : St} {M T S E A U Y L P N : Nat} (q : ZB Z σ0 M T S E A U Y L P N) {p1 : Int32} {s : St} (h : Z s) : Ok (fun _ s' => Z s') (f_X1_drawnDelays 1 p1 s) := by
  have qM := q.b.hM
  have qT := q.b.hT
  have qS := q.b.S512
  have qE := q.b.hE
  have qA := q.b.hA
  have qU := q.b.hU
  have qY := q.b.hY
  have qA2 := q.b.A256
  have qU2 := q.b.U256
  unfold f_X1_drawnDelays
  refine okD (isW_lit (Or.inl rfl)) ?_
  refine okB (T_X1_next q h) ?_
  intro r3 s1 h2
  refine okB (T_X1_draw q h2) ?_
  intro r6 s4 h5
  refine okD (isW_lit (Or.inl rfl)) ?_
  refine okI (fun c7 => ?_) (fun c7 => ?_)
  ·
    refine okC (fun (i : Nat) (x : Int64 × Int32 × Int32 × St) => x.2.2.1 = nI i ∧ Z x.2.2.2) T ?_ (i := 0) (by unfold FU; omega) (by omega) ⟨rfl, h5⟩
    rintro i8 ⟨v15, v16, v17, s13⟩ K9 hi10 ⟨hv12, h14⟩ hK11
    dsimp only at hv12 h14
    subst hv12
    unfold g_X1_drawnDelays_25
    dsimp only
    refine okD (isW_lit (Or.inl rfl)) ?_
    refine okI (fun _ => ?_) (fun c18 => ?_)
    ·
      exact okR h14
    ·
      replace c18 : i8 < T := cnt_le (q.at' h14).cT (by omega) c18 hi10
      refine okB (T_X1_next q h14) ?_
      intro r21 s19 h20
      refine okB (T_X1_draw q h20) ?_
      intro r24 s22 h23
      refine okD (isW_lit (Or.inl rfl)) ?_
      refine okB (T_X9_cell3 q h23) ?_
      intro r27 s25 h26
      refine okI (fun c28 => ?_) (fun c28 => ?_)
      ·
        unfold f_X1_drawnDelays_68
        refine okN ?_
        exact hK11 _ c18 ⟨nI_1 _, h26⟩
      ·
        refine okN ?_
        unfold f_X1_drawnDelays_68
        refine okN ?_
        exact hK11 _ c18 ⟨nI_1 _, h26⟩
  ·
    exact okR h5
theorem T_X2_follow {Z : St → Prop} {σ0 : St} {M T S E A U Y L P N : Nat} (q : ZB Z σ0 M T S E A U Y L P N) {p0 : Int32} {s : St} (h : Z s) : Ok (fun _ s' => Z s') (f_X2_follow p0 s) := by
  have qM := q.b.hM
  have qT := q.b.hT
  have qS := q.b.S512
  have qE := q.b.hE
  have qA := q.b.hA
  have qU := q.b.hU
  have qY := q.b.hY
  have qA2 := q.b.A256
  have qU2 := q.b.U256
  unfold f_X2_follow
  refine okD rfl ?_
  refine okZ (Z := Z) (q.z.wr _ _ _ h (by decide)) (fun s1 h2 => ?_)
  refine okC (fun (i : Nat) (x : Int32 × Int32 × Int32 × St) => x.2.2.1 = nI i ∧ Z x.2.2.2) M ?_ (i := 0) (by unfold FU; omega) (by omega) ⟨rfl, h2⟩
  rintro i3 ⟨v10, v11, v12, s8⟩ K4 hi5 ⟨hv7, h9⟩ hK6
  dsimp only at hv7 h9
  subst hv7
  unfold g_X2_follow_11
  dsimp only
  refine okI (fun _ => ?_) (fun c13 => ?_)
  ·
    unfold f_X2_follow_69
    exact okR h9
  ·
    replace c13 : i3 < M := cnt_le (q.at' h9).cM (by omega) c13 hi5
    refine okI (fun c14 => ?_) (fun c14 => ?_)
    ·
      unfold f_X2_follow_69
      exact okR h9
    ·
      refine okB (T_X10_isTea q h9) ?_
      intro r17 s15 h16
      refine okI (fun c18 => ?_) (fun c18 => ?_)
      ·
        refine okB (T_X10_leadIn q h16) ?_
        intro r21 s19 h20
        refine okB (T_X2_signOf q h20) ?_
        intro r24 s22 h23
        refine okN ?_
        unfold f_X2_follow_54
        refine okD (by simp only [zL1, zL2, zL4, zL6, zL11, zL13, zL67, zL75, zL107, zL115, nI_add, nI_mul]; exact inb_ln (n := 61) rfl (by omega) (by omega)) ?_
        refine okZ (Z := Z) (q.z.wr _ _ _ h23 (by decide)) (fun s25 h26 => ?_)
        refine okN ?_
        exact hK6 _ c13 ⟨nI_1 _, h26⟩
      ·
        unfold f_X2_follow_54
        refine okD (by simp only [zL1, zL2, zL4, zL6, zL11, zL13, zL67, zL75, zL107, zL115, nI_add, nI_mul]; exact inb_ln (n := 61) rfl (by omega) (by omega)) ?_
        refine okZ (Z := Z) (q.z.wr _ _ _ h16 (by decide)) (fun s27 h28 => ?_)
        refine okN ?_
        exact hK6 _ c13 ⟨nI_1 _, h28⟩
theorem T_X2_winnerBy {Z : St → Prop} {σ0 : St} {M T S E A U Y L P N : Nat} (q : ZB Z σ0 M T S E A U Y L P N) {p0 : Int32} {s : St} (h : Z s) : Ok (fun _ s' => Z s') (f_X2_winnerBy p0 s) := by
  have qM := q.b.hM
  have qT := q.b.hT
  have qS := q.b.S512
  have qE := q.b.hE
  have qA := q.b.hA
  have qU := q.b.hU
  have qY := q.b.hY
  have qA2 := q.b.A256
  have qU2 := q.b.U256
  unfold f_X2_winnerBy
  refine okB (T_X2_follow q h) ?_
  intro r3 s1 h2
  refine okB (T_X10_lateSides q h2) ?_
  intro r6 s4 h5
  refine okB (T_X2_frontBehind q h5) ?_
  intro r9 s7 h8
  refine okB (T_X2_winner q h8) ?_
  intro r12 s10 h11
  exact okR h11
theorem T_X2_peakOf {Z : St → Prop} {σ0 : St} {M T S E A U Y L P N : Nat} (q : ZB Z σ0 M T S E A U Y L P N) {p0 : Int32} {s : St} (h : Z s) : Ok (fun _ s' => Z s') (f_X2_peakOf p0 s) := by
  have qM := q.b.hM
  have qT := q.b.hT
  have qS := q.b.S512
  have qE := q.b.hE
  have qA := q.b.hA
  have qU := q.b.hU
  have qY := q.b.hY
  have qA2 := q.b.A256
  have qU2 := q.b.U256
  unfold f_X2_peakOf
  refine okC (fun (i : Nat) (x : Int32 × Int32 × Int32 × St) => x.2.2.1 = nI i ∧ Z x.2.2.2) (M + 1) ?_ (i := 1) (by unfold FU; omega) (by omega) ⟨rfl, h⟩
  rintro i1 ⟨v8, v9, v10, s6⟩ K2 hi3 ⟨hv5, h7⟩ hK4
  dsimp only at hv5 h7
  subst hv5
  unfold g_X2_peakOf_4
  dsimp only
  refine okI (fun _ => ?_) (fun c11 => ?_)
  ·
    exact okR h7
  ·
    replace c11 : i1 < M + 1 := cnt_lt (q.at' h7).cM (by omega) c11 hi3
    refine okB (T_X2_frontBehind q h7) ?_
    intro r14 s12 h13
    refine okB (T_X2_good q h13) ?_
    intro r17 s15 h16
    refine okB (T_X2_frontBehind q h16) ?_
    intro r20 s18 h19
    refine okB (T_X2_good q h19) ?_
    intro r23 s21 h22
    refine okI (fun c24 => ?_) (fun c24 => ?_)
    ·
      unfold f_X2_peakOf_38
      refine okN ?_
      exact hK4 _ c11 ⟨nI_1 _, h22⟩
    ·
      unfold f_X2_peakOf_38
      refine okN ?_
      exact hK4 _ c11 ⟨nI_1 _, h22⟩
theorem T_X2_countSwings {Z : St → Prop} {σ0 : St} {M T S E A U Y L P N : Nat} (q : ZB Z σ0 M T S E A U Y L P N)  {s : St} (h : Z s) : Ok (fun _ s' => Z s') (f_X2_countSwings s) := by
  have qM := q.b.hM
  have qT := q.b.hT
  have qS := q.b.S512
  have qE := q.b.hE
  have qA := q.b.hA
  have qU := q.b.hU
  have qY := q.b.hY
  have qA2 := q.b.A256
  have qU2 := q.b.U256
  unfold f_X2_countSwings
  refine okC (fun (i : Nat) (x : Int32 × Int32 × Int32 × St) => x.2.2.1 = nI i ∧ Z x.2.2.2) (M + 1) ?_ (i := 1) (by unfold FU; omega) (by omega) ⟨rfl, h⟩
  rintro i1 ⟨v8, v9, v10, s6⟩ K2 hi3 ⟨hv5, h7⟩ hK4
  dsimp only at hv5 h7
  subst hv5
  unfold g_X2_countSwings_6
  dsimp only
  refine okI (fun _ => ?_) (fun c11 => ?_)
  ·
    exact okR h7
  ·
    replace c11 : i1 < M + 1 := cnt_lt (q.at' h7).cM (by omega) c11 hi3
    refine okB (T_X2_frontBehind q h7) ?_
    intro r14 s12 h13
    refine okB (T_X2_signOf q h13) ?_
    intro r17 s15 h16
    refine okI (fun c18 => ?_) (fun c18 => ?_)
    ·
      unfold f_X2_countSwings_45
      refine okN ?_
      exact hK4 _ c11 ⟨nI_1 _, h16⟩
    ·
      refine okI (fun c19 => ?_) (fun c19 => ?_)
      ·
        refine okN ?_
        unfold f_X2_countSwings_42
        unfold f_X2_countSwings_45
        refine okN ?_
        exact hK4 _ c11 ⟨nI_1 _, h16⟩
      ·
        unfold f_X2_countSwings_42
        unfold f_X2_countSwings_45
        refine okN ?_
        exact hK4 _ c11 ⟨nI_1 _, h16⟩
theorem T_X2_goodAtEnd {Z : St → Prop} {σ0 : St} {M T S E A U Y L P N : Nat} (q : ZB Z σ0 M T S E A U Y L P N) {p0 : Int32} {p1 : Int32} {s : St} (h : Z s) : Ok (fun _ s' => Z s') (f_X2_goodAtEnd p0 p1 s) := by
  have qM := q.b.hM
  have qT := q.b.hT
  have qS := q.b.S512
  have qE := q.b.hE
  have qA := q.b.hA
  have qU := q.b.hU
  have qY := q.b.hY
  have qA2 := q.b.A256
  have qU2 := q.b.U256
  unfold f_X2_goodAtEnd
  refine okI (fun c1 => ?_) (fun c1 => ?_)
  ·
    unfold f_X2_goodAtEnd_21
    unfold f_X2_goodAtEnd_22
    refine okB (T_X2_good q h) ?_
    intro r4 s2 h3
    exact okR h3
  ·
    refine okI (fun c5 => ?_) (fun c5 => ?_)
    ·
      unfold f_X2_goodAtEnd_21
      unfold f_X2_goodAtEnd_22
      refine okB (T_X2_good q h) ?_
      intro r8 s6 h7
      exact okR h7
    ·
      refine okD (inb_cond (n := 512) (by assumption) (by assumption) rfl ⟨rfl, by decide⟩) ?_
      unfold f_X2_goodAtEnd_22
      refine okB (T_X2_good q h) ?_
      intro r11 s9 h10
      exact okR h10
theorem T_X2_isIdle {Z : St → Prop} {σ0 : St} {M T S E A U Y L P N : Nat} (q : ZB Z σ0 M T S E A U Y L P N) {p0 : Int32} {s : St} (h : Z s) : Ok (fun _ s' => Z s') (f_X2_isIdle p0 s) := by
  have qM := q.b.hM
  have qT := q.b.hT
  have qS := q.b.S512
  have qE := q.b.hE
  have qA := q.b.hA
  have qU := q.b.hU
  have qY := q.b.hY
  have qA2 := q.b.A256
  have qU2 := q.b.U256
  unfold f_X2_isIdle
  refine okC (fun (i : Nat) (x : Int32 × Int32 × St) => x.2.1 = nI i ∧ Z x.2.2) S ?_ (i := 0) (by unfold FU; omega) (by omega) ⟨rfl, h⟩
  rintro i1 ⟨v8, v9, s6⟩ K2 hi3 ⟨hv5, h7⟩ hK4
  dsimp only at hv5 h7
  subst hv5
  unfold g_X2_isIdle_2
  dsimp only
  rw [S_X10_sets q h7, bd_mk]
  refine okI (fun _ => ?_) (fun c10 => ?_)
  ·
    refine okD rfl ?_
    exact okR h7
  ·
    replace c10 : i1 < S := cnt_le rfl (by omega) c10 hi3
    refine okI (fun c11 => ?_) (fun c11 => ?_)
    ·
      refine okB (T_X2_reckonedWinner q h7) ?_
      intro r14 s12 h13
      refine okB (T_X2_reckonedWinner q h13) ?_
      intro r17 s15 h16
      refine okI (fun c18 => ?_) (fun c18 => ?_)
      ·
        unfold f_X2_isIdle_36
        refine okN ?_
        exact hK4 _ c10 ⟨nI_1 _, h16⟩
      ·
        refine okD rfl ?_
        exact okR h16
    ·
      unfold f_X2_isIdle_36
      refine okN ?_
      exact hK4 _ c10 ⟨nI_1 _, h7⟩
/-! ===== methods of the class that want a hand ===== -/
theorem and_lt {i n : Nat} (y : Int32) (hi : i < n) (hn : n ≤ 1048576) : ∃ k, k < n ∧ nI i &&& y = nI k := by
  have e : nI i &&& y = nI (i &&& y.toBitVec.toNat) := by
    apply Int32.toBitVec.inj
    apply BitVec.eq_of_toNat_eq
    rw [Int32.toBitVec_and, BitVec.toNat_and]
    show (BitVec.ofNat 32 i).toNat &&& y.toBitVec.toNat = (BitVec.ofNat 32 (i &&& y.toBitVec.toNat)).toNat
    have h3 : i &&& y.toBitVec.toNat ≤ i := Nat.and_le_left
    rw [BitVec.toNat_ofNat, BitVec.toNat_ofNat, Nat.mod_eq_of_lt (by omega), Nat.mod_eq_of_lt (by omega)]
  have h3 : i &&& y.toBitVec.toNat ≤ i := Nat.and_le_left
  exact ⟨_, by omega, e⟩
theorem inb_andc {i k : Nat} {y : Int32} (hl : ln k = 512) (hi : i < 512) : inb (nI i &&& y) (ln k) = true := by
  obtain ⟨j, hj, e⟩ := and_lt y hi (by omega)
  rw [e]
  exact inb_ln hl hj (by omega)
theorem nI_xor (a b : Nat) (ha : a < 512) (hb : b < 512) : ∃ k, k < 512 ∧ nI a ^^^ nI b = nI k := by
  have h3 : a ^^^ b < 512 := Nat.xor_lt_two_pow (n := 9) ha hb
  refine ⟨a ^^^ b, h3, ?_⟩
  apply Int32.toBitVec.inj
  apply BitVec.eq_of_toNat_eq
  rw [Int32.toBitVec_xor, BitVec.toNat_xor]
  show (BitVec.ofNat 32 a).toNat ^^^ (BitVec.ofNat 32 b).toNat = (BitVec.ofNat 32 (a ^^^ b)).toNat
  rw [BitVec.toNat_ofNat, BitVec.toNat_ofNat, BitVec.toNat_ofNat, Nat.mod_eq_of_lt (by omega), Nat.mod_eq_of_lt (by omega), Nat.mod_eq_of_lt (by omega)]
theorem inb_xor {a b k : Nat} (hl : ln k = 512) (ha : a < 512) (hb : b < 512) : inb (nI a ^^^ nI b) (ln k) = true := by
  obtain ⟨j, hj, e⟩ := nI_xor a b ha hb
  rw [e]
  exact inb_ln hl hj (by omega)
theorem two_512 {t : Nat} (h : t < 9) : 2 ^ t < 512 := by
  calc 2 ^ t ≤ 2 ^ 8 := Nat.pow_le_pow_right (by decide) (by omega)
    _ < 512 := by decide
theorem nI_subl {a b : Nat} (h : b ≤ a) : nI a - nI b = nI (a - b) := by
  obtain ⟨c, rfl⟩ : ∃ c, a = c + b := ⟨a - b, by omega⟩
  rw [← nI_add, Int32.add_sub_cancel, Nat.add_sub_cancel]
theorem T_X3_mayBeLate {Z : St → Prop} {σ0 : St} {M T S E A U Y L P N : Nat} (q : ZB Z σ0 M T S E A U Y L P N) {t : Nat} {s : St} (h : Z s) (ht : t < 9) : Ok (fun _ s' => Z s') (f_X3_mayBeLate (nI t) s) := by
  have qS := q.b.S512
  have q2 := two_512 ht
  have key : ∀ (k0 : Int32) (s : St), Z s → Ok (fun _ s' => Z s') (f_X3_mayBeLate_38 (nI (2 ^ t)) k0 s) := by
    intro k0 s h
    unfold f_X3_mayBeLate_38
    refine okC (fun (i : Nat) (x : Int32 × Int32 × Int32 × St) => x.2.2.1 = nI i ∧ x.1 = nI (2 ^ t) ∧ Z x.2.2.2) S ?_ (i := 0) (by unfold FU; omega) (by omega) ⟨rfl, rfl, h⟩
    rintro i ⟨v2, v3, v4, s2⟩ K hi ⟨hv, hw, h2⟩ hK
    dsimp only at hv hw h2
    subst hv hw
    unfold g_X3_mayBeLate_42
    dsimp only
    rw [S_X10_sets q h2, bd_mk]
    refine okI (fun _ => okR h2) (fun c => ?_)
    replace c : i < S := cnt_le rfl (by omega) c hi
    refine okI (fun _ => ?_) (fun _ => ?_)
    · unfold f_X3_mayBeLate_94
      exact hK _ c ⟨nI_1 _, rfl, h2⟩
    · refine okD (inb_ln (n := 512) rfl (by omega) (by omega)) ?_
      refine okD (inb_xor rfl (by omega) q2) ?_
      refine okD (inb_ln (n := 512) rfl (by omega) (by omega)) ?_
      refine okZ (Z := Z) (q.z.wj _ _ _ h2 (by decide)) (fun s3 h3 => ?_)
      unfold f_X3_mayBeLate_94
      exact hK _ c ⟨nI_1 _, rfl, h3⟩
  unfold f_X3_mayBeLate
  rw [bnd_mk, nI_sh1 t (by omega)]
  refine okB (T_X10_menLost q h) ?_
  intro r1 s1 h1
  refine okI (fun _ => key _ _ h1) (fun _ => ?_)
  refine okB (T_X9_cell3 q h1) ?_
  intro r2 s2 h2
  exact key _ _ h2
theorem T_X10_trainsOfR {Z : St → Prop} {σ0 : St} {M T S E A U Y L P N : Nat} (q : ZB Z σ0 M T S E A U Y L P N) {p0 : Int32} {s : St} (h : Z s) : Ok (fun r s' => Z s' ∧ ∃ k, k < 512 ∧ r = nI k) (f_X10_trainsOf 1 p0 s) := by
  have qT := q.b.hT
  unfold f_X10_trainsOf
  refine okD (isW_lit (Or.inl rfl)) ?_
  refine okC (fun (i : Nat) (x : Int32 × Int32 × Int32 × St) => x.2.2.1 = nI i ∧ (∃ k, k < 512 ∧ x.2.1 = nI k) ∧ Z x.2.2.2) T ?_ (i := 0) (by unfold FU; omega) (by omega) ⟨rfl, ⟨0, by omega, rfl⟩, h⟩
  rintro i ⟨v1, v2, v3, s2⟩ K hi ⟨hv, ⟨k, hk, hw⟩, h2⟩ hK
  dsimp only at hv hw h2
  subst hv hw
  unfold g_X10_trainsOf_4
  dsimp only
  refine okD (isW_lit (Or.inl rfl)) ?_
  refine okI (fun _ => okR ⟨h2, k, hk, rfl⟩) (fun c => ?_)
  replace c : i < T := cnt_le (q.at' h2).cT (by omega) c hi
  refine okB (T_X9_cell3 q h2) ?_
  intro r3 s3 h3
  unfold f_X10_trainsOf_34
  refine okI (fun _ => ?_) (fun _ => ?_)
  · refine okN ?_
    refine hK _ c ⟨nI_1 _, ⟨k ||| 2 ^ i, or_512 hk (two_512 (by omega)), ?_⟩, h3⟩
    show nI k ||| ((1 : Int32) <<< (nI i &&& 31)) = _
    rw [nI_sh1 i (by omega), nI_or]
  · exact hK _ c ⟨nI_1 _, ⟨k, hk, rfl⟩, h3⟩
theorem and63 (x : Int32) : 0 ≤ (x &&& 63).toInt ∧ (x &&& 63).toInt ≤ 63 := by
  obtain ⟨k, hk, e⟩ := and_lt (i := 63) (n := 64) x (by omega) (by omega)
  have e2 : x &&& 63 = nI k := by
    rw [← e]
    apply Int32.toBitVec.inj
    rw [Int32.toBitVec_and, Int32.toBitVec_and]
    exact BitVec.and_comm _ _
  rw [e2, nI_toInt (by omega)]
  omega
theorem T_J6_bitCountR {Z : St → Prop} {σ0 : St} {M T S E A U Y L P N : Nat} (q : ZB Z σ0 M T S E A U Y L P N) {p0 : Int32} {s : St} (h : Z s) : Ok (fun r s' => Z s' ∧ 0 ≤ r.toInt ∧ r.toInt ≤ 63) (f_J6_bitCount_0f7a4 p0 s) := by
  unfold f_J6_bitCount_0f7a4
  exact okR ⟨h, and63 _⟩
theorem T_X1_hundreds {Z : St → Prop} {σ0 : St} {M T S E A U Y L P N : Nat} (q : ZB Z σ0 M T S E A U Y L P N) {p0 : Int32} {s : St} (h : Z s) (hp : p0.toInt ≤ 1000) : Ok (fun _ s' => Z s') (f_X1_hundreds p0 s) := by
  unfold f_X1_hundreds
  refine okB (T_X1_power q h hp) ?_
  intro r1 s1 h1
  exact okR h1
theorem T_X1_lowest {Z : St → Prop} {σ0 : St} {M T S E A U Y L P N : Nat} (q : ZB Z σ0 M T S E A U Y L P N) {p0 p1 : Int64} {p2 : Int32} {s : St} (h : Z s) : Ok (fun _ s' => Z s') (f_X1_lowest p0 p1 p2 s) := by
  unfold f_X1_lowest
  refine okB (T_X1_commonDivisor q h) ?_
  intro r1 s1 h1
  rw [bnd_mk]
  have hz : (!decide ((if r1 < (1 : Int64) then (1 : Int64) else r1) = 0)) = true := by
    rw [Bool.not_eq_true', decide_eq_false_iff_not]
    by_cases c : r1 < (1 : Int64)
    · rw [if_pos c]; decide
    · rw [if_neg c]
      rintro rfl
      exact c (by decide)
  unfold f_X1_lowest_21
  refine okI (fun _ => okD hz (okR h1)) (fun _ => okD hz (okR h1))
theorem T_X1_dryParts {Z : St → Prop} {σ0 : St} {M T S E A U Y L P N : Nat} (q : ZB Z σ0 M T S E A U Y L P N) {p0 p1 p2 : Int32} {s : St} (h : Z s) (h1 : p2.toInt ≤ 1000) (h2 : (p1 - p2).toInt ≤ 1000) : Ok (fun _ s' => Z s') (f_X1_dryParts p0 p1 p2 s) := by
  unfold f_X1_dryParts
  refine okB (T_X1_choices q h h1) ?_
  intro r3 s3 h3
  refine okB (T_X1_power q h3 h1) ?_
  intro r4 s4 h4
  refine okB (T_X1_power q h4 h2) ?_
  intro r5 s5 h5
  exact okR h5
theorem T_X11_dry {Z : St → Prop} {σ0 : St} {M T S E A U Y L P N : Nat} (q : ZB Z σ0 M T S E A U Y L P N) {p0 p1 p2 : Int32} {s : St} (h : Z s) : Ok (fun _ s' => Z s') (f_X11_dry p0 p1 p2 s) := by
  unfold f_X11_dry f_X11_dry_37
  refine okB (T_X10_isTold q h) ?_
  intro r1 s1 h1
  refine okI (fun _ => okR h1) (fun _ => ?_)
  refine okI (fun _ => okR h1) (fun c1 => ?_)
  refine okI (fun _ => okR h1) (fun c2 => ?_)
  refine okI (fun _ => okR h1) (fun c3 => ?_)
  refine okI (fun _ => okR h1) (fun c4 => ?_)
  refine okB (T_X11_isPart q h1) ?_
  intro r2 s2 h2
  refine okI (fun _ => okR h2) (fun _ => ?_)
  have z0 : (0 : Int32).toInt = 0 := rfl
  have z1 : (1 : Int32).toInt = 1 := rfl
  have z9 : (9 : Int32).toInt = 9 := rfl
  rw [lt_toInt] at c1 c2 c3 c4
  obtain ⟨a, ha, rfl⟩ := nI_ofT (x := p0) (n := 9) (by omega) (by omega)
  obtain ⟨b, hb, rfl⟩ := nI_ofT (x := p1) (n := 9) (by omega) (by omega)
  rw [nI_toInt (by omega), nI_toInt (by omega)] at c4
  refine okB (T_X1_dryParts q h2 (by rw [nI_toInt (by omega)]; omega) (by rw [nI_subl (by omega), nI_toInt (by omega)]; omega)) ?_
  intro r3 s3 h3
  refine okB (T_X1_hundreds q h3 (by rw [nI_toInt (by omega)]; omega)) ?_
  intro r4 s4 h4
  refine okB (T_X1_lowest q h4) ?_
  intro r5 s5 h5
  exact okR h5
theorem T_X11_luck {Z : St → Prop} {σ0 : St} {M T S E A U Y L P N : Nat} (q : ZB Z σ0 M T S E A U Y L P N) {p0 p1 p2 : Int32} {s : St} (h : Z s) : Ok (fun _ s' => Z s') (f_X11_luck p0 p1 p2 s) := by
  unfold f_X11_luck f_X11_luck_30
  refine okB (T_X11_isSeed q h) ?_
  intro r1 s1 h1
  refine okI (fun _ => okR h1) (fun _ => ?_)
  refine okI (fun _ => okR h1) (fun c1 => ?_)
  refine okI (fun _ => okR h1) (fun c2 => ?_)
  refine okB (T_X10_hasSide q h1) ?_
  intro r2 s2 h2
  refine okI (fun _ => okR h2) (fun _ => ?_)
  have z0 : (1 : Int32).toInt = 1 := rfl
  have z9 : (20 : Int32).toInt = 20 := rfl
  rw [lt_toInt] at c1 c2
  obtain ⟨a, ha, rfl⟩ := nI_ofT (x := p1) (n := 20) (by omega) (by omega)
  refine okC (fun (i : Nat) (x : Int32 × Int32 × Int32 × Int32 × Int32 × St) => x.2.2.2.2.1 = nI i ∧ x.2.1 = nI a ∧ Z x.2.2.2.2.2) a ?_ (i := 0) (by unfold FU; omega) (by omega) ⟨rfl, rfl, h2⟩
  rintro i ⟨v1, v2, v3, v4, v5, s3⟩ K hi ⟨hv, hw, h3⟩ hK
  dsimp only at hv hw h3
  subst hv hw
  unfold g_X11_luck_39
  dsimp only
  refine okI (fun _ => okR h3) (fun c => ?_)
  replace c := cnt_le rfl (by omega) c hi
  refine okB (T_X1_drawnDelays q h3) ?_
  intro r4 s4 h4
  unfold f_X11_luck_80
  refine okI (fun _ => hK _ c ⟨nI_1 _, rfl, h4⟩) (fun _ => ?_)
  refine okB (T_X2_winnerBy q h4) ?_
  intro r5 s5 h5
  refine okI (fun _ => okN (hK _ c ⟨nI_1 _, rfl, h5⟩)) (fun _ => hK _ c ⟨nI_1 _, rfl, h5⟩)
theorem of_cond {p0 x : Int32} {M : Nat} (h1 : ¬ p0 < (1 : Int32)) (h2 : p0 ≤ x) (hx : x = nI M) (hM : M ≤ 60) : ∃ k : Nat, p0 = nI k ∧ k ≤ 1000 := by
  have z1 : (1 : Int32).toInt = 1 := rfl
  rw [lt_toInt] at h1
  rw [le_toInt, hx, nI_toInt (by omega)] at h2
  obtain ⟨k, hk, e⟩ := nI_ofT (x := p0) (n := 1000) (by omega) (by omega)
  exact ⟨k, e, hk⟩
theorem sub1_1000 {x : Int32} (h0 : 0 ≤ x.toInt) (h : x.toInt ≤ 63) : (x - 1).toInt ≤ 1000 := by
  obtain ⟨k, hk, rfl⟩ := nI_ofT (x := x) (n := 63) (by omega) (by omega)
  rcases k with _ | k
  · decide
  · rw [nI_pred, nI_toInt (by omega)]
    omega
/-! ===== questions of the class, 44 .. 125 ===== -/
theorem T_X3_takePrices {Z : St → Prop} {σ0 : St} {M T S E A U Y L P N : Nat} (q : ZB Z σ0 M T S E A U Y L P N)  {s : St} (h : Z s) : Ok (fun _ s' => Z s') (f_X3_takePrices s) := by
  have qM := q.b.hM
  have qT := q.b.hT
  have qS := q.b.S512
  have qE := q.b.hE
  have qA := q.b.hA
  have qU := q.b.hU
  have qY := q.b.hY
  have qA2 := q.b.A256
  have qU2 := q.b.U256
  unfold f_X3_takePrices
  refine okD rfl ?_
  refine okZ (Z := Z) (q.z.wr _ _ _ h (by decide)) (fun s1 h2 => ?_)
  refine okC (fun (i : Nat) (x : Int32 × St) => x.1 = nI i ∧ Z x.2) T ?_ (i := 0) (by unfold FU; omega) (by omega) ⟨rfl, h2⟩
  rintro i3 ⟨v10, s8⟩ K4 hi5 ⟨hv7, h9⟩ hK6
  dsimp only at hv7 h9
  subst hv7
  unfold g_X3_takePrices_9
  dsimp only
  refine okI (fun _ => ?_) (fun c11 => ?_)
  ·
    exact okR h9
  ·
    replace c11 : i3 < T := cnt_le (q.at' h9).cT (by omega) c11 hi5
    refine okB (T_X9_cell3 q h9) ?_
    intro r14 s12 h13
    refine okB (T_X10_spread q h13 (by omega) ⟨by decide, by decide⟩ rfl (fun s f hs => q.z.wr s _ f hs (by decide))) ?_
    intro r17 s15 h16
    refine okN ?_
    exact hK6 _ c11 ⟨nI_1 _, h16⟩
theorem T_X3_fitByDelays {Z : St → Prop} {σ0 : St} {M T S E A U Y L P N : Nat} (q : ZB Z σ0 M T S E A U Y L P N) {p0 : Int32} {s : St} (h : Z s) : Ok (fun _ s' => Z s') (f_X3_fitByDelays p0 s) := by
  have qM := q.b.hM
  have qT := q.b.hT
  have qS := q.b.S512
  have qE := q.b.hE
  have qA := q.b.hA
  have qU := q.b.hU
  have qY := q.b.hY
  have qA2 := q.b.A256
  have qU2 := q.b.U256
  unfold f_X3_fitByDelays
  refine okB (T_X10_menThere q h) ?_
  intro r3 s1 h2
  refine okD rfl ?_
  refine okZ (Z := Z) (q.z.wr _ _ _ h2 (by decide)) (fun s4 h5 => ?_)
  refine okC (fun (i : Nat) (x : Int32 × Int32 × St) => x.2.1 = nI i ∧ Z x.2.2) T ?_ (i := 0) (by unfold FU; omega) (by omega) ⟨rfl, h5⟩
  rintro i6 ⟨v13, v14, s11⟩ K7 hi8 ⟨hv10, h12⟩ hK9
  dsimp only at hv10 h12
  subst hv10
  unfold g_X3_fitByDelays_24
  dsimp only
  refine okI (fun _ => ?_) (fun c15 => ?_)
  ·
    refine okC (fun (i : Nat) (x : Int32 × Int32 × St) => x.2.1 = nI i ∧ Z x.2.2) S ?_ (i := 0) (by unfold FU; omega) (by omega) ⟨rfl, h12⟩
    rintro i16 ⟨v23, v24, s21⟩ K17 hi18 ⟨hv20, h22⟩ hK19
    dsimp only at hv20 h22
    subst hv20
    unfold g_X3_fitByDelays_100
    dsimp only
    rw [S_X10_sets q h22, bd_mk]
    refine okI (fun _ => ?_) (fun c25 => ?_)
    ·
      exact okR h22
    ·
      replace c25 : i16 < S := cnt_le rfl (by omega) c25 hi18
      refine okD (inb_ln (n := 512) rfl (by omega) (by omega)) ?_
      refine okB (T_X10_needOf q h22) ?_
      intro r28 s26 h27
      refine okI (fun c29 => ?_) (fun c29 => ?_)
      ·
        unfold f_X3_fitByDelays_138
        refine okD (by first | exact inb_ln (n := 512) rfl (by omega) (by omega) | rfl) ?_
        refine okZ (Z := Z) (q.z.wr _ _ _ h27 (by decide)) (fun s30 h31 => ?_)
        refine okN ?_
        exact hK19 _ c25 ⟨nI_1 _, h31⟩
      ·
        unfold f_X3_fitByDelays_138
        refine okD (by first | exact inb_ln (n := 512) rfl (by omega) (by omega) | rfl) ?_
        refine okZ (Z := Z) (q.z.wr _ _ _ h27 (by decide)) (fun s32 h33 => ?_)
        refine okN ?_
        exact hK19 _ c25 ⟨nI_1 _, h33⟩
  ·
    replace c15 : i6 < T := cnt_le (q.at' h12).cT (by omega) c15 hi8
    refine okB (T_X9_cell3 q h12) ?_
    intro r36 s34 h35
    refine okI (fun c37 => ?_) (fun c37 => ?_)
    ·
      unfold f_X3_fitByDelays_59
      refine okI (fun c38 => ?_) (fun c38 => ?_)
      ·
        unfold f_X3_fitByDelays_89
        refine okB (T_X10_spread q h35 (by omega) ⟨by decide, by decide⟩ rfl (fun s f hs => q.z.wr s _ f hs (by decide))) ?_
        intro r41 s39 h40
        refine okN ?_
        exact hK9 _ c15 ⟨nI_1 _, h40⟩
      ·
        refine okB (T_X10_menLost q h35) ?_
        intro r44 s42 h43
        unfold f_X3_fitByDelays_89
        refine okB (T_X10_spread q h43 (by omega) ⟨by decide, by decide⟩ rfl (fun s f hs => q.z.wr s _ f hs (by decide))) ?_
        intro r47 s45 h46
        refine okN ?_
        exact hK9 _ c15 ⟨nI_1 _, h46⟩
    ·
      unfold f_X3_fitByDelays_59
      refine okI (fun c48 => ?_) (fun c48 => ?_)
      ·
        unfold f_X3_fitByDelays_89
        refine okB (T_X10_spread q h35 (by omega) ⟨by decide, by decide⟩ rfl (fun s f hs => q.z.wr s _ f hs (by decide))) ?_
        intro r51 s49 h50
        refine okN ?_
        exact hK9 _ c15 ⟨nI_1 _, h50⟩
      ·
        refine okB (T_X10_menLost q h35) ?_
        intro r54 s52 h53
        unfold f_X3_fitByDelays_89
        refine okB (T_X10_spread q h53 (by omega) ⟨by decide, by decide⟩ rfl (fun s f hs => q.z.wr s _ f hs (by decide))) ?_
        intro r57 s55 h56
        refine okN ?_
        exact hK9 _ c15 ⟨nI_1 _, h56⟩
theorem T_X3_cheapest {Z : St → Prop} {σ0 : St} {M T S E A U Y L P N : Nat} (q : ZB Z σ0 M T S E A U Y L P N) {p0 : Int32} {s : St} (h : Z s) : Ok (fun _ s' => Z s') (f_X3_cheapest p0 s) := by
  have qM := q.b.hM
  have qT := q.b.hT
  have qS := q.b.S512
  have qE := q.b.hE
  have qA := q.b.hA
  have qU := q.b.hU
  have qY := q.b.hY
  have qA2 := q.b.A256
  have qU2 := q.b.U256
  unfold f_X3_cheapest
  refine okC (fun (i : Nat) (x : Int32 × Int32 × Int32 × Int32 × St) => x.2.2.2.1 = nI i ∧ Z x.2.2.2.2) S ?_ (i := 0) (by unfold FU; omega) (by omega) ⟨rfl, h⟩
  rintro i1 ⟨v8, v9, v10, v11, s6⟩ K2 hi3 ⟨hv5, h7⟩ hK4
  dsimp only at hv5 h7
  subst hv5
  unfold g_X3_cheapest_8
  dsimp only
  rw [S_X10_sets q h7, bd_mk]
  refine okI (fun _ => ?_) (fun c12 => ?_)
  ·
    exact okR h7
  ·
    replace c12 : i1 < S := cnt_le rfl (by omega) c12 hi3
    refine okI (fun c13 => ?_) (fun c13 => ?_)
    ·
      refine okD (inb_ln (n := 512) rfl (by omega) (by omega)) ?_
      refine okI (fun c14 => ?_) (fun c14 => ?_)
      ·
        unfold f_X3_cheapest_61
        refine okN ?_
        exact hK4 _ c12 ⟨nI_1 _, h7⟩
      ·
        refine okD (inb_ln (n := 512) rfl (by omega) (by omega)) ?_
        refine okI (fun c15 => ?_) (fun c15 => ?_)
        ·
          unfold f_X3_cheapest_61
          refine okN ?_
          exact hK4 _ c12 ⟨nI_1 _, h7⟩
        ·
          refine okD (inb_ln (n := 512) rfl (by omega) (by omega)) ?_
          refine okN ?_
          unfold f_X3_cheapest_61
          refine okN ?_
          exact hK4 _ c12 ⟨nI_1 _, h7⟩
    ·
      unfold f_X3_cheapest_61
      refine okN ?_
      exact hK4 _ c12 ⟨nI_1 _, h7⟩
theorem T_X4_isHeld {Z : St → Prop} {σ0 : St} {M T S E A U Y L P N : Nat} (q : ZB Z σ0 M T S E A U Y L P N) {p0 : Int32} {p1 : Int32} {s : St} (h : Z s) : Ok (fun _ s' => Z s') (f_X4_isHeld p0 p1 s) := by
  have qM := q.b.hM
  have qT := q.b.hT
  have qS := q.b.S512
  have qE := q.b.hE
  have qA := q.b.hA
  have qU := q.b.hU
  have qY := q.b.hY
  have qA2 := q.b.A256
  have qU2 := q.b.U256
  unfold f_X4_isHeld
  refine okC (fun (i : Nat) (x : Int32 × Int32 × Int32 × St) => x.2.2.1 = nI i ∧ Z x.2.2.2) U ?_ (i := 0) (by unfold FU; omega) (by omega) ⟨rfl, h⟩
  rintro i1 ⟨v8, v9, v10, s6⟩ K2 hi3 ⟨hv5, h7⟩ hK4
  dsimp only at hv5 h7
  subst hv5
  unfold g_X4_isHeld_2
  dsimp only
  refine okI (fun _ => ?_) (fun c11 => ?_)
  ·
    refine okD rfl ?_
    exact okR h7
  ·
    replace c11 : i1 < U := cnt_le (q.at' h7).cU (by omega) c11 hi3
    refine okB (T_X9_cell9 q h7) ?_
    intro r14 s12 h13
    refine okB (T_X9_cell9 q h13) ?_
    intro r17 s15 h16
    refine okI (fun c18 => ?_) (fun c18 => ?_)
    ·
      unfold f_X4_isHeld_66
      unfold f_X4_isHeld_71
      refine okI (fun c19 => ?_) (fun c19 => ?_)
      ·
        unfold f_X4_isHeld_97
        unfold f_X4_isHeld_102
        refine okI (fun c20 => ?_) (fun c20 => ?_)
        ·
          unfold f_X4_isHeld_116
          refine okN ?_
          exact hK4 _ c11 ⟨nI_1 _, h16⟩
        ·
          refine okI (fun c21 => ?_) (fun c21 => ?_)
          ·
            unfold f_X4_isHeld_116
            refine okN ?_
            exact hK4 _ c11 ⟨nI_1 _, h16⟩
          ·
            refine okD rfl ?_
            exact okR h16
      ·
        refine okI (fun c22 => ?_) (fun c22 => ?_)
        ·
          refine okB (T_X10_isIn q h16) ?_
          intro r25 s23 h24
          refine okI (fun c26 => ?_) (fun c26 => ?_)
          ·
            unfold f_X4_isHeld_101
            unfold f_X4_isHeld_102
            refine okI (fun c27 => ?_) (fun c27 => ?_)
            ·
              unfold f_X4_isHeld_116
              refine okN ?_
              exact hK4 _ c11 ⟨nI_1 _, h24⟩
            ·
              refine okI (fun c28 => ?_) (fun c28 => ?_)
              ·
                unfold f_X4_isHeld_116
                refine okN ?_
                exact hK4 _ c11 ⟨nI_1 _, h24⟩
              ·
                refine okD rfl ?_
                exact okR h24
          ·
            unfold f_X4_isHeld_97
            unfold f_X4_isHeld_102
            refine okI (fun c29 => ?_) (fun c29 => ?_)
            ·
              unfold f_X4_isHeld_116
              refine okN ?_
              exact hK4 _ c11 ⟨nI_1 _, h24⟩
            ·
              refine okI (fun c30 => ?_) (fun c30 => ?_)
              ·
                unfold f_X4_isHeld_116
                refine okN ?_
                exact hK4 _ c11 ⟨nI_1 _, h24⟩
              ·
                refine okD rfl ?_
                exact okR h24
        ·
          unfold f_X4_isHeld_101
          unfold f_X4_isHeld_102
          refine okI (fun c31 => ?_) (fun c31 => ?_)
          ·
            unfold f_X4_isHeld_116
            refine okN ?_
            exact hK4 _ c11 ⟨nI_1 _, h16⟩
          ·
            refine okI (fun c32 => ?_) (fun c32 => ?_)
            ·
              unfold f_X4_isHeld_116
              refine okN ?_
              exact hK4 _ c11 ⟨nI_1 _, h16⟩
            ·
              refine okD rfl ?_
              exact okR h16
    ·
      refine okI (fun c33 => ?_) (fun c33 => ?_)
      ·
        refine okB (T_X10_isIn q h16) ?_
        intro r36 s34 h35
        refine okI (fun c37 => ?_) (fun c37 => ?_)
        ·
          unfold f_X4_isHeld_70
          unfold f_X4_isHeld_71
          refine okI (fun c38 => ?_) (fun c38 => ?_)
          ·
            unfold f_X4_isHeld_97
            unfold f_X4_isHeld_102
            refine okI (fun c39 => ?_) (fun c39 => ?_)
            ·
              unfold f_X4_isHeld_116
              refine okN ?_
              exact hK4 _ c11 ⟨nI_1 _, h35⟩
            ·
              refine okI (fun c40 => ?_) (fun c40 => ?_)
              ·
                unfold f_X4_isHeld_116
                refine okN ?_
                exact hK4 _ c11 ⟨nI_1 _, h35⟩
              ·
                refine okD rfl ?_
                exact okR h35
          ·
            refine okI (fun c41 => ?_) (fun c41 => ?_)
            ·
              refine okB (T_X10_isIn q h35) ?_
              intro r44 s42 h43
              refine okI (fun c45 => ?_) (fun c45 => ?_)
              ·
                unfold f_X4_isHeld_101
                unfold f_X4_isHeld_102
                refine okI (fun c46 => ?_) (fun c46 => ?_)
                ·
                  unfold f_X4_isHeld_116
                  refine okN ?_
                  exact hK4 _ c11 ⟨nI_1 _, h43⟩
                ·
                  refine okI (fun c47 => ?_) (fun c47 => ?_)
                  ·
                    unfold f_X4_isHeld_116
                    refine okN ?_
                    exact hK4 _ c11 ⟨nI_1 _, h43⟩
                  ·
                    refine okD rfl ?_
                    exact okR h43
              ·
                unfold f_X4_isHeld_97
                unfold f_X4_isHeld_102
                refine okI (fun c48 => ?_) (fun c48 => ?_)
                ·
                  unfold f_X4_isHeld_116
                  refine okN ?_
                  exact hK4 _ c11 ⟨nI_1 _, h43⟩
                ·
                  refine okI (fun c49 => ?_) (fun c49 => ?_)
                  ·
                    unfold f_X4_isHeld_116
                    refine okN ?_
                    exact hK4 _ c11 ⟨nI_1 _, h43⟩
                  ·
                    refine okD rfl ?_
                    exact okR h43
            ·
              unfold f_X4_isHeld_101
              unfold f_X4_isHeld_102
              refine okI (fun c50 => ?_) (fun c50 => ?_)
              ·
                unfold f_X4_isHeld_116
                refine okN ?_
                exact hK4 _ c11 ⟨nI_1 _, h35⟩
              ·
                refine okI (fun c51 => ?_) (fun c51 => ?_)
                ·
                  unfold f_X4_isHeld_116
                  refine okN ?_
                  exact hK4 _ c11 ⟨nI_1 _, h35⟩
                ·
                  refine okD rfl ?_
                  exact okR h35
        ·
          unfold f_X4_isHeld_66
          unfold f_X4_isHeld_71
          refine okI (fun c52 => ?_) (fun c52 => ?_)
          ·
            unfold f_X4_isHeld_97
            unfold f_X4_isHeld_102
            refine okI (fun c53 => ?_) (fun c53 => ?_)
            ·
              unfold f_X4_isHeld_116
              refine okN ?_
              exact hK4 _ c11 ⟨nI_1 _, h35⟩
            ·
              refine okI (fun c54 => ?_) (fun c54 => ?_)
              ·
                unfold f_X4_isHeld_116
                refine okN ?_
                exact hK4 _ c11 ⟨nI_1 _, h35⟩
              ·
                refine okD rfl ?_
                exact okR h35
          ·
            refine okI (fun c55 => ?_) (fun c55 => ?_)
            ·
              refine okB (T_X10_isIn q h35) ?_
              intro r58 s56 h57
              refine okI (fun c59 => ?_) (fun c59 => ?_)
              ·
                unfold f_X4_isHeld_101
                unfold f_X4_isHeld_102
                refine okI (fun c60 => ?_) (fun c60 => ?_)
                ·
                  unfold f_X4_isHeld_116
                  refine okN ?_
                  exact hK4 _ c11 ⟨nI_1 _, h57⟩
                ·
                  refine okI (fun c61 => ?_) (fun c61 => ?_)
                  ·
                    unfold f_X4_isHeld_116
                    refine okN ?_
                    exact hK4 _ c11 ⟨nI_1 _, h57⟩
                  ·
                    refine okD rfl ?_
                    exact okR h57
              ·
                unfold f_X4_isHeld_97
                unfold f_X4_isHeld_102
                refine okI (fun c62 => ?_) (fun c62 => ?_)
                ·
                  unfold f_X4_isHeld_116
                  refine okN ?_
                  exact hK4 _ c11 ⟨nI_1 _, h57⟩
                ·
                  refine okI (fun c63 => ?_) (fun c63 => ?_)
                  ·
                    unfold f_X4_isHeld_116
                    refine okN ?_
                    exact hK4 _ c11 ⟨nI_1 _, h57⟩
                  ·
                    refine okD rfl ?_
                    exact okR h57
            ·
              unfold f_X4_isHeld_101
              unfold f_X4_isHeld_102
              refine okI (fun c64 => ?_) (fun c64 => ?_)
              ·
                unfold f_X4_isHeld_116
                refine okN ?_
                exact hK4 _ c11 ⟨nI_1 _, h35⟩
              ·
                refine okI (fun c65 => ?_) (fun c65 => ?_)
                ·
                  unfold f_X4_isHeld_116
                  refine okN ?_
                  exact hK4 _ c11 ⟨nI_1 _, h35⟩
                ·
                  refine okD rfl ?_
                  exact okR h35
      ·
        unfold f_X4_isHeld_70
        unfold f_X4_isHeld_71
        refine okI (fun c66 => ?_) (fun c66 => ?_)
        ·
          unfold f_X4_isHeld_97
          unfold f_X4_isHeld_102
          refine okI (fun c67 => ?_) (fun c67 => ?_)
          ·
            unfold f_X4_isHeld_116
            refine okN ?_
            exact hK4 _ c11 ⟨nI_1 _, h16⟩
          ·
            refine okI (fun c68 => ?_) (fun c68 => ?_)
            ·
              unfold f_X4_isHeld_116
              refine okN ?_
              exact hK4 _ c11 ⟨nI_1 _, h16⟩
            ·
              refine okD rfl ?_
              exact okR h16
        ·
          refine okI (fun c69 => ?_) (fun c69 => ?_)
          ·
            refine okB (T_X10_isIn q h16) ?_
            intro r72 s70 h71
            refine okI (fun c73 => ?_) (fun c73 => ?_)
            ·
              unfold f_X4_isHeld_101
              unfold f_X4_isHeld_102
              refine okI (fun c74 => ?_) (fun c74 => ?_)
              ·
                unfold f_X4_isHeld_116
                refine okN ?_
                exact hK4 _ c11 ⟨nI_1 _, h71⟩
              ·
                refine okI (fun c75 => ?_) (fun c75 => ?_)
                ·
                  unfold f_X4_isHeld_116
                  refine okN ?_
                  exact hK4 _ c11 ⟨nI_1 _, h71⟩
                ·
                  refine okD rfl ?_
                  exact okR h71
            ·
              unfold f_X4_isHeld_97
              unfold f_X4_isHeld_102
              refine okI (fun c76 => ?_) (fun c76 => ?_)
              ·
                unfold f_X4_isHeld_116
                refine okN ?_
                exact hK4 _ c11 ⟨nI_1 _, h71⟩
              ·
                refine okI (fun c77 => ?_) (fun c77 => ?_)
                ·
                  unfold f_X4_isHeld_116
                  refine okN ?_
                  exact hK4 _ c11 ⟨nI_1 _, h71⟩
                ·
                  refine okD rfl ?_
                  exact okR h71
          ·
            unfold f_X4_isHeld_101
            unfold f_X4_isHeld_102
            refine okI (fun c78 => ?_) (fun c78 => ?_)
            ·
              unfold f_X4_isHeld_116
              refine okN ?_
              exact hK4 _ c11 ⟨nI_1 _, h16⟩
            ·
              refine okI (fun c79 => ?_) (fun c79 => ?_)
              ·
                unfold f_X4_isHeld_116
                refine okN ?_
                exact hK4 _ c11 ⟨nI_1 _, h16⟩
              ·
                refine okD rfl ?_
                exact okR h16
theorem T_X8_knownTo {Z : St → Prop} {σ0 : St} {M T S E A U Y L P N : Nat} (q : ZB Z σ0 M T S E A U Y L P N) {p0 : Int32} {s : St} (h : Z s) : Ok (fun _ s' => Z s') (f_X8_knownTo p0 s) := by
  have qM := q.b.hM
  have qT := q.b.hT
  have qS := q.b.S512
  have qE := q.b.hE
  have qA := q.b.hA
  have qU := q.b.hU
  have qY := q.b.hY
  have qA2 := q.b.A256
  have qU2 := q.b.U256
  unfold f_X8_knownTo
  refine okB (T_X9_cell11 q h) ?_
  intro r3 s1 h2
  exact okR h2
theorem T_X10_hasSet {Z : St → Prop} {σ0 : St} {M T S E A U Y L P N : Nat} (q : ZB Z σ0 M T S E A U Y L P N) {p0 : Int32} {s : St} (h : Z s) : Ok (fun _ s' => Z s') (f_X10_hasSet 1 p0 s) := by
  have qM := q.b.hM
  have qT := q.b.hT
  have qS := q.b.S512
  have qE := q.b.hE
  have qA := q.b.hA
  have qU := q.b.hU
  have qY := q.b.hY
  have qA2 := q.b.A256
  have qU2 := q.b.U256
  unfold f_X10_hasSet
  refine okD (isW_lit (Or.inl rfl)) ?_
  refine okB (T_X10_isTold q h) ?_
  intro r3 s1 h2
  refine okI (fun c4 => ?_) (fun c4 => ?_)
  ·
    unfold f_X10_hasSet_23
    unfold f_X10_hasSet_24
    refine okD rfl ?_
    exact okR h2
  ·
    refine okI (fun c5 => ?_) (fun c5 => ?_)
    ·
      unfold f_X10_hasSet_23
      unfold f_X10_hasSet_24
      refine okD rfl ?_
      exact okR h2
    ·
      rw [S_X10_sets q h2, bd_mk]
      refine okI (fun c6 => ?_) (fun c6 => ?_)
      ·
        unfold f_X10_hasSet_23
        unfold f_X10_hasSet_24
        refine okD rfl ?_
        exact okR h2
      ·
        unfold f_X10_hasSet_24
        refine okD rfl ?_
        exact okR h2
theorem T_X11_price {Z : St → Prop} {σ0 : St} {M T S E A U Y L P N : Nat} (q : ZB Z σ0 M T S E A U Y L P N) {p0 p1 : Int32} {s : St} (h : Z s) : Ok (fun _ s' => Z s') (f_X11_price p0 p1 s) := by
  unfold f_X11_price f_X11_price_27 f_X11_price_58
  refine okB (T_X10_hasSet q h) ?_
  intro r1 s1 h1
  refine okI (fun _ => okR h1) (fun _ => ?_)
  refine okI (fun _ => okR h1) (fun c1 => ?_)
  refine okI (fun c2 => ?_) (fun _ => okR h1)
  refine okB (T_X2_follow q h1) ?_
  intro r2 s2 h2
  refine okB (T_X2_farthestFrom q h2 (of_cond c1 c2 (q.at' h1).cM q.b.hM)) ?_
  intro r3 s3 h3
  refine okI (fun _ => okR h3) (fun _ => okR h3)
theorem T_X11_men {Z : St → Prop} {σ0 : St} {M T S E A U Y L P N : Nat} (q : ZB Z σ0 M T S E A U Y L P N) {p0 : Int32} {p1 : Int32} {p2 : Int32} {s : St} (h : Z s) : Ok (fun _ s' => Z s') (f_X11_men p0 p1 p2 s) := by
  have qM := q.b.hM
  have qT := q.b.hT
  have qS := q.b.S512
  have qE := q.b.hE
  have qA := q.b.hA
  have qU := q.b.hU
  have qY := q.b.hY
  have qA2 := q.b.A256
  have qU2 := q.b.U256
  unfold f_X11_men
  refine okB (T_X10_hasSide q h) ?_
  intro r3 s1 h2
  refine okI (fun c4 => ?_) (fun c4 => ?_)
  ·
    unfold f_X11_men_29
    exact okR h2
  ·
    refine okB (T_X11_isMinute q h2) ?_
    intro r7 s5 h6
    refine okI (fun c8 => ?_) (fun c8 => ?_)
    ·
      unfold f_X11_men_29
      exact okR h6
    ·
      refine okB (T_X10_hasSet q h6) ?_
      intro r11 s9 h10
      refine okI (fun c12 => ?_) (fun c12 => ?_)
      ·
        unfold f_X11_men_29
        exact okR h10
      ·
        refine okB (T_X10_menThere q h10) ?_
        intro r15 s13 h14
        exact okR h14
theorem T_X11_front {Z : St → Prop} {σ0 : St} {M T S E A U Y L P N : Nat} (q : ZB Z σ0 M T S E A U Y L P N) {p0 : Int32} {p1 : Int32} {s : St} (h : Z s) : Ok (fun _ s' => Z s') (f_X11_front p0 p1 s) := by
  have qM := q.b.hM
  have qT := q.b.hT
  have qS := q.b.S512
  have qE := q.b.hE
  have qA := q.b.hA
  have qU := q.b.hU
  have qY := q.b.hY
  have qA2 := q.b.A256
  have qU2 := q.b.U256
  unfold f_X11_front
  refine okB (T_X10_hasSet q h) ?_
  intro r3 s1 h2
  refine okI (fun c4 => ?_) (fun c4 => ?_)
  ·
    unfold f_X11_front_26
    exact okR h2
  ·
    refine okI (fun c5 => ?_) (fun c5 => ?_)
    ·
      unfold f_X11_front_26
      exact okR h2
    ·
      refine okI (fun c6 => ?_) (fun c6 => ?_)
      ·
        refine okB (T_X2_follow q h2) ?_
        intro r9 s7 h8
        refine okB (T_X2_frontBehind q h8) ?_
        intro r12 s10 h11
        exact okR h11
      ·
        unfold f_X11_front_26
        exact okR h2
theorem T_X11_late {Z : St → Prop} {σ0 : St} {M T S E A U Y L P N : Nat} (q : ZB Z σ0 M T S E A U Y L P N) {p0 : Int32} {s : St} (h : Z s) : Ok (fun _ s' => Z s') (f_X11_late p0 s) := by
  have qM := q.b.hM
  have qT := q.b.hT
  have qS := q.b.S512
  have qE := q.b.hE
  have qA := q.b.hA
  have qU := q.b.hU
  have qY := q.b.hY
  have qA2 := q.b.A256
  have qU2 := q.b.U256
  unfold f_X11_late
  refine okB (T_X10_hasSet q h) ?_
  intro r3 s1 h2
  refine okI (fun c4 => ?_) (fun c4 => ?_)
  ·
    unfold f_X11_late_24
    exact okR h2
  ·
    refine okB (T_X10_lateSides q h2) ?_
    intro r7 s5 h6
    unfold f_X11_late_24
    exact okR h6
theorem T_X11_wins {Z : St → Prop} {σ0 : St} {M T S E A U Y L P N : Nat} (q : ZB Z σ0 M T S E A U Y L P N) {p0 : Int32} {s : St} (h : Z s) : Ok (fun _ s' => Z s') (f_X11_wins p0 s) := by
  have qM := q.b.hM
  have qT := q.b.hT
  have qS := q.b.S512
  have qE := q.b.hE
  have qA := q.b.hA
  have qU := q.b.hU
  have qY := q.b.hY
  have qA2 := q.b.A256
  have qU2 := q.b.U256
  unfold f_X11_wins
  refine okB (T_X10_hasSet q h) ?_
  intro r3 s1 h2
  refine okI (fun c4 => ?_) (fun c4 => ?_)
  ·
    unfold f_X11_wins_24
    exact okR h2
  ·
    refine okB (T_X2_winnerBy q h2) ?_
    intro r7 s5 h6
    unfold f_X11_wins_24
    exact okR h6
theorem T_X11_peak {Z : St → Prop} {σ0 : St} {M T S E A U Y L P N : Nat} (q : ZB Z σ0 M T S E A U Y L P N) {p0 : Int32} {p1 : Int32} {s : St} (h : Z s) : Ok (fun _ s' => Z s') (f_X11_peak p0 p1 s) := by
  have qM := q.b.hM
  have qT := q.b.hT
  have qS := q.b.S512
  have qE := q.b.hE
  have qA := q.b.hA
  have qU := q.b.hU
  have qY := q.b.hY
  have qA2 := q.b.A256
  have qU2 := q.b.U256
  unfold f_X11_peak
  refine okB (T_X10_hasSide q h) ?_
  intro r3 s1 h2
  refine okI (fun c4 => ?_) (fun c4 => ?_)
  ·
    unfold f_X11_peak_22
    exact okR h2
  ·
    refine okB (T_X10_hasSet q h2) ?_
    intro r7 s5 h6
    refine okI (fun c8 => ?_) (fun c8 => ?_)
    ·
      unfold f_X11_peak_22
      exact okR h6
    ·
      refine okB (T_X2_follow q h6) ?_
      intro r11 s9 h10
      refine okB (T_X2_peakOf q h10) ?_
      intro r14 s12 h13
      exact okR h13
theorem T_X11_swings {Z : St → Prop} {σ0 : St} {M T S E A U Y L P N : Nat} (q : ZB Z σ0 M T S E A U Y L P N) {p0 : Int32} {s : St} (h : Z s) : Ok (fun _ s' => Z s') (f_X11_swings p0 s) := by
  have qM := q.b.hM
  have qT := q.b.hT
  have qS := q.b.S512
  have qE := q.b.hE
  have qA := q.b.hA
  have qU := q.b.hU
  have qY := q.b.hY
  have qA2 := q.b.A256
  have qU2 := q.b.U256
  unfold f_X11_swings
  refine okB (T_X10_hasSet q h) ?_
  intro r3 s1 h2
  refine okI (fun c4 => ?_) (fun c4 => ?_)
  ·
    exact okR h2
  ·
    refine okB (T_X2_follow q h2) ?_
    intro r7 s5 h6
    refine okB (T_X2_countSwings q h6) ?_
    intro r10 s8 h9
    exact okR h9
theorem T_X11_since {Z : St → Prop} {σ0 : St} {M T S E A U Y L P N : Nat} (q : ZB Z σ0 M T S E A U Y L P N) {p0 : Int32} {p1 : Int32} {s : St} (h : Z s) : Ok (fun _ s' => Z s') (f_X11_since p0 p1 s) := by
  have qM := q.b.hM
  have qT := q.b.hT
  have qS := q.b.S512
  have qE := q.b.hE
  have qA := q.b.hA
  have qU := q.b.hU
  have qY := q.b.hY
  have qA2 := q.b.A256
  have qU2 := q.b.U256
  unfold f_X11_since
  refine okB (T_X10_hasSide q h) ?_
  intro r3 s1 h2
  refine okI (fun c4 => ?_) (fun c4 => ?_)
  ·
    unfold f_X11_since_22
    exact okR h2
  ·
    refine okB (T_X10_hasSet q h2) ?_
    intro r7 s5 h6
    refine okI (fun c8 => ?_) (fun c8 => ?_)
    ·
      unfold f_X11_since_22
      exact okR h6
    ·
      refine okC (fun (i : Nat) (x : Int32 × Int32 × Int32 × St) => x.2.2.1 = nI i ∧ Z x.2.2.2) (99 + 1) ?_ (i := 0) (by unfold FU; omega) (by omega) ⟨rfl, h6⟩
      rintro i9 ⟨v16, v17, v18, s14⟩ K10 hi11 ⟨hv13, h15⟩ hK12
      dsimp only at hv13 h15
      subst hv13
      unfold g_X11_since_27
      dsimp only
      refine okI (fun _ => ?_) (fun c19 => ?_)
      ·
        exact okR h15
      ·
        replace c19 : i9 < 99 + 1 := cnt_lt rfl (by omega) c19 hi11
        refine okB (T_X10_menThere q h15) ?_
        intro r22 s20 h21
        refine okB (T_X10_needOf q h21) ?_
        intro r25 s23 h24
        refine okI (fun c26 => ?_) (fun c26 => ?_)
        ·
          refine okN ?_
          exact hK12 _ c19 ⟨nI_1 _, h24⟩
        ·
          exact okR h24
theorem T_X11_comes {Z : St → Prop} {σ0 : St} {M T S E A U Y L P N : Nat} (q : ZB Z σ0 M T S E A U Y L P N) {p0 : Int32} {p1 : Int32} {s : St} (h : Z s) : Ok (fun _ s' => Z s') (f_X11_comes p0 p1 s) := by
  have qM := q.b.hM
  have qT := q.b.hT
  have qS := q.b.S512
  have qE := q.b.hE
  have qA := q.b.hA
  have qU := q.b.hU
  have qY := q.b.hY
  have qA2 := q.b.A256
  have qU2 := q.b.U256
  unfold f_X11_comes
  refine okB (T_X11_isMinute q h) ?_
  intro r3 s1 h2
  refine okI (fun c4 => ?_) (fun c4 => ?_)
  ·
    unfold f_X11_comes_18
    exact okR h2
  ·
    refine okB (T_X10_hasSet q h2) ?_
    intro r7 s5 h6
    refine okI (fun c8 => ?_) (fun c8 => ?_)
    ·
      unfold f_X11_comes_18
      exact okR h6
    ·
      refine okB (T_X10_comingIn q h6) ?_
      intro r11 s9 h10
      exact okR h10
theorem T_X11_even {Z : St → Prop} {σ0 : St} {M T S E A U Y L P N : Nat} (q : ZB Z σ0 M T S E A U Y L P N) {p0 : Int32} {s : St} (h : Z s) : Ok (fun _ s' => Z s') (f_X11_even p0 s) := by
  have qM := q.b.hM
  have qT := q.b.hT
  have qS := q.b.S512
  have qE := q.b.hE
  have qA := q.b.hA
  have qU := q.b.hU
  have qY := q.b.hY
  have qA2 := q.b.A256
  have qU2 := q.b.U256
  unfold f_X11_even
  refine okB (T_X10_hasSet q h) ?_
  intro r3 s1 h2
  refine okI (fun c4 => ?_) (fun c4 => ?_)
  ·
    exact okR h2
  ·
    refine okC (fun (i : Nat) (x : Int32 × Int64 × Int32 × St) => x.2.2.1 = nI i ∧ Z x.2.2.2) M ?_ (i := 0) (by unfold FU; omega) (by omega) ⟨rfl, h2⟩
    rintro i5 ⟨v12, v13, v14, s10⟩ K6 hi7 ⟨hv9, h11⟩ hK8
    dsimp only at hv9 h11
    subst hv9
    unfold g_X11_even_20
    dsimp only
    refine okI (fun _ => ?_) (fun c15 => ?_)
    ·
      exact okR h11
    ·
      replace c15 : i5 < M := cnt_le (q.at' h11).cM (by omega) c15 hi7
      refine okB (T_X10_leadIn q h11) ?_
      intro r18 s16 h17
      refine okI (fun c19 => ?_) (fun c19 => ?_)
      ·
        refine okN ?_
        unfold f_X11_even_52
        refine okN ?_
        exact hK8 _ c15 ⟨nI_1 _, h17⟩
      ·
        unfold f_X11_even_52
        refine okN ?_
        exact hK8 _ c15 ⟨nI_1 _, h17⟩
theorem T_X11_treaties {Z : St → Prop} {σ0 : St} {M T S E A U Y L P N : Nat} (q : ZB Z σ0 M T S E A U Y L P N) {p0 : Int32} {s : St} (h : Z s) : Ok (fun _ s' => Z s') (f_X11_treaties p0 s) := by
  have qM := q.b.hM
  have qT := q.b.hT
  have qS := q.b.S512
  have qE := q.b.hE
  have qA := q.b.hA
  have qU := q.b.hU
  have qY := q.b.hY
  have qA2 := q.b.A256
  have qU2 := q.b.U256
  unfold f_X11_treaties
  refine okB (T_X10_hasSet q h) ?_
  intro r3 s1 h2
  refine okI (fun c4 => ?_) (fun c4 => ?_)
  ·
    exact okR h2
  ·
    refine okB (T_X2_follow q h2) ?_
    intro r7 s5 h6
    refine okB (T_X2_treatyEnds q h6) ?_
    intro r10 s8 h9
    exact okR h9
theorem T_X11_insist {Z : St → Prop} {σ0 : St} {M T S E A U Y L P N : Nat} (q : ZB Z σ0 M T S E A U Y L P N) {p0 : Int32} {s : St} (h : Z s) : Ok (fun _ s' => Z s') (f_X11_insist p0 s) := by
  have qM := q.b.hM
  have qT := q.b.hT
  have qS := q.b.S512
  have qE := q.b.hE
  have qA := q.b.hA
  have qU := q.b.hU
  have qY := q.b.hY
  have qA2 := q.b.A256
  have qU2 := q.b.U256
  unfold f_X11_insist
  refine okB (T_X10_isTold q h) ?_
  intro r3 s1 h2
  refine okI (fun c4 => ?_) (fun c4 => ?_)
  ·
    unfold f_X11_insist_31
    unfold f_X11_insist_33
    exact okR h2
  ·
    refine okB (T_X11_isPercent q h2) ?_
    intro r7 s5 h6
    refine okI (fun c8 => ?_) (fun c8 => ?_)
    ·
      unfold f_X11_insist_31
      unfold f_X11_insist_33
      exact okR h6
    ·
      refine okB (T_X1_wednesdaysToInsist q h6) ?_
      intro r11 s9 h10
      unfold f_X11_insist_33
      exact okR h10
theorem T_X11_drawn {Z : St → Prop} {σ0 : St} {M T S E A U Y L P N : Nat} (q : ZB Z σ0 M T S E A U Y L P N) {p0 : Int32} {p1 : Int32} {s : St} (h : Z s) : Ok (fun _ s' => Z s') (f_X11_drawn p0 p1 s) := by
  have qM := q.b.hM
  have qT := q.b.hT
  have qS := q.b.S512
  have qE := q.b.hE
  have qA := q.b.hA
  have qU := q.b.hU
  have qY := q.b.hY
  have qA2 := q.b.A256
  have qU2 := q.b.U256
  unfold f_X11_drawn
  refine okB (T_X11_isSeed q h) ?_
  intro r3 s1 h2
  refine okI (fun c4 => ?_) (fun c4 => ?_)
  ·
    unfold f_X11_drawn_17
    exact okR h2
  ·
    refine okI (fun c5 => ?_) (fun c5 => ?_)
    ·
      unfold f_X11_drawn_17
      exact okR h2
    ·
      refine okI (fun c6 => ?_) (fun c6 => ?_)
      ·
        refine okB (T_X1_drawnDelays q h2) ?_
        intro r9 s7 h8
        refine okI (fun c10 => ?_) (fun c10 => ?_)
        ·
          try subst c10
          exact okR h8
        ·
          refine okI (fun c11 => ?_) (fun c11 => ?_)
          ·
            try subst c11
            refine okI (fun c12 => ?_) (fun c12 => ?_)
            ·
              unfold f_X11_drawn_57
              exact okR h8
            ·
              refine okB (T_X2_winnerBy q h8) ?_
              intro r15 s13 h14
              unfold f_X11_drawn_57
              exact okR h14
          ·
            refine okI (fun c16 => ?_) (fun c16 => ?_)
            ·
              exact okR h8
            ·
              refine okB (T_X2_follow q h8) ?_
              intro r19 s17 h18
              refine okB (T_X2_frontBehind q h18) ?_
              intro r22 s20 h21
              exact okR h21
      ·
        unfold f_X11_drawn_17
        exact okR h2
theorem T_X0_bestSet {Z : St → Prop} {σ0 : St} {M T S E A U Y L P N : Nat} (q : ZB Z σ0 M T S E A U Y L P N) {p0 : Int32} {s : St} (h : Z s) : Ok (fun _ s' => Z s') (f_X0_bestSet p0 s) := by
  have qM := q.b.hM
  have qT := q.b.hT
  have qS := q.b.S512
  have qE := q.b.hE
  have qA := q.b.hA
  have qU := q.b.hU
  have qY := q.b.hY
  have qA2 := q.b.A256
  have qU2 := q.b.U256
  unfold f_X0_bestSet
  refine okB (T_X0_sortByMinute q h) ?_
  intro r3 s1 h2
  refine okC (fun (i : Nat) (x : Int32 × Int32 × Int32 × Int32 × St) => x.2.2.2.1 = nI i ∧ Z x.2.2.2.2) (2 ^ A) ?_ (i := 1) (by unfold FU; omega) (by omega) ⟨rfl, h2⟩
  rintro i4 ⟨v11, v12, v13, v14, s9⟩ K5 hi6 ⟨hv8, h10⟩ hK7
  dsimp only at hv8 h10
  subst hv8
  unfold g_X0_bestSet_11
  dsimp only
  refine okI (fun _ => ?_) (fun c15 => ?_)
  ·
    exact okR h10
  ·
    replace c15 : i4 < (2 ^ A) := cnt_le (q.at' h10).sA (by omega) c15 hi6
    refine okB (T_X0_worthOf q h10) ?_
    intro r18 s16 h17
    refine okI (fun c19 => ?_) (fun c19 => ?_)
    ·
      unfold f_X0_bestSet_58
      refine okN ?_
      exact hK7 _ c15 ⟨nI_1 _, h17⟩
    ·
      refine okB (T_X0_canStand q h17) ?_
      intro r22 s20 h21
      refine okI (fun c23 => ?_) (fun c23 => ?_)
      ·
        unfold f_X0_bestSet_58
        refine okN ?_
        exact hK7 _ c15 ⟨nI_1 _, h21⟩
      ·
        unfold f_X0_bestSet_58
        refine okN ?_
        exact hK7 _ c15 ⟨nI_1 _, h21⟩
theorem T_X3_bribedSet {Z : St → Prop} {σ0 : St} {M T S E A U Y L P N : Nat} (q : ZB Z σ0 M T S E A U Y L P N) {p0 : Int32} {p1 : Int32} {s : St} (h : Z s) : Ok (fun _ s' => Z s') (f_X3_bribedSet p0 p1 s) := by
  have qM := q.b.hM
  have qT := q.b.hT
  have qS := q.b.S512
  have qE := q.b.hE
  have qA := q.b.hA
  have qU := q.b.hU
  have qY := q.b.hY
  have qA2 := q.b.A256
  have qU2 := q.b.U256
  unfold f_X3_bribedSet
  refine okB (T_X3_takePrices q h) ?_
  intro r3 s1 h2
  refine okB (T_X3_fitByDelays q h2) ?_
  intro r6 s4 h5
  refine okB (T_X10_trainsOf q h5) ?_
  intro r9 s7 h8
  refine okI (fun c10 => ?_) (fun c10 => ?_)
  ·
    try subst c10
    unfold f_X3_bribedSet_35
    refine okB (T_X3_cheapest q h8) ?_
    intro r13 s11 h12
    exact okR h12
  ·
    unfold f_X3_bribedSet_35
    refine okB (T_X3_cheapest q h8) ?_
    intro r16 s14 h15
    exact okR h15
theorem T_X3_guardedTrain {Z : St → Prop} {σ0 : St} {M T S E A U Y L P N : Nat} (q : ZB Z σ0 M T S E A U Y L P N) {p0 : Int32} {s : St} (h : Z s) : Ok (fun _ s' => Z s') (f_X3_guardedTrain p0 s) := by
  have qM := q.b.hM
  have qT := q.b.hT
  have qS := q.b.S512
  have qE := q.b.hE
  have qA := q.b.hA
  have qU := q.b.hU
  have qY := q.b.hY
  have qA2 := q.b.A256
  have qU2 := q.b.U256
  unfold f_X3_guardedTrain
  refine okB (T_X3_takePrices q h) ?_
  intro r3 s1 h2
  refine okB (T_X3_fitByDelays q h2) ?_
  intro r6 s4 h5
  refine okB (T_X10_trainsOf q h5) ?_
  intro r9 s7 h8
  refine okB (T_X3_cheapest q h8) ?_
  intro r12 s10 h11
  refine okB (T_X3_orPriceless q h11) ?_
  intro r15 s13 h14
  refine okC (fun (i : Nat) (x : Int32 × Int32 × Int32 × Int32 × St) => x.2.2.2.1 = nI i ∧ Z x.2.2.2.2) T ?_ (i := 0) (by unfold FU; omega) (by omega) ⟨rfl, h14⟩
  rintro i16 ⟨v23, v24, v25, v26, s21⟩ K17 hi18 ⟨hv20, h22⟩ hK19
  dsimp only at hv20 h22
  subst hv20
  unfold g_X3_guardedTrain_34
  dsimp only
  refine okI (fun _ => ?_) (fun c27 => ?_)
  ·
    exact okR h22
  ·
    replace c27 : i16 < T := cnt_le (q.at' h22).cT (by omega) c27 hi18
    refine okB (T_X10_isIn q h22) ?_
    intro r30 s28 h29
    refine okI (fun c31 => ?_) (fun c31 => ?_)
    ·
      unfold f_X3_guardedTrain_78
      refine okI (fun c32 => ?_) (fun c32 => ?_)
      ·
        unfold f_X3_guardedTrain_93
        refine okN ?_
        exact hK19 _ c27 ⟨nI_1 _, h29⟩
      ·
        unfold f_X3_guardedTrain_93
        refine okN ?_
        exact hK19 _ c27 ⟨nI_1 _, h29⟩
    ·
      refine okB (T_X3_cheapest q h29) ?_
      intro r35 s33 h34
      refine okB (T_X3_orPriceless q h34) ?_
      intro r38 s36 h37
      unfold f_X3_guardedTrain_78
      refine okI (fun c39 => ?_) (fun c39 => ?_)
      ·
        unfold f_X3_guardedTrain_93
        refine okN ?_
        exact hK19 _ c27 ⟨nI_1 _, h37⟩
      ·
        unfold f_X3_guardedTrain_93
        refine okN ?_
        exact hK19 _ c27 ⟨nI_1 _, h37⟩
theorem T_X3_spoiledSet {Z : St → Prop} {σ0 : St} {M T S E A U Y L P N : Nat} (q : ZB Z σ0 M T S E A U Y L P N) (hr : RKZ Z) {p0 : Int32} {p1 : Int32} {s : St} (h : Z s) : Ok (fun _ s' => Z s') (f_X3_spoiledSet p0 p1 s) := by
  have qM := q.b.hM
  have qT := q.b.hT
  have qS := q.b.S512
  have qE := q.b.hE
  have qA := q.b.hA
  have qU := q.b.hU
  have qY := q.b.hY
  have qA2 := q.b.A256
  have qU2 := q.b.U256
  unfold f_X3_spoiledSet
  refine okB (hr _ h) ?_
  intro r3 s1 h2
  refine okB (T_X3_takePrices q h2) ?_
  intro r6 s4 h5
  refine okB (T_X10_trainsOf q h5) ?_
  intro r9 s7 h8
  refine okC (fun (i : Nat) (x : Int32 × Int32 × Int32 × Int32 × Int32 × St) => x.2.2.2.2.1 = nI i ∧ Z x.2.2.2.2.2) S ?_ (i := 1) (by unfold FU; omega) (by omega) ⟨rfl, h8⟩
  rintro i10 ⟨v17, v18, v19, v20, v21, s15⟩ K11 hi12 ⟨hv14, h16⟩ hK13
  dsimp only at hv14 h16
  subst hv14
  unfold g_X3_spoiledSet_26
  dsimp only
  rw [S_X10_sets q h16, bd_mk]
  refine okI (fun _ => ?_) (fun c22 => ?_)
  ·
    exact okR h16
  ·
    replace c22 : i10 < S := cnt_le rfl (by omega) c22 hi12
    refine okI (fun c23 => ?_) (fun c23 => ?_)
    ·
      refine okD (inb_ln (n := 512) rfl (by omega) (by omega)) ?_
      refine okI (fun c24 => ?_) (fun c24 => ?_)
      ·
        unfold f_X3_spoiledSet_85
        refine okN ?_
        exact hK13 _ c22 ⟨nI_1 _, h16⟩
      ·
        refine okB (T_X2_goodAtEnd q h16) ?_
        intro r27 s25 h26
        refine okB (T_X2_goodAtEnd q h26) ?_
        intro r30 s28 h29
        refine okI (fun c31 => ?_) (fun c31 => ?_)
        ·
          unfold f_X3_spoiledSet_85
          refine okN ?_
          exact hK13 _ c22 ⟨nI_1 _, h29⟩
        ·
          unfold f_X3_spoiledSet_85
          refine okN ?_
          exact hK13 _ c22 ⟨nI_1 _, h29⟩
    ·
      unfold f_X3_spoiledSet_85
      refine okN ?_
      exact hK13 _ c22 ⟨nI_1 _, h16⟩
theorem T_X3_meetAnswers {Z : St → Prop} {σ0 : St} {M T S E A U Y L P N : Nat} (q : ZB Z σ0 M T S E A U Y L P N) {p0 : Int32} {p1 : Int32} {s : St} (h : Z s) : Ok (fun _ s' => Z s') (f_X3_meetAnswers p0 p1 s) := by
  have qM := q.b.hM
  have qT := q.b.hT
  have qS := q.b.S512
  have qE := q.b.hE
  have qA := q.b.hA
  have qU := q.b.hU
  have qY := q.b.hY
  have qA2 := q.b.A256
  have qU2 := q.b.U256
  unfold f_X3_meetAnswers
  refine okB (T_X3_takePrices q h) ?_
  intro r3 s1 h2
  refine okB (T_J7_fill_53178 q h2 ⟨by decide, by decide⟩ (n := 512) rfl (by omega) (fun s f hs => q.z.wr s _ f hs (by decide))) ?_
  intro r6 s4 h5
  refine okB (T_J7_fill_53178 q h5 ⟨by decide, by decide⟩ (n := 512) rfl (by omega) (fun s f hs => q.z.wr s _ f hs (by decide))) ?_
  intro r9 s7 h8
  refine okB (T_X10_trainsOf q h8) ?_
  intro r12 s10 h11
  refine okC (fun (i : Nat) (x : Int32 × Int32 × Int32 × Int32 × St) => x.2.2.2.1 = nI i ∧ Z x.2.2.2.2) S ?_ (i := 0) (by unfold FU; omega) (by omega) ⟨rfl, h11⟩
  rintro i13 ⟨v20, v21, v22, v23, s18⟩ K14 hi15 ⟨hv17, h19⟩ hK16
  dsimp only at hv17 h19
  subst hv17
  unfold g_X3_meetAnswers_34
  dsimp only
  rw [S_X10_sets q h19, bd_mk]
  refine okI (fun _ => ?_) (fun c24 => ?_)
  ·
    exact okR h19
  ·
    replace c24 : i13 < S := cnt_le rfl (by omega) c24 hi15
    refine okB (T_X3_isBought q h19) ?_
    intro r27 s25 h26
    refine okI (fun c28 => ?_) (fun c28 => ?_)
    ·
      unfold f_X3_meetAnswers_119
      refine okN ?_
      exact hK16 _ c24 ⟨nI_1 _, h26⟩
    ·
      refine okB (T_X2_goodAtEnd q h26) ?_
      intro r31 s29 h30
      refine okD (inb_andc rfl (by omega)) ?_
      refine okD (inb_andc rfl (by omega)) ?_
      refine okZ (Z := Z) (q.z.wr _ _ _ h30 (by decide)) (fun s32 h33 => ?_)
      refine okD (inb_andc rfl (by omega)) ?_
      refine okD (inb_andc rfl (by omega)) ?_
      refine okZ (Z := Z) (q.z.wr _ _ _ h33 (by decide)) (fun s34 h35 => ?_)
      unfold f_X3_meetAnswers_119
      refine okN ?_
      exact hK16 _ c24 ⟨nI_1 _, h35⟩
theorem T_X3_takeParts {Z : St → Prop} {σ0 : St} {M T S E A U Y L P N : Nat} (q : ZB Z σ0 M T S E A U Y L P N) {p0 : Int32} {s : St} (h : Z s) : Ok (fun _ s' => Z s') (f_X3_takeParts p0 s) := by
  have qM := q.b.hM
  have qT := q.b.hT
  have qS := q.b.S512
  have qE := q.b.hE
  have qA := q.b.hA
  have qU := q.b.hU
  have qY := q.b.hY
  have qA2 := q.b.A256
  have qU2 := q.b.U256
  unfold f_X3_takeParts
  refine okD rfl ?_
  refine okZ (Z := Z) (q.z.wr _ _ _ h (by decide)) (fun s1 h2 => ?_)
  refine okC (fun (i : Nat) (x : Int32 × Int32 × St) => x.2.1 = nI i ∧ Z x.2.2) T ?_ (i := 0) (by unfold FU; omega) (by omega) ⟨rfl, h2⟩
  rintro i3 ⟨v10, v11, s8⟩ K4 hi5 ⟨hv7, h9⟩ hK6
  dsimp only at hv7 h9
  subst hv7
  unfold g_X3_takeParts_9
  dsimp only
  refine okI (fun _ => ?_) (fun c12 => ?_)
  ·
    refine okC (fun (i : Nat) (x : Int32 × Int32 × St) => x.2.1 = nI i ∧ Z x.2.2) S ?_ (i := 0) (by unfold FU; omega) (by omega) ⟨rfl, h9⟩
    rintro i13 ⟨v20, v21, s18⟩ K14 hi15 ⟨hv17, h19⟩ hK16
    dsimp only at hv17 h19
    subst hv17
    unfold g_X3_takeParts_100
    dsimp only
    rw [S_X10_sets q h19, bd_mk]
    refine okI (fun _ => ?_) (fun c22 => ?_)
    ·
      refine okC (fun (i : Nat) (x : Int32 × St) => x.1 = nI i ∧ Z x.2) T ?_ (i := 0) (by unfold FU; omega) (by omega) ⟨rfl, h19⟩
      rintro i23 ⟨v30, s28⟩ K24 hi25 ⟨hv27, h29⟩ hK26
      dsimp only at hv27 h29
      subst hv27
      unfold g_X3_takeParts_147
      dsimp only
      refine okI (fun _ => ?_) (fun c31 => ?_)
      ·
        exact okR h29
      ·
        replace c31 : i23 < T := cnt_le (q.at' h29).cT (by omega) c31 hi25
        refine okB (T_X3_mayBeLate q h29 (by omega)) ?_
        intro r34 s32 h33
        refine okN ?_
        exact hK26 _ c31 ⟨nI_1 _, h33⟩
    ·
      replace c22 : i13 < S := cnt_le rfl (by omega) c22 hi15
      refine okD (inb_ln (n := 512) rfl (by omega) (by omega)) ?_
      refine okB (T_X10_needOf q h19) ?_
      intro r37 s35 h36
      refine okI (fun c38 => ?_) (fun c38 => ?_)
      ·
        unfold f_X3_takeParts_138
        refine okD (by first | exact inb_ln (n := 512) rfl (by omega) (by omega) | rfl) ?_
        refine okZ (Z := Z) (q.z.wj _ _ _ h36 (by decide)) (fun s39 h40 => ?_)
        refine okN ?_
        exact hK16 _ c22 ⟨nI_1 _, h40⟩
      ·
        unfold f_X3_takeParts_138
        refine okD (by first | exact inb_ln (n := 512) rfl (by omega) (by omega) | rfl) ?_
        refine okZ (Z := Z) (q.z.wj _ _ _ h36 (by decide)) (fun s41 h42 => ?_)
        refine okN ?_
        exact hK16 _ c22 ⟨nI_1 _, h42⟩
  ·
    replace c12 : i3 < T := cnt_le (q.at' h9).cT (by omega) c12 hi5
    refine okB (T_X9_cell3 q h9) ?_
    intro r45 s43 h44
    refine okI (fun c46 => ?_) (fun c46 => ?_)
    ·
      refine okB (T_X10_arrival q h44) ?_
      intro r49 s47 h48
      refine okI (fun c50 => ?_) (fun c50 => ?_)
      ·
        unfold f_X3_takeParts_62
        unfold f_X3_takeParts_63
        refine okI (fun c51 => ?_) (fun c51 => ?_)
        ·
          unfold f_X3_takeParts_89
          refine okB (T_X10_spread q h48 (by omega) ⟨by decide, by decide⟩ rfl (fun s f hs => q.z.wr s _ f hs (by decide))) ?_
          intro r54 s52 h53
          refine okN ?_
          exact hK6 _ c12 ⟨nI_1 _, h53⟩
        ·
          refine okB (T_X9_cell3 q h48) ?_
          intro r57 s55 h56
          unfold f_X3_takeParts_89
          refine okB (T_X10_spread q h56 (by omega) ⟨by decide, by decide⟩ rfl (fun s f hs => q.z.wr s _ f hs (by decide))) ?_
          intro r60 s58 h59
          refine okN ?_
          exact hK6 _ c12 ⟨nI_1 _, h59⟩
      ·
        unfold f_X3_takeParts_63
        refine okI (fun c61 => ?_) (fun c61 => ?_)
        ·
          unfold f_X3_takeParts_89
          refine okB (T_X10_spread q h48 (by omega) ⟨by decide, by decide⟩ rfl (fun s f hs => q.z.wr s _ f hs (by decide))) ?_
          intro r64 s62 h63
          refine okN ?_
          exact hK6 _ c12 ⟨nI_1 _, h63⟩
        ·
          refine okB (T_X9_cell3 q h48) ?_
          intro r67 s65 h66
          unfold f_X3_takeParts_89
          refine okB (T_X10_spread q h66 (by omega) ⟨by decide, by decide⟩ rfl (fun s f hs => q.z.wr s _ f hs (by decide))) ?_
          intro r70 s68 h69
          refine okN ?_
          exact hK6 _ c12 ⟨nI_1 _, h69⟩
    ·
      unfold f_X3_takeParts_62
      unfold f_X3_takeParts_63
      refine okI (fun c71 => ?_) (fun c71 => ?_)
      ·
        unfold f_X3_takeParts_89
        refine okB (T_X10_spread q h44 (by omega) ⟨by decide, by decide⟩ rfl (fun s f hs => q.z.wr s _ f hs (by decide))) ?_
        intro r74 s72 h73
        refine okN ?_
        exact hK6 _ c12 ⟨nI_1 _, h73⟩
      ·
        refine okB (T_X9_cell3 q h44) ?_
        intro r77 s75 h76
        unfold f_X3_takeParts_89
        refine okB (T_X10_spread q h76 (by omega) ⟨by decide, by decide⟩ rfl (fun s f hs => q.z.wr s _ f hs (by decide))) ?_
        intro r80 s78 h79
        refine okN ?_
        exact hK6 _ c12 ⟨nI_1 _, h79⟩
theorem T_X4_countReadings {Z : St → Prop} {σ0 : St} {M T S E A U Y L P N : Nat} (q : ZB Z σ0 M T S E A U Y L P N) {p0 : Int32} {s : St} (h : Z s) : Ok (fun _ s' => Z s') (f_X4_countReadings p0 s) := by
  have qM := q.b.hM
  have qT := q.b.hT
  have qS := q.b.S512
  have qE := q.b.hE
  have qA := q.b.hA
  have qU := q.b.hU
  have qY := q.b.hY
  have qA2 := q.b.A256
  have qU2 := q.b.U256
  unfold f_X4_countReadings
  refine okC (fun (i : Nat) (x : Int32 × Int32 × Int32 × St) => x.2.2.1 = nI i ∧ Z x.2.2.2) (2 ^ (2 * U)) ?_ (i := 0) (by unfold FU; omega) (by omega) ⟨rfl, h⟩
  rintro i1 ⟨v8, v9, v10, s6⟩ K2 hi3 ⟨hv5, h7⟩ hK4
  dsimp only at hv5 h7
  subst hv5
  unfold g_X4_countReadings_4
  dsimp only
  rw [S_X4_allReadings q h7, bd_mk]
  refine okI (fun _ => ?_) (fun c11 => ?_)
  ·
    exact okR h7
  ·
    replace c11 : i1 < (2 ^ (2 * U)) := cnt_le rfl (by omega) c11 hi3
    refine okB (T_X4_isHeld q h7) ?_
    intro r14 s12 h13
    refine okI (fun c15 => ?_) (fun c15 => ?_)
    ·
      unfold f_X4_countReadings_24
      refine okN ?_
      exact hK4 _ c11 ⟨nI_1 _, h13⟩
    ·
      refine okN ?_
      unfold f_X4_countReadings_24
      refine okN ?_
      exact hK4 _ c11 ⟨nI_1 _, h13⟩
theorem T_X4_loopholeMinutes {Z : St → Prop} {σ0 : St} {M T S E A U Y L P N : Nat} (q : ZB Z σ0 M T S E A U Y L P N)  {s : St} (h : Z s) : Ok (fun _ s' => Z s') (f_X4_loopholeMinutes s) := by
  have qM := q.b.hM
  have qT := q.b.hT
  have qS := q.b.S512
  have qE := q.b.hE
  have qA := q.b.hA
  have qU := q.b.hU
  have qY := q.b.hY
  have qA2 := q.b.A256
  have qU2 := q.b.U256
  unfold f_X4_loopholeMinutes
  refine okC (fun (i : Nat) (x : Int64 × Int32 × St) => x.2.1 = nI i ∧ Z x.2.2) (59 + 1) ?_ (i := 0) (by unfold FU; omega) (by omega) ⟨rfl, h⟩
  rintro i1 ⟨v8, v9, s6⟩ K2 hi3 ⟨hv5, h7⟩ hK4
  dsimp only at hv5 h7
  subst hv5
  unfold g_X4_loopholeMinutes_4
  dsimp only
  refine okI (fun _ => ?_) (fun c10 => ?_)
  ·
    exact okR h7
  ·
    replace c10 : i1 < 59 + 1 := cnt_lt rfl (by omega) c10 hi3
    refine okB (T_X4_isHeld q h7) ?_
    intro r13 s11 h12
    refine okI (fun c14 => ?_) (fun c14 => ?_)
    ·
      unfold f_X4_loopholeMinutes_39
      refine okN ?_
      exact hK4 _ c10 ⟨nI_1 _, h12⟩
    ·
      rw [S_X4_allReadings q h12, bd_mk]
      refine okB (T_X4_isHeld q h12) ?_
      intro r17 s15 h16
      refine okI (fun c18 => ?_) (fun c18 => ?_)
      ·
        refine okN ?_
        unfold f_X4_loopholeMinutes_39
        refine okN ?_
        exact hK4 _ c10 ⟨nI_1 _, h16⟩
      ·
        unfold f_X4_loopholeMinutes_39
        refine okN ?_
        exact hK4 _ c10 ⟨nI_1 _, h16⟩
theorem T_X4_firstSafeMinute {Z : St → Prop} {σ0 : St} {M T S E A U Y L P N : Nat} (q : ZB Z σ0 M T S E A U Y L P N)  {s : St} (h : Z s) : Ok (fun _ s' => Z s') (f_X4_firstSafeMinute s) := by
  have qM := q.b.hM
  have qT := q.b.hT
  have qS := q.b.S512
  have qE := q.b.hE
  have qA := q.b.hA
  have qU := q.b.hU
  have qY := q.b.hY
  have qA2 := q.b.A256
  have qU2 := q.b.U256
  unfold f_X4_firstSafeMinute
  refine okC (fun (i : Nat) (x : Int32 × St) => x.1 = nI i ∧ Z x.2) (59 + 1) ?_ (i := 0) (by unfold FU; omega) (by omega) ⟨rfl, h⟩
  rintro i1 ⟨v8, s6⟩ K2 hi3 ⟨hv5, h7⟩ hK4
  dsimp only at hv5 h7
  subst hv5
  unfold g_X4_firstSafeMinute_2
  dsimp only
  refine okI (fun _ => ?_) (fun c9 => ?_)
  ·
    exact okR h7
  ·
    replace c9 : i1 < 59 + 1 := cnt_lt rfl (by omega) c9 hi3
    rw [S_X4_allReadings q h7, bd_mk]
    refine okB (T_X4_isHeld q h7) ?_
    intro r12 s10 h11
    refine okI (fun c13 => ?_) (fun c13 => ?_)
    ·
      refine okN ?_
      exact hK4 _ c9 ⟨nI_1 _, h11⟩
    ·
      exact okR h11
theorem T_X4_closingBounds {Z : St → Prop} {σ0 : St} {M T S E A U Y L P N : Nat} (q : ZB Z σ0 M T S E A U Y L P N) {p0 : Int32} {s : St} (h : Z s) : Ok (fun _ s' => Z s') (f_X4_closingBounds p0 s) := by
  have qM := q.b.hM
  have qT := q.b.hT
  have qS := q.b.S512
  have qE := q.b.hE
  have qA := q.b.hA
  have qU := q.b.hU
  have qY := q.b.hY
  have qA2 := q.b.A256
  have qU2 := q.b.U256
  unfold f_X4_closingBounds
  refine okN ?_
  refine okC (fun (i : Nat) (x : Int32 × Int32 × Int32 × Int32 × St) => x.2.2.2.1 = nI i ∧ Z x.2.2.2.2) (2 ^ (2 * U)) ?_ (i := 0) (by unfold FU; omega) (by omega) ⟨rfl, h⟩
  rintro i1 ⟨v8, v9, v10, v11, s6⟩ K2 hi3 ⟨hv5, h7⟩ hK4
  dsimp only at hv5 h7
  subst hv5
  unfold g_X4_closingBounds_20
  dsimp only
  rw [S_X4_allReadings q h7, bd_mk]
  refine okI (fun _ => ?_) (fun c12 => ?_)
  ·
    exact okR h7
  ·
    replace c12 : i1 < (2 ^ (2 * U)) := cnt_le rfl (by omega) c12 hi3
    refine okB (T_J6_bitCount_0f7a4 q h7) ?_
    intro r15 s13 h14
    refine okI (fun c16 => ?_) (fun c16 => ?_)
    ·
      unfold f_X4_closingBounds_57
      refine okN ?_
      exact hK4 _ c12 ⟨nI_1 _, h14⟩
    ·
      refine okB (T_X4_isHeld q h14) ?_
      intro r19 s17 h18
      refine okI (fun c20 => ?_) (fun c20 => ?_)
      ·
        refine okB (T_J6_bitCount_0f7a4 q h18) ?_
        intro r23 s21 h22
        unfold f_X4_closingBounds_57
        refine okN ?_
        exact hK4 _ c12 ⟨nI_1 _, h22⟩
      ·
        unfold f_X4_closingBounds_57
        refine okN ?_
        exact hK4 _ c12 ⟨nI_1 _, h18⟩
theorem T_X8_fitting {Z : St → Prop} {σ0 : St} {M T S E A U Y L P N : Nat} (q : ZB Z σ0 M T S E A U Y L P N) {p0 : Int32} {s : St} (h : Z s) : Ok (fun _ s' => Z s') (f_X8_fitting p0 s) := by
  have qM := q.b.hM
  have qT := q.b.hT
  have qS := q.b.S512
  have qE := q.b.hE
  have qA := q.b.hA
  have qU := q.b.hU
  have qY := q.b.hY
  have qA2 := q.b.A256
  have qU2 := q.b.U256
  unfold f_X8_fitting
  refine okC (fun (i : Nat) (x : Int32 × Int32 × Int32 × St) => x.2.2.1 = nI i ∧ Z x.2.2.2) Y ?_ (i := 0) (by unfold FU; omega) (by omega) ⟨rfl, h⟩
  rintro i1 ⟨v8, v9, v10, s6⟩ K2 hi3 ⟨hv5, h7⟩ hK4
  dsimp only at hv5 h7
  subst hv5
  unfold g_X8_fitting_4
  dsimp only
  refine okI (fun _ => ?_) (fun c11 => ?_)
  ·
    exact okR h7
  ·
    replace c11 : i1 < Y := cnt_le (q.at' h7).cY (by omega) c11 hi3
    refine okB (T_X8_knownTo q h7) ?_
    intro r14 s12 h13
    refine okI (fun c15 => ?_) (fun c15 => ?_)
    ·
      refine okN ?_
      unfold f_X8_fitting_36
      refine okN ?_
      exact hK4 _ c11 ⟨nI_1 _, h13⟩
    ·
      unfold f_X8_fitting_36
      refine okN ?_
      exact hK4 _ c11 ⟨nI_1 _, h13⟩
theorem T_X8_leftAtWorst {Z : St → Prop} {σ0 : St} {M T S E A U Y L P N : Nat} (q : ZB Z σ0 M T S E A U Y L P N) {p0 : Int32} {p1 : Int32} {s : St} (h : Z s) : Ok (fun _ s' => Z s') (f_X8_leftAtWorst p0 p1 s) := by
  have qM := q.b.hM
  have qT := q.b.hT
  have qS := q.b.S512
  have qE := q.b.hE
  have qA := q.b.hA
  have qU := q.b.hU
  have qY := q.b.hY
  have qA2 := q.b.A256
  have qU2 := q.b.U256
  unfold f_X8_leftAtWorst
  refine okB (T_X8_fitting q h) ?_
  intro r3 s1 h2
  refine okB (T_J6_bitCount_0f7a4 q h2) ?_
  intro r6 s4 h5
  refine okI (fun c7 => ?_) (fun c7 => ?_)
  ·
    try subst c7
    exact okR h5
  ·
    refine okB (T_X8_fitting q h5) ?_
    intro r10 s8 h9
    refine okB (T_J6_bitCount_0f7a4 q h9) ?_
    intro r13 s11 h12
    exact okR h12
theorem T_X8_knownToAll {Z : St → Prop} {σ0 : St} {M T S E A U Y L P N : Nat} (q : ZB Z σ0 M T S E A U Y L P N) {p0 : Int32} {s : St} (h : Z s) : Ok (fun _ s' => Z s') (f_X8_knownToAll p0 s) := by
  have qM := q.b.hM
  have qT := q.b.hT
  have qS := q.b.S512
  have qE := q.b.hE
  have qA := q.b.hA
  have qU := q.b.hU
  have qY := q.b.hY
  have qA2 := q.b.A256
  have qU2 := q.b.U256
  unfold f_X8_knownToAll
  refine okB (T_X8_fitting q h) ?_
  intro r3 s1 h2
  refine okI (fun c4 => ?_) (fun c4 => ?_)
  ·
    unfold f_X8_knownToAll_23
    refine okC (fun (i : Nat) (x : Int32 × Int32 × Int32 × St) => x.2.2.1 = nI i ∧ Z x.2.2.2) Y ?_ (i := 0) (by unfold FU; omega) (by omega) ⟨rfl, h2⟩
    rintro i5 ⟨v12, v13, v14, s10⟩ K6 hi7 ⟨hv9, h11⟩ hK8
    dsimp only at hv9 h11
    subst hv9
    unfold g_X8_knownToAll_27
    dsimp only
    refine okI (fun _ => ?_) (fun c15 => ?_)
    ·
      exact okR h11
    ·
      replace c15 : i5 < Y := cnt_le (q.at' h11).cY (by omega) c15 hi7
      refine okB (T_X10_isIn q h11) ?_
      intro r18 s16 h17
      refine okI (fun c19 => ?_) (fun c19 => ?_)
      ·
        unfold f_X8_knownToAll_60
        refine okN ?_
        exact hK8 _ c15 ⟨nI_1 _, h17⟩
      ·
        refine okB (T_X8_knownTo q h17) ?_
        intro r22 s20 h21
        refine okN ?_
        unfold f_X8_knownToAll_60
        refine okN ?_
        exact hK8 _ c15 ⟨nI_1 _, h21⟩
  ·
    rw [S_X10_sets q h2, bd_mk]
    unfold f_X8_knownToAll_23
    refine okC (fun (i : Nat) (x : Int32 × Int32 × Int32 × St) => x.2.2.1 = nI i ∧ Z x.2.2.2) Y ?_ (i := 0) (by unfold FU; omega) (by omega) ⟨rfl, h2⟩
    rintro i23 ⟨v30, v31, v32, s28⟩ K24 hi25 ⟨hv27, h29⟩ hK26
    dsimp only at hv27 h29
    subst hv27
    unfold g_X8_knownToAll_27
    dsimp only
    refine okI (fun _ => ?_) (fun c33 => ?_)
    ·
      exact okR h29
    ·
      replace c33 : i23 < Y := cnt_le (q.at' h29).cY (by omega) c33 hi25
      refine okB (T_X10_isIn q h29) ?_
      intro r36 s34 h35
      refine okI (fun c37 => ?_) (fun c37 => ?_)
      ·
        unfold f_X8_knownToAll_60
        refine okN ?_
        exact hK26 _ c33 ⟨nI_1 _, h35⟩
      ·
        refine okB (T_X8_knownTo q h35) ?_
        intro r40 s38 h39
        refine okN ?_
        unfold f_X8_knownToAll_60
        refine okN ?_
        exact hK26 _ c33 ⟨nI_1 _, h39⟩
theorem T_X8_knownToSome {Z : St → Prop} {σ0 : St} {M T S E A U Y L P N : Nat} (q : ZB Z σ0 M T S E A U Y L P N) {p0 : Int32} {s : St} (h : Z s) : Ok (fun _ s' => Z s') (f_X8_knownToSome p0 s) := by
  have qM := q.b.hM
  have qT := q.b.hT
  have qS := q.b.S512
  have qE := q.b.hE
  have qA := q.b.hA
  have qU := q.b.hU
  have qY := q.b.hY
  have qA2 := q.b.A256
  have qU2 := q.b.U256
  unfold f_X8_knownToSome
  refine okB (T_X8_fitting q h) ?_
  intro r3 s1 h2
  refine okC (fun (i : Nat) (x : Int32 × Int32 × Int32 × St) => x.2.2.1 = nI i ∧ Z x.2.2.2) Y ?_ (i := 0) (by unfold FU; omega) (by omega) ⟨rfl, h2⟩
  rintro i4 ⟨v11, v12, v13, s9⟩ K5 hi6 ⟨hv8, h10⟩ hK7
  dsimp only at hv8 h10
  subst hv8
  unfold g_X8_knownToSome_11
  dsimp only
  refine okI (fun _ => ?_) (fun c14 => ?_)
  ·
    exact okR h10
  ·
    replace c14 : i4 < Y := cnt_le (q.at' h10).cY (by omega) c14 hi6
    refine okB (T_X10_isIn q h10) ?_
    intro r17 s15 h16
    refine okI (fun c18 => ?_) (fun c18 => ?_)
    ·
      unfold f_X8_knownToSome_44
      refine okN ?_
      exact hK7 _ c14 ⟨nI_1 _, h16⟩
    ·
      refine okB (T_X8_knownTo q h16) ?_
      intro r21 s19 h20
      refine okN ?_
      unfold f_X8_knownToSome_44
      refine okN ?_
      exact hK7 _ c14 ⟨nI_1 _, h20⟩
theorem T_X11_bribe {Z : St → Prop} {σ0 : St} {M T S E A U Y L P N : Nat} (q : ZB Z σ0 M T S E A U Y L P N) {p0 : Int32} {s : St} (h : Z s) : Ok (fun _ s' => Z s') (f_X11_bribe p0 s) := by
  have qM := q.b.hM
  have qT := q.b.hT
  have qS := q.b.S512
  have qE := q.b.hE
  have qA := q.b.hA
  have qU := q.b.hU
  have qY := q.b.hY
  have qA2 := q.b.A256
  have qU2 := q.b.U256
  unfold f_X11_bribe
  refine okB (T_X10_hasSide q h) ?_
  intro r3 s1 h2
  refine okI (fun c4 => ?_) (fun c4 => ?_)
  ·
    unfold f_X11_bribe_32
    exact okR h2
  ·
    refine okB (T_X3_bribedSet q h2) ?_
    intro r7 s5 h6
    refine okB (T_X10_priceOf q h6) ?_
    intro r10 s8 h9
    unfold f_X11_bribe_32
    exact okR h9
theorem T_X11_bribed {Z : St → Prop} {σ0 : St} {M T S E A U Y L P N : Nat} (q : ZB Z σ0 M T S E A U Y L P N) {p0 : Int32} {s : St} (h : Z s) : Ok (fun _ s' => Z s') (f_X11_bribed p0 s) := by
  have qM := q.b.hM
  have qT := q.b.hT
  have qS := q.b.S512
  have qE := q.b.hE
  have qA := q.b.hA
  have qU := q.b.hU
  have qY := q.b.hY
  have qA2 := q.b.A256
  have qU2 := q.b.U256
  unfold f_X11_bribed
  refine okB (T_X10_hasSide q h) ?_
  intro r3 s1 h2
  refine okI (fun c4 => ?_) (fun c4 => ?_)
  ·
    unfold f_X11_bribed_25
    exact okR h2
  ·
    refine okB (T_X3_bribedSet q h2) ?_
    intro r7 s5 h6
    unfold f_X11_bribed_25
    exact okR h6
theorem T_X11_guard {Z : St → Prop} {σ0 : St} {M T S E A U Y L P N : Nat} (q : ZB Z σ0 M T S E A U Y L P N) {p0 : Int32} {s : St} (h : Z s) : Ok (fun _ s' => Z s') (f_X11_guard p0 s) := by
  have qM := q.b.hM
  have qT := q.b.hT
  have qS := q.b.S512
  have qE := q.b.hE
  have qA := q.b.hA
  have qU := q.b.hU
  have qY := q.b.hY
  have qA2 := q.b.A256
  have qU2 := q.b.U256
  unfold f_X11_guard
  refine okB (T_X10_hasSide q h) ?_
  intro r3 s1 h2
  refine okI (fun c4 => ?_) (fun c4 => ?_)
  ·
    unfold f_X11_guard_24
    exact okR h2
  ·
    refine okB (T_X3_guardedTrain q h2) ?_
    intro r7 s5 h6
    unfold f_X11_guard_24
    exact okR h6
theorem T_X11_guarded {Z : St → Prop} {σ0 : St} {M T S E A U Y L P N : Nat} (q : ZB Z σ0 M T S E A U Y L P N) {p0 : Int32} {s : St} (h : Z s) : Ok (fun _ s' => Z s') (f_X11_guarded p0 s) := by
  have qM := q.b.hM
  have qT := q.b.hT
  have qS := q.b.S512
  have qE := q.b.hE
  have qA := q.b.hA
  have qU := q.b.hU
  have qY := q.b.hY
  have qA2 := q.b.A256
  have qU2 := q.b.U256
  unfold f_X11_guarded
  refine okB (T_X10_hasSide q h) ?_
  intro r3 s1 h2
  refine okI (fun c4 => ?_) (fun c4 => ?_)
  ·
    unfold f_X11_guarded_23
    refine okI (fun c5 => ?_) (fun c5 => ?_)
    ·
      unfold f_X11_guarded_50
      exact okR h2
    ·
      refine okB (T_X3_bribedSet q h2) ?_
      intro r8 s6 h7
      refine okB (T_X10_priceOf q h7) ?_
      intro r11 s9 h10
      unfold f_X11_guarded_50
      exact okR h10
  ·
    refine okB (T_X3_guardedTrain q h2) ?_
    intro r14 s12 h13
    unfold f_X11_guarded_23
    refine okI (fun c15 => ?_) (fun c15 => ?_)
    ·
      unfold f_X11_guarded_50
      exact okR h13
    ·
      refine okB (T_X3_bribedSet q h13) ?_
      intro r18 s16 h17
      refine okB (T_X10_priceOf q h17) ?_
      intro r21 s19 h20
      unfold f_X11_guarded_50
      exact okR h20
theorem T_X11_spoil {Z : St → Prop} {σ0 : St} {M T S E A U Y L P N : Nat} (q : ZB Z σ0 M T S E A U Y L P N) (hr : RKZ Z) {p0 : Int32} {p1 : Int32} {s : St} (h : Z s) : Ok (fun _ s' => Z s') (f_X11_spoil p0 p1 s) := by
  have qM := q.b.hM
  have qT := q.b.hT
  have qS := q.b.S512
  have qE := q.b.hE
  have qA := q.b.hA
  have qU := q.b.hU
  have qY := q.b.hY
  have qA2 := q.b.A256
  have qU2 := q.b.U256
  unfold f_X11_spoil
  refine okB (T_X11_isPurse q h) ?_
  intro r3 s1 h2
  refine okI (fun c4 => ?_) (fun c4 => ?_)
  ·
    unfold f_X11_spoil_32
    exact okR h2
  ·
    refine okB (T_X3_spoiledSet q hr h2) ?_
    intro r7 s5 h6
    refine okB (T_X2_goodAtEnd q h6) ?_
    intro r10 s8 h9
    unfold f_X11_spoil_32
    exact okR h9
theorem T_X11_spoils {Z : St → Prop} {σ0 : St} {M T S E A U Y L P N : Nat} (q : ZB Z σ0 M T S E A U Y L P N) (hr : RKZ Z) {p0 : Int32} {p1 : Int32} {s : St} (h : Z s) : Ok (fun _ s' => Z s') (f_X11_spoils p0 p1 s) := by
  have qM := q.b.hM
  have qT := q.b.hT
  have qS := q.b.S512
  have qE := q.b.hE
  have qA := q.b.hA
  have qU := q.b.hU
  have qY := q.b.hY
  have qA2 := q.b.A256
  have qU2 := q.b.U256
  unfold f_X11_spoils
  refine okB (T_X11_isPurse q h) ?_
  intro r3 s1 h2
  refine okI (fun c4 => ?_) (fun c4 => ?_)
  ·
    unfold f_X11_spoils_23
    exact okR h2
  ·
    refine okB (T_X3_spoiledSet q hr h2) ?_
    intro r7 s5 h6
    unfold f_X11_spoils_23
    exact okR h6
theorem T_X11_readings {Z : St → Prop} {σ0 : St} {M T S E A U Y L P N : Nat} (q : ZB Z σ0 M T S E A U Y L P N) {p0 : Int32} {s : St} (h : Z s) : Ok (fun _ s' => Z s') (f_X11_readings p0 s) := by
  have qM := q.b.hM
  have qT := q.b.hT
  have qS := q.b.S512
  have qE := q.b.hE
  have qA := q.b.hA
  have qU := q.b.hU
  have qY := q.b.hY
  have qA2 := q.b.A256
  have qU2 := q.b.U256
  unfold f_X11_readings
  refine okB (T_X11_isPeaceMinute q h) ?_
  intro r3 s1 h2
  refine okI (fun c4 => ?_) (fun c4 => ?_)
  ·
    unfold f_X11_readings_21
    exact okR h2
  ·
    refine okB (T_X4_countReadings q h2) ?_
    intro r7 s5 h6
    unfold f_X11_readings_21
    exact okR h6
theorem T_X11_loopholes {Z : St → Prop} {σ0 : St} {M T S E A U Y L P N : Nat} (q : ZB Z σ0 M T S E A U Y L P N)  {s : St} (h : Z s) : Ok (fun _ s' => Z s') (f_X11_loopholes s) := by
  have qM := q.b.hM
  have qT := q.b.hT
  have qS := q.b.S512
  have qE := q.b.hE
  have qA := q.b.hA
  have qU := q.b.hU
  have qY := q.b.hY
  have qA2 := q.b.A256
  have qU2 := q.b.U256
  unfold f_X11_loopholes
  refine okB (T_X10_isTold q h) ?_
  intro r3 s1 h2
  refine okI (fun c4 => ?_) (fun c4 => ?_)
  ·
    unfold f_X11_loopholes_23
    exact okR h2
  ·
    refine okB (T_X4_loopholeMinutes q h2) ?_
    intro r7 s5 h6
    unfold f_X11_loopholes_23
    exact okR h6
theorem T_X11_close {Z : St → Prop} {σ0 : St} {M T S E A U Y L P N : Nat} (q : ZB Z σ0 M T S E A U Y L P N) {p0 : Int32} {s : St} (h : Z s) : Ok (fun _ s' => Z s') (f_X11_close p0 s) := by
  have qM := q.b.hM
  have qT := q.b.hT
  have qS := q.b.S512
  have qE := q.b.hE
  have qA := q.b.hA
  have qU := q.b.hU
  have qY := q.b.hY
  have qA2 := q.b.A256
  have qU2 := q.b.U256
  unfold f_X11_close
  refine okB (T_X11_isPeaceMinute q h) ?_
  intro r3 s1 h2
  refine okI (fun c4 => ?_) (fun c4 => ?_)
  ·
    exact okR h2
  ·
    refine okB (T_X4_closingBounds q h2) ?_
    intro r7 s5 h6
    refine okI (fun c8 => ?_) (fun c8 => ?_)
    ·
      unfold f_X11_close_33
      exact okR h6
    ·
      refine okB (T_J6_bitCount_0f7a4 q h6) ?_
      intro r11 s9 h10
      unfold f_X11_close_33
      exact okR h10
theorem T_X11_closed {Z : St → Prop} {σ0 : St} {M T S E A U Y L P N : Nat} (q : ZB Z σ0 M T S E A U Y L P N) {p0 : Int32} {s : St} (h : Z s) : Ok (fun _ s' => Z s') (f_X11_closed p0 s) := by
  have qM := q.b.hM
  have qT := q.b.hT
  have qS := q.b.S512
  have qE := q.b.hE
  have qA := q.b.hA
  have qU := q.b.hU
  have qY := q.b.hY
  have qA2 := q.b.A256
  have qU2 := q.b.U256
  unfold f_X11_closed
  refine okB (T_X11_isPeaceMinute q h) ?_
  intro r3 s1 h2
  refine okI (fun c4 => ?_) (fun c4 => ?_)
  ·
    unfold f_X11_closed_21
    exact okR h2
  ·
    refine okB (T_X4_closingBounds q h2) ?_
    intro r7 s5 h6
    unfold f_X11_closed_21
    exact okR h6
theorem T_X11_signs {Z : St → Prop} {σ0 : St} {M T S E A U Y L P N : Nat} (q : ZB Z σ0 M T S E A U Y L P N)  {s : St} (h : Z s) : Ok (fun _ s' => Z s') (f_X11_signs s) := by
  have qM := q.b.hM
  have qT := q.b.hT
  have qS := q.b.S512
  have qE := q.b.hE
  have qA := q.b.hA
  have qU := q.b.hU
  have qY := q.b.hY
  have qA2 := q.b.A256
  have qU2 := q.b.U256
  unfold f_X11_signs
  refine okB (T_X10_isTold q h) ?_
  intro r3 s1 h2
  refine okI (fun c4 => ?_) (fun c4 => ?_)
  ·
    unfold f_X11_signs_22
    exact okR h2
  ·
    refine okB (T_X4_firstSafeMinute q h2) ?_
    intro r7 s5 h6
    unfold f_X11_signs_22
    exact okR h6
theorem T_X11_spies {Z : St → Prop} {σ0 : St} {M T S E A U Y L P N : Nat} (q : ZB Z σ0 M T S E A U Y L P N) {p0 : Int32} {s : St} (h : Z s) : Ok (fun _ s' => Z s') (f_X11_spies p0 s) := by
  have qM := q.b.hM
  have qT := q.b.hT
  have qS := q.b.S512
  have qE := q.b.hE
  have qA := q.b.hA
  have qU := q.b.hU
  have qY := q.b.hY
  have qA2 := q.b.A256
  have qU2 := q.b.U256
  unfold f_X11_spies
  refine okB (T_X10_hasSet q h) ?_
  intro r3 s1 h2
  refine okI (fun c4 => ?_) (fun c4 => ?_)
  ·
    unfold f_X11_spies_24
    exact okR h2
  ·
    refine okB (T_X8_fitting q h2) ?_
    intro r7 s5 h6
    unfold f_X11_spies_24
    exact okR h6
theorem T_X11_known {Z : St → Prop} {σ0 : St} {M T S E A U Y L P N : Nat} (q : ZB Z σ0 M T S E A U Y L P N) {p0 : Int32} {p1 : Int32} {s : St} (h : Z s) : Ok (fun _ s' => Z s') (f_X11_known p0 p1 s) := by
  have qM := q.b.hM
  have qT := q.b.hT
  have qS := q.b.S512
  have qE := q.b.hE
  have qA := q.b.hA
  have qU := q.b.hU
  have qY := q.b.hY
  have qA2 := q.b.A256
  have qU2 := q.b.U256
  unfold f_X11_known
  refine okB (T_X10_hasSet q h) ?_
  intro r3 s1 h2
  refine okI (fun c4 => ?_) (fun c4 => ?_)
  ·
    unfold f_X11_known_18
    exact okR h2
  ·
    refine okB (T_X11_isPart q h2) ?_
    intro r7 s5 h6
    refine okI (fun c8 => ?_) (fun c8 => ?_)
    ·
      unfold f_X11_known_18
      exact okR h6
    ·
      refine okI (fun c9 => ?_) (fun c9 => ?_)
      ·
        try subst c9
        refine okB (T_X8_knownToAll q h6) ?_
        intro r12 s10 h11
        unfold f_X11_known_44
        exact okR h11
      ·
        refine okB (T_X8_knownToSome q h6) ?_
        intro r15 s13 h14
        unfold f_X11_known_44
        exact okR h14
theorem T_X11_grant {Z : St → Prop} {σ0 : St} {M T S E A U Y L P N : Nat} (q : ZB Z σ0 M T S E A U Y L P N)  {s : St} (h : Z s) : Ok (fun _ s' => Z s') (f_X11_grant s) := by
  have qM := q.b.hM
  have qT := q.b.hT
  have qS := q.b.S512
  have qE := q.b.hE
  have qA := q.b.hA
  have qU := q.b.hU
  have qY := q.b.hY
  have qA2 := q.b.A256
  have qU2 := q.b.U256
  unfold f_X11_grant
  refine okB (T_X10_isTold q h) ?_
  intro r3 s1 h2
  refine okI (fun c4 => ?_) (fun c4 => ?_)
  ·
    unfold f_X11_grant_30
    exact okR h2
  ·
    refine okB (T_X0_bestSet q h2) ?_
    intro r7 s5 h6
    refine okB (T_X0_worthOf q h6) ?_
    intro r10 s8 h9
    unfold f_X11_grant_30
    exact okR h9
theorem T_X11_granted {Z : St → Prop} {σ0 : St} {M T S E A U Y L P N : Nat} (q : ZB Z σ0 M T S E A U Y L P N)  {s : St} (h : Z s) : Ok (fun _ s' => Z s') (f_X11_granted s) := by
  have qM := q.b.hM
  have qT := q.b.hT
  have qS := q.b.S512
  have qE := q.b.hE
  have qA := q.b.hA
  have qU := q.b.hU
  have qY := q.b.hY
  have qA2 := q.b.A256
  have qU2 := q.b.U256
  unfold f_X11_granted
  refine okB (T_X10_isTold q h) ?_
  intro r3 s1 h2
  refine okI (fun c4 => ?_) (fun c4 => ?_)
  ·
    unfold f_X11_granted_23
    exact okR h2
  ·
    refine okB (T_X0_bestSet q h2) ?_
    intro r7 s5 h6
    unfold f_X11_granted_23
    exact okR h6
theorem T_X11_halves {Z : St → Prop} {σ0 : St} {M T S E A U Y L P N : Nat} (q : ZB Z σ0 M T S E A U Y L P N)  {s : St} (h : Z s) : Ok (fun _ s' => Z s') (f_X11_halves s) := by
  have qM := q.b.hM
  have qT := q.b.hT
  have qS := q.b.S512
  have qE := q.b.hE
  have qA := q.b.hA
  have qU := q.b.hU
  have qY := q.b.hY
  have qA2 := q.b.A256
  have qU2 := q.b.U256
  unfold f_X11_halves
  refine okB (T_X10_isTold q h) ?_
  intro r3 s1 h2
  refine okI (fun c4 => ?_) (fun c4 => ?_)
  ·
    unfold f_X11_halves_30
    exact okR h2
  ·
    refine okB (T_X0_bestSet q h2) ?_
    intro r7 s5 h6
    refine okB (T_X0_worthOf q h6) ?_
    intro r10 s8 h9
    unfold f_X11_halves_30
    exact okR h9
theorem T_X11_halved {Z : St → Prop} {σ0 : St} {M T S E A U Y L P N : Nat} (q : ZB Z σ0 M T S E A U Y L P N)  {s : St} (h : Z s) : Ok (fun _ s' => Z s') (f_X11_halved s) := by
  have qM := q.b.hM
  have qT := q.b.hT
  have qS := q.b.S512
  have qE := q.b.hE
  have qA := q.b.hA
  have qU := q.b.hU
  have qY := q.b.hY
  have qA2 := q.b.A256
  have qU2 := q.b.U256
  unfold f_X11_halved
  refine okB (T_X10_isTold q h) ?_
  intro r3 s1 h2
  refine okI (fun c4 => ?_) (fun c4 => ?_)
  ·
    unfold f_X11_halved_23
    exact okR h2
  ·
    refine okB (T_X0_bestSet q h2) ?_
    intro r7 s5 h6
    unfold f_X11_halved_23
    exact okR h6
theorem T_X2_worstSet {Z : St → Prop} {σ0 : St} {M T S E A U Y L P N : Nat} (q : ZB Z σ0 M T S E A U Y L P N) (hr : RKZ Z) {p0 : Int32} {s : St} (h : Z s) : Ok (fun _ s' => Z s') (f_X2_worstSet p0 s) := by
  have qM := q.b.hM
  have qT := q.b.hT
  have qS := q.b.S512
  have qE := q.b.hE
  have qA := q.b.hA
  have qU := q.b.hU
  have qY := q.b.hY
  have qA2 := q.b.A256
  have qU2 := q.b.U256
  unfold f_X2_worstSet
  refine okB (hr _ h) ?_
  intro r3 s1 h2
  refine okC (fun (i : Nat) (x : Int32 × Int32 × Int32 × St) => x.2.2.1 = nI i ∧ Z x.2.2.2) S ?_ (i := 1) (by unfold FU; omega) (by omega) ⟨rfl, h2⟩
  rintro i4 ⟨v11, v12, v13, s9⟩ K5 hi6 ⟨hv8, h10⟩ hK7
  dsimp only at hv8 h10
  subst hv8
  unfold g_X2_worstSet_8
  dsimp only
  rw [S_X10_sets q h10, bd_mk]
  refine okI (fun _ => ?_) (fun c14 => ?_)
  ·
    exact okR h10
  ·
    replace c14 : i4 < S := cnt_le rfl (by omega) c14 hi6
    refine okB (T_X2_goodAtEnd q h10) ?_
    intro r17 s15 h16
    refine okB (T_X2_goodAtEnd q h16) ?_
    intro r20 s18 h19
    refine okN ?_
    refine okI (fun c21 => ?_) (fun c21 => ?_)
    ·
      unfold f_X2_worstSet_55
      unfold f_X2_worstSet_57
      refine okN ?_
      exact hK7 _ c14 ⟨nI_1 _, h19⟩
    ·
      refine okI (fun c22 => ?_) (fun c22 => ?_)
      ·
        refine okB (T_J6_bitCount_0f7a4 q h19) ?_
        intro r25 s23 h24
        refine okB (T_J6_bitCount_0f7a4 q h24) ?_
        intro r28 s26 h27
        refine okI (fun c29 => ?_) (fun c29 => ?_)
        ·
          unfold f_X2_worstSet_57
          refine okN ?_
          exact hK7 _ c14 ⟨nI_1 _, h27⟩
        ·
          unfold f_X2_worstSet_55
          unfold f_X2_worstSet_57
          refine okN ?_
          exact hK7 _ c14 ⟨nI_1 _, h27⟩
      ·
        unfold f_X2_worstSet_57
        refine okN ?_
        exact hK7 _ c14 ⟨nI_1 _, h19⟩
theorem T_X2_countWays {Z : St → Prop} {σ0 : St} {M T S E A U Y L P N : Nat} (q : ZB Z σ0 M T S E A U Y L P N) (hr : RKZ Z) {p0 : Int32} {s : St} (h : Z s) : Ok (fun _ s' => Z s') (f_X2_countWays p0 s) := by
  have qM := q.b.hM
  have qT := q.b.hT
  have qS := q.b.S512
  have qE := q.b.hE
  have qA := q.b.hA
  have qU := q.b.hU
  have qY := q.b.hY
  have qA2 := q.b.A256
  have qU2 := q.b.U256
  unfold f_X2_countWays
  refine okB (hr _ h) ?_
  intro r3 s1 h2
  refine okC (fun (i : Nat) (x : Int32 × Int32 × Int32 × St) => x.2.2.1 = nI i ∧ Z x.2.2.2) S ?_ (i := 0) (by unfold FU; omega) (by omega) ⟨rfl, h2⟩
  rintro i4 ⟨v11, v12, v13, s9⟩ K5 hi6 ⟨hv8, h10⟩ hK7
  dsimp only at hv8 h10
  subst hv8
  unfold g_X2_countWays_8
  dsimp only
  rw [S_X10_sets q h10, bd_mk]
  refine okI (fun _ => ?_) (fun c14 => ?_)
  ·
    exact okR h10
  ·
    replace c14 : i4 < S := cnt_le rfl (by omega) c14 hi6
    refine okB (T_X2_reckonedWinner q h10) ?_
    intro r17 s15 h16
    refine okI (fun c18 => ?_) (fun c18 => ?_)
    ·
      refine okN ?_
      unfold f_X2_countWays_31
      refine okN ?_
      exact hK7 _ c14 ⟨nI_1 _, h16⟩
    ·
      unfold f_X2_countWays_31
      refine okN ?_
      exact hK7 _ c14 ⟨nI_1 _, h16⟩
theorem T_X2_idleTrains {Z : St → Prop} {σ0 : St} {M T S E A U Y L P N : Nat} (q : ZB Z σ0 M T S E A U Y L P N) (hr : RKZ Z)  {s : St} (h : Z s) : Ok (fun _ s' => Z s') (f_X2_idleTrains s) := by
  have qM := q.b.hM
  have qT := q.b.hT
  have qS := q.b.S512
  have qE := q.b.hE
  have qA := q.b.hA
  have qU := q.b.hU
  have qY := q.b.hY
  have qA2 := q.b.A256
  have qU2 := q.b.U256
  unfold f_X2_idleTrains
  refine okB (hr _ h) ?_
  intro r3 s1 h2
  refine okC (fun (i : Nat) (x : Int32 × Int32 × St) => x.2.1 = nI i ∧ Z x.2.2) T ?_ (i := 0) (by unfold FU; omega) (by omega) ⟨rfl, h2⟩
  rintro i4 ⟨v11, v12, s9⟩ K5 hi6 ⟨hv8, h10⟩ hK7
  dsimp only at hv8 h10
  subst hv8
  unfold g_X2_idleTrains_8
  dsimp only
  refine okI (fun _ => ?_) (fun c13 => ?_)
  ·
    exact okR h10
  ·
    replace c13 : i4 < T := cnt_le (q.at' h10).cT (by omega) c13 hi6
    refine okB (T_X2_isIdle q h10) ?_
    intro r16 s14 h15
    refine okI (fun c17 => ?_) (fun c17 => ?_)
    ·
      unfold f_X2_idleTrains_38
      refine okN ?_
      exact hK7 _ c13 ⟨nI_1 _, h15⟩
    ·
      refine okN ?_
      unfold f_X2_idleTrains_38
      refine okN ?_
      exact hK7 _ c13 ⟨nI_1 _, h15⟩
theorem T_X2_winningParts {Z : St → Prop} {σ0 : St} {M T S E A U Y L P N : Nat} (q : ZB Z σ0 M T S E A U Y L P N) (hr : RKZ Z) {p0 : Int32} {s : St} (h : Z s) : Ok (fun _ s' => Z s') (f_X2_winningParts p0 s) := by
  have qM := q.b.hM
  have qT := q.b.hT
  have qS := q.b.S512
  have qE := q.b.hE
  have qA := q.b.hA
  have qU := q.b.hU
  have qY := q.b.hY
  have qA2 := q.b.A256
  have qU2 := q.b.U256
  unfold f_X2_winningParts
  refine okB (hr _ h) ?_
  intro r3 s1 h2
  refine okC (fun (i : Nat) (x : Int32 × Int64 × Int32 × St) => x.2.2.1 = nI i ∧ Z x.2.2.2) S ?_ (i := 0) (by unfold FU; omega) (by omega) ⟨rfl, h2⟩
  rintro i4 ⟨v11, v12, v13, s9⟩ K5 hi6 ⟨hv8, h10⟩ hK7
  dsimp only at hv8 h10
  subst hv8
  unfold g_X2_winningParts_9
  dsimp only
  rw [S_X10_sets q h10, bd_mk]
  refine okI (fun _ => ?_) (fun c14 => ?_)
  ·
    exact okR h10
  ·
    replace c14 : i4 < S := cnt_le rfl (by omega) c14 hi6
    refine okB (T_X2_reckonedWinner q h10) ?_
    intro r17 s15 h16
    refine okI (fun c18 => ?_) (fun c18 => ?_)
    ·
      refine okB (T_X1_delayParts q h16) ?_
      intro r21 s19 h20
      refine okN ?_
      unfold f_X2_winningParts_43
      refine okN ?_
      exact hK7 _ c14 ⟨nI_1 _, h20⟩
    ·
      unfold f_X2_winningParts_43
      refine okN ?_
      exact hK7 _ c14 ⟨nI_1 _, h16⟩
theorem T_X3_enoughParts {Z : St → Prop} {σ0 : St} {M T S E A U Y L P N : Nat} (q : ZB Z σ0 M T S E A U Y L P N) {p0 : Int32} {s : St} (h : Z s) : Ok (fun _ s' => Z s') (f_X3_enoughParts p0 s) := by
  have qM := q.b.hM
  have qT := q.b.hT
  have qS := q.b.S512
  have qE := q.b.hE
  have qA := q.b.hA
  have qU := q.b.hU
  have qY := q.b.hY
  have qA2 := q.b.A256
  have qU2 := q.b.U256
  unfold f_X3_enoughParts
  refine okB (T_X3_takeParts q h) ?_
  intro r3 s1 h2
  refine okB (T_X10_trainsOfR q h2) ?_
  rintro _ s4 ⟨h5, ⟨k9, hk9, rfl⟩⟩
  refine okI (fun c7 => ?_) (fun c7 => ?_)
  ·
    unfold f_X3_enoughParts_31
    exact okR h5
  ·
    refine okD (by first | exact inb_ln (n := 512) rfl (by omega) (by omega) | rfl) ?_
    unfold f_X3_enoughParts_31
    exact okR h5
theorem T_X3_answeredGood {Z : St → Prop} {σ0 : St} {M T S E A U Y L P N : Nat} (q : ZB Z σ0 M T S E A U Y L P N) (hr : RKZ Z) {p0 : Int32} {p1 : Int32} {s : St} (h : Z s) : Ok (fun _ s' => Z s') (f_X3_answeredGood p0 p1 s) := by
  have qM := q.b.hM
  have qT := q.b.hT
  have qS := q.b.S512
  have qE := q.b.hE
  have qA := q.b.hA
  have qU := q.b.hU
  have qY := q.b.hY
  have qA2 := q.b.A256
  have qU2 := q.b.U256
  unfold f_X3_answeredGood
  refine okB (hr _ h) ?_
  intro r3 s1 h2
  refine okB (T_X3_meetAnswers q h2) ?_
  intro r6 s4 h5
  refine okB (T_X10_trainsOf q h5) ?_
  intro r9 s7 h8
  refine okC (fun (i : Nat) (x : Int32 × Int32 × Int32 × Int32 × St) => x.2.2.2.1 = nI i ∧ Z x.2.2.2.2) S ?_ (i := 0) (by unfold FU; omega) (by omega) ⟨rfl, h8⟩
  rintro i10 ⟨v17, v18, v19, v20, s15⟩ K11 hi12 ⟨hv14, h16⟩ hK13
  dsimp only at hv14 h16
  subst hv14
  unfold g_X3_answeredGood_29
  dsimp only
  rw [S_X10_sets q h16, bd_mk]
  refine okI (fun _ => ?_) (fun c21 => ?_)
  ·
    exact okR h16
  ·
    replace c21 : i10 < S := cnt_le rfl (by omega) c21 hi12
    refine okI (fun c22 => ?_) (fun c22 => ?_)
    ·
      refine okD (inb_ln (n := 512) rfl (by omega) (by omega)) ?_
      refine okI (fun c23 => ?_) (fun c23 => ?_)
      ·
        unfold f_X3_answeredGood_75
        refine okN ?_
        exact hK13 _ c21 ⟨nI_1 _, h16⟩
      ·
        refine okD (inb_ln (n := 512) rfl (by omega) (by omega)) ?_
        refine okN ?_
        unfold f_X3_answeredGood_75
        refine okN ?_
        exact hK13 _ c21 ⟨nI_1 _, h16⟩
    ·
      unfold f_X3_answeredGood_75
      refine okN ?_
      exact hK13 _ c21 ⟨nI_1 _, h16⟩
theorem T_X3_countRests {Z : St → Prop} {σ0 : St} {M T S E A U Y L P N : Nat} (q : ZB Z σ0 M T S E A U Y L P N) (hr : RKZ Z) {p0 : Int32} {s : St} (h : Z s) : Ok (fun _ s' => Z s') (f_X3_countRests p0 s) := by
  have qM := q.b.hM
  have qT := q.b.hT
  have qS := q.b.S512
  have qE := q.b.hE
  have qA := q.b.hA
  have qU := q.b.hU
  have qY := q.b.hY
  have qA2 := q.b.A256
  have qU2 := q.b.U256
  unfold f_X3_countRests
  refine okB (hr _ h) ?_
  intro r3 s1 h2
  refine okB (T_X3_meetAnswers q h2) ?_
  intro r6 s4 h5
  refine okB (T_X10_trainsOf q h5) ?_
  intro r9 s7 h8
  refine okC (fun (i : Nat) (x : Int32 × Int32 × Int32 × Int32 × St) => x.2.2.2.1 = nI i ∧ Z x.2.2.2.2) S ?_ (i := 0) (by unfold FU; omega) (by omega) ⟨rfl, h8⟩
  rintro i10 ⟨v17, v18, v19, v20, s15⟩ K11 hi12 ⟨hv14, h16⟩ hK13
  dsimp only at hv14 h16
  subst hv14
  unfold g_X3_countRests_27
  dsimp only
  rw [S_X10_sets q h16, bd_mk]
  refine okI (fun _ => ?_) (fun c21 => ?_)
  ·
    exact okR h16
  ·
    replace c21 : i10 < S := cnt_le rfl (by omega) c21 hi12
    refine okB (T_X2_goodAtEnd q h16) ?_
    intro r24 s22 h23
    refine okB (T_X3_isBought q h23) ?_
    intro r27 s25 h26
    refine okI (fun c28 => ?_) (fun c28 => ?_)
    ·
      unfold f_X3_countRests_95
      refine okN ?_
      exact hK13 _ c21 ⟨nI_1 _, h26⟩
    ·
      refine okD (inb_andc rfl (by omega)) ?_
      refine okI (fun c29 => ?_) (fun c29 => ?_)
      ·
        refine okD (inb_andc rfl (by omega)) ?_
        refine okI (fun c30 => ?_) (fun c30 => ?_)
        ·
          refine okN ?_
          unfold f_X3_countRests_95
          refine okN ?_
          exact hK13 _ c21 ⟨nI_1 _, h26⟩
        ·
          unfold f_X3_countRests_95
          refine okN ?_
          exact hK13 _ c21 ⟨nI_1 _, h26⟩
      ·
        unfold f_X3_countRests_95
        refine okN ?_
        exact hK13 _ c21 ⟨nI_1 _, h26⟩
theorem T_X3_fitByChance {Z : St → Prop} {σ0 : St} {M T S E A U Y L P N : Nat} (q : ZB Z σ0 M T S E A U Y L P N) {p0 : Int32} {p1 : Int32} {s : St} (h : Z s) : Ok (fun _ s' => Z s') (f_X3_fitByChance p0 p1 s) := by
  have qM := q.b.hM
  have qT := q.b.hT
  have qS := q.b.S512
  have qE := q.b.hE
  have qA := q.b.hA
  have qU := q.b.hU
  have qY := q.b.hY
  have qA2 := q.b.A256
  have qU2 := q.b.U256
  unfold f_X3_fitByChance
  refine okB (T_X3_takeParts q h) ?_
  intro r3 s1 h2
  refine okD rfl ?_
  refine okI (fun c4 => ?_) (fun c4 => ?_)
  ·
    unfold f_X3_fitByChance_31
    refine okD (by first | exact inb_ln (n := 512) rfl (by omega) (by omega) | rfl) ?_
    refine okZ (Z := Z) (q.z.wr _ _ _ h2 (by decide)) (fun s5 h6 => ?_)
    refine okC (fun (i : Nat) (x : Int32 × Int32 × St) => x.2.1 = nI i ∧ Z x.2.2) S ?_ (i := 1) (by unfold FU; omega) (by omega) ⟨rfl, h6⟩
    rintro i7 ⟨v14, v15, s12⟩ K8 hi9 ⟨hv11, h13⟩ hK10
    dsimp only at hv11 h13
    subst hv11
    unfold g_X3_fitByChance_34
    dsimp only
    rw [S_X10_sets q h13, bd_mk]
    refine okI (fun _ => ?_) (fun c16 => ?_)
    ·
      exact okR h13
    ·
      replace c16 : i7 < S := cnt_le rfl (by omega) c16 hi9
      refine okD (inb_ln (n := 512) rfl (by omega) (by omega)) ?_
      refine okB (T_J6_bitCountR q h13) ?_
      rintro r19 s17 ⟨h18, ⟨hb0, hb1⟩⟩
      refine okB (T_X1_hundreds q h18 (sub1_1000 hb0 hb1)) ?_
      intro r22 s20 h21
      refine okI (fun c23 => ?_) (fun c23 => ?_)
      ·
        unfold f_X3_fitByChance_77
        refine okD (by first | exact inb_ln (n := 512) rfl (by omega) (by omega) | rfl) ?_
        refine okZ (Z := Z) (q.z.wr _ _ _ h21 (by decide)) (fun s24 h25 => ?_)
        refine okN ?_
        exact hK10 _ c16 ⟨nI_1 _, h25⟩
      ·
        unfold f_X3_fitByChance_77
        refine okD (by first | exact inb_ln (n := 512) rfl (by omega) (by omega) | rfl) ?_
        refine okZ (Z := Z) (q.z.wr _ _ _ h21 (by decide)) (fun s26 h27 => ?_)
        refine okN ?_
        exact hK10 _ c16 ⟨nI_1 _, h27⟩
  ·
    unfold f_X3_fitByChance_31
    refine okD (by first | exact inb_ln (n := 512) rfl (by omega) (by omega) | rfl) ?_
    refine okZ (Z := Z) (q.z.wr _ _ _ h2 (by decide)) (fun s28 h29 => ?_)
    refine okC (fun (i : Nat) (x : Int32 × Int32 × St) => x.2.1 = nI i ∧ Z x.2.2) S ?_ (i := 1) (by unfold FU; omega) (by omega) ⟨rfl, h29⟩
    rintro i30 ⟨v37, v38, s35⟩ K31 hi32 ⟨hv34, h36⟩ hK33
    dsimp only at hv34 h36
    subst hv34
    unfold g_X3_fitByChance_34
    dsimp only
    rw [S_X10_sets q h36, bd_mk]
    refine okI (fun _ => ?_) (fun c39 => ?_)
    ·
      exact okR h36
    ·
      replace c39 : i30 < S := cnt_le rfl (by omega) c39 hi32
      refine okD (inb_ln (n := 512) rfl (by omega) (by omega)) ?_
      refine okB (T_J6_bitCountR q h36) ?_
      rintro r42 s40 ⟨h41, ⟨hb0, hb1⟩⟩
      refine okB (T_X1_hundreds q h41 (sub1_1000 hb0 hb1)) ?_
      intro r45 s43 h44
      refine okI (fun c46 => ?_) (fun c46 => ?_)
      ·
        unfold f_X3_fitByChance_77
        refine okD (by first | exact inb_ln (n := 512) rfl (by omega) (by omega) | rfl) ?_
        refine okZ (Z := Z) (q.z.wr _ _ _ h44 (by decide)) (fun s47 h48 => ?_)
        refine okN ?_
        exact hK33 _ c39 ⟨nI_1 _, h48⟩
      ·
        unfold f_X3_fitByChance_77
        refine okD (by first | exact inb_ln (n := 512) rfl (by omega) (by omega) | rfl) ?_
        refine okZ (Z := Z) (q.z.wr _ _ _ h44 (by decide)) (fun s49 h50 => ?_)
        refine okN ?_
        exact hK33 _ c39 ⟨nI_1 _, h50⟩
theorem T_X8_trainToWatch {Z : St → Prop} {σ0 : St} {M T S E A U Y L P N : Nat} (q : ZB Z σ0 M T S E A U Y L P N) {p0 : Int32} {s : St} (h : Z s) : Ok (fun _ s' => Z s') (f_X8_trainToWatch p0 s) := by
  have qM := q.b.hM
  have qT := q.b.hT
  have qS := q.b.S512
  have qE := q.b.hE
  have qA := q.b.hA
  have qU := q.b.hU
  have qY := q.b.hY
  have qA2 := q.b.A256
  have qU2 := q.b.U256
  unfold f_X8_trainToWatch
  refine okB (T_X8_fitting q h) ?_
  intro r3 s1 h2
  refine okB (T_J6_bitCount_0f7a4 q h2) ?_
  intro r6 s4 h5
  refine okC (fun (i : Nat) (x : Int32 × Int32 × Int32 × Int32 × St) => x.2.2.2.1 = nI i ∧ Z x.2.2.2.2) T ?_ (i := 0) (by unfold FU; omega) (by omega) ⟨rfl, h5⟩
  rintro i7 ⟨v14, v15, v16, v17, s12⟩ K8 hi9 ⟨hv11, h13⟩ hK10
  dsimp only at hv11 h13
  subst hv11
  unfold g_X8_trainToWatch_14
  dsimp only
  refine okI (fun _ => ?_) (fun c18 => ?_)
  ·
    exact okR h13
  ·
    replace c18 : i7 < T := cnt_le (q.at' h13).cT (by omega) c18 hi9
    refine okB (T_X8_leftAtWorst q h13) ?_
    intro r21 s19 h20
    refine okB (T_X10_isIn q h20) ?_
    intro r24 s22 h23
    refine okI (fun c25 => ?_) (fun c25 => ?_)
    ·
      refine okI (fun c26 => ?_) (fun c26 => ?_)
      ·
        unfold f_X8_trainToWatch_59
        refine okN ?_
        exact hK10 _ c18 ⟨nI_1 _, h23⟩
      ·
        unfold f_X8_trainToWatch_59
        refine okN ?_
        exact hK10 _ c18 ⟨nI_1 _, h23⟩
    ·
      unfold f_X8_trainToWatch_59
      refine okN ?_
      exact hK10 _ c18 ⟨nI_1 _, h23⟩
theorem T_X11_worst {Z : St → Prop} {σ0 : St} {M T S E A U Y L P N : Nat} (q : ZB Z σ0 M T S E A U Y L P N) (hr : RKZ Z) {p0 : Int32} {s : St} (h : Z s) : Ok (fun _ s' => Z s') (f_X11_worst p0 s) := by
  have qM := q.b.hM
  have qT := q.b.hT
  have qS := q.b.S512
  have qE := q.b.hE
  have qA := q.b.hA
  have qU := q.b.hU
  have qY := q.b.hY
  have qA2 := q.b.A256
  have qU2 := q.b.U256
  unfold f_X11_worst
  refine okB (T_X10_hasSide q h) ?_
  intro r3 s1 h2
  refine okI (fun c4 => ?_) (fun c4 => ?_)
  ·
    unfold f_X11_worst_33
    exact okR h2
  ·
    refine okB (T_X2_worstSet q hr h2) ?_
    intro r7 s5 h6
    refine okB (T_X2_goodAtEnd q h6) ?_
    intro r10 s8 h9
    unfold f_X11_worst_33
    exact okR h9
theorem T_X11_by {Z : St → Prop} {σ0 : St} {M T S E A U Y L P N : Nat} (q : ZB Z σ0 M T S E A U Y L P N) (hr : RKZ Z) {p0 : Int32} {s : St} (h : Z s) : Ok (fun _ s' => Z s') (f_X11_by p0 s) := by
  have qM := q.b.hM
  have qT := q.b.hT
  have qS := q.b.S512
  have qE := q.b.hE
  have qA := q.b.hA
  have qU := q.b.hU
  have qY := q.b.hY
  have qA2 := q.b.A256
  have qU2 := q.b.U256
  unfold f_X11_by
  refine okB (T_X10_hasSide q h) ?_
  intro r3 s1 h2
  refine okI (fun c4 => ?_) (fun c4 => ?_)
  ·
    unfold f_X11_by_24
    exact okR h2
  ·
    refine okB (T_X2_worstSet q hr h2) ?_
    intro r7 s5 h6
    unfold f_X11_by_24
    exact okR h6
theorem T_X11_ways {Z : St → Prop} {σ0 : St} {M T S E A U Y L P N : Nat} (q : ZB Z σ0 M T S E A U Y L P N) (hr : RKZ Z) {p0 : Int32} {s : St} (h : Z s) : Ok (fun _ s' => Z s') (f_X11_ways p0 s) := by
  have qM := q.b.hM
  have qT := q.b.hT
  have qS := q.b.S512
  have qE := q.b.hE
  have qA := q.b.hA
  have qU := q.b.hU
  have qY := q.b.hY
  have qA2 := q.b.A256
  have qU2 := q.b.U256
  unfold f_X11_ways
  refine okB (T_X10_hasSide q h) ?_
  intro r3 s1 h2
  refine okI (fun c4 => ?_) (fun c4 => ?_)
  ·
    unfold f_X11_ways_24
    exact okR h2
  ·
    refine okB (T_X2_countWays q hr h2) ?_
    intro r7 s5 h6
    unfold f_X11_ways_24
    exact okR h6
theorem T_X11_idle {Z : St → Prop} {σ0 : St} {M T S E A U Y L P N : Nat} (q : ZB Z σ0 M T S E A U Y L P N) (hr : RKZ Z)  {s : St} (h : Z s) : Ok (fun _ s' => Z s') (f_X11_idle s) := by
  have qM := q.b.hM
  have qT := q.b.hT
  have qS := q.b.S512
  have qE := q.b.hE
  have qA := q.b.hA
  have qU := q.b.hU
  have qY := q.b.hY
  have qA2 := q.b.A256
  have qU2 := q.b.U256
  unfold f_X11_idle
  refine okB (T_X10_isTold q h) ?_
  intro r3 s1 h2
  refine okI (fun c4 => ?_) (fun c4 => ?_)
  ·
    unfold f_X11_idle_22
    exact okR h2
  ·
    refine okB (T_X2_idleTrains q hr h2) ?_
    intro r7 s5 h6
    unfold f_X11_idle_22
    exact okR h6
theorem T_X11_enough {Z : St → Prop} {σ0 : St} {M T S E A U Y L P N : Nat} (q : ZB Z σ0 M T S E A U Y L P N) {p0 : Int32} {p1 : Int32} {s : St} (h : Z s) : Ok (fun _ s' => Z s') (f_X11_enough p0 p1 s) := by
  have qM := q.b.hM
  have qT := q.b.hT
  have qS := q.b.S512
  have qE := q.b.hE
  have qA := q.b.hA
  have qU := q.b.hU
  have qY := q.b.hY
  have qA2 := q.b.A256
  have qU2 := q.b.U256
  unfold f_X11_enough
  refine okB (T_X10_hasSide q h) ?_
  intro r3 s1 h2
  refine okI (fun c4 => ?_) (fun c4 => ?_)
  ·
    unfold f_X11_enough_18
    exact okR h2
  ·
    refine okB (T_X11_isPart q h2) ?_
    intro r7 s5 h6
    refine okI (fun c8 => ?_) (fun c8 => ?_)
    ·
      unfold f_X11_enough_18
      exact okR h6
    ·
      refine okB (T_X3_enoughParts q h6) ?_
      intro r11 s9 h10
      refine okB (T_X10_trainsOf q h10) ?_
      intro r14 s12 h13
      refine okB (T_J6_bitCountR q h13) ?_
      rintro r17 s15 ⟨h16, ⟨hb0, hb1⟩⟩
      refine okB (T_X1_hundreds q h16 (by omega)) ?_
      intro r20 s18 h19
      refine okB (T_X1_lowest q h19) ?_
      intro r23 s21 h22
      exact okR h22
theorem T_X11_chance {Z : St → Prop} {σ0 : St} {M T S E A U Y L P N : Nat} (q : ZB Z σ0 M T S E A U Y L P N) (hr : RKZ Z) {p0 : Int32} {p1 : Int32} {s : St} (h : Z s) : Ok (fun _ s' => Z s') (f_X11_chance p0 p1 s) := by
  have qM := q.b.hM
  have qT := q.b.hT
  have qS := q.b.S512
  have qE := q.b.hE
  have qA := q.b.hA
  have qU := q.b.hU
  have qY := q.b.hY
  have qA2 := q.b.A256
  have qU2 := q.b.U256
  unfold f_X11_chance
  refine okB (T_X10_hasSide q h) ?_
  intro r3 s1 h2
  refine okI (fun c4 => ?_) (fun c4 => ?_)
  ·
    unfold f_X11_chance_18
    exact okR h2
  ·
    refine okB (T_X11_isPart q h2) ?_
    intro r7 s5 h6
    refine okI (fun c8 => ?_) (fun c8 => ?_)
    ·
      unfold f_X11_chance_18
      exact okR h6
    ·
      refine okB (T_X2_winningParts q hr h6) ?_
      intro r11 s9 h10
      refine okB (T_X1_hundreds q h10 (by rw [(q.at' h10).cT, nI_toInt (by omega)]; omega)) ?_
      intro r14 s12 h13
      refine okB (T_X1_lowest q h13) ?_
      intro r17 s15 h16
      exact okR h16
theorem T_X11_answer {Z : St → Prop} {σ0 : St} {M T S E A U Y L P N : Nat} (q : ZB Z σ0 M T S E A U Y L P N) (hr : RKZ Z) {p0 : Int32} {p1 : Int32} {s : St} (h : Z s) : Ok (fun _ s' => Z s') (f_X11_answer p0 p1 s) := by
  have qM := q.b.hM
  have qT := q.b.hT
  have qS := q.b.S512
  have qE := q.b.hE
  have qA := q.b.hA
  have qU := q.b.hU
  have qY := q.b.hY
  have qA2 := q.b.A256
  have qU2 := q.b.U256
  unfold f_X11_answer
  refine okB (T_X11_isPurse q h) ?_
  intro r3 s1 h2
  refine okI (fun c4 => ?_) (fun c4 => ?_)
  ·
    unfold f_X11_answer_24
    exact okR h2
  ·
    refine okB (T_X3_answeredGood q hr h2) ?_
    intro r7 s5 h6
    unfold f_X11_answer_24
    exact okR h6
theorem T_X11_rests {Z : St → Prop} {σ0 : St} {M T S E A U Y L P N : Nat} (q : ZB Z σ0 M T S E A U Y L P N) (hr : RKZ Z) {p0 : Int32} {s : St} (h : Z s) : Ok (fun _ s' => Z s') (f_X11_rests p0 s) := by
  have qM := q.b.hM
  have qT := q.b.hT
  have qS := q.b.S512
  have qE := q.b.hE
  have qA := q.b.hA
  have qU := q.b.hU
  have qY := q.b.hY
  have qA2 := q.b.A256
  have qU2 := q.b.U256
  unfold f_X11_rests
  refine okB (T_X11_isPurse q h) ?_
  intro r3 s1 h2
  refine okI (fun c4 => ?_) (fun c4 => ?_)
  ·
    unfold f_X11_rests_22
    exact okR h2
  ·
    refine okB (T_X3_countRests q hr h2) ?_
    intro r7 s5 h6
    unfold f_X11_rests_22
    exact okR h6
theorem T_X11_watch {Z : St → Prop} {σ0 : St} {M T S E A U Y L P N : Nat} (q : ZB Z σ0 M T S E A U Y L P N) {p0 : Int32} {s : St} (h : Z s) : Ok (fun _ s' => Z s') (f_X11_watch p0 s) := by
  have qM := q.b.hM
  have qT := q.b.hT
  have qS := q.b.S512
  have qE := q.b.hE
  have qA := q.b.hA
  have qU := q.b.hU
  have qY := q.b.hY
  have qA2 := q.b.A256
  have qU2 := q.b.U256
  unfold f_X11_watch
  refine okB (T_X10_hasSet q h) ?_
  intro r3 s1 h2
  refine okI (fun c4 => ?_) (fun c4 => ?_)
  ·
    unfold f_X11_watch_24
    exact okR h2
  ·
    refine okB (T_X8_trainToWatch q h2) ?_
    intro r7 s5 h6
    unfold f_X11_watch_24
    exact okR h6
theorem T_X11_leaves {Z : St → Prop} {σ0 : St} {M T S E A U Y L P N : Nat} (q : ZB Z σ0 M T S E A U Y L P N) {p0 : Int32} {s : St} (h : Z s) : Ok (fun _ s' => Z s') (f_X11_leaves p0 s) := by
  have qM := q.b.hM
  have qT := q.b.hT
  have qS := q.b.S512
  have qE := q.b.hE
  have qA := q.b.hA
  have qU := q.b.hU
  have qY := q.b.hY
  have qA2 := q.b.A256
  have qU2 := q.b.U256
  unfold f_X11_leaves
  refine okB (T_X10_hasSet q h) ?_
  intro r3 s1 h2
  refine okI (fun c4 => ?_) (fun c4 => ?_)
  ·
    unfold f_X11_leaves_32
    exact okR h2
  ·
    refine okB (T_X8_trainToWatch q h2) ?_
    intro r7 s5 h6
    refine okB (T_X8_leftAtWorst q h6) ?_
    intro r10 s8 h9
    unfold f_X11_leaves_32
    exact okR h9
theorem T_X3_fewestSent {Z : St → Prop} {σ0 : St} {M T S E A U Y L P N : Nat} (q : ZB Z σ0 M T S E A U Y L P N) {p0 : Int32} {s : St} (h : Z s) : Ok (fun _ s' => Z s') (f_X3_fewestSent p0 s) := by
  have qM := q.b.hM
  have qT := q.b.hT
  have qS := q.b.S512
  have qE := q.b.hE
  have qA := q.b.hA
  have qU := q.b.hU
  have qY := q.b.hY
  have qA2 := q.b.A256
  have qU2 := q.b.U256
  unfold f_X3_fewestSent
  refine okB (T_X3_fitByChance q h) ?_
  intro r3 s1 h2
  refine okB (T_X10_trainsOf q h2) ?_
  intro r6 s4 h5
  refine okC (fun (i : Nat) (x : Int32 × Int32 × Int32 × St) => x.2.2.1 = nI i ∧ Z x.2.2.2) S ?_ (i := 0) (by unfold FU; omega) (by omega) ⟨rfl, h5⟩
  rintro i7 ⟨v14, v15, v16, s12⟩ K8 hi9 ⟨hv11, h13⟩ hK10
  dsimp only at hv11 h13
  subst hv11
  unfold g_X3_fewestSent_21
  dsimp only
  rw [S_X10_sets q h13, bd_mk]
  refine okI (fun _ => ?_) (fun c17 => ?_)
  ·
    exact okR h13
  ·
    replace c17 : i7 < S := cnt_le rfl (by omega) c17 hi9
    refine okB (T_J6_bitCount_0f7a4 q h13) ?_
    intro r20 s18 h19
    refine okI (fun c21 => ?_) (fun c21 => ?_)
    ·
      refine okD (inb_ln (n := 512) rfl (by omega) (by omega)) ?_
      refine okI (fun c22 => ?_) (fun c22 => ?_)
      ·
        unfold f_X3_fewestSent_73
        refine okN ?_
        exact hK10 _ c17 ⟨nI_1 _, h19⟩
      ·
        refine okI (fun c23 => ?_) (fun c23 => ?_)
        ·
          unfold f_X3_fewestSent_70
          unfold f_X3_fewestSent_73
          refine okN ?_
          exact hK10 _ c17 ⟨nI_1 _, h19⟩
        ·
          refine okI (fun c24 => ?_) (fun c24 => ?_)
          ·
            unfold f_X3_fewestSent_73
            refine okN ?_
            exact hK10 _ c17 ⟨nI_1 _, h19⟩
          ·
            unfold f_X3_fewestSent_70
            unfold f_X3_fewestSent_73
            refine okN ?_
            exact hK10 _ c17 ⟨nI_1 _, h19⟩
    ·
      unfold f_X3_fewestSent_73
      refine okN ?_
      exact hK10 _ c17 ⟨nI_1 _, h19⟩
theorem T_X3_riskedSet {Z : St → Prop} {σ0 : St} {M T S E A U Y L P N : Nat} (q : ZB Z σ0 M T S E A U Y L P N) {p0 : Int32} {p1 : Int32} {s : St} (h : Z s) : Ok (fun _ s' => Z s') (f_X3_riskedSet p0 p1 s) := by
  have qM := q.b.hM
  have qT := q.b.hT
  have qS := q.b.S512
  have qE := q.b.hE
  have qA := q.b.hA
  have qU := q.b.hU
  have qY := q.b.hY
  have qA2 := q.b.A256
  have qU2 := q.b.U256
  unfold f_X3_riskedSet
  refine okB (T_X3_takePrices q h) ?_
  intro r3 s1 h2
  refine okB (T_X3_fitByChance q h2) ?_
  intro r6 s4 h5
  refine okB (T_X10_trainsOf q h5) ?_
  intro r9 s7 h8
  refine okB (T_X3_cheapest q h8) ?_
  intro r12 s10 h11
  exact okR h11
theorem T_X11_fewest {Z : St → Prop} {σ0 : St} {M T S E A U Y L P N : Nat} (q : ZB Z σ0 M T S E A U Y L P N) {p0 : Int32} {s : St} (h : Z s) : Ok (fun _ s' => Z s') (f_X11_fewest p0 s) := by
  have qM := q.b.hM
  have qT := q.b.hT
  have qS := q.b.S512
  have qE := q.b.hE
  have qA := q.b.hA
  have qU := q.b.hU
  have qY := q.b.hY
  have qA2 := q.b.A256
  have qU2 := q.b.U256
  unfold f_X11_fewest
  refine okB (T_X10_hasSide q h) ?_
  intro r3 s1 h2
  refine okI (fun c4 => ?_) (fun c4 => ?_)
  ·
    unfold f_X11_fewest_24
    exact okR h2
  ·
    refine okB (T_X3_fewestSent q h2) ?_
    intro r7 s5 h6
    unfold f_X11_fewest_24
    exact okR h6
theorem T_X11_risk {Z : St → Prop} {σ0 : St} {M T S E A U Y L P N : Nat} (q : ZB Z σ0 M T S E A U Y L P N) {p0 : Int32} {p1 : Int32} {s : St} (h : Z s) : Ok (fun _ s' => Z s') (f_X11_risk p0 p1 s) := by
  have qM := q.b.hM
  have qT := q.b.hT
  have qS := q.b.S512
  have qE := q.b.hE
  have qA := q.b.hA
  have qU := q.b.hU
  have qY := q.b.hY
  have qA2 := q.b.A256
  have qU2 := q.b.U256
  unfold f_X11_risk
  refine okB (T_X11_isRisk q h) ?_
  intro r3 s1 h2
  refine okI (fun c4 => ?_) (fun c4 => ?_)
  ·
    unfold f_X11_risk_30
    exact okR h2
  ·
    refine okB (T_X3_riskedSet q h2) ?_
    intro r7 s5 h6
    refine okB (T_X10_priceOf q h6) ?_
    intro r10 s8 h9
    unfold f_X11_risk_30
    exact okR h9
theorem T_X11_risked {Z : St → Prop} {σ0 : St} {M T S E A U Y L P N : Nat} (q : ZB Z σ0 M T S E A U Y L P N) {p0 : Int32} {p1 : Int32} {s : St} (h : Z s) : Ok (fun _ s' => Z s') (f_X11_risked p0 p1 s) := by
  have qM := q.b.hM
  have qT := q.b.hT
  have qS := q.b.S512
  have qE := q.b.hE
  have qA := q.b.hA
  have qU := q.b.hU
  have qY := q.b.hY
  have qA2 := q.b.A256
  have qU2 := q.b.U256
  unfold f_X11_risked
  refine okB (T_X11_isRisk q h) ?_
  intro r3 s1 h2
  refine okI (fun c4 => ?_) (fun c4 => ?_)
  ·
    unfold f_X11_risked_23
    exact okR h2
  ·
    refine okB (T_X3_riskedSet q h2) ?_
    intro r7 s5 h6
    unfold f_X11_risked_23
    exact okR h6
theorem T_X3_sentSet {Z : St → Prop} {σ0 : St} {M T S E A U Y L P N : Nat} (q : ZB Z σ0 M T S E A U Y L P N) {p0 : Int32} {s : St} (h : Z s) : Ok (fun _ s' => Z s') (f_X3_sentSet p0 s) := by
  have qM := q.b.hM
  have qT := q.b.hT
  have qS := q.b.S512
  have qE := q.b.hE
  have qA := q.b.hA
  have qU := q.b.hU
  have qY := q.b.hY
  have qA2 := q.b.A256
  have qU2 := q.b.U256
  unfold f_X3_sentSet
  refine okB (T_X3_riskedSet q h) ?_
  intro r3 s1 h2
  exact okR h2
theorem T_X11_send {Z : St → Prop} {σ0 : St} {M T S E A U Y L P N : Nat} (q : ZB Z σ0 M T S E A U Y L P N) {p0 : Int32} {s : St} (h : Z s) : Ok (fun _ s' => Z s') (f_X11_send p0 s) := by
  have qM := q.b.hM
  have qT := q.b.hT
  have qS := q.b.S512
  have qE := q.b.hE
  have qA := q.b.hA
  have qU := q.b.hU
  have qY := q.b.hY
  have qA2 := q.b.A256
  have qU2 := q.b.U256
  unfold f_X11_send
  refine okB (T_X10_hasSide q h) ?_
  intro r3 s1 h2
  refine okI (fun c4 => ?_) (fun c4 => ?_)
  ·
    unfold f_X11_send_31
    exact okR h2
  ·
    refine okB (T_X3_sentSet q h2) ?_
    intro r7 s5 h6
    refine okB (T_X10_priceOf q h6) ?_
    intro r10 s8 h9
    unfold f_X11_send_31
    exact okR h9
theorem T_X11_sent {Z : St → Prop} {σ0 : St} {M T S E A U Y L P N : Nat} (q : ZB Z σ0 M T S E A U Y L P N) {p0 : Int32} {s : St} (h : Z s) : Ok (fun _ s' => Z s') (f_X11_sent p0 s) := by
  have qM := q.b.hM
  have qT := q.b.hT
  have qS := q.b.S512
  have qE := q.b.hE
  have qA := q.b.hA
  have qU := q.b.hU
  have qY := q.b.hY
  have qA2 := q.b.A256
  have qU2 := q.b.U256
  unfold f_X11_sent
  refine okB (T_X10_hasSide q h) ?_
  intro r3 s1 h2
  refine okI (fun c4 => ?_) (fun c4 => ?_)
  ·
    unfold f_X11_sent_24
    exact okR h2
  ·
    refine okB (T_X3_sentSet q h2) ?_
    intro r7 s5 h6
    unfold f_X11_sent_24
    exact okR h6
/-! ===== the reference's questions come to an end ===== -/
abbrev SRf : List Nat := [58, 65, 66, 67]
def ZQ (Z : St → Prop) (σ0 : St) : Prop := (∀ s, Z s → Fr SRf σ0 s) ∧ (∀ s i f, Z s → (i = 65 ∨ i = 66 ∨ i = 67) → Z (sR s i f)) ∧ ∀ s c v, Z s → 14 ≤ c → Z (sf s 58 c v)
def QB (Z : St → Prop) (σ0 : St) (M T S E A U Y L P N : Nat) : Prop := ZQ Z σ0 ∧ BB σ0 M T S E A U Y L P N ∧ WR σ0 1 (gr σ0 59)
theorem QB.b {Z : St → Prop} {σ0 : St} {M T S E A U Y L P N : Nat} (q : QB Z σ0 M T S E A U Y L P N) : BB σ0 M T S E A U Y L P N := q.2.1
theorem QB.fr {Z : St → Prop} {σ0 : St} {M T S E A U Y L P N : Nat} (q : QB Z σ0 M T S E A U Y L P N) {s : St} (h : Z s) : Fr SRf σ0 s := q.1.1 s h
theorem QB.g59 {Z : St → Prop} {σ0 : St} {M T S E A U Y L P N : Nat} (q : QB Z σ0 M T S E A U Y L P N) {s : St} (h : Z s) : gr s 59 = gr σ0 59 := ((q.fr h).1 59 (by decide)).2.1
theorem QB.at' {Z : St → Prop} {σ0 : St} {M T S E A U Y L P N : Nat} (q : QB Z σ0 M T S E A U Y L P N) {s : St} (h : Z s) : BB s M T S E A U Y L P N := by
  have hf := q.fr h
  obtain ⟨a1, a2, a3, a4, a5, a6, a7, a8, a9, a10, b0, b1, b2', b3, b4, b5, b6, b7, b8, c1, c2, c3, c4, c5, c6, c7, c8, c9⟩ := q.b
  have g1 := (hf.1 1 (by decide)).1
  have g59 := (hf.1 59 (by decide)).2.1
  exact ⟨a1, a2, a3, a4, a5, a6, a7, a8, a9, a10, by rw [g1]; exact b0, by rw [g1]; exact b1, by rw [g1]; exact b2', by rw [g1]; exact b3, by rw [(hf.1 3 (by decide)).1]; exact b4, by rw [(hf.1 5 (by decide)).1]; exact b5, by rw [(hf.1 7 (by decide)).1]; exact b6, by rw [(hf.1 9 (by decide)).1]; exact b7, by rw [(hf.1 11 (by decide)).1]; exact b8, by rw [g59]; exact c1, by rw [g59]; exact c2, by rw [g59]; exact c3, by rw [g59]; exact c4, by rw [g59]; exact c5, by rw [g59]; exact c6, by rw [g59]; exact c7, by rw [g59]; exact c8, by rw [g59]; exact c9⟩
theorem Q_X12_allTrains {Z : St → Prop} {σ0 : St} {M T S E A U Y L P N : Nat} (q : QB Z σ0 M T S E A U Y L P N) {s : St} (h : Z s) : f_X12_allTrains s = some (nI (S - 1), s) := by
  have hb := q.at' h
  have h5 := hb.S512
  unfold f_X12_allTrains
  rw [show inb (4 : Int32) (ln 59) = true from rfl, gd_tt, c64_4, hb.mT, nI_shl (by have := hb.hT; omega), ← hb.hS]
  obtain ⟨k, rfl⟩ : ∃ k, S = k + 1 := ⟨S - 1, by omega⟩
  rw [nI_pred, Nat.add_sub_cancel]
theorem Q_X12_allReadings {Z : St → Prop} {σ0 : St} {M T S E A U Y L P N : Nat} (q : QB Z σ0 M T S E A U Y L P N) {s : St} (h : Z s) : f_X12_allReadings s = some (nI (2 ^ (2 * U)), s) := by
  have hb := q.at' h
  unfold f_X12_allReadings
  rw [show inb (7 : Int32) (ln 59) = true from rfl, gd_tt, c64_7, hb.mU, show (2 : Int32) = nI 2 from rfl, nI_mul, nI_shl (by have := hb.hU; omega)]
/-- a side -/
def SD (p : Int32) : Prop := p = 0 ∨ p = 1
theorem inb_sd {p : Int32} (h : SD p) : inb ((11 : Int32) + p) (ln 59) = true := by
  rcases h with rfl | rfl
  · rfl
  · rfl
theorem sd_of {p : Int32} (h : (0 : Int64).toInt ≤ p.toInt64.toInt ∧ p.toInt64.toInt ≤ (1 : Int64).toInt) : SD p := by
  have z0 : (0 : Int64).toInt = 0 := rfl
  have z1 : (1 : Int64).toInt = 1 := rfl
  rw [Int32.toInt_toInt64] at h
  obtain ⟨j, hj, rfl⟩ := nI_ofT (x := p) (n := 1) (by omega) (by omega)
  rcases (by omega : j = 0 ∨ j = 1) with rfl | rfl
  · exact Or.inl rfl
  · exact Or.inr rfl
theorem T_X12_in {Z : St → Prop} {σ0 : St} {M T S E A U Y L P N : Nat} (q : QB Z σ0 M T S E A U Y L P N) {p0 p1 p2 : Int64} {s : St} (h : Z s) : Ok (fun _ s' => Z s') (f_X12_in p0 p1 p2 s) := by
  rw [S_in]; exact okR h
theorem T_X12_isWar {Z : St → Prop} {σ0 : St} {M T S E A U Y L P N : Nat} (q : QB Z σ0 M T S E A U Y L P N) {s : St} (h : Z s) : Ok (fun _ s' => Z s') (f_X12_isWar s) := by
  unfold f_X12_isWar f_X12_isWar_15
  refine okD rfl (okI (fun _ => okD rfl (okR h)) (fun _ => okD rfl (okR h)))
theorem T_X12_isSideR {Z : St → Prop} {σ0 : St} {M T S E A U Y L P N : Nat} (q : QB Z σ0 M T S E A U Y L P N) {p0 : Int32} {s : St} (h : Z s) : Ok (fun r s' => Z s' ∧ (r = 0 ∨ SD p0)) (f_X12_isSide p0 s) := by
  unfold f_X12_isSide f_X12_isSide_21 f_X12_isSide_22
  refine okB (T_X12_isWar q h) ?_
  intro r1 s1 h1
  refine okI (fun _ => okD rfl (okR ⟨h1, Or.inl rfl⟩)) (fun _ => ?_)
  rw [S_in, bd_mk]
  refine okI (fun _ => okD rfl (okR ⟨h1, Or.inl rfl⟩)) (fun c => okD rfl (okR ⟨h1, Or.inr (sd_of ?_)⟩))
  rw [b2_0] at c
  exact Decidable.not_not.mp c
theorem T_X12_isTrainR {Z : St → Prop} {σ0 : St} {M T S E A U Y L P N : Nat} (q : QB Z σ0 M T S E A U Y L P N) {p0 : Int32} {s : St} (h : Z s) : Ok (fun r s' => Z s' ∧ (r = 0 ∨ ∃ t, t < 9 ∧ p0 = nI t)) (f_X12_isTrain p0 s) := by
  have qT := q.b.hT
  unfold f_X12_isTrain
  refine okD rfl ?_
  rw [S_in, bd_mk]
  refine okD bz_b2 (okR ⟨h, ?_⟩)
  by_cases c : b2 ((0 : Int64).toInt ≤ p0.toInt64.toInt ∧ p0.toInt64.toInt ≤ (gr s 59 (4 : Int32).toNatClampNeg - 1).toInt64.toInt) = 0
  · exact Or.inl c
  · rw [b2_0] at c
    replace c := Decidable.not_not.mp c
    have z0 : (0 : Int64).toInt = 0 := rfl
    rw [Int32.toInt_toInt64, Int32.toInt_toInt64, c64_4, (q.at' h).mT] at c
    rcases T with _ | T
    · have : (nI 0 - 1).toInt = -1 := rfl
      omega
    · rw [nI_pred, nI_toInt (by omega)] at c
      obtain ⟨j, hj, rfl⟩ := nI_ofT (x := p0) (n := T) (by omega) (by omega)
      exact Or.inr ⟨j, by omega, rfl⟩
theorem T_X12_isAny {Z : St → Prop} {σ0 : St} {M T S E A U Y L P N : Nat} (q : QB Z σ0 M T S E A U Y L P N) {p0 : Int32} {s : St} (h : Z s) : Ok (fun _ s' => Z s') (f_X12_isAny p0 s) := by
  unfold f_X12_isAny
  rw [S_in, bd_mk]
  exact okD bz_b2 (okR h)
theorem T_X12_isPrice {Z : St → Prop} {σ0 : St} {M T S E A U Y L P N : Nat} (q : QB Z σ0 M T S E A U Y L P N) {p0 : Int32} {s : St} (h : Z s) : Ok (fun _ s' => Z s') (f_X12_isPrice p0 s) := by
  unfold f_X12_isPrice
  rw [S_in, bd_mk]
  exact okD bz_b2 (okR h)
theorem T_X12_of {Z : St → Prop} {σ0 : St} {M T S E A U Y L P N : Nat} (q : QB Z σ0 M T S E A U Y L P N) {i j : Nat} {s : St} (h : Z s) (hi : i < 9) (hj : j < 6) : Ok (fun _ s' => Z s') (f_X12_of (nI i) (nI j) s) := by
  unfold f_X12_of
  refine okD ?_ (okR h)
  simp only [zL13, zL6, nI_add, nI_mul]
  exact inb_ln (n := 240) rfl (by omega) (by omega)
theorem S_X12_ofAsk {i j : Nat} (s : St) (hi : i < 8) (hj : j < 4) : f_X12_ofAsk (nI i) (nI j) s = some (gr s 59 (75 + 4 * i + j), s) := by
  unfold f_X12_ofAsk
  simp only [zL75, zL4, nI_add, nI_mul]
  rw [inb_ln (n := 240) rfl (by omega) (by omega), gd_tt, nI_clamp (by omega)]
theorem T_X12_ofAsk {Z : St → Prop} {σ0 : St} {M T S E A U Y L P N : Nat} (q : QB Z σ0 M T S E A U Y L P N) {i j : Nat} {s : St} (h : Z s) (hi : i < 8) (hj : j < 4) : Ok (fun _ s' => Z s') (f_X12_ofAsk (nI i) (nI j) s) := by
  rw [S_X12_ofAsk s hi hj]; exact okR h
theorem T_X12_trainsOfR {Z : St → Prop} {σ0 : St} {M T S E A U Y L P N : Nat} (q : QB Z σ0 M T S E A U Y L P N) {p0 : Int32} {s : St} (h : Z s) : Ok (fun r s' => Z s' ∧ ∃ k, k < 512 ∧ r = nI k) (f_X12_trainsOf p0 s) := by
  have qT := q.b.hT
  unfold f_X12_trainsOf
  refine okC (fun (i : Nat) (x : Int32 × Int32 × Int32 × St) => x.2.2.1 = nI i ∧ (∃ k, k < 512 ∧ x.2.1 = nI k) ∧ Z x.2.2.2) T ?_ (i := 0) (by unfold FU; omega) (by omega) ⟨rfl, ⟨0, by omega, rfl⟩, h⟩
  rintro i ⟨v1, v2, v3, s2⟩ K hi ⟨hv, ⟨k, hk, hw⟩, h2⟩ hK
  dsimp only at hv hw h2
  subst hv hw
  unfold g_X12_trainsOf_4
  dsimp only
  refine okD rfl ?_
  refine okI (fun _ => okR ⟨h2, k, hk, rfl⟩) (fun c => ?_)
  replace c : i < T := cnt_le (q.at' h2).mT (by omega) c hi
  refine okB (T_X12_of q h2 (j := 0) (by omega) (by omega)) ?_
  intro r3 s3 h3
  unfold f_X12_trainsOf_32
  refine okI (fun _ => ?_) (fun _ => ?_)
  · refine okN (okN ?_)
    refine hK _ c ⟨nI_1 _, ⟨k ||| 2 ^ i, or_512 hk (two_512 (by omega)), ?_⟩, h3⟩
    show nI k ||| ((1 : Int32) <<< (nI i &&& 31)) = _
    rw [nI_sh1 i (by omega), nI_or]
  · refine okN (okN ?_)
    refine hK _ c ⟨nI_1 _, ⟨k, hk, ?_⟩, h3⟩
    show nI k ||| nI 0 = nI k
    rw [nI_or, Nat.or_zero]
theorem T_X12_trainsOf {Z : St → Prop} {σ0 : St} {M T S E A U Y L P N : Nat} (q : QB Z σ0 M T S E A U Y L P N) {p0 : Int32} {s : St} (h : Z s) : Ok (fun _ s' => Z s') (f_X12_trainsOf p0 s) := okW (T_X12_trainsOfR q h) (fun _ _ z => z.1)
/-! a divisor: Euclid's steps halve -/
theorem i64_rem (a b : Int64) : (a - a / b * b).toInt = a.toInt.tmod b.toInt := by
  rw [Int64.toInt_sub, Int64.toInt_mul, Int64.toInt_div, Int.bmod_mul_bmod, Int.sub_bmod_bmod]
  have e : a.toInt - a.toInt.tdiv b.toInt * b.toInt = a.toInt.tmod b.toInt := by
    rw [Int.tmod_def, Int.mul_comm]
  rw [e]
  have h1 := Int.natAbs_tmod a.toInt b.toInt
  have h2 : a.toInt.natAbs % b.toInt.natAbs ≤ a.toInt.natAbs := Nat.mod_le _ _
  have h3 := a.toInt_lt
  have h4 := a.le_toInt
  by_cases c : a.toInt.tmod b.toInt = 2 ^ 63
  · exfalso
    have h5 := b.toInt_lt
    have h6 := b.le_toInt
    by_cases hb : b.toInt = 0
    · rw [hb, Int.tmod_zero] at c
      omega
    · have h7 := Nat.mod_lt a.toInt.natAbs (show 0 < b.toInt.natAbs by omega)
      omega
  · apply Int.bmod_eq_of_le
    · omega
    · omega
def eum (a b : Nat) : Nat := (if a < b then 1 else 0) + (if b = 0 then 0 else 1 + Nat.log2 (a * b))
theorem log2_half {x y : Nat} (hx : x ≠ 0) (h : 2 * x ≤ y) : Nat.log2 x < Nat.log2 y := by
  rcases Nat.lt_or_ge (Nat.log2 x) (Nat.log2 y) with g | g
  · exact g
  · exfalso
    have h1 := Nat.lt_log2_self (n := y)
    have h2 := Nat.log2_self_le hx
    have h3 : 2 ^ (Nat.log2 y + 1) ≤ 2 ^ (Nat.log2 x + 1) := Nat.pow_le_pow_right (by decide) (by omega)
    rw [Nat.pow_succ] at h3
    rw [Nat.pow_succ 2 (Nat.log2 x)] at h3
    rw [Nat.pow_succ] at h1
    omega
theorem eum_lt {a b : Nat} (hb : b ≠ 0) : eum b (a % b) < eum a b := by
  unfold eum
  rw [if_neg hb, if_neg (show ¬ b < a % b from by have := Nat.mod_lt a (Nat.pos_of_ne_zero hb); omega)]
  by_cases c : a < b
  · rw [if_pos c, Nat.mod_eq_of_lt c]
    by_cases c2 : a = 0
    · rw [if_pos c2]; omega
    · rw [if_neg c2, Nat.mul_comm b a]; omega
  · rw [if_neg c]
    by_cases c2 : a % b = 0
    · rw [if_pos c2]; omega
    · rw [if_neg c2]
      have h1 := Nat.mod_lt a (Nat.pos_of_ne_zero hb)
      have h2 := Nat.div_add_mod a b
      have h3 : b * 1 ≤ b * (a / b) := Nat.mul_le_mul_left b (Nat.div_pos (by omega) (Nat.pos_of_ne_zero hb))
      have h4 : 2 * (a % b) ≤ a := by omega
      have h5 : 2 * (b * (a % b)) ≤ a * b := by
        calc 2 * (b * (a % b)) = b * (2 * (a % b)) := by rw [Nat.mul_left_comm]
          _ ≤ b * a := Nat.mul_le_mul_left b h4
          _ = a * b := Nat.mul_comm b a
      have h6 := log2_half (x := b * (a % b)) (by
        intro e
        rcases Nat.mul_eq_zero.mp e with g | g
        · exact hb g
        · exact c2 g) h5
      omega
theorem eum_le {a b : Nat} (ha : a ≤ 2 ^ 63) (hb : b ≤ 2 ^ 63) : eum a b ≤ 200 := by
  have h1 : a * b ≤ 2 ^ 63 * 2 ^ 63 := Nat.mul_le_mul ha hb
  have h2 : Nat.log2 (a * b) ≤ 127 := by
    by_cases c : a * b = 0
    · rw [c]; decide
    · have := (Nat.log2_lt (k := 127) c).mpr (by omega)
      omega
  unfold eum
  by_cases c1 : a < b
  · rw [if_pos c1]
    by_cases c2 : b = 0
    · rw [if_pos c2]; omega
    · rw [if_neg c2]; omega
  · rw [if_neg c1]
    by_cases c2 : b = 0
    · rw [if_pos c2]; omega
    · rw [if_neg c2]; omega
theorem na64 (a : Int64) : a.toInt.natAbs ≤ 2 ^ 63 := by
  have h3 := a.toInt_lt
  have h4 := a.le_toInt
  omega
theorem cmp0 {v : Int64} (h : ¬ lg_cmp v 0 = 0) : v ≠ 0 := by
  rintro rfl
  exact h (by decide)
theorem cmp0' {v : Int64} (h : lg_cmp v 0 = 0) : v = 0 := by
  have z0 : (0 : Int64).toInt = 0 := rfl
  apply Int64.toInt_inj.mp
  rcases Int.lt_trichotomy v.toInt (0 : Int64).toInt with g | g | g
  · have := (lcmp_lt (x := v) (y := 0)).mpr g
    rw [h] at this
    exact absurd this (by decide)
  · exact g
  · have := (lcmp_gt (x := v) (y := 0)).mpr g
    rw [h] at this
    exact absurd this (by decide)
theorem na0 {v : Int64} (h : v ≠ 0) : v.toInt.natAbs ≠ 0 := by
  intro e
  apply h
  apply Int64.toInt_inj.mp
  have z0 : (0 : Int64).toInt = 0 := rfl
  omega
theorem T_X12_divisor {Z : St → Prop} {σ0 : St} {M T S E A U Y L P N : Nat} (q : QB Z σ0 M T S E A U Y L P N) {p0 p1 : Int64} {s : St} (h : Z s) (hp : p1 ≠ 0) : Ok (fun r s' => Z s' ∧ r ≠ 0) (f_X12_divisor p0 p1 s) := by
  unfold f_X12_divisor
  refine okM (fun (x : Int64 × Int64 × St) => (x.1 ≠ 0 ∨ x.2.1 ≠ 0) ∧ Z x.2.2) (fun x => eum x.1.toInt.natAbs x.2.1.toInt.natAbs) ?_ (by have := eum_le (na64 p0) (na64 p1); unfold FU; dsimp only; omega) ⟨Or.inr hp, h⟩
  rintro ⟨a, b, s1⟩ K ⟨hab, h1⟩ hK
  dsimp only at hab h1 hK
  unfold g_X12_divisor_6
  dsimp only
  refine okI (fun c => ?_) (fun c => ?_)
  · have := cmp0' c
    exact okR ⟨h1, hab.resolve_right (fun g => g this)⟩
  · refine okD (ndz c) (okN ?_)
    refine hK (b, a - a / b * b, s1) ⟨Or.inl (cmp0 c), h1⟩ ?_
    dsimp only
    rw [i64_rem, Int.natAbs_tmod]
    exact eum_lt (na0 (cmp0 c))
theorem T_X12_part {Z : St → Prop} {σ0 : St} {M T S E A U Y L P N : Nat} (q : QB Z σ0 M T S E A U Y L P N) {p0 p1 : Int64} {p2 : Int32} {s : St} (h : Z s) (hp : p1 ≠ 0) : Ok (fun _ s' => Z s') (f_X12_part p0 p1 p2 s) := by
  have key : ∀ k0, Ok (fun _ s' => Z s') (f_X12_part_10 p0 p1 k0 s) := by
    intro k0
    unfold f_X12_part_10
    refine okB (T_X12_divisor q h hp) ?_
    rintro r1 s1 ⟨h1, hr⟩
    refine okD ?_ (okR h1)
    rw [Bool.not_eq_true', decide_eq_false_iff_not]
    exact hr
  unfold f_X12_part
  exact okI (fun _ => key _) (fun _ => key _)
theorem pow100 : ∀ i, i ≤ 9 → Int64.ofNat (100 ^ i) ≠ 0 := by decide +kernel
theorem pow100s (i : Nat) : Int64.ofNat (100 ^ i) * 100 = Int64.ofNat (100 ^ (i + 1)) := by
  rw [Nat.pow_succ, Int64.ofNat_mul]
  rfl
theorem T_X12_allOftenR {Z : St → Prop} {σ0 : St} {M T S E A U Y L P N : Nat} (q : QB Z σ0 M T S E A U Y L P N) {s : St} (h : Z s) : Ok (fun r s' => Z s' ∧ r ≠ 0) (f_X12_allOften s) := by
  have qT := q.b.hT
  unfold f_X12_allOften
  refine okC (fun (i : Nat) (x : Int64 × Int32 × St) => x.2.1 = nI i ∧ x.1 = Int64.ofNat (100 ^ i) ∧ Z x.2.2) T ?_ (i := 0) (by unfold FU; omega) (by omega) ⟨rfl, rfl, h⟩
  rintro i ⟨v1, v2, s2⟩ K hi ⟨hv, hw, h2⟩ hK
  dsimp only at hv hw h2
  subst hv hw
  unfold g_X12_allOften_4
  dsimp only
  refine okD rfl ?_
  refine okI (fun _ => okR ⟨h2, pow100 i (by omega)⟩) (fun c => ?_)
  replace c : i < T := cnt_le (q.at' h2).mT (by omega) c hi
  exact hK _ c ⟨nI_1 _, pow100s i, h2⟩
theorem T_X12_allOften {Z : St → Prop} {σ0 : St} {M T S E A U Y L P N : Nat} (q : QB Z σ0 M T S E A U Y L P N) {s : St} (h : Z s) : Ok (fun _ s' => Z s') (f_X12_allOften s) := okW (T_X12_allOftenR q h) (fun _ _ z => z.1)
theorem inb_xs {a t k : Nat} (hl : ln k = 512) (ha : a < 512) (ht : t < 9) : inb (nI a ^^^ ((1 : Int32) <<< (nI t &&& 31))) (ln k) = true := by
  rw [nI_sh1 t (by omega)]
  exact inb_xor hl ha (two_512 ht)
theorem inb_or {a b k : Nat} (hl : ln k = 512) (ha : a < 512) (hb : b < 512) : inb (nI a ||| nI b) (ln k) = true := by
  rw [nI_or]
  exact inb_ln hl (or_512 ha hb) (by omega)
theorem in_nI {p : Int32} {lo hi : Int64} {n : Nat} (c : ¬ b2 (lo.toInt ≤ p.toInt64.toInt ∧ p.toInt64.toInt ≤ hi.toInt) = 0) (h0 : 0 ≤ lo.toInt) (h1 : hi.toInt ≤ n) : ∃ j : Nat, j ≤ n ∧ lo.toInt ≤ j ∧ (j : Int) ≤ hi.toInt ∧ p = nI j := by
  rw [b2_0] at c
  replace c := Decidable.not_not.mp c
  rw [Int32.toInt_toInt64] at c
  obtain ⟨j, hj, rfl⟩ := nI_ofT (x := p) (n := n) (by omega) (by omega)
  by_cases hn : j < 2 ^ 31
  · rw [nI_toInt hn] at c
    exact ⟨j, hj, by omega, by omega, rfl⟩
  · have h2 := (nI j).toInt_lt
    have h3 : (nI j).toInt.toNat < 2 ^ 31 := by omega
    refine ⟨(nI j).toInt.toNat, by omega, by omega, by omega, ?_⟩
    apply Int32.toInt_inj.mp
    rw [nI_toInt h3]
    omega
theorem pred_toInt {x : Int32} {k : Nat} (hx : x = nI k) (hk : k ≤ 1000) : (x - 1).toInt64.toInt = (k : Int) - 1 := by
  rw [Int32.toInt_toInt64, hx]
  rcases k with _ | k
  · rfl
  · rw [nI_pred, nI_toInt (by omega)]
    omega
theorem T_X12_train {Z : St → Prop} {σ0 : St} {M T S E A U Y L P N : Nat} (q : QB Z σ0 M T S E A U Y L P N) {p0 p1 : Int32} {s : St} (h : Z s) : Ok (fun _ s' => Z s') (f_X12_train p0 p1 s) := by
  unfold f_X12_train f_X12_train_29 f_X12_train_31
  refine okB (T_X12_isTrainR q h) ?_
  rintro r1 s1 ⟨h1, hr⟩
  refine okI (fun _ => okR h1) (fun c1 => ?_)
  obtain ⟨t, ht, rfl⟩ := hr.resolve_left c1
  rw [S_in, bd_mk]
  refine okI (fun _ => okR h1) (fun c2 => ?_)
  obtain ⟨j, hj, -, hj2, rfl⟩ := in_nI (n := 5) c2 (by decide) (by decide)
  refine okB (T_X12_of q h1 ht (by omega)) ?_
  intro r2 s2 h2
  exact okR h2
theorem T_X12_need {Z : St → Prop} {σ0 : St} {M T S E A U Y L P N : Nat} (q : QB Z σ0 M T S E A U Y L P N) {p0 : Int32} {s : St} (h : Z s) : Ok (fun _ s' => Z s') (f_X12_need p0 s) := by
  unfold f_X12_need f_X12_need_22
  refine okB (T_X12_isSideR q h) ?_
  rintro r1 s1 ⟨h1, hr⟩
  refine okI (fun _ => okR h1) (fun c1 => ?_)
  exact okD (inb_sd (hr.resolve_left c1)) (okR h1)
theorem T_X12_cannon {Z : St → Prop} {σ0 : St} {M T S E A U Y L P N : Nat} (q : QB Z σ0 M T S E A U Y L P N) {p0 p1 : Int32} {s : St} (h : Z s) : Ok (fun _ s' => Z s') (f_X12_cannon p0 p1 s) := by
  have qA := q.b.hA
  unfold f_X12_cannon f_X12_cannon_47 f_X12_cannon_49
  refine okD rfl ?_
  rw [S_in, bd_mk]
  refine okI (fun _ => okR h) (fun c1 => ?_)
  rw [S_in, bd_mk]
  refine okI (fun _ => okR h) (fun c2 => ?_)
  obtain ⟨i, hi, -, -, rfl⟩ := in_nI (n := 7) c1 (by decide) (by have e := pred_toInt (x := gr s 59 (6 : Int32).toNatClampNeg) (q.at' h).mA (by omega); omega)
  obtain ⟨j, hj, -, -, rfl⟩ := in_nI (n := 3) c2 (by decide) (by decide)
  refine okD ?_ (okR h)
  simp only [zL75, zL4, nI_add, nI_mul]
  exact inb_ln (n := 240) rfl (by omega) (by omega)
theorem T_X12_rule {Z : St → Prop} {σ0 : St} {M T S E A U Y L P N : Nat} (q : QB Z σ0 M T S E A U Y L P N) {p0 p1 : Int32} {s : St} (h : Z s) : Ok (fun _ s' => Z s') (f_X12_rule p0 p1 s) := by
  have qU := q.b.hU
  unfold f_X12_rule f_X12_rule_45 f_X12_rule_47
  refine okD rfl ?_
  rw [S_in, bd_mk]
  refine okI (fun _ => okR h) (fun c1 => ?_)
  rw [S_in, bd_mk]
  refine okI (fun _ => okR h) (fun c2 => ?_)
  obtain ⟨i, hi, -, -, rfl⟩ := in_nI (n := 3) c1 (by decide) (by have e := pred_toInt (x := gr s 59 (7 : Int32).toNatClampNeg) (q.at' h).mU (by omega); omega)
  obtain ⟨j, hj, -, -, rfl⟩ := in_nI (n := 1) c2 (by decide) (by decide)
  refine okD ?_ (okR h)
  simp only [zL107, zL2, nI_add, nI_mul]
  exact inb_ln (n := 240) rfl (by omega) (by omega)
theorem T_X12_spy {Z : St → Prop} {σ0 : St} {M T S E A U Y L P N : Nat} (q : QB Z σ0 M T S E A U Y L P N) {p0 : Int32} {s : St} (h : Z s) : Ok (fun _ s' => Z s') (f_X12_spy p0 s) := by
  have qY := q.b.hY
  unfold f_X12_spy f_X12_spy_33
  refine okD rfl ?_
  rw [S_in, bd_mk]
  refine okI (fun _ => okR h) (fun c1 => ?_)
  obtain ⟨i, hi, -, -, rfl⟩ := in_nI (n := 4) c1 (by decide) (by have e := pred_toInt (x := gr s 59 (8 : Int32).toNatClampNeg) (q.at' h).mY (by omega); omega)
  refine okD ?_ (okR h)
  simp only [zL115, nI_add]
  exact inb_ln (n := 240) rfl (by omega) (by omega)
/-! ===== questions of the reference ===== -/
theorem T_X12_bits {Z : St → Prop} {σ0 : St} {M T S E A U Y L P N : Nat} (q : QB Z σ0 M T S E A U Y L P N) {p0 : Int32} {s : St} (h : Z s) : Ok (fun _ s' => Z s') (f_X12_bits p0 s) := by
  have qM := q.b.hM
  have qT := q.b.hT
  have qS := q.b.S512
  have qE := q.b.hE
  have qA := q.b.hA
  have qU := q.b.hU
  have qY := q.b.hY
  have qA2 := q.b.A256
  have qU2 := q.b.U256
  unfold f_X12_bits
  refine okC (fun (i : Nat) (x : Int32 × Int32 × Int32 × St) => x.2.2.1 = nI i ∧ Z x.2.2.2) 12 ?_ (i := 0) (by unfold FU; omega) (by omega) ⟨rfl, h⟩
  rintro i1 ⟨v8, v9, v10, s6⟩ K2 hi3 ⟨hv5, h7⟩ hK4
  dsimp only at hv5 h7
  subst hv5
  unfold g_X12_bits_4
  dsimp only
  refine okI (fun _ => ?_) (fun c11 => ?_)
  ·
    exact okR h7
  ·
    replace c11 : i1 < 12 := cnt_le rfl (by omega) c11 hi3
    refine okN ?_
    refine okN ?_
    exact hK4 _ c11 ⟨nI_1 _, h7⟩
theorem T_X12_bit {Z : St → Prop} {σ0 : St} {M T S E A U Y L P N : Nat} (q : QB Z σ0 M T S E A U Y L P N) {p0 : Int32} {p1 : Int32} {s : St} (h : Z s) : Ok (fun _ s' => Z s') (f_X12_bit p0 p1 s) := by
  have qM := q.b.hM
  have qT := q.b.hT
  have qS := q.b.S512
  have qE := q.b.hE
  have qA := q.b.hA
  have qU := q.b.hU
  have qY := q.b.hY
  have qA2 := q.b.A256
  have qU2 := q.b.U256
  unfold f_X12_bit
  exact okR h
theorem T_X12_areTrains {Z : St → Prop} {σ0 : St} {M T S E A U Y L P N : Nat} (q : QB Z σ0 M T S E A U Y L P N) {p0 : Int32} {s : St} (h : Z s) : Ok (fun _ s' => Z s') (f_X12_areTrains p0 s) := by
  have qM := q.b.hM
  have qT := q.b.hT
  have qS := q.b.S512
  have qE := q.b.hE
  have qA := q.b.hA
  have qU := q.b.hU
  have qY := q.b.hY
  have qA2 := q.b.A256
  have qU2 := q.b.U256
  unfold f_X12_areTrains
  refine okB (T_X12_isWar q h) ?_
  intro r3 s1 h2
  refine okI (fun c4 => ?_) (fun c4 => ?_)
  ·
    unfold f_X12_areTrains_25
    unfold f_X12_areTrains_26
    refine okD rfl ?_
    exact okR h2
  ·
    rw [Q_X12_allTrains q h2, bd_mk]
    refine okB (T_X12_in q h2) ?_
    intro r7 s5 h6
    refine okI (fun c8 => ?_) (fun c8 => ?_)
    ·
      unfold f_X12_areTrains_25
      unfold f_X12_areTrains_26
      refine okD rfl ?_
      exact okR h6
    ·
      unfold f_X12_areTrains_26
      refine okD rfl ?_
      exact okR h6
theorem T_X12_priceOf {Z : St → Prop} {σ0 : St} {M T S E A U Y L P N : Nat} (q : QB Z σ0 M T S E A U Y L P N) {p0 : Int32} {s : St} (h : Z s) : Ok (fun _ s' => Z s') (f_X12_priceOf p0 s) := by
  have qM := q.b.hM
  have qT := q.b.hT
  have qS := q.b.S512
  have qE := q.b.hE
  have qA := q.b.hA
  have qU := q.b.hU
  have qY := q.b.hY
  have qA2 := q.b.A256
  have qU2 := q.b.U256
  unfold f_X12_priceOf
  refine okC (fun (i : Nat) (x : Int32 × Int32 × Int32 × St) => x.2.2.1 = nI i ∧ Z x.2.2.2) T ?_ (i := 0) (by unfold FU; omega) (by omega) ⟨rfl, h⟩
  rintro i1 ⟨v8, v9, v10, s6⟩ K2 hi3 ⟨hv5, h7⟩ hK4
  dsimp only at hv5 h7
  subst hv5
  unfold g_X12_priceOf_4
  dsimp only
  refine okD rfl ?_
  refine okI (fun _ => ?_) (fun c11 => ?_)
  ·
    exact okR h7
  ·
    replace c11 : i1 < T := cnt_le (q.at' h7).mT (by omega) c11 hi3
    refine okB (T_X12_bit q h7) ?_
    intro r14 s12 h13
    refine okB (T_X12_of q h13 (j := 5) (by omega) (by omega)) ?_
    intro r17 s15 h16
    refine okN ?_
    refine okN ?_
    exact hK4 _ c11 ⟨nI_1 _, h16⟩
theorem T_X12_isTea {Z : St → Prop} {σ0 : St} {M T S E A U Y L P N : Nat} (q : QB Z σ0 M T S E A U Y L P N) {p0 : Int32} {s : St} (h : Z s) : Ok (fun _ s' => Z s') (f_X12_isTea p0 s) := by
  have qM := q.b.hM
  have qT := q.b.hT
  have qS := q.b.S512
  have qE := q.b.hE
  have qA := q.b.hA
  have qU := q.b.hU
  have qY := q.b.hY
  have qA2 := q.b.A256
  have qU2 := q.b.U256
  unfold f_X12_isTea
  refine okC (fun (i : Nat) (x : Int32 × Int32 × St) => x.2.1 = nI i ∧ Z x.2.2) E ?_ (i := 0) (by unfold FU; omega) (by omega) ⟨rfl, h⟩
  rintro i1 ⟨v8, v9, s6⟩ K2 hi3 ⟨hv5, h7⟩ hK4
  dsimp only at hv5 h7
  subst hv5
  unfold g_X12_isTea_2
  dsimp only
  refine okD rfl ?_
  refine okI (fun _ => ?_) (fun c10 => ?_)
  ·
    refine okD rfl ?_
    exact okR h7
  ·
    replace c10 : i1 < E := cnt_le (q.at' h7).mE (by omega) c10 hi3
    refine okD (by simp only [zL1, zL2, zL4, zL6, zL11, zL13, zL67, zL75, zL107, zL115, nI_add, nI_mul]; exact inb_ln (n := 240) rfl (by omega) (by omega)) ?_
    refine okD (by simp only [zL1, zL2, zL4, zL6, zL11, zL13, zL67, zL75, zL107, zL115, nI_add, nI_mul]; exact inb_ln (n := 240) rfl (by omega) (by omega)) ?_
    refine okB (T_X12_in q h7) ?_
    intro r13 s11 h12
    refine okI (fun c14 => ?_) (fun c14 => ?_)
    ·
      refine okN ?_
      exact hK4 _ c10 ⟨nI_1 _, h12⟩
    ·
      refine okD rfl ?_
      exact okR h12
theorem T_X12_tea {Z : St → Prop} {σ0 : St} {M T S E A U Y L P N : Nat} (q : QB Z σ0 M T S E A U Y L P N) {p0 : Int32} {s : St} (h : Z s) : Ok (fun _ s' => Z s') (f_X12_tea p0 s) := by
  have qM := q.b.hM
  have qT := q.b.hT
  have qS := q.b.S512
  have qE := q.b.hE
  have qA := q.b.hA
  have qU := q.b.hU
  have qY := q.b.hY
  have qA2 := q.b.A256
  have qU2 := q.b.U256
  unfold f_X12_tea
  refine okB (T_X12_isWar q h) ?_
  intro r3 s1 h2
  refine okI (fun c4 => ?_) (fun c4 => ?_)
  ·
    unfold f_X12_tea_41
    unfold f_X12_tea_43
    exact okR h2
  ·
    refine okD rfl ?_
    refine okB (T_X12_in q h2) ?_
    intro r7 s5 h6
    refine okI (fun c8 => ?_) (fun c8 => ?_)
    ·
      unfold f_X12_tea_41
      unfold f_X12_tea_43
      exact okR h6
    ·
      refine okB (T_X12_isTea q h6) ?_
      intro r11 s9 h10
      refine okI (fun c12 => ?_) (fun c12 => ?_)
      ·
        unfold f_X12_tea_43
        exact okR h10
      ·
        unfold f_X12_tea_43
        exact okR h10
theorem T_X12_comesAt {Z : St → Prop} {σ0 : St} {M T S E A U Y L P N : Nat} (q : QB Z σ0 M T S E A U Y L P N) {t : Nat} {p1 : Int32} {s : St} (h : Z s) (ht : t < 9) : Ok (fun _ s' => Z s') (f_X12_comesAt (nI t) p1 s) := by
  have qM := q.b.hM
  have qT := q.b.hT
  have qS := q.b.S512
  have qE := q.b.hE
  have qA := q.b.hA
  have qU := q.b.hU
  have qY := q.b.hY
  have qA2 := q.b.A256
  have qU2 := q.b.U256
  unfold f_X12_comesAt
  refine okB (T_X12_of q h (j := 2) (by omega) (by omega)) ?_
  intro r3 s1 h2
  refine okB (T_X12_bit q h2) ?_
  intro r6 s4 h5
  refine okB (T_X12_of q h5 (j := 4) (by omega) (by omega)) ?_
  intro r9 s7 h8
  exact okR h8
theorem T_X12_menOf {Z : St → Prop} {σ0 : St} {M T S E A U Y L P N : Nat} (q : QB Z σ0 M T S E A U Y L P N) {p0 : Int32} {p1 : Int32} {p2 : Int32} {s : St} (h : Z s) : Ok (fun _ s' => Z s') (f_X12_menOf p0 p1 p2 s) := by
  have qM := q.b.hM
  have qT := q.b.hT
  have qS := q.b.S512
  have qE := q.b.hE
  have qA := q.b.hA
  have qU := q.b.hU
  have qY := q.b.hY
  have qA2 := q.b.A256
  have qU2 := q.b.U256
  unfold f_X12_menOf
  refine okC (fun (i : Nat) (x : Int32 × Int32 × Int32 × Int32 × Int32 × St) => x.2.2.2.2.1 = nI i ∧ Z x.2.2.2.2.2) T ?_ (i := 0) (by unfold FU; omega) (by omega) ⟨rfl, h⟩
  rintro i1 ⟨v8, v9, v10, v11, v12, s6⟩ K2 hi3 ⟨hv5, h7⟩ hK4
  dsimp only at hv5 h7
  subst hv5
  unfold g_X12_menOf_6
  dsimp only
  refine okD rfl ?_
  refine okI (fun _ => ?_) (fun c13 => ?_)
  ·
    exact okR h7
  ·
    replace c13 : i1 < T := cnt_le (q.at' h7).mT (by omega) c13 hi3
    refine okB (T_X12_of q h7 (j := 0) (by omega) (by omega)) ?_
    intro r16 s14 h15
    refine okI (fun c17 => ?_) (fun c17 => ?_)
    ·
      refine okB (T_X12_comesAt q h15 (by omega)) ?_
      intro r20 s18 h19
      refine okI (fun c21 => ?_) (fun c21 => ?_)
      ·
        unfold f_X12_menOf_51
        unfold f_X12_menOf_52
        refine okN ?_
        refine okN ?_
        exact hK4 _ c13 ⟨nI_1 _, h19⟩
      ·
        refine okB (T_X12_of q h19 (j := 1) (by omega) (by omega)) ?_
        intro r24 s22 h23
        unfold f_X12_menOf_52
        refine okN ?_
        refine okN ?_
        exact hK4 _ c13 ⟨nI_1 _, h23⟩
    ·
      unfold f_X12_menOf_51
      unfold f_X12_menOf_52
      refine okN ?_
      refine okN ?_
      exact hK4 _ c13 ⟨nI_1 _, h15⟩
theorem T_X12_frontOf {Z : St → Prop} {σ0 : St} {M T S E A U Y L P N : Nat} (q : QB Z σ0 M T S E A U Y L P N) {t : Nat} {p1 : Int32} {s : St} (h : Z s) (ht : t ≤ 60) : Ok (fun _ s' => Z s') (f_X12_frontOf (nI t) p1 s) := by
  unfold f_X12_frontOf
  refine okD rfl ?_
  refine okZ (Z := Z) (q.1.2.1 _ _ _ h (by decide)) (fun s0 h0 => ?_)
  refine okC (fun (i : Nat) (x : Int32 × Int32 × Int32 × St) => x.2.2.1 = nI i ∧ x.1 = nI t ∧ Z x.2.2.2) t ?_ (i := 0) (by unfold FU; omega) (by omega) ⟨rfl, rfl, h0⟩
  rintro i ⟨v1, v2, v3, s2⟩ K hi ⟨hv, hw, h2⟩ hK
  dsimp only at hv hw h2
  subst hv hw
  unfold g_X12_frontOf_9
  dsimp only
  refine okI (fun _ => okD (inb_ln (n := 61) rfl (by omega) (by omega)) (okR h2)) (fun c => ?_)
  replace c : i < t := cnt_le rfl (by omega) c hi
  have key : ∀ (k0 : Int32) (s3 : St), Z s3 → Ok (fun _ s' => Z s') (f_X12_frontOf_41 K (nI t) v2 (nI i) k0 s3) := by
    intro k0 s3 h3
    have key2 : ∀ a b : Int32, Ok (fun _ s' => Z s') (f_X12_frontOf_75 K (nI t) v2 (nI i) a b (nI i + 1) s3) := by
      intro a b
      unfold f_X12_frontOf_75
      rw [nI_1]
      refine okD (inb_ln (n := 61) rfl (by omega) (by omega)) ?_
      refine okZ (Z := Z) (q.1.2.1 _ _ _ h3 (by decide)) (fun s4 h4 => ?_)
      exact hK _ c ⟨rfl, rfl, h4⟩
    unfold f_X12_frontOf_41
    refine okD (inb_ln (n := 61) rfl (by omega) (by omega)) ?_
    exact okI (fun _ => okI (fun _ => key2 _ _) (fun _ => key2 _ _)) (fun _ => key2 _ _)
  refine okB (T_X12_isTea q h2) ?_
  intro r3 s3 h3
  refine okI (fun _ => ?_) (fun _ => key _ _ h3)
  refine okB (T_X12_menOf q h3) ?_
  intro r4 s4 h4
  refine okB (T_X12_menOf q h4) ?_
  intro r5 s5 h5
  exact key _ _ h5
theorem T_X12_lastFront {Z : St → Prop} {σ0 : St} {M T S E A U Y L P N : Nat} (q : QB Z σ0 M T S E A U Y L P N) {p0 : Int32} {s : St} (h : Z s) : Ok (fun _ s' => Z s') (f_X12_lastFront p0 s) := by
  unfold f_X12_lastFront
  refine okD rfl ?_
  rw [show gr s 59 (0 : Int32).toNatClampNeg = nI M from (q.at' h).mM]
  refine okB (T_X12_frontOf q h q.b.hM) ?_
  intro r1 s1 h1
  exact okR h1
theorem T_X12_goodBy {Z : St → Prop} {σ0 : St} {M T S E A U Y L P N : Nat} (q : QB Z σ0 M T S E A U Y L P N) {p0 : Int32} {p1 : Int32} {s : St} (h : Z s) : Ok (fun _ s' => Z s') (f_X12_goodBy p0 p1 s) := by
  have qM := q.b.hM
  have qT := q.b.hT
  have qS := q.b.S512
  have qE := q.b.hE
  have qA := q.b.hA
  have qU := q.b.hU
  have qY := q.b.hY
  have qA2 := q.b.A256
  have qU2 := q.b.U256
  unfold f_X12_goodBy
  refine okI (fun c1 => ?_) (fun c1 => ?_)
  ·
    try subst c1
    unfold f_X12_goodBy_10
    exact okR h
  ·
    unfold f_X12_goodBy_10
    exact okR h
theorem T_X12_isLate {Z : St → Prop} {σ0 : St} {M T S E A U Y L P N : Nat} (q : QB Z σ0 M T S E A U Y L P N) {p0 : Int32} {p1 : Int32} {s : St} (h : Z s) (hp : SD p0) : Ok (fun _ s' => Z s') (f_X12_isLate p0 p1 s) := by
  have qM := q.b.hM
  have qT := q.b.hT
  have qS := q.b.S512
  have qE := q.b.hE
  have qA := q.b.hA
  have qU := q.b.hU
  have qY := q.b.hY
  have qA2 := q.b.A256
  have qU2 := q.b.U256
  unfold f_X12_isLate
  refine okD rfl ?_
  refine okB (T_X12_menOf q h) ?_
  intro r3 s1 h2
  refine okD (inb_sd hp) ?_
  refine okI (fun c4 => ?_) (fun c4 => ?_)
  ·
    unfold f_X12_isLate_29
    refine okD rfl ?_
    exact okR h2
  ·
    unfold f_X12_isLate_29
    refine okD rfl ?_
    exact okR h2
theorem T_X12_winner {Z : St → Prop} {σ0 : St} {M T S E A U Y L P N : Nat} (q : QB Z σ0 M T S E A U Y L P N) {p0 : Int32} {s : St} (h : Z s) : Ok (fun _ s' => Z s') (f_X12_winner p0 s) := by
  have qM := q.b.hM
  have qT := q.b.hT
  have qS := q.b.S512
  have qE := q.b.hE
  have qA := q.b.hA
  have qU := q.b.hU
  have qY := q.b.hY
  have qA2 := q.b.A256
  have qU2 := q.b.U256
  unfold f_X12_winner
  refine okB (T_X12_isLate q h (Or.inl rfl)) ?_
  intro r3 s1 h2
  refine okB (T_X12_isLate q h2 (Or.inr rfl)) ?_
  intro r6 s4 h5
  refine okI (fun c7 => ?_) (fun c7 => ?_)
  ·
    refine okB (T_X12_lastFront q h5) ?_
    intro r10 s8 h9
    refine okI (fun c11 => ?_) (fun c11 => ?_)
    ·
      refine okI (fun c12 => ?_) (fun c12 => ?_)
      ·
        unfold f_X12_winner_55
        exact okR h9
      ·
        unfold f_X12_winner_55
        exact okR h9
    ·
      unfold f_X12_winner_55
      exact okR h9
  ·
    refine okI (fun c13 => ?_) (fun c13 => ?_)
    ·
      unfold f_X12_winner_28
      exact okR h5
    ·
      unfold f_X12_winner_28
      exact okR h5
theorem T_X12_men {Z : St → Prop} {σ0 : St} {M T S E A U Y L P N : Nat} (q : QB Z σ0 M T S E A U Y L P N) {p0 : Int32} {p1 : Int32} {p2 : Int32} {s : St} (h : Z s) : Ok (fun _ s' => Z s') (f_X12_men p0 p1 p2 s) := by
  have qM := q.b.hM
  have qT := q.b.hT
  have qS := q.b.S512
  have qE := q.b.hE
  have qA := q.b.hA
  have qU := q.b.hU
  have qY := q.b.hY
  have qA2 := q.b.A256
  have qU2 := q.b.U256
  unfold f_X12_men
  refine okB (T_X12_isSideR q h) ?_
  rintro r3 s1 ⟨h2, hq4⟩
  refine okI (fun c5 => ?_) (fun c5 => ?_)
  ·
    unfold f_X12_men_33
    unfold f_X12_men_35
    exact okR h2
  ·
    have hs6 := hq4.resolve_left c5
    refine okB (T_X12_isAny q h2) ?_
    intro r9 s7 h8
    refine okI (fun c10 => ?_) (fun c10 => ?_)
    ·
      unfold f_X12_men_33
      unfold f_X12_men_35
      exact okR h8
    ·
      refine okB (T_X12_areTrains q h8) ?_
      intro r13 s11 h12
      refine okI (fun c14 => ?_) (fun c14 => ?_)
      ·
        unfold f_X12_men_33
        unfold f_X12_men_35
        exact okR h12
      ·
        refine okB (T_X12_menOf q h12) ?_
        intro r17 s15 h16
        unfold f_X12_men_35
        exact okR h16
theorem T_X12_front {Z : St → Prop} {σ0 : St} {M T S E A U Y L P N : Nat} (q : QB Z σ0 M T S E A U Y L P N) {p0 p1 : Int32} {s : St} (h : Z s) : Ok (fun _ s' => Z s') (f_X12_front p0 p1 s) := by
  have qM := q.b.hM
  unfold f_X12_front f_X12_front_33 f_X12_front_36
  refine okB (T_X12_areTrains q h) ?_
  intro r1 s1 h1
  refine okI (fun _ => okR h1) (fun _ => okD rfl ?_)
  rw [S_in, bd_mk]
  refine okI (fun _ => okR h1) (fun c2 => ?_)
  obtain ⟨j, hj, -, -, rfl⟩ := in_nI (n := 60) c2 (by decide) (by rw [show gr s1 59 (0 : Int32).toNatClampNeg = nI M from (q.at' h1).mM, Int32.toInt_toInt64, nI_toInt (by omega)]; omega)
  refine okB (T_X12_frontOf q h1 hj) ?_
  intro r2 s2 h2
  exact okR h2
theorem T_X12_late {Z : St → Prop} {σ0 : St} {M T S E A U Y L P N : Nat} (q : QB Z σ0 M T S E A U Y L P N) {p0 : Int32} {s : St} (h : Z s) : Ok (fun _ s' => Z s') (f_X12_late p0 s) := by
  have qM := q.b.hM
  have qT := q.b.hT
  have qS := q.b.S512
  have qE := q.b.hE
  have qA := q.b.hA
  have qU := q.b.hU
  have qY := q.b.hY
  have qA2 := q.b.A256
  have qU2 := q.b.U256
  unfold f_X12_late
  refine okB (T_X12_areTrains q h) ?_
  intro r3 s1 h2
  refine okI (fun c4 => ?_) (fun c4 => ?_)
  ·
    unfold f_X12_late_42
    exact okR h2
  ·
    refine okB (T_X12_isLate q h2 (Or.inl rfl)) ?_
    intro r7 s5 h6
    refine okI (fun c8 => ?_) (fun c8 => ?_)
    ·
      unfold f_X12_late_22
      refine okB (T_X12_isLate q h6 (Or.inr rfl)) ?_
      intro r11 s9 h10
      refine okI (fun c12 => ?_) (fun c12 => ?_)
      ·
        unfold f_X12_late_36
        unfold f_X12_late_42
        exact okR h10
      ·
        unfold f_X12_late_36
        unfold f_X12_late_42
        exact okR h10
    ·
      unfold f_X12_late_22
      refine okB (T_X12_isLate q h6 (Or.inr rfl)) ?_
      intro r15 s13 h14
      refine okI (fun c16 => ?_) (fun c16 => ?_)
      ·
        unfold f_X12_late_36
        unfold f_X12_late_42
        exact okR h14
      ·
        unfold f_X12_late_36
        unfold f_X12_late_42
        exact okR h14
theorem T_X12_wins {Z : St → Prop} {σ0 : St} {M T S E A U Y L P N : Nat} (q : QB Z σ0 M T S E A U Y L P N) {p0 : Int32} {s : St} (h : Z s) : Ok (fun _ s' => Z s') (f_X12_wins p0 s) := by
  have qM := q.b.hM
  have qT := q.b.hT
  have qS := q.b.S512
  have qE := q.b.hE
  have qA := q.b.hA
  have qU := q.b.hU
  have qY := q.b.hY
  have qA2 := q.b.A256
  have qU2 := q.b.U256
  unfold f_X12_wins
  refine okB (T_X12_areTrains q h) ?_
  intro r3 s1 h2
  refine okI (fun c4 => ?_) (fun c4 => ?_)
  ·
    unfold f_X12_wins_18
    exact okR h2
  ·
    refine okB (T_X12_winner q h2) ?_
    intro r7 s5 h6
    unfold f_X12_wins_18
    exact okR h6
theorem T_X12_peak {Z : St → Prop} {σ0 : St} {M T S E A U Y L P N : Nat} (q : QB Z σ0 M T S E A U Y L P N) {p0 p1 : Int32} {s : St} (h : Z s) : Ok (fun _ s' => Z s') (f_X12_peak p0 p1 s) := by
  have qM := q.b.hM
  unfold f_X12_peak f_X12_peak_16
  refine okB (T_X12_isSideR q h) ?_
  rintro r1 s1 ⟨h1, -⟩
  refine okI (fun _ => okR h1) (fun _ => ?_)
  refine okB (T_X12_areTrains q h1) ?_
  intro r2 s2 h2
  refine okI (fun _ => okR h2) (fun _ => ?_)
  refine okB (T_X12_lastFront q h2) ?_
  intro r3 s3 h3
  refine okC (fun (i : Nat) (x : Int32 × Int32 × Int32 × St) => x.2.2.1 = nI i ∧ (∃ k, k ≤ 60 ∧ x.2.1 = nI k) ∧ Z x.2.2.2) (M + 1) ?_ (i := 1) (by unfold FU; omega) (by omega) ⟨rfl, ⟨0, by omega, rfl⟩, h3⟩
  rintro i ⟨v1, v2, v3, s4⟩ K hi ⟨hv, ⟨k, hk, hw⟩, h4⟩ hK
  dsimp only at hv hw h4
  subst hv hw
  unfold g_X12_peak_30
  dsimp only
  refine okD rfl ?_
  refine okI (fun _ => okR h4) (fun c => ?_)
  replace c : i < M + 1 := cnt_lt (q.at' h4).mM (by omega) c hi
  refine okD (inb_ln (n := 61) rfl (by omega) (by omega)) ?_
  refine okB (T_X12_goodBy q h4) ?_
  intro r5 s5 h5
  refine okD (inb_ln (n := 61) rfl (by omega) (by omega)) ?_
  refine okB (T_X12_goodBy q h5) ?_
  intro r6 s6 h6
  unfold f_X12_peak_71
  exact okI (fun _ => hK _ c ⟨nI_1 _, ⟨k, hk, rfl⟩, h6⟩) (fun _ => hK _ c ⟨nI_1 _, ⟨i, by omega, rfl⟩, h6⟩)
theorem T_X12_swings {Z : St → Prop} {σ0 : St} {M T S E A U Y L P N : Nat} (q : QB Z σ0 M T S E A U Y L P N) {p0 : Int32} {s : St} (h : Z s) : Ok (fun _ s' => Z s') (f_X12_swings p0 s) := by
  have qM := q.b.hM
  have qT := q.b.hT
  have qS := q.b.S512
  have qE := q.b.hE
  have qA := q.b.hA
  have qU := q.b.hU
  have qY := q.b.hY
  have qA2 := q.b.A256
  have qU2 := q.b.U256
  unfold f_X12_swings
  refine okB (T_X12_areTrains q h) ?_
  intro r3 s1 h2
  refine okI (fun c4 => ?_) (fun c4 => ?_)
  ·
    exact okR h2
  ·
    refine okB (T_X12_lastFront q h2) ?_
    intro r7 s5 h6
    refine okC (fun (i : Nat) (x : Int32 × Int32 × Int32 × St) => x.2.2.1 = nI i ∧ Z x.2.2.2) (M + 1) ?_ (i := 1) (by unfold FU; omega) (by omega) ⟨rfl, h6⟩
    rintro i8 ⟨v15, v16, v17, s13⟩ K9 hi10 ⟨hv12, h14⟩ hK11
    dsimp only at hv12 h14
    subst hv12
    unfold g_X12_swings_24
    dsimp only
    refine okD rfl ?_
    refine okI (fun _ => ?_) (fun c18 => ?_)
    ·
      exact okR h14
    ·
      replace c18 : i8 < M + 1 := cnt_lt (q.at' h14).mM (by omega) c18 hi10
      refine okD (inb_ln (n := 61) rfl (by omega) (by omega)) ?_
      refine okI (fun c19 => ?_) (fun c19 => ?_)
      ·
        refine okD (inb_ln (n := 61) rfl (by omega) (by omega)) ?_
        refine okI (fun c20 => ?_) (fun c20 => ?_)
        ·
          unfold f_X12_swings_64
          refine okI (fun c21 => ?_) (fun c21 => ?_)
          ·
            unfold f_X12_swings_95
            refine okN ?_
            exact hK11 _ c18 ⟨nI_1 _, h14⟩
          ·
            refine okI (fun c22 => ?_) (fun c22 => ?_)
            ·
              unfold f_X12_swings_89
              unfold f_X12_swings_90
              refine okN ?_
              unfold f_X12_swings_95
              refine okN ?_
              exact hK11 _ c18 ⟨nI_1 _, h14⟩
            ·
              refine okI (fun c23 => ?_) (fun c23 => ?_)
              ·
                unfold f_X12_swings_89
                unfold f_X12_swings_90
                refine okN ?_
                unfold f_X12_swings_95
                refine okN ?_
                exact hK11 _ c18 ⟨nI_1 _, h14⟩
              ·
                unfold f_X12_swings_90
                refine okN ?_
                unfold f_X12_swings_95
                refine okN ?_
                exact hK11 _ c18 ⟨nI_1 _, h14⟩
        ·
          unfold f_X12_swings_64
          refine okI (fun c24 => ?_) (fun c24 => ?_)
          ·
            unfold f_X12_swings_95
            refine okN ?_
            exact hK11 _ c18 ⟨nI_1 _, h14⟩
          ·
            refine okI (fun c25 => ?_) (fun c25 => ?_)
            ·
              unfold f_X12_swings_89
              unfold f_X12_swings_90
              refine okN ?_
              unfold f_X12_swings_95
              refine okN ?_
              exact hK11 _ c18 ⟨nI_1 _, h14⟩
            ·
              refine okI (fun c26 => ?_) (fun c26 => ?_)
              ·
                unfold f_X12_swings_89
                unfold f_X12_swings_90
                refine okN ?_
                unfold f_X12_swings_95
                refine okN ?_
                exact hK11 _ c18 ⟨nI_1 _, h14⟩
              ·
                unfold f_X12_swings_90
                refine okN ?_
                unfold f_X12_swings_95
                refine okN ?_
                exact hK11 _ c18 ⟨nI_1 _, h14⟩
      ·
        unfold f_X12_swings_64
        refine okI (fun c27 => ?_) (fun c27 => ?_)
        ·
          unfold f_X12_swings_95
          refine okN ?_
          exact hK11 _ c18 ⟨nI_1 _, h14⟩
        ·
          refine okI (fun c28 => ?_) (fun c28 => ?_)
          ·
            unfold f_X12_swings_89
            unfold f_X12_swings_90
            refine okN ?_
            unfold f_X12_swings_95
            refine okN ?_
            exact hK11 _ c18 ⟨nI_1 _, h14⟩
          ·
            refine okI (fun c29 => ?_) (fun c29 => ?_)
            ·
              unfold f_X12_swings_89
              unfold f_X12_swings_90
              refine okN ?_
              unfold f_X12_swings_95
              refine okN ?_
              exact hK11 _ c18 ⟨nI_1 _, h14⟩
            ·
              unfold f_X12_swings_90
              refine okN ?_
              unfold f_X12_swings_95
              refine okN ?_
              exact hK11 _ c18 ⟨nI_1 _, h14⟩
theorem T_X12_since {Z : St → Prop} {σ0 : St} {M T S E A U Y L P N : Nat} (q : QB Z σ0 M T S E A U Y L P N) {p0 : Int32} {p1 : Int32} {s : St} (h : Z s) : Ok (fun _ s' => Z s') (f_X12_since p0 p1 s) := by
  have qM := q.b.hM
  have qT := q.b.hT
  have qS := q.b.S512
  have qE := q.b.hE
  have qA := q.b.hA
  have qU := q.b.hU
  have qY := q.b.hY
  have qA2 := q.b.A256
  have qU2 := q.b.U256
  unfold f_X12_since
  refine okB (T_X12_isSideR q h) ?_
  rintro r3 s1 ⟨h2, hq4⟩
  refine okI (fun c5 => ?_) (fun c5 => ?_)
  ·
    unfold f_X12_since_16
    exact okR h2
  ·
    have hs6 := hq4.resolve_left c5
    refine okB (T_X12_areTrains q h2) ?_
    intro r9 s7 h8
    refine okI (fun c10 => ?_) (fun c10 => ?_)
    ·
      unfold f_X12_since_16
      exact okR h8
    ·
      refine okC (fun (i : Nat) (x : Int32 × Int32 × Int32 × St) => x.2.2.1 = nI i ∧ SD x.1 ∧ Z x.2.2.2) 100 ?_ (i := 0) (by unfold FU; omega) (by omega) ⟨rfl, hs6, h8⟩
      rintro i11 ⟨v18, v19, v20, s16⟩ K12 hi13 ⟨hv15, hx21, h17⟩ hK14
      dsimp only at hv15 hx21 h17
      subst hv15
      unfold g_X12_since_21
      dsimp only
      refine okI (fun _ => ?_) (fun c22 => ?_)
      ·
        exact okR h17
      ·
        replace c22 : i11 < 100 := cnt_le rfl (by omega) c22 hi13
        refine okB (T_X12_menOf q h17) ?_
        intro r25 s23 h24
        refine okD (inb_sd hx21) ?_
        refine okI (fun c26 => ?_) (fun c26 => ?_)
        ·
          refine okN ?_
          exact hK14 _ c22 ⟨nI_1 _, hx21, h24⟩
        ·
          exact okR h24
theorem T_X12_comes {Z : St → Prop} {σ0 : St} {M T S E A U Y L P N : Nat} (q : QB Z σ0 M T S E A U Y L P N) {p0 : Int32} {p1 : Int32} {s : St} (h : Z s) : Ok (fun _ s' => Z s') (f_X12_comes p0 p1 s) := by
  have qM := q.b.hM
  have qT := q.b.hT
  have qS := q.b.S512
  have qE := q.b.hE
  have qA := q.b.hA
  have qU := q.b.hU
  have qY := q.b.hY
  have qA2 := q.b.A256
  have qU2 := q.b.U256
  unfold f_X12_comes
  refine okB (T_X12_isAny q h) ?_
  intro r3 s1 h2
  refine okI (fun c4 => ?_) (fun c4 => ?_)
  ·
    unfold f_X12_comes_15
    exact okR h2
  ·
    refine okB (T_X12_areTrains q h2) ?_
    intro r7 s5 h6
    refine okI (fun c8 => ?_) (fun c8 => ?_)
    ·
      unfold f_X12_comes_15
      exact okR h6
    ·
      refine okC (fun (i : Nat) (x : Int32 × Int32 × Int32 × Int32 × St) => x.2.2.2.1 = nI i ∧ Z x.2.2.2.2) T ?_ (i := 0) (by unfold FU; omega) (by omega) ⟨rfl, h6⟩
      rintro i9 ⟨v16, v17, v18, v19, s14⟩ K10 hi11 ⟨hv13, h15⟩ hK12
      dsimp only at hv13 h15
      subst hv13
      unfold g_X12_comes_23
      dsimp only
      refine okD rfl ?_
      refine okI (fun _ => ?_) (fun c20 => ?_)
      ·
        exact okR h15
      ·
        replace c20 : i9 < T := cnt_le (q.at' h15).mT (by omega) c20 hi11
        refine okB (T_X12_comesAt q h15 (by omega)) ?_
        intro r23 s21 h22
        refine okI (fun c24 => ?_) (fun c24 => ?_)
        ·
          unfold f_X12_comes_54
          refine okN ?_
          refine okN ?_
          exact hK12 _ c20 ⟨nI_1 _, h22⟩
        ·
          unfold f_X12_comes_54
          refine okN ?_
          refine okN ?_
          exact hK12 _ c20 ⟨nI_1 _, h22⟩
theorem T_X12_even {Z : St → Prop} {σ0 : St} {M T S E A U Y L P N : Nat} (q : QB Z σ0 M T S E A U Y L P N) {p0 : Int32} {s : St} (h : Z s) : Ok (fun _ s' => Z s') (f_X12_even p0 s) := by
  have qM := q.b.hM
  have qT := q.b.hT
  have qS := q.b.S512
  have qE := q.b.hE
  have qA := q.b.hA
  have qU := q.b.hU
  have qY := q.b.hY
  have qA2 := q.b.A256
  have qU2 := q.b.U256
  unfold f_X12_even
  refine okB (T_X12_areTrains q h) ?_
  intro r3 s1 h2
  refine okI (fun c4 => ?_) (fun c4 => ?_)
  ·
    exact okR h2
  ·
    refine okC (fun (i : Nat) (x : Int32 × Int64 × Int32 × St) => x.2.2.1 = nI i ∧ Z x.2.2.2) M ?_ (i := 0) (by unfold FU; omega) (by omega) ⟨rfl, h2⟩
    rintro i5 ⟨v12, v13, v14, s10⟩ K6 hi7 ⟨hv9, h11⟩ hK8
    dsimp only at hv9 h11
    subst hv9
    unfold g_X12_even_17
    dsimp only
    refine okD rfl ?_
    refine okI (fun _ => ?_) (fun c15 => ?_)
    ·
      exact okR h11
    ·
      replace c15 : i5 < M := cnt_le (q.at' h11).mM (by omega) c15 hi7
      refine okB (T_X12_menOf q h11) ?_
      intro r18 s16 h17
      refine okB (T_X12_menOf q h17) ?_
      intro r21 s19 h20
      refine okI (fun c22 => ?_) (fun c22 => ?_)
      ·
        unfold f_X12_even_56
        refine okN ?_
        refine okN ?_
        exact hK8 _ c15 ⟨nI_1 _, h20⟩
      ·
        unfold f_X12_even_56
        refine okN ?_
        refine okN ?_
        exact hK8 _ c15 ⟨nI_1 _, h20⟩
theorem T_X12_worstOf {Z : St → Prop} {σ0 : St} {M T S E A U Y L P N : Nat} (q : QB Z σ0 M T S E A U Y L P N) {p0 : Int32} {s : St} (h : Z s) : Ok (fun _ s' => Z s') (f_X12_worstOf p0 s) := by
  have qM := q.b.hM
  have qT := q.b.hT
  have qS := q.b.S512
  have qE := q.b.hE
  have qA := q.b.hA
  have qU := q.b.hU
  have qY := q.b.hY
  have qA2 := q.b.A256
  have qU2 := q.b.U256
  unfold f_X12_worstOf
  refine okZ (Z := Z) (q.1.2.2 _ _ _ h (by decide)) (fun s1 h2 => ?_)
  refine okC (fun (i : Nat) (x : Int32 × Int32 × Int32 × St) => x.2.2.1 = nI i ∧ Z x.2.2.2) ((S - 1) + 1) ?_ (i := 0) (by unfold FU; omega) (by omega) ⟨rfl, h2⟩
  rintro i3 ⟨v10, v11, v12, s8⟩ K4 hi5 ⟨hv7, h9⟩ hK6
  dsimp only at hv7 h9
  subst hv7
  unfold g_X12_worstOf_11
  dsimp only
  rw [Q_X12_allTrains q h9, bd_mk]
  refine okI (fun _ => ?_) (fun c13 => ?_)
  ·
    exact okR h9
  ·
    replace c13 : i3 < (S - 1) + 1 := cnt_lt rfl (by omega) c13 hi5
    refine okB (T_X12_lastFront q h9) ?_
    intro r16 s14 h15
    refine okB (T_X12_goodBy q h15) ?_
    intro r19 s17 h18
    refine okI (fun c20 => ?_) (fun c20 => ?_)
    ·
      unfold f_X12_worstOf_67
      refine okN ?_
      exact hK6 _ c13 ⟨nI_1 _, h18⟩
    ·
      refine okI (fun c21 => ?_) (fun c21 => ?_)
      ·
        refine okB (T_X12_bits q h18) ?_
        intro r24 s22 h23
        refine okB (T_X12_bits q h23) ?_
        intro r27 s25 h26
        refine okI (fun c28 => ?_) (fun c28 => ?_)
        ·
          unfold f_X12_worstOf_59
          refine okZ (Z := Z) (q.1.2.2 _ _ _ h26 (by decide)) (fun s29 h30 => ?_)
          unfold f_X12_worstOf_67
          refine okN ?_
          exact hK6 _ c13 ⟨nI_1 _, h30⟩
        ·
          unfold f_X12_worstOf_67
          refine okN ?_
          exact hK6 _ c13 ⟨nI_1 _, h26⟩
      ·
        unfold f_X12_worstOf_59
        refine okZ (Z := Z) (q.1.2.2 _ _ _ h18 (by decide)) (fun s31 h32 => ?_)
        unfold f_X12_worstOf_67
        refine okN ?_
        exact hK6 _ c13 ⟨nI_1 _, h32⟩
theorem T_X12_worst {Z : St → Prop} {σ0 : St} {M T S E A U Y L P N : Nat} (q : QB Z σ0 M T S E A U Y L P N) {p0 : Int32} {s : St} (h : Z s) : Ok (fun _ s' => Z s') (f_X12_worst p0 s) := by
  have qM := q.b.hM
  have qT := q.b.hT
  have qS := q.b.S512
  have qE := q.b.hE
  have qA := q.b.hA
  have qU := q.b.hU
  have qY := q.b.hY
  have qA2 := q.b.A256
  have qU2 := q.b.U256
  unfold f_X12_worst
  refine okB (T_X12_isSideR q h) ?_
  rintro r3 s1 ⟨h2, hq4⟩
  refine okI (fun c5 => ?_) (fun c5 => ?_)
  ·
    unfold f_X12_worst_19
    exact okR h2
  ·
    have hs6 := hq4.resolve_left c5
    refine okB (T_X12_worstOf q h2) ?_
    intro r9 s7 h8
    unfold f_X12_worst_19
    exact okR h8
theorem T_X12_by {Z : St → Prop} {σ0 : St} {M T S E A U Y L P N : Nat} (q : QB Z σ0 M T S E A U Y L P N) {p0 : Int32} {s : St} (h : Z s) : Ok (fun _ s' => Z s') (f_X12_by p0 s) := by
  have qM := q.b.hM
  have qT := q.b.hT
  have qS := q.b.S512
  have qE := q.b.hE
  have qA := q.b.hA
  have qU := q.b.hU
  have qY := q.b.hY
  have qA2 := q.b.A256
  have qU2 := q.b.U256
  unfold f_X12_by
  refine okB (T_X12_isSideR q h) ?_
  rintro r3 s1 ⟨h2, hq4⟩
  refine okI (fun c5 => ?_) (fun c5 => ?_)
  ·
    exact okR h2
  ·
    have hs6 := hq4.resolve_left c5
    refine okB (T_X12_worstOf q h2) ?_
    intro r9 s7 h8
    exact okR h8
theorem T_X12_ways {Z : St → Prop} {σ0 : St} {M T S E A U Y L P N : Nat} (q : QB Z σ0 M T S E A U Y L P N) {p0 : Int32} {s : St} (h : Z s) : Ok (fun _ s' => Z s') (f_X12_ways p0 s) := by
  have qM := q.b.hM
  have qT := q.b.hT
  have qS := q.b.S512
  have qE := q.b.hE
  have qA := q.b.hA
  have qU := q.b.hU
  have qY := q.b.hY
  have qA2 := q.b.A256
  have qU2 := q.b.U256
  unfold f_X12_ways
  refine okB (T_X12_isSideR q h) ?_
  rintro r3 s1 ⟨h2, hq4⟩
  refine okI (fun c5 => ?_) (fun c5 => ?_)
  ·
    exact okR h2
  ·
    have hs6 := hq4.resolve_left c5
    refine okC (fun (i : Nat) (x : Int32 × Int32 × Int32 × St) => x.2.2.1 = nI i ∧ SD x.1 ∧ Z x.2.2.2) ((S - 1) + 1) ?_ (i := 0) (by unfold FU; omega) (by omega) ⟨rfl, hs6, h2⟩
    rintro i7 ⟨v14, v15, v16, s12⟩ K8 hi9 ⟨hv11, hx17, h13⟩ hK10
    dsimp only at hv11 hx17 h13
    subst hv11
    unfold g_X12_ways_15
    dsimp only
    rw [Q_X12_allTrains q h13, bd_mk]
    refine okI (fun _ => ?_) (fun c18 => ?_)
    ·
      exact okR h13
    ·
      replace c18 : i7 < (S - 1) + 1 := cnt_lt rfl (by omega) c18 hi9
      refine okB (T_X12_winner q h13) ?_
      intro r21 s19 h20
      refine okI (fun c22 => ?_) (fun c22 => ?_)
      ·
        unfold f_X12_ways_38
        refine okN ?_
        refine okN ?_
        exact hK10 _ c18 ⟨nI_1 _, hx17, h20⟩
      ·
        unfold f_X12_ways_38
        refine okN ?_
        refine okN ?_
        exact hK10 _ c18 ⟨nI_1 _, hx17, h20⟩
theorem T_X12_idle {Z : St → Prop} {σ0 : St} {M T S E A U Y L P N : Nat} (q : QB Z σ0 M T S E A U Y L P N)  {s : St} (h : Z s) : Ok (fun _ s' => Z s') (f_X12_idle s) := by
  have qM := q.b.hM
  have qT := q.b.hT
  have qS := q.b.S512
  have qE := q.b.hE
  have qA := q.b.hA
  have qU := q.b.hU
  have qY := q.b.hY
  have qA2 := q.b.A256
  have qU2 := q.b.U256
  unfold f_X12_idle
  refine okB (T_X12_isWar q h) ?_
  intro r3 s1 h2
  refine okI (fun c4 => ?_) (fun c4 => ?_)
  ·
    exact okR h2
  ·
    rw [Q_X12_allTrains q h2, bd_mk]
    refine okC (fun (i : Nat) (x : Int32 × Int32 × St) => x.2.1 = nI i ∧ Z x.2.2) ((S - 1) + 1) ?_ (i := 0) (by unfold FU; omega) (by omega) ⟨rfl, h2⟩
    rintro i5 ⟨v12, v13, s10⟩ K6 hi7 ⟨hv9, h11⟩ hK8
    dsimp only at hv9 h11
    subst hv9
    unfold g_X12_idle_17
    dsimp only
    rw [Q_X12_allTrains q h11, bd_mk]
    refine okI (fun _ => ?_) (fun c14 => ?_)
    ·
      refine okC (fun (i : Nat) (x : Int32 × Int32 × St) => x.2.1 = nI i ∧ Z x.2.2) ((S - 1) + 1) ?_ (i := 0) (by unfold FU; omega) (by omega) ⟨rfl, h11⟩
      rintro i15 ⟨v22, v23, s20⟩ K16 hi17 ⟨hv19, h21⟩ hK18
      dsimp only at hv19 h21
      subst hv19
      unfold g_X12_idle_44
      dsimp only
      rw [Q_X12_allTrains q h21, bd_mk]
      refine okI (fun _ => ?_) (fun c24 => ?_)
      ·
        exact okR h21
      ·
        replace c24 : i15 < (S - 1) + 1 := cnt_lt rfl (by omega) c24 hi17
        refine okC (fun (i : Nat) (x : Int32 × Int32 × Int32 × St) => x.2.2.1 = nI i ∧ x.2.1 = nI i15 ∧ Z x.2.2.2) T ?_ (i := 0) (by unfold FU; omega) (by omega) ⟨rfl, rfl, h21⟩
        rintro i25 ⟨v32, v33, v34, s30⟩ K26 hi27 ⟨hv29, hx35, h31⟩ hK28
        dsimp only at hv29 hx35 h31
        subst hv29 hx35
        unfold g_X12_idle_54
        dsimp only
        refine okD rfl ?_
        refine okI (fun _ => ?_) (fun c36 => ?_)
        ·
          refine okN ?_
          exact hK18 _ c24 ⟨nI_1 _, h31⟩
        ·
          replace c36 : i25 < T := cnt_le (q.at' h31).mT (by omega) c36 hi27
          refine okD (inb_ln (n := 512) rfl (by omega) (by omega)) ?_
          refine okD (inb_xs rfl (by omega) (by omega)) ?_
          refine okI (fun c37 => ?_) (fun c37 => ?_)
          ·
            unfold f_X12_idle_91
            refine okN ?_
            exact hK28 _ c36 ⟨nI_1 _, rfl, h31⟩
          ·
            refine okN ?_
            unfold f_X12_idle_91
            refine okN ?_
            exact hK28 _ c36 ⟨nI_1 _, rfl, h31⟩
    ·
      replace c14 : i5 < (S - 1) + 1 := cnt_lt rfl (by omega) c14 hi7
      refine okB (T_X12_winner q h11) ?_
      intro r40 s38 h39
      refine okD (inb_ln (n := 512) rfl (by omega) (by omega)) ?_
      refine okZ (Z := Z) (q.1.2.1 _ _ _ h39 (by decide)) (fun s41 h42 => ?_)
      refine okN ?_
      exact hK8 _ c14 ⟨nI_1 _, h42⟩
theorem T_X12_oftenOf {Z : St → Prop} {σ0 : St} {M T S E A U Y L P N : Nat} (q : QB Z σ0 M T S E A U Y L P N) {p0 : Int32} {s : St} (h : Z s) : Ok (fun _ s' => Z s') (f_X12_oftenOf p0 s) := by
  have qM := q.b.hM
  have qT := q.b.hT
  have qS := q.b.S512
  have qE := q.b.hE
  have qA := q.b.hA
  have qU := q.b.hU
  have qY := q.b.hY
  have qA2 := q.b.A256
  have qU2 := q.b.U256
  unfold f_X12_oftenOf
  refine okC (fun (i : Nat) (x : Int32 × Int64 × Int32 × St) => x.2.2.1 = nI i ∧ Z x.2.2.2) T ?_ (i := 0) (by unfold FU; omega) (by omega) ⟨rfl, h⟩
  rintro i1 ⟨v8, v9, v10, s6⟩ K2 hi3 ⟨hv5, h7⟩ hK4
  dsimp only at hv5 h7
  subst hv5
  unfold g_X12_oftenOf_5
  dsimp only
  refine okD rfl ?_
  refine okI (fun _ => ?_) (fun c11 => ?_)
  ·
    exact okR h7
  ·
    replace c11 : i1 < T := cnt_le (q.at' h7).mT (by omega) c11 hi3
    refine okB (T_X12_bit q h7) ?_
    intro r14 s12 h13
    refine okI (fun c15 => ?_) (fun c15 => ?_)
    ·
      refine okB (T_X12_of q h13 (j := 3) (by omega) (by omega)) ?_
      intro r18 s16 h17
      unfold f_X12_oftenOf_49
      refine okN ?_
      refine okN ?_
      exact hK4 _ c11 ⟨nI_1 _, h17⟩
    ·
      refine okB (T_X12_of q h13 (j := 3) (by omega) (by omega)) ?_
      intro r21 s19 h20
      unfold f_X12_oftenOf_49
      refine okN ?_
      refine okN ?_
      exact hK4 _ c11 ⟨nI_1 _, h20⟩
theorem T_X12_enough {Z : St → Prop} {σ0 : St} {M T S E A U Y L P N : Nat} (q : QB Z σ0 M T S E A U Y L P N) {p0 : Int32} {p1 : Int32} {s : St} (h : Z s) : Ok (fun _ s' => Z s') (f_X12_enough p0 p1 s) := by
  have qM := q.b.hM
  have qT := q.b.hT
  have qS := q.b.S512
  have qE := q.b.hE
  have qA := q.b.hA
  have qU := q.b.hU
  have qY := q.b.hY
  have qA2 := q.b.A256
  have qU2 := q.b.U256
  unfold f_X12_enough
  refine okB (T_X12_isSideR q h) ?_
  rintro r3 s1 ⟨h2, hq4⟩
  refine okI (fun c5 => ?_) (fun c5 => ?_)
  ·
    unfold f_X12_enough_18
    exact okR h2
  ·
    have hs6 := hq4.resolve_left c5
    refine okB (T_X12_in q h2) ?_
    intro r9 s7 h8
    refine okI (fun c10 => ?_) (fun c10 => ?_)
    ·
      unfold f_X12_enough_18
      exact okR h8
    ·
      refine okC (fun (i : Nat) (x : Int32 × Int32 × Int64 × Int32 × St) => x.2.2.2.1 = nI i ∧ SD x.1 ∧ Z x.2.2.2.2) ((S - 1) + 1) ?_ (i := 0) (by unfold FU; omega) (by omega) ⟨rfl, hs6, h8⟩
      rintro i11 ⟨v18, v19, v20, v21, s16⟩ K12 hi13 ⟨hv15, hx22, h17⟩ hK14
      dsimp only at hv15 hx22 h17
      subst hv15
      unfold g_X12_enough_27
      dsimp only
      rw [Q_X12_allTrains q h17, bd_mk]
      refine okI (fun _ => ?_) (fun c23 => ?_)
      ·
        refine okB (T_X12_allOftenR q h17) ?_
        rintro r26 s24 ⟨h25, hne⟩
        refine okB (T_X12_part q h25 hne) ?_
        intro r29 s27 h28
        exact okR h28
      ·
        replace c23 : i11 < (S - 1) + 1 := cnt_lt rfl (by omega) c23 hi13
        refine okB (T_X12_isLate q h17 hx22) ?_
        intro r32 s30 h31
        refine okI (fun c33 => ?_) (fun c33 => ?_)
        ·
          refine okB (T_X12_oftenOf q h31) ?_
          intro r36 s34 h35
          unfold f_X12_enough_57
          refine okN ?_
          refine okN ?_
          exact hK14 _ c23 ⟨nI_1 _, hx22, h35⟩
        ·
          unfold f_X12_enough_57
          refine okN ?_
          refine okN ?_
          exact hK14 _ c23 ⟨nI_1 _, hx22, h31⟩
theorem T_X12_chance {Z : St → Prop} {σ0 : St} {M T S E A U Y L P N : Nat} (q : QB Z σ0 M T S E A U Y L P N) {p0 : Int32} {p1 : Int32} {s : St} (h : Z s) : Ok (fun _ s' => Z s') (f_X12_chance p0 p1 s) := by
  have qM := q.b.hM
  have qT := q.b.hT
  have qS := q.b.S512
  have qE := q.b.hE
  have qA := q.b.hA
  have qU := q.b.hU
  have qY := q.b.hY
  have qA2 := q.b.A256
  have qU2 := q.b.U256
  unfold f_X12_chance
  refine okB (T_X12_isSideR q h) ?_
  rintro r3 s1 ⟨h2, hq4⟩
  refine okI (fun c5 => ?_) (fun c5 => ?_)
  ·
    unfold f_X12_chance_18
    exact okR h2
  ·
    have hs6 := hq4.resolve_left c5
    refine okB (T_X12_in q h2) ?_
    intro r9 s7 h8
    refine okI (fun c10 => ?_) (fun c10 => ?_)
    ·
      unfold f_X12_chance_18
      exact okR h8
    ·
      refine okC (fun (i : Nat) (x : Int32 × Int32 × Int64 × Int32 × St) => x.2.2.2.1 = nI i ∧ SD x.1 ∧ Z x.2.2.2.2) ((S - 1) + 1) ?_ (i := 0) (by unfold FU; omega) (by omega) ⟨rfl, hs6, h8⟩
      rintro i11 ⟨v18, v19, v20, v21, s16⟩ K12 hi13 ⟨hv15, hx22, h17⟩ hK14
      dsimp only at hv15 hx22 h17
      subst hv15
      unfold g_X12_chance_27
      dsimp only
      rw [Q_X12_allTrains q h17, bd_mk]
      refine okI (fun _ => ?_) (fun c23 => ?_)
      ·
        refine okB (T_X12_allOftenR q h17) ?_
        rintro r26 s24 ⟨h25, hne⟩
        refine okB (T_X12_part q h25 hne) ?_
        intro r29 s27 h28
        exact okR h28
      ·
        replace c23 : i11 < (S - 1) + 1 := cnt_lt rfl (by omega) c23 hi13
        refine okB (T_X12_winner q h17) ?_
        intro r32 s30 h31
        refine okI (fun c33 => ?_) (fun c33 => ?_)
        ·
          refine okB (T_X12_oftenOf q h31) ?_
          intro r36 s34 h35
          unfold f_X12_chance_57
          refine okN ?_
          refine okN ?_
          exact hK14 _ c23 ⟨nI_1 _, hx22, h35⟩
        ·
          unfold f_X12_chance_57
          refine okN ?_
          refine okN ?_
          exact hK14 _ c23 ⟨nI_1 _, hx22, h31⟩
theorem T_X12_menSent {Z : St → Prop} {σ0 : St} {M T S E A U Y L P N : Nat} (q : QB Z σ0 M T S E A U Y L P N) {p0 : Int32} {p1 : Int32} {s : St} (h : Z s) : Ok (fun _ s' => Z s') (f_X12_menSent p0 p1 s) := by
  have qM := q.b.hM
  have qT := q.b.hT
  have qS := q.b.S512
  have qE := q.b.hE
  have qA := q.b.hA
  have qU := q.b.hU
  have qY := q.b.hY
  have qA2 := q.b.A256
  have qU2 := q.b.U256
  unfold f_X12_menSent
  refine okC (fun (i : Nat) (x : Int32 × Int32 × Int32 × Int32 × St) => x.2.2.2.1 = nI i ∧ Z x.2.2.2.2) T ?_ (i := 0) (by unfold FU; omega) (by omega) ⟨rfl, h⟩
  rintro i1 ⟨v8, v9, v10, v11, s6⟩ K2 hi3 ⟨hv5, h7⟩ hK4
  dsimp only at hv5 h7
  subst hv5
  unfold g_X12_menSent_5
  dsimp only
  refine okD rfl ?_
  refine okI (fun _ => ?_) (fun c12 => ?_)
  ·
    exact okR h7
  ·
    replace c12 : i1 < T := cnt_le (q.at' h7).mT (by omega) c12 hi3
    refine okB (T_X12_bit q h7) ?_
    intro r15 s13 h14
    refine okI (fun c16 => ?_) (fun c16 => ?_)
    ·
      refine okB (T_X12_comesAt q h14 (by omega)) ?_
      intro r19 s17 h18
      refine okD rfl ?_
      refine okI (fun c20 => ?_) (fun c20 => ?_)
      ·
        unfold f_X12_menSent_53
        unfold f_X12_menSent_54
        refine okN ?_
        refine okN ?_
        exact hK4 _ c12 ⟨nI_1 _, h18⟩
      ·
        refine okB (T_X12_of q h18 (j := 1) (by omega) (by omega)) ?_
        intro r23 s21 h22
        unfold f_X12_menSent_54
        refine okN ?_
        refine okN ?_
        exact hK4 _ c12 ⟨nI_1 _, h22⟩
    ·
      unfold f_X12_menSent_53
      unfold f_X12_menSent_54
      refine okN ?_
      refine okN ?_
      exact hK4 _ c12 ⟨nI_1 _, h14⟩
theorem T_X12_isSurely {Z : St → Prop} {σ0 : St} {M T S E A U Y L P N : Nat} (q : QB Z σ0 M T S E A U Y L P N) {p0 : Int32} {p1 : Int32} {s : St} (h : Z s) (hp : SD p0) : Ok (fun _ s' => Z s') (f_X12_isSurely p0 p1 s) := by
  have qM := q.b.hM
  have qT := q.b.hT
  have qS := q.b.S512
  have qE := q.b.hE
  have qA := q.b.hA
  have qU := q.b.hU
  have qY := q.b.hY
  have qA2 := q.b.A256
  have qU2 := q.b.U256
  unfold f_X12_isSurely
  rw [Q_X12_allTrains q h, bd_mk]
  refine okB (T_X12_menSent q h) ?_
  intro r3 s1 h2
  refine okD (inb_sd hp) ?_
  refine okI (fun c4 => ?_) (fun c4 => ?_)
  ·
    unfold f_X12_isSurely_26
    refine okD rfl ?_
    exact okR h2
  ·
    unfold f_X12_isSurely_26
    refine okD rfl ?_
    exact okR h2
theorem T_X12_take {Z : St → Prop} {σ0 : St} {M T S E A U Y L P N : Nat} (q : QB Z σ0 M T S E A U Y L P N) {p0 : Int32} {p1 : Int32} {s : St} (h : Z s) : Ok (fun _ s' => Z s') (f_X12_take p0 p1 s) := by
  have qM := q.b.hM
  have qT := q.b.hT
  have qS := q.b.S512
  have qE := q.b.hE
  have qA := q.b.hA
  have qU := q.b.hU
  have qY := q.b.hY
  have qA2 := q.b.A256
  have qU2 := q.b.U256
  unfold f_X12_take
  refine okI (fun c1 => ?_) (fun c1 => ?_)
  ·
    unfold f_X12_take_17
    refine okZ (Z := Z) (q.1.2.2 _ _ _ h (by decide)) (fun s2 h3 => ?_)
    refine okZ (Z := Z) (q.1.2.2 _ _ _ h3 (by decide)) (fun s4 h5 => ?_)
    exact okR h5
  ·
    refine okI (fun c6 => ?_) (fun c6 => ?_)
    ·
      unfold f_X12_take_17
      refine okZ (Z := Z) (q.1.2.2 _ _ _ h (by decide)) (fun s7 h8 => ?_)
      refine okZ (Z := Z) (q.1.2.2 _ _ _ h8 (by decide)) (fun s9 h10 => ?_)
      exact okR h10
    ·
      exact okR h
theorem T_X12_orNone {Z : St → Prop} {σ0 : St} {M T S E A U Y L P N : Nat} (q : QB Z σ0 M T S E A U Y L P N)  {s : St} (h : Z s) : Ok (fun _ s' => Z s') (f_X12_orNone s) := by
  have qM := q.b.hM
  have qT := q.b.hT
  have qS := q.b.S512
  have qE := q.b.hE
  have qA := q.b.hA
  have qU := q.b.hU
  have qY := q.b.hY
  have qA2 := q.b.A256
  have qU2 := q.b.U256
  unfold f_X12_orNone
  refine okI (fun c1 => ?_) (fun c1 => ?_)
  ·
    unfold f_X12_orNone_16
    exact okR h
  ·
    unfold f_X12_orNone_16
    exact okR h
theorem T_X12_findSend {Z : St → Prop} {σ0 : St} {M T S E A U Y L P N : Nat} (q : QB Z σ0 M T S E A U Y L P N) {p0 p1 : Int32} {s : St} (h : Z s) (hp : SD p0) : Ok (fun _ s' => Z s') (f_X12_findSend p0 p1 s) := by
  unfold f_X12_findSend
  refine okZ (Z := Z) (q.1.2.2 _ _ _ h (by decide)) (fun s0 h0 => ?_)
  refine okB (T_X12_trainsOfR q h0) ?_
  rintro _ s1 ⟨h1, k, hk, rfl⟩
  refine okC (fun (i : Nat) (x : Int32 × Int32 × Int32 × Int32 × St) => x.2.2.2.1 = nI i ∧ x.2.2.1 = nI k ∧ SD x.1 ∧ Z x.2.2.2.2) (k + 1) ?_ (i := 0) (by unfold FU; omega) (by omega) ⟨rfl, rfl, hp, h1⟩
  rintro i ⟨v1, v2, v3, v4, s2⟩ K hi ⟨hv, hw, hsd, h2⟩ hK
  dsimp only at hv hw hsd h2
  subst hv hw
  unfold g_X12_findSend_14
  dsimp only
  refine okI (fun _ => okR h2) (fun c => ?_)
  replace c : i < k + 1 := cnt_lt rfl (by omega) c hi
  have key : ∀ s3, Z s3 → Ok (fun _ s' => Z s') (f_X12_findSend_63 K v1 v2 (nI k) (nI i) s3) := by
    intro s3 h3
    unfold f_X12_findSend_63
    exact hK _ c ⟨nI_1 _, rfl, hsd, h3⟩
  have key2 : ∀ k0 s3, Z s3 → Ok (fun _ s' => Z s') (f_X12_findSend_58 K v1 v2 (nI k) (nI i) k0 s3) := by
    intro k0 s3 h3
    unfold f_X12_findSend_58
    refine okB (T_X12_take q h3) ?_
    intro r4 s4 h4
    exact key _ h4
  refine okI (fun _ => ?_) (fun _ => key _ h2)
  refine okB (T_X12_isSurely q h2 hsd) ?_
  intro r3 s3 h3
  refine okI (fun _ => key _ h3) (fun _ => ?_)
  refine okI (fun _ => ?_) (fun _ => ?_)
  · refine okB (T_X12_bits q h3) ?_
    intro r4 s4 h4
    exact key2 _ _ h4
  · refine okB (T_X12_priceOf q h3) ?_
    intro r4 s4 h4
    exact key2 _ _ h4
theorem T_X12_send {Z : St → Prop} {σ0 : St} {M T S E A U Y L P N : Nat} (q : QB Z σ0 M T S E A U Y L P N) {p0 : Int32} {s : St} (h : Z s) : Ok (fun _ s' => Z s') (f_X12_send p0 s) := by
  have qM := q.b.hM
  have qT := q.b.hT
  have qS := q.b.S512
  have qE := q.b.hE
  have qA := q.b.hA
  have qU := q.b.hU
  have qY := q.b.hY
  have qA2 := q.b.A256
  have qU2 := q.b.U256
  unfold f_X12_send
  refine okB (T_X12_isSideR q h) ?_
  rintro r3 s1 ⟨h2, hq4⟩
  refine okI (fun c5 => ?_) (fun c5 => ?_)
  ·
    exact okR h2
  ·
    have hs6 := hq4.resolve_left c5
    refine okB (T_X12_findSend q h2 hs6) ?_
    intro r9 s7 h8
    refine okB (T_X12_orNone q h8) ?_
    intro r12 s10 h11
    exact okR h11
theorem T_X12_sent {Z : St → Prop} {σ0 : St} {M T S E A U Y L P N : Nat} (q : QB Z σ0 M T S E A U Y L P N) {p0 : Int32} {s : St} (h : Z s) : Ok (fun _ s' => Z s') (f_X12_sent p0 s) := by
  have qM := q.b.hM
  have qT := q.b.hT
  have qS := q.b.S512
  have qE := q.b.hE
  have qA := q.b.hA
  have qU := q.b.hU
  have qY := q.b.hY
  have qA2 := q.b.A256
  have qU2 := q.b.U256
  unfold f_X12_sent
  refine okB (T_X12_isSideR q h) ?_
  rintro r3 s1 ⟨h2, hq4⟩
  refine okI (fun c5 => ?_) (fun c5 => ?_)
  ·
    exact okR h2
  ·
    have hs6 := hq4.resolve_left c5
    refine okB (T_X12_findSend q h2 hs6) ?_
    intro r9 s7 h8
    exact okR h8
theorem T_X12_fewest {Z : St → Prop} {σ0 : St} {M T S E A U Y L P N : Nat} (q : QB Z σ0 M T S E A U Y L P N) {p0 : Int32} {s : St} (h : Z s) : Ok (fun _ s' => Z s') (f_X12_fewest p0 s) := by
  have qM := q.b.hM
  have qT := q.b.hT
  have qS := q.b.S512
  have qE := q.b.hE
  have qA := q.b.hA
  have qU := q.b.hU
  have qY := q.b.hY
  have qA2 := q.b.A256
  have qU2 := q.b.U256
  unfold f_X12_fewest
  refine okB (T_X12_isSideR q h) ?_
  rintro r3 s1 ⟨h2, hq4⟩
  refine okI (fun c5 => ?_) (fun c5 => ?_)
  ·
    exact okR h2
  ·
    have hs6 := hq4.resolve_left c5
    refine okB (T_X12_findSend q h2 hs6) ?_
    intro r9 s7 h8
    refine okB (T_X12_orNone q h8) ?_
    intro r12 s10 h11
    exact okR h11
theorem T_X12_enoughBy {Z : St → Prop} {σ0 : St} {M T S E A U Y L P N : Nat} (q : QB Z σ0 M T S E A U Y L P N) {p0 : Int32} {p1 : Int32} {s : St} (h : Z s) (hp : SD p0) : Ok (fun _ s' => Z s') (f_X12_enoughBy p0 p1 s) := by
  have qM := q.b.hM
  have qT := q.b.hT
  have qS := q.b.S512
  have qE := q.b.hE
  have qA := q.b.hA
  have qU := q.b.hU
  have qY := q.b.hY
  have qA2 := q.b.A256
  have qU2 := q.b.U256
  unfold f_X12_enoughBy
  refine okC (fun (i : Nat) (x : Int32 × Int32 × Int64 × Int32 × St) => x.2.2.2.1 = nI i ∧ SD x.1 ∧ Z x.2.2.2.2) ((S - 1) + 1) ?_ (i := 0) (by unfold FU; omega) (by omega) ⟨rfl, hp, h⟩
  rintro i1 ⟨v8, v9, v10, v11, s6⟩ K2 hi3 ⟨hv5, hx12, h7⟩ hK4
  dsimp only at hv5 hx12 h7
  subst hv5
  unfold g_X12_enoughBy_5
  dsimp only
  rw [Q_X12_allTrains q h7, bd_mk]
  refine okI (fun _ => ?_) (fun c13 => ?_)
  ·
    exact okR h7
  ·
    replace c13 : i1 < (S - 1) + 1 := cnt_lt rfl (by omega) c13 hi3
    refine okB (T_X12_menSent q h7) ?_
    intro r16 s14 h15
    refine okD (inb_sd hx12) ?_
    refine okI (fun c17 => ?_) (fun c17 => ?_)
    ·
      unfold f_X12_enoughBy_44
      refine okN ?_
      refine okN ?_
      exact hK4 _ c13 ⟨nI_1 _, hx12, h15⟩
    ·
      refine okB (T_X12_oftenOf q h15) ?_
      intro r20 s18 h19
      unfold f_X12_enoughBy_44
      refine okN ?_
      refine okN ?_
      exact hK4 _ c13 ⟨nI_1 _, hx12, h19⟩
theorem T_X12_isOften {Z : St → Prop} {σ0 : St} {M T S E A U Y L P N : Nat} (q : QB Z σ0 M T S E A U Y L P N) {p0 : Int64} {p1 : Int32} {s : St} (h : Z s) : Ok (fun _ s' => Z s') (f_X12_isOften p0 p1 s) := by
  have qM := q.b.hM
  have qT := q.b.hT
  have qS := q.b.S512
  have qE := q.b.hE
  have qA := q.b.hA
  have qU := q.b.hU
  have qY := q.b.hY
  have qA2 := q.b.A256
  have qU2 := q.b.U256
  unfold f_X12_isOften
  refine okD rfl ?_
  refine okI (fun c1 => ?_) (fun c1 => ?_)
  ·
    refine okI (fun c2 => ?_) (fun c2 => ?_)
    ·
      unfold f_X12_isOften_49
      refine okD rfl ?_
      exact okR h
    ·
      unfold f_X12_isOften_49
      refine okD rfl ?_
      exact okR h
  ·
    refine okB (T_X12_allOften q h) ?_
    intro r5 s3 h4
    refine okI (fun c6 => ?_) (fun c6 => ?_)
    ·
      unfold f_X12_isOften_49
      refine okD rfl ?_
      exact okR h4
    ·
      unfold f_X12_isOften_49
      refine okD rfl ?_
      exact okR h4
theorem T_X12_findRisk {Z : St → Prop} {σ0 : St} {M T S E A U Y L P N : Nat} (q : QB Z σ0 M T S E A U Y L P N) {p0 p1 : Int32} {s : St} (h : Z s) (hp : SD p0) : Ok (fun _ s' => Z s') (f_X12_findRisk p0 p1 s) := by
  unfold f_X12_findRisk
  refine okZ (Z := Z) (q.1.2.2 _ _ _ h (by decide)) (fun s0 h0 => ?_)
  refine okB (T_X12_trainsOfR q h0) ?_
  rintro _ s1 ⟨h1, k, hk, rfl⟩
  refine okC (fun (i : Nat) (x : Int32 × Int32 × Int32 × Int32 × St) => x.2.2.2.1 = nI i ∧ x.2.2.1 = nI k ∧ SD x.1 ∧ Z x.2.2.2.2) (k + 1) ?_ (i := 0) (by unfold FU; omega) (by omega) ⟨rfl, rfl, hp, h1⟩
  rintro i ⟨v1, v2, v3, v4, s2⟩ K hi ⟨hv, hw, hsd, h2⟩ hK
  dsimp only at hv hw hsd h2
  subst hv hw
  unfold g_X12_findRisk_14
  dsimp only
  refine okI (fun _ => okR h2) (fun c => ?_)
  replace c : i < k + 1 := cnt_lt rfl (by omega) c hi
  have key : ∀ s3, Z s3 → Ok (fun _ s' => Z s') (f_X12_findRisk_77 K v1 v2 (nI k) (nI i) s3) := by
    intro s3 h3
    unfold f_X12_findRisk_77
    exact hK _ c ⟨nI_1 _, rfl, hsd, h3⟩
  have key2 : ∀ s3, Z s3 → Ok (fun _ s' => Z s') (f_X12_findRisk_50 K v1 v2 (nI k) (nI i) s3) := by
    intro s3 h3
    unfold f_X12_findRisk_50
    refine okB (T_X12_enoughBy q h3 hsd) ?_
    intro r4 s4 h4
    refine okB (T_X12_isOften q h4) ?_
    intro r5 s5 h5
    refine okI (fun _ => key _ h5) (fun _ => ?_)
    refine okB (T_X12_priceOf q h5) ?_
    intro r6 s6 h6
    refine okB (T_X12_take q h6) ?_
    intro r7 s7 h7
    exact key _ h7
  refine okI (fun _ => ?_) (fun _ => key _ h2)
  refine okI (fun _ => key2 _ h2) (fun _ => ?_)
  refine okB (T_X12_priceOf q h2) ?_
  intro r3 s3 h3
  exact okI (fun _ => key _ h3) (fun _ => key2 _ h3)
theorem T_X12_risk {Z : St → Prop} {σ0 : St} {M T S E A U Y L P N : Nat} (q : QB Z σ0 M T S E A U Y L P N) {p0 : Int32} {p1 : Int32} {s : St} (h : Z s) : Ok (fun _ s' => Z s') (f_X12_risk p0 p1 s) := by
  have qM := q.b.hM
  have qT := q.b.hT
  have qS := q.b.S512
  have qE := q.b.hE
  have qA := q.b.hA
  have qU := q.b.hU
  have qY := q.b.hY
  have qA2 := q.b.A256
  have qU2 := q.b.U256
  unfold f_X12_risk
  refine okB (T_X12_isSideR q h) ?_
  rintro r3 s1 ⟨h2, hq4⟩
  refine okI (fun c5 => ?_) (fun c5 => ?_)
  ·
    unfold f_X12_risk_20
    exact okR h2
  ·
    have hs6 := hq4.resolve_left c5
    refine okB (T_X12_in q h2) ?_
    intro r9 s7 h8
    refine okI (fun c10 => ?_) (fun c10 => ?_)
    ·
      unfold f_X12_risk_20
      exact okR h8
    ·
      refine okB (T_X12_findRisk q h8 hs6) ?_
      intro r13 s11 h12
      refine okB (T_X12_orNone q h12) ?_
      intro r16 s14 h15
      exact okR h15
theorem T_X12_risked {Z : St → Prop} {σ0 : St} {M T S E A U Y L P N : Nat} (q : QB Z σ0 M T S E A U Y L P N) {p0 : Int32} {p1 : Int32} {s : St} (h : Z s) : Ok (fun _ s' => Z s') (f_X12_risked p0 p1 s) := by
  have qM := q.b.hM
  have qT := q.b.hT
  have qS := q.b.S512
  have qE := q.b.hE
  have qA := q.b.hA
  have qU := q.b.hU
  have qY := q.b.hY
  have qA2 := q.b.A256
  have qU2 := q.b.U256
  unfold f_X12_risked
  refine okB (T_X12_isSideR q h) ?_
  rintro r3 s1 ⟨h2, hq4⟩
  refine okI (fun c5 => ?_) (fun c5 => ?_)
  ·
    unfold f_X12_risked_20
    exact okR h2
  ·
    have hs6 := hq4.resolve_left c5
    refine okB (T_X12_in q h2) ?_
    intro r9 s7 h8
    refine okI (fun c10 => ?_) (fun c10 => ?_)
    ·
      unfold f_X12_risked_20
      exact okR h8
    ·
      refine okB (T_X12_findRisk q h8 hs6) ?_
      intro r13 s11 h12
      exact okR h12
theorem T_X12_findBribe {Z : St → Prop} {σ0 : St} {M T S E A U Y L P N : Nat} (q : QB Z σ0 M T S E A U Y L P N) {p0 p1 : Int32} {s : St} (h : Z s) (hp : SD p0) : Ok (fun _ s' => Z s') (f_X12_findBribe p0 p1 s) := by
  unfold f_X12_findBribe
  refine okZ (Z := Z) (q.1.2.2 _ _ _ h (by decide)) (fun s0 h0 => ?_)
  refine okB (T_X12_trainsOfR q h0) ?_
  rintro _ s1 ⟨h1, k', hk', rfl⟩
  obtain ⟨k, hk, e⟩ := and_lt (i := k') (p1 ^^^ (-1 : Int32)) hk' (by omega)
  rw [bnd_mk, e]
  refine okC (fun (i : Nat) (x : Int32 × Int32 × Int32 × St) => x.2.2.1 = nI i ∧ x.2.1 = nI k ∧ SD x.1 ∧ Z x.2.2.2) (k + 1) ?_ (i := 0) (by unfold FU; omega) (by omega) ⟨rfl, rfl, hp, h1⟩
  rintro i ⟨v1, v3, v4, s2⟩ K hi ⟨hv, hw, hsd, h2⟩ hK
  dsimp only at hv hw hsd h2
  subst hv hw
  unfold g_X12_findBribe_18
  dsimp only
  refine okI (fun _ => okR h2) (fun c => ?_)
  replace c : i < k + 1 := cnt_lt rfl (by omega) c hi
  have key : ∀ s3, Z s3 → Ok (fun _ s' => Z s') (f_X12_findBribe_55 K v1 (nI k) (nI i) s3) := by
    intro s3 h3
    unfold f_X12_findBribe_55
    exact hK _ c ⟨nI_1 _, rfl, hsd, h3⟩
  refine okI (fun _ => ?_) (fun _ => key _ h2)
  refine okB (T_X12_isLate q h2 hsd) ?_
  intro r3 s3 h3
  refine okI (fun _ => key _ h3) (fun _ => ?_)
  refine okB (T_X12_priceOf q h3) ?_
  intro r4 s4 h4
  refine okB (T_X12_take q h4) ?_
  intro r5 s5 h5
  exact key _ h5
theorem T_X12_bribe {Z : St → Prop} {σ0 : St} {M T S E A U Y L P N : Nat} (q : QB Z σ0 M T S E A U Y L P N) {p0 : Int32} {s : St} (h : Z s) : Ok (fun _ s' => Z s') (f_X12_bribe p0 s) := by
  have qM := q.b.hM
  have qT := q.b.hT
  have qS := q.b.S512
  have qE := q.b.hE
  have qA := q.b.hA
  have qU := q.b.hU
  have qY := q.b.hY
  have qA2 := q.b.A256
  have qU2 := q.b.U256
  unfold f_X12_bribe
  refine okB (T_X12_isSideR q h) ?_
  rintro r3 s1 ⟨h2, hq4⟩
  refine okI (fun c5 => ?_) (fun c5 => ?_)
  ·
    exact okR h2
  ·
    have hs6 := hq4.resolve_left c5
    refine okB (T_X12_findBribe q h2 hs6) ?_
    intro r9 s7 h8
    refine okB (T_X12_orNone q h8) ?_
    intro r12 s10 h11
    exact okR h11
theorem T_X12_bribed {Z : St → Prop} {σ0 : St} {M T S E A U Y L P N : Nat} (q : QB Z σ0 M T S E A U Y L P N) {p0 : Int32} {s : St} (h : Z s) : Ok (fun _ s' => Z s') (f_X12_bribed p0 s) := by
  have qM := q.b.hM
  have qT := q.b.hT
  have qS := q.b.S512
  have qE := q.b.hE
  have qA := q.b.hA
  have qU := q.b.hU
  have qY := q.b.hY
  have qA2 := q.b.A256
  have qU2 := q.b.U256
  unfold f_X12_bribed
  refine okB (T_X12_isSideR q h) ?_
  rintro r3 s1 ⟨h2, hq4⟩
  refine okI (fun c5 => ?_) (fun c5 => ?_)
  ·
    exact okR h2
  ·
    have hs6 := hq4.resolve_left c5
    refine okB (T_X12_findBribe q h2 hs6) ?_
    intro r9 s7 h8
    exact okR h8
theorem T_X12_guardOf {Z : St → Prop} {σ0 : St} {M T S E A U Y L P N : Nat} (q : QB Z σ0 M T S E A U Y L P N) {p0 : Int32} {s : St} (h : Z s) (hp : SD p0) : Ok (fun _ s' => Z s') (f_X12_guardOf p0 s) := by
  have qM := q.b.hM
  have qT := q.b.hT
  have qS := q.b.S512
  have qE := q.b.hE
  have qA := q.b.hA
  have qU := q.b.hU
  have qY := q.b.hY
  have qA2 := q.b.A256
  have qU2 := q.b.U256
  unfold f_X12_guardOf
  refine okB (T_X12_findBribe q h hp) ?_
  intro r3 s1 h2
  refine okI (fun c4 => ?_) (fun c4 => ?_)
  ·
    unfold f_X12_guardOf_27
    refine okZ (Z := Z) (q.1.2.2 _ _ _ h2 (by decide)) (fun s5 h6 => ?_)
    refine okC (fun (i : Nat) (x : Int32 × Int32 × Int32 × St) => x.2.2.1 = nI i ∧ SD x.1 ∧ Z x.2.2.2) T ?_ (i := 0) (by unfold FU; omega) (by omega) ⟨rfl, hp, h6⟩
    rintro i7 ⟨v14, v15, v16, s12⟩ K8 hi9 ⟨hv11, hx17, h13⟩ hK10
    dsimp only at hv11 hx17 h13
    subst hv11
    unfold g_X12_guardOf_32
    dsimp only
    refine okD rfl ?_
    refine okI (fun _ => ?_) (fun c18 => ?_)
    ·
      exact okR h13
    ·
      replace c18 : i7 < T := cnt_le (q.at' h13).mT (by omega) c18 hi9
      refine okB (T_X12_of q h13 (j := 0) (by omega) (by omega)) ?_
      intro r21 s19 h20
      refine okI (fun c22 => ?_) (fun c22 => ?_)
      ·
        refine okB (T_X12_findBribe q h20 hx17) ?_
        intro r25 s23 h24
        refine okI (fun c26 => ?_) (fun c26 => ?_)
        ·
          unfold f_X12_guardOf_81
          refine okI (fun c27 => ?_) (fun c27 => ?_)
          ·
            refine okZ (Z := Z) (q.1.2.2 _ _ _ h24 (by decide)) (fun s28 h29 => ?_)
            unfold f_X12_guardOf_103
            refine okN ?_
            exact hK10 _ c18 ⟨nI_1 _, hx17, h29⟩
          ·
            unfold f_X12_guardOf_103
            refine okN ?_
            exact hK10 _ c18 ⟨nI_1 _, hx17, h24⟩
        ·
          unfold f_X12_guardOf_81
          refine okI (fun c30 => ?_) (fun c30 => ?_)
          ·
            refine okZ (Z := Z) (q.1.2.2 _ _ _ h24 (by decide)) (fun s31 h32 => ?_)
            unfold f_X12_guardOf_103
            refine okN ?_
            exact hK10 _ c18 ⟨nI_1 _, hx17, h32⟩
          ·
            unfold f_X12_guardOf_103
            refine okN ?_
            exact hK10 _ c18 ⟨nI_1 _, hx17, h24⟩
      ·
        unfold f_X12_guardOf_103
        refine okN ?_
        exact hK10 _ c18 ⟨nI_1 _, hx17, h20⟩
  ·
    unfold f_X12_guardOf_27
    refine okZ (Z := Z) (q.1.2.2 _ _ _ h2 (by decide)) (fun s33 h34 => ?_)
    refine okC (fun (i : Nat) (x : Int32 × Int32 × Int32 × St) => x.2.2.1 = nI i ∧ SD x.1 ∧ Z x.2.2.2) T ?_ (i := 0) (by unfold FU; omega) (by omega) ⟨rfl, hp, h34⟩
    rintro i35 ⟨v42, v43, v44, s40⟩ K36 hi37 ⟨hv39, hx45, h41⟩ hK38
    dsimp only at hv39 hx45 h41
    subst hv39
    unfold g_X12_guardOf_32
    dsimp only
    refine okD rfl ?_
    refine okI (fun _ => ?_) (fun c46 => ?_)
    ·
      exact okR h41
    ·
      replace c46 : i35 < T := cnt_le (q.at' h41).mT (by omega) c46 hi37
      refine okB (T_X12_of q h41 (j := 0) (by omega) (by omega)) ?_
      intro r49 s47 h48
      refine okI (fun c50 => ?_) (fun c50 => ?_)
      ·
        refine okB (T_X12_findBribe q h48 hx45) ?_
        intro r53 s51 h52
        refine okI (fun c54 => ?_) (fun c54 => ?_)
        ·
          unfold f_X12_guardOf_81
          refine okI (fun c55 => ?_) (fun c55 => ?_)
          ·
            refine okZ (Z := Z) (q.1.2.2 _ _ _ h52 (by decide)) (fun s56 h57 => ?_)
            unfold f_X12_guardOf_103
            refine okN ?_
            exact hK38 _ c46 ⟨nI_1 _, hx45, h57⟩
          ·
            unfold f_X12_guardOf_103
            refine okN ?_
            exact hK38 _ c46 ⟨nI_1 _, hx45, h52⟩
        ·
          unfold f_X12_guardOf_81
          refine okI (fun c58 => ?_) (fun c58 => ?_)
          ·
            refine okZ (Z := Z) (q.1.2.2 _ _ _ h52 (by decide)) (fun s59 h60 => ?_)
            unfold f_X12_guardOf_103
            refine okN ?_
            exact hK38 _ c46 ⟨nI_1 _, hx45, h60⟩
          ·
            unfold f_X12_guardOf_103
            refine okN ?_
            exact hK38 _ c46 ⟨nI_1 _, hx45, h52⟩
      ·
        unfold f_X12_guardOf_103
        refine okN ?_
        exact hK38 _ c46 ⟨nI_1 _, hx45, h48⟩
theorem T_X12_guard {Z : St → Prop} {σ0 : St} {M T S E A U Y L P N : Nat} (q : QB Z σ0 M T S E A U Y L P N) {p0 : Int32} {s : St} (h : Z s) : Ok (fun _ s' => Z s') (f_X12_guard p0 s) := by
  have qM := q.b.hM
  have qT := q.b.hT
  have qS := q.b.S512
  have qE := q.b.hE
  have qA := q.b.hA
  have qU := q.b.hU
  have qY := q.b.hY
  have qA2 := q.b.A256
  have qU2 := q.b.U256
  unfold f_X12_guard
  refine okB (T_X12_isSideR q h) ?_
  rintro r3 s1 ⟨h2, hq4⟩
  refine okI (fun c5 => ?_) (fun c5 => ?_)
  ·
    unfold f_X12_guard_18
    exact okR h2
  ·
    have hs6 := hq4.resolve_left c5
    refine okB (T_X12_guardOf q h2 hs6) ?_
    intro r9 s7 h8
    unfold f_X12_guard_18
    exact okR h8
theorem T_X12_guarded {Z : St → Prop} {σ0 : St} {M T S E A U Y L P N : Nat} (q : QB Z σ0 M T S E A U Y L P N) {p0 : Int32} {s : St} (h : Z s) : Ok (fun _ s' => Z s') (f_X12_guarded p0 s) := by
  have qM := q.b.hM
  have qT := q.b.hT
  have qS := q.b.S512
  have qE := q.b.hE
  have qA := q.b.hA
  have qU := q.b.hU
  have qY := q.b.hY
  have qA2 := q.b.A256
  have qU2 := q.b.U256
  unfold f_X12_guarded
  refine okB (T_X12_isSideR q h) ?_
  rintro r3 s1 ⟨h2, hq4⟩
  refine okI (fun c5 => ?_) (fun c5 => ?_)
  ·
    unfold f_X12_guarded_17
    exact okR h2
  ·
    have hs6 := hq4.resolve_left c5
    refine okB (T_X12_guardOf q h2 hs6) ?_
    intro r9 s7 h8
    refine okI (fun c10 => ?_) (fun c10 => ?_)
    ·
      unfold f_X12_guarded_17
      exact okR h8
    ·
      refine okI (fun c11 => ?_) (fun c11 => ?_)
      ·
        unfold f_X12_guarded_38
        exact okR h8
      ·
        unfold f_X12_guarded_38
        exact okR h8
theorem T_X12_fillFronts {Z : St → Prop} {σ0 : St} {M T S E A U Y L P N : Nat} (q : QB Z σ0 M T S E A U Y L P N)  {s : St} (h : Z s) : Ok (fun _ s' => Z s') (f_X12_fillFronts s) := by
  have qM := q.b.hM
  have qT := q.b.hT
  have qS := q.b.S512
  have qE := q.b.hE
  have qA := q.b.hA
  have qU := q.b.hU
  have qY := q.b.hY
  have qA2 := q.b.A256
  have qU2 := q.b.U256
  unfold f_X12_fillFronts
  refine okC (fun (i : Nat) (x : Int32 × St) => x.1 = nI i ∧ Z x.2) ((S - 1) + 1) ?_ (i := 0) (by unfold FU; omega) (by omega) ⟨rfl, h⟩
  rintro i1 ⟨v8, s6⟩ K2 hi3 ⟨hv5, h7⟩ hK4
  dsimp only at hv5 h7
  subst hv5
  unfold g_X12_fillFronts_2
  dsimp only
  rw [Q_X12_allTrains q h7, bd_mk]
  refine okI (fun _ => ?_) (fun c9 => ?_)
  ·
    exact okR h7
  ·
    replace c9 : i1 < (S - 1) + 1 := cnt_lt rfl (by omega) c9 hi3
    refine okB (T_X12_lastFront q h7) ?_
    intro r12 s10 h11
    refine okD (inb_ln (n := 512) rfl (by omega) (by omega)) ?_
    refine okZ (Z := Z) (q.1.2.1 _ _ _ h11 (by decide)) (fun s13 h14 => ?_)
    refine okN ?_
    exact hK4 _ c9 ⟨nI_1 _, h14⟩
theorem T_X12_isBought {Z : St → Prop} {σ0 : St} {M T S E A U Y L P N : Nat} (q : QB Z σ0 M T S E A U Y L P N) {p0 : Int32} {p1 : Int32} {p2 : Int32} {s : St} (h : Z s) : Ok (fun _ s' => Z s') (f_X12_isBought p0 p1 p2 s) := by
  have qM := q.b.hM
  have qT := q.b.hT
  have qS := q.b.S512
  have qE := q.b.hE
  have qA := q.b.hA
  have qU := q.b.hU
  have qY := q.b.hY
  have qA2 := q.b.A256
  have qU2 := q.b.U256
  unfold f_X12_isBought
  refine okB (T_X12_trainsOf q h) ?_
  intro r3 s1 h2
  refine okI (fun c4 => ?_) (fun c4 => ?_)
  ·
    refine okB (T_X12_priceOf q h2) ?_
    intro r7 s5 h6
    refine okI (fun c8 => ?_) (fun c8 => ?_)
    ·
      unfold f_X12_isBought_25
      unfold f_X12_isBought_26
      refine okD rfl ?_
      exact okR h6
    ·
      unfold f_X12_isBought_26
      refine okD rfl ?_
      exact okR h6
  ·
    unfold f_X12_isBought_25
    unfold f_X12_isBought_26
    refine okD rfl ?_
    exact okR h2
theorem T_X12_spoilOf {Z : St → Prop} {σ0 : St} {M T S E A U Y L P N : Nat} (q : QB Z σ0 M T S E A U Y L P N) {p0 : Int32} {p1 : Int32} {s : St} (h : Z s) : Ok (fun _ s' => Z s') (f_X12_spoilOf p0 p1 s) := by
  have qM := q.b.hM
  have qT := q.b.hT
  have qS := q.b.S512
  have qE := q.b.hE
  have qA := q.b.hA
  have qU := q.b.hU
  have qY := q.b.hY
  have qA2 := q.b.A256
  have qU2 := q.b.U256
  unfold f_X12_spoilOf
  refine okB (T_X12_fillFronts q h) ?_
  intro r3 s1 h2
  refine okC (fun (i : Nat) (x : Int32 × Int32 × Int32 × Int32 × St) => x.2.2.2.1 = nI i ∧ Z x.2.2.2.2) ((S - 1) + 1) ?_ (i := 0) (by unfold FU; omega) (by omega) ⟨rfl, h2⟩
  rintro i4 ⟨v11, v12, v13, v14, s9⟩ K5 hi6 ⟨hv8, h10⟩ hK7
  dsimp only at hv8 h10
  subst hv8
  unfold g_X12_spoilOf_11
  dsimp only
  rw [Q_X12_allTrains q h10, bd_mk]
  refine okI (fun _ => ?_) (fun c15 => ?_)
  ·
    exact okR h10
  ·
    replace c15 : i4 < (S - 1) + 1 := cnt_lt rfl (by omega) c15 hi6
    refine okB (T_X12_isBought q h10) ?_
    intro r18 s16 h17
    refine okI (fun c19 => ?_) (fun c19 => ?_)
    ·
      unfold f_X12_spoilOf_67
      refine okN ?_
      exact hK7 _ c15 ⟨nI_1 _, h17⟩
    ·
      refine okD (inb_ln (n := 512) rfl (by omega) (by omega)) ?_
      refine okB (T_X12_goodBy q h17) ?_
      intro r22 s20 h21
      refine okI (fun c23 => ?_) (fun c23 => ?_)
      ·
        refine okD (inb_ln (n := 512) rfl (by omega) (by omega)) ?_
        refine okB (T_X12_goodBy q h21) ?_
        intro r26 s24 h25
        refine okZ (Z := Z) (q.1.2.2 _ _ _ h25 (by decide)) (fun s27 h28 => ?_)
        unfold f_X12_spoilOf_67
        refine okN ?_
        exact hK7 _ c15 ⟨nI_1 _, h28⟩
      ·
        unfold f_X12_spoilOf_67
        refine okN ?_
        exact hK7 _ c15 ⟨nI_1 _, h21⟩
theorem T_X12_spoil {Z : St → Prop} {σ0 : St} {M T S E A U Y L P N : Nat} (q : QB Z σ0 M T S E A U Y L P N) {p0 : Int32} {p1 : Int32} {s : St} (h : Z s) : Ok (fun _ s' => Z s') (f_X12_spoil p0 p1 s) := by
  have qM := q.b.hM
  have qT := q.b.hT
  have qS := q.b.S512
  have qE := q.b.hE
  have qA := q.b.hA
  have qU := q.b.hU
  have qY := q.b.hY
  have qA2 := q.b.A256
  have qU2 := q.b.U256
  unfold f_X12_spoil
  refine okB (T_X12_isSideR q h) ?_
  rintro r3 s1 ⟨h2, hq4⟩
  refine okI (fun c5 => ?_) (fun c5 => ?_)
  ·
    unfold f_X12_spoil_24
    unfold f_X12_spoil_27
    exact okR h2
  ·
    have hs6 := hq4.resolve_left c5
    refine okB (T_X12_isPrice q h2) ?_
    intro r9 s7 h8
    refine okI (fun c10 => ?_) (fun c10 => ?_)
    ·
      unfold f_X12_spoil_24
      unfold f_X12_spoil_27
      exact okR h8
    ·
      refine okB (T_X12_spoilOf q h8) ?_
      intro r13 s11 h12
      unfold f_X12_spoil_27
      exact okR h12
theorem T_X12_spoils {Z : St → Prop} {σ0 : St} {M T S E A U Y L P N : Nat} (q : QB Z σ0 M T S E A U Y L P N) {p0 : Int32} {p1 : Int32} {s : St} (h : Z s) : Ok (fun _ s' => Z s') (f_X12_spoils p0 p1 s) := by
  have qM := q.b.hM
  have qT := q.b.hT
  have qS := q.b.S512
  have qE := q.b.hE
  have qA := q.b.hA
  have qU := q.b.hU
  have qY := q.b.hY
  have qA2 := q.b.A256
  have qU2 := q.b.U256
  unfold f_X12_spoils
  refine okB (T_X12_isSideR q h) ?_
  rintro r3 s1 ⟨h2, hq4⟩
  refine okI (fun c5 => ?_) (fun c5 => ?_)
  ·
    unfold f_X12_spoils_15
    exact okR h2
  ·
    have hs6 := hq4.resolve_left c5
    refine okB (T_X12_isPrice q h2) ?_
    intro r9 s7 h8
    refine okI (fun c10 => ?_) (fun c10 => ?_)
    ·
      unfold f_X12_spoils_15
      exact okR h8
    ·
      refine okB (T_X12_spoilOf q h8) ?_
      intro r13 s11 h12
      exact okR h12
theorem T_X12_bestGood {Z : St → Prop} {σ0 : St} {M T S E A U Y L P N : Nat} (q : QB Z σ0 M T S E A U Y L P N) {p0 : Int32} {t : Nat} {p2 : Int32} {s : St} (h : Z s) (ht : t < 512) : Ok (fun _ s' => Z s') (f_X12_bestGood p0 (nI t) p2 s) := by
  have qM := q.b.hM
  have qT := q.b.hT
  have qS := q.b.S512
  have qE := q.b.hE
  have qA := q.b.hA
  have qU := q.b.hU
  have qY := q.b.hY
  have qA2 := q.b.A256
  have qU2 := q.b.U256
  unfold f_X12_bestGood
  refine okC (fun (i : Nat) (x : Int32 × Int32 × Int32 × Int32 × Int32 × St) => x.2.2.2.2.1 = nI i ∧ x.2.1 = nI t ∧ Z x.2.2.2.2.2) ((S - 1) + 1) ?_ (i := 0) (by unfold FU; omega) (by omega) ⟨rfl, rfl, h⟩
  rintro i1 ⟨v8, v9, v10, v11, v12, s6⟩ K2 hi3 ⟨hv5, hx13, h7⟩ hK4
  dsimp only at hv5 hx13 h7
  subst hv5 hx13
  unfold g_X12_bestGood_8
  dsimp only
  rw [Q_X12_allTrains q h7, bd_mk]
  refine okI (fun _ => ?_) (fun c14 => ?_)
  ·
    exact okR h7
  ·
    replace c14 : i1 < (S - 1) + 1 := cnt_lt rfl (by omega) c14 hi3
    refine okB (T_X12_isBought q h7) ?_
    intro r17 s15 h16
    refine okI (fun c18 => ?_) (fun c18 => ?_)
    ·
      unfold f_X12_bestGood_50
      refine okN ?_
      exact hK4 _ c14 ⟨nI_1 _, rfl, h16⟩
    ·
      refine okD (inb_or rfl (by omega) (by omega)) ?_
      refine okB (T_X12_goodBy q h16) ?_
      intro r21 s19 h20
      refine okN ?_
      unfold f_X12_bestGood_50
      refine okN ?_
      exact hK4 _ c14 ⟨nI_1 _, rfl, h20⟩
theorem T_X12_answer {Z : St → Prop} {σ0 : St} {M T S E A U Y L P N : Nat} (q : QB Z σ0 M T S E A U Y L P N) {p0 : Int32} {p1 : Int32} {s : St} (h : Z s) : Ok (fun _ s' => Z s') (f_X12_answer p0 p1 s) := by
  have qM := q.b.hM
  have qT := q.b.hT
  have qS := q.b.S512
  have qE := q.b.hE
  have qA := q.b.hA
  have qU := q.b.hU
  have qY := q.b.hY
  have qA2 := q.b.A256
  have qU2 := q.b.U256
  unfold f_X12_answer
  refine okB (T_X12_isSideR q h) ?_
  rintro r3 s1 ⟨h2, hq4⟩
  refine okI (fun c5 => ?_) (fun c5 => ?_)
  ·
    unfold f_X12_answer_15
    exact okR h2
  ·
    have hs6 := hq4.resolve_left c5
    refine okB (T_X12_isPrice q h2) ?_
    intro r9 s7 h8
    refine okI (fun c10 => ?_) (fun c10 => ?_)
    ·
      unfold f_X12_answer_15
      exact okR h8
    ·
      refine okB (T_X12_fillFronts q h8) ?_
      intro r13 s11 h12
      refine okC (fun (i : Nat) (x : Int32 × Int32 × Int32 × Int32 × St) => x.2.2.2.1 = nI i ∧ SD x.1 ∧ Z x.2.2.2.2) ((S - 1) + 1) ?_ (i := 0) (by unfold FU; omega) (by omega) ⟨rfl, hs6, h12⟩
      rintro i14 ⟨v21, v22, v23, v24, s19⟩ K15 hi16 ⟨hv18, hx25, h20⟩ hK17
      dsimp only at hv18 hx25 h20
      subst hv18
      unfold g_X12_answer_30
      dsimp only
      rw [Q_X12_allTrains q h20, bd_mk]
      refine okI (fun _ => ?_) (fun c26 => ?_)
      ·
        exact okR h20
      ·
        replace c26 : i14 < (S - 1) + 1 := cnt_lt rfl (by omega) c26 hi16
        refine okB (T_X12_isBought q h20) ?_
        intro r29 s27 h28
        refine okI (fun c30 => ?_) (fun c30 => ?_)
        ·
          unfold f_X12_answer_63
          refine okN ?_
          exact hK17 _ c26 ⟨nI_1 _, hx25, h28⟩
        ·
          refine okB (T_X12_bestGood q h28 (by omega)) ?_
          intro r33 s31 h32
          refine okN ?_
          unfold f_X12_answer_63
          refine okN ?_
          exact hK17 _ c26 ⟨nI_1 _, hx25, h32⟩
theorem T_X12_rests {Z : St → Prop} {σ0 : St} {M T S E A U Y L P N : Nat} (q : QB Z σ0 M T S E A U Y L P N) {p0 : Int32} {s : St} (h : Z s) : Ok (fun _ s' => Z s') (f_X12_rests p0 s) := by
  have qM := q.b.hM
  have qT := q.b.hT
  have qS := q.b.S512
  have qE := q.b.hE
  have qA := q.b.hA
  have qU := q.b.hU
  have qY := q.b.hY
  have qA2 := q.b.A256
  have qU2 := q.b.U256
  unfold f_X12_rests
  refine okB (T_X12_isWar q h) ?_
  intro r3 s1 h2
  refine okI (fun c4 => ?_) (fun c4 => ?_)
  ·
    unfold f_X12_rests_14
    exact okR h2
  ·
    refine okB (T_X12_isPrice q h2) ?_
    intro r7 s5 h6
    refine okI (fun c8 => ?_) (fun c8 => ?_)
    ·
      unfold f_X12_rests_14
      exact okR h6
    ·
      refine okB (T_X12_fillFronts q h6) ?_
      intro r11 s9 h10
      refine okC (fun (i : Nat) (x : Int32 × Int32 × Int32 × St) => x.2.2.1 = nI i ∧ Z x.2.2.2) ((S - 1) + 1) ?_ (i := 0) (by unfold FU; omega) (by omega) ⟨rfl, h10⟩
      rintro i12 ⟨v19, v20, v21, s17⟩ K13 hi14 ⟨hv16, h18⟩ hK15
      dsimp only at hv16 h18
      subst hv16
      unfold g_X12_rests_25
      dsimp only
      rw [Q_X12_allTrains q h18, bd_mk]
      refine okI (fun _ => ?_) (fun c22 => ?_)
      ·
        exact okR h18
      ·
        replace c22 : i12 < (S - 1) + 1 := cnt_lt rfl (by omega) c22 hi14
        refine okB (T_X12_isBought q h18) ?_
        intro r25 s23 h24
        refine okI (fun c26 => ?_) (fun c26 => ?_)
        ·
          unfold f_X12_rests_122
          refine okN ?_
          exact hK15 _ c22 ⟨nI_1 _, h24⟩
        ·
          refine okB (T_X12_bestGood q h24 (by omega)) ?_
          intro r29 s27 h28
          refine okC (fun (i : Nat) (x : Int32 × Int32 × Int32 × Int32 × Int32 × St) => x.2.2.2.2.1 = nI i ∧ x.2.2.1 = nI i12 ∧ Z x.2.2.2.2.2) ((S - 1) + 1) ?_ (i := 0) (by unfold FU; omega) (by omega) ⟨rfl, rfl, h28⟩
          rintro i30 ⟨v37, v38, v39, v40, v41, s35⟩ K31 hi32 ⟨hv34, hx42, h36⟩ hK33
          dsimp only at hv34 hx42 h36
          subst hv34 hx42
          unfold g_X12_rests_58
          dsimp only
          rw [Q_X12_allTrains q h36, bd_mk]
          refine okI (fun _ => ?_) (fun c43 => ?_)
          ·
            unfold f_X12_rests_122
            refine okN ?_
            exact hK15 _ c22 ⟨nI_1 _, h36⟩
          ·
            replace c43 : i30 < (S - 1) + 1 := cnt_lt rfl (by omega) c43 hi32
            refine okB (T_X12_isBought q h36) ?_
            intro r46 s44 h45
            refine okI (fun c47 => ?_) (fun c47 => ?_)
            ·
              unfold f_X12_rests_116
              refine okN ?_
              exact hK33 _ c43 ⟨nI_1 _, rfl, h45⟩
            ·
              refine okD (inb_or rfl (by omega) (by omega)) ?_
              refine okI (fun c48 => ?_) (fun c48 => ?_)
              ·
                refine okD (inb_or rfl (by omega) (by omega)) ?_
                refine okB (T_X12_bestGood q h45 (by omega)) ?_
                intro r51 s49 h50
                refine okI (fun c52 => ?_) (fun c52 => ?_)
                ·
                  refine okN ?_
                  unfold f_X12_rests_116
                  refine okN ?_
                  exact hK33 _ c43 ⟨nI_1 _, rfl, h50⟩
                ·
                  unfold f_X12_rests_116
                  refine okN ?_
                  exact hK33 _ c43 ⟨nI_1 _, rfl, h50⟩
              ·
                unfold f_X12_rests_116
                refine okN ?_
                exact hK33 _ c43 ⟨nI_1 _, rfl, h45⟩
theorem T_X12_holdsBy {Z : St → Prop} {σ0 : St} {M T S E A U Y L P N : Nat} (q : QB Z σ0 M T S E A U Y L P N) {p0 : Int32} {p1 : Int32} {s : St} (h : Z s) : Ok (fun _ s' => Z s') (f_X12_holdsBy p0 p1 s) := by
  have qM := q.b.hM
  have qT := q.b.hT
  have qS := q.b.S512
  have qE := q.b.hE
  have qA := q.b.hA
  have qU := q.b.hU
  have qY := q.b.hY
  have qA2 := q.b.A256
  have qU2 := q.b.U256
  unfold f_X12_holdsBy
  refine okC (fun (i : Nat) (x : Int32 × Int32 × Int32 × St) => x.2.2.1 = nI i ∧ Z x.2.2.2) U ?_ (i := 0) (by unfold FU; omega) (by omega) ⟨rfl, h⟩
  rintro i1 ⟨v8, v9, v10, s6⟩ K2 hi3 ⟨hv5, h7⟩ hK4
  dsimp only at hv5 h7
  subst hv5
  unfold g_X12_holdsBy_2
  dsimp only
  refine okD rfl ?_
  refine okI (fun _ => ?_) (fun c11 => ?_)
  ·
    refine okD rfl ?_
    exact okR h7
  ·
    replace c11 : i1 < U := cnt_le (q.at' h7).mU (by omega) c11 hi3
    refine okD (by simp only [zL1, zL2, zL4, zL6, zL11, zL13, zL67, zL75, zL107, zL115, nI_add, nI_mul]; exact inb_ln (n := 240) rfl (by omega) (by omega)) ?_
    refine okB (T_X12_bit q h7) ?_
    intro r14 s12 h13
    refine okN ?_
    refine okD (by simp only [zL1, zL2, zL4, zL6, zL11, zL13, zL67, zL75, zL107, zL115, nI_add, nI_mul]; exact inb_ln (n := 240) rfl (by omega) (by omega)) ?_
    refine okB (T_X12_bit q h13) ?_
    intro r17 s15 h16
    refine okN ?_
    refine okB (T_X12_in q h16) ?_
    intro r20 s18 h19
    refine okI (fun c21 => ?_) (fun c21 => ?_)
    ·
      refine okN ?_
      exact hK4 _ c11 ⟨nI_1 _, h19⟩
    ·
      refine okD rfl ?_
      exact okR h19
theorem T_X12_readingsOf {Z : St → Prop} {σ0 : St} {M T S E A U Y L P N : Nat} (q : QB Z σ0 M T S E A U Y L P N) {p0 : Int32} {s : St} (h : Z s) : Ok (fun _ s' => Z s') (f_X12_readingsOf p0 s) := by
  have qM := q.b.hM
  have qT := q.b.hT
  have qS := q.b.S512
  have qE := q.b.hE
  have qA := q.b.hA
  have qU := q.b.hU
  have qY := q.b.hY
  have qA2 := q.b.A256
  have qU2 := q.b.U256
  unfold f_X12_readingsOf
  refine okC (fun (i : Nat) (x : Int32 × Int32 × Int32 × St) => x.2.2.1 = nI i ∧ Z x.2.2.2) (2 ^ (2 * U)) ?_ (i := 0) (by unfold FU; omega) (by omega) ⟨rfl, h⟩
  rintro i1 ⟨v8, v9, v10, s6⟩ K2 hi3 ⟨hv5, h7⟩ hK4
  dsimp only at hv5 h7
  subst hv5
  unfold g_X12_readingsOf_4
  dsimp only
  rw [Q_X12_allReadings q h7, bd_mk]
  refine okI (fun _ => ?_) (fun c11 => ?_)
  ·
    exact okR h7
  ·
    replace c11 : i1 < (2 ^ (2 * U)) := cnt_le rfl (by omega) c11 hi3
    refine okB (T_X12_holdsBy q h7) ?_
    intro r14 s12 h13
    refine okI (fun c15 => ?_) (fun c15 => ?_)
    ·
      unfold f_X12_readingsOf_27
      refine okN ?_
      refine okN ?_
      exact hK4 _ c11 ⟨nI_1 _, h13⟩
    ·
      unfold f_X12_readingsOf_27
      refine okN ?_
      refine okN ?_
      exact hK4 _ c11 ⟨nI_1 _, h13⟩
theorem T_X12_isSigned {Z : St → Prop} {σ0 : St} {M T S E A U Y L P N : Nat} (q : QB Z σ0 M T S E A U Y L P N) {p0 : Int32} {s : St} (h : Z s) : Ok (fun _ s' => Z s') (f_X12_isSigned p0 s) := by
  have qM := q.b.hM
  have qT := q.b.hT
  have qS := q.b.S512
  have qE := q.b.hE
  have qA := q.b.hA
  have qU := q.b.hU
  have qY := q.b.hY
  have qA2 := q.b.A256
  have qU2 := q.b.U256
  unfold f_X12_isSigned
  refine okB (T_X12_isWar q h) ?_
  intro r3 s1 h2
  refine okI (fun c4 => ?_) (fun c4 => ?_)
  ·
    unfold f_X12_isSigned_23
    unfold f_X12_isSigned_24
    refine okD rfl ?_
    exact okR h2
  ·
    refine okB (T_X12_in q h2) ?_
    intro r7 s5 h6
    refine okI (fun c8 => ?_) (fun c8 => ?_)
    ·
      unfold f_X12_isSigned_23
      unfold f_X12_isSigned_24
      refine okD rfl ?_
      exact okR h6
    ·
      unfold f_X12_isSigned_24
      refine okD rfl ?_
      exact okR h6
theorem T_X12_readings {Z : St → Prop} {σ0 : St} {M T S E A U Y L P N : Nat} (q : QB Z σ0 M T S E A U Y L P N) {p0 : Int32} {s : St} (h : Z s) : Ok (fun _ s' => Z s') (f_X12_readings p0 s) := by
  have qM := q.b.hM
  have qT := q.b.hT
  have qS := q.b.S512
  have qE := q.b.hE
  have qA := q.b.hA
  have qU := q.b.hU
  have qY := q.b.hY
  have qA2 := q.b.A256
  have qU2 := q.b.U256
  unfold f_X12_readings
  refine okB (T_X12_isSigned q h) ?_
  intro r3 s1 h2
  refine okI (fun c4 => ?_) (fun c4 => ?_)
  ·
    unfold f_X12_readings_18
    exact okR h2
  ·
    refine okB (T_X12_readingsOf q h2) ?_
    intro r7 s5 h6
    unfold f_X12_readings_18
    exact okR h6
theorem T_X12_loopholes {Z : St → Prop} {σ0 : St} {M T S E A U Y L P N : Nat} (q : QB Z σ0 M T S E A U Y L P N)  {s : St} (h : Z s) : Ok (fun _ s' => Z s') (f_X12_loopholes s) := by
  have qM := q.b.hM
  have qT := q.b.hT
  have qS := q.b.S512
  have qE := q.b.hE
  have qA := q.b.hA
  have qU := q.b.hU
  have qY := q.b.hY
  have qA2 := q.b.A256
  have qU2 := q.b.U256
  unfold f_X12_loopholes
  refine okB (T_X12_isWar q h) ?_
  intro r3 s1 h2
  refine okI (fun c4 => ?_) (fun c4 => ?_)
  ·
    exact okR h2
  ·
    refine okC (fun (i : Nat) (x : Int64 × Int32 × St) => x.2.1 = nI i ∧ Z x.2.2) 60 ?_ (i := 0) (by unfold FU; omega) (by omega) ⟨rfl, h2⟩
    rintro i5 ⟨v12, v13, s10⟩ K6 hi7 ⟨hv9, h11⟩ hK8
    dsimp only at hv9 h11
    subst hv9
    unfold g_X12_loopholes_15
    dsimp only
    refine okI (fun _ => ?_) (fun c14 => ?_)
    ·
      exact okR h11
    ·
      replace c14 : i5 < 60 := cnt_le rfl (by omega) c14 hi7
      refine okB (T_X12_readingsOf q h11) ?_
      intro r17 s15 h16
      rw [Q_X12_allReadings q h16, bd_mk]
      refine okB (T_X12_in q h16) ?_
      intro r20 s18 h19
      refine okI (fun c21 => ?_) (fun c21 => ?_)
      ·
        unfold f_X12_loopholes_49
        refine okN ?_
        refine okN ?_
        exact hK8 _ c14 ⟨nI_1 _, h19⟩
      ·
        unfold f_X12_loopholes_49
        refine okN ?_
        refine okN ?_
        exact hK8 _ c14 ⟨nI_1 _, h19⟩
theorem T_X12_closedOf {Z : St → Prop} {σ0 : St} {M T S E A U Y L P N : Nat} (q : QB Z σ0 M T S E A U Y L P N) {p0 : Int32} {s : St} (h : Z s) : Ok (fun _ s' => Z s') (f_X12_closedOf p0 s) := by
  have qM := q.b.hM
  have qT := q.b.hT
  have qS := q.b.S512
  have qE := q.b.hE
  have qA := q.b.hA
  have qU := q.b.hU
  have qY := q.b.hY
  have qA2 := q.b.A256
  have qU2 := q.b.U256
  unfold f_X12_closedOf
  refine okC (fun (i : Nat) (x : Int32 × Int32 × Int32 × St) => x.2.2.1 = nI i ∧ Z x.2.2.2) (2 ^ (2 * U)) ?_ (i := 0) (by unfold FU; omega) (by omega) ⟨rfl, h⟩
  rintro i1 ⟨v8, v9, v10, s6⟩ K2 hi3 ⟨hv5, h7⟩ hK4
  dsimp only at hv5 h7
  subst hv5
  unfold g_X12_closedOf_4
  dsimp only
  rw [Q_X12_allReadings q h7, bd_mk]
  refine okI (fun _ => ?_) (fun c11 => ?_)
  ·
    exact okR h7
  ·
    replace c11 : i1 < (2 ^ (2 * U)) := cnt_le rfl (by omega) c11 hi3
    refine okI (fun c12 => ?_) (fun c12 => ?_)
    ·
      unfold f_X12_closedOf_31
      refine okC (fun (i : Nat) (x : Int32 × Int32 × Int32 × Int32 × Int32 × St) => x.2.2.2.2.1 = nI i ∧ x.2.2.1 = nI i1 ∧ Z x.2.2.2.2.2) (2 ^ (2 * U)) ?_ (i := 0) (by unfold FU; omega) (by omega) ⟨rfl, rfl, h7⟩
      rintro i13 ⟨v20, v21, v22, v23, v24, s18⟩ K14 hi15 ⟨hv17, hx25, h19⟩ hK16
      dsimp only at hv17 hx25 h19
      subst hv17 hx25
      unfold g_X12_closedOf_37
      dsimp only
      rw [Q_X12_allReadings q h19, bd_mk]
      refine okI (fun _ => ?_) (fun c26 => ?_)
      ·
        unfold f_X12_closedOf_83
        refine okI (fun c27 => ?_) (fun c27 => ?_)
        ·
          unfold f_X12_closedOf_93
          unfold f_X12_closedOf_94
          refine okN ?_
          exact hK4 _ c11 ⟨nI_1 _, h19⟩
        ·
          unfold f_X12_closedOf_93
          unfold f_X12_closedOf_94
          refine okN ?_
          exact hK4 _ c11 ⟨nI_1 _, h19⟩
      ·
        replace c26 : i13 < (2 ^ (2 * U)) := cnt_le rfl (by omega) c26 hi15
        refine okI (fun c28 => ?_) (fun c28 => ?_)
        ·
          unfold f_X12_closedOf_83
          refine okI (fun c29 => ?_) (fun c29 => ?_)
          ·
            unfold f_X12_closedOf_93
            unfold f_X12_closedOf_94
            refine okN ?_
            exact hK4 _ c11 ⟨nI_1 _, h19⟩
          ·
            unfold f_X12_closedOf_93
            unfold f_X12_closedOf_94
            refine okN ?_
            exact hK4 _ c11 ⟨nI_1 _, h19⟩
        ·
          refine okI (fun c30 => ?_) (fun c30 => ?_)
          ·
            refine okB (T_X12_holdsBy q h19) ?_
            intro r33 s31 h32
            refine okI (fun c34 => ?_) (fun c34 => ?_)
            ·
              unfold f_X12_closedOf_70
              unfold f_X12_closedOf_75
              refine okN ?_
              exact hK16 _ c26 ⟨nI_1 _, rfl, h32⟩
            ·
              unfold f_X12_closedOf_75
              refine okN ?_
              exact hK16 _ c26 ⟨nI_1 _, rfl, h32⟩
          ·
            unfold f_X12_closedOf_70
            unfold f_X12_closedOf_75
            refine okN ?_
            exact hK16 _ c26 ⟨nI_1 _, rfl, h19⟩
    ·
      refine okB (T_X12_bits q h7) ?_
      intro r37 s35 h36
      refine okB (T_X12_bits q h36) ?_
      intro r40 s38 h39
      refine okI (fun c41 => ?_) (fun c41 => ?_)
      ·
        unfold f_X12_closedOf_31
        refine okC (fun (i : Nat) (x : Int32 × Int32 × Int32 × Int32 × Int32 × St) => x.2.2.2.2.1 = nI i ∧ x.2.2.1 = nI i1 ∧ Z x.2.2.2.2.2) (2 ^ (2 * U)) ?_ (i := 0) (by unfold FU; omega) (by omega) ⟨rfl, rfl, h39⟩
        rintro i42 ⟨v49, v50, v51, v52, v53, s47⟩ K43 hi44 ⟨hv46, hx54, h48⟩ hK45
        dsimp only at hv46 hx54 h48
        subst hv46 hx54
        unfold g_X12_closedOf_37
        dsimp only
        rw [Q_X12_allReadings q h48, bd_mk]
        refine okI (fun _ => ?_) (fun c55 => ?_)
        ·
          unfold f_X12_closedOf_83
          refine okI (fun c56 => ?_) (fun c56 => ?_)
          ·
            unfold f_X12_closedOf_93
            unfold f_X12_closedOf_94
            refine okN ?_
            exact hK4 _ c11 ⟨nI_1 _, h48⟩
          ·
            unfold f_X12_closedOf_93
            unfold f_X12_closedOf_94
            refine okN ?_
            exact hK4 _ c11 ⟨nI_1 _, h48⟩
        ·
          replace c55 : i42 < (2 ^ (2 * U)) := cnt_le rfl (by omega) c55 hi44
          refine okI (fun c57 => ?_) (fun c57 => ?_)
          ·
            unfold f_X12_closedOf_83
            refine okI (fun c58 => ?_) (fun c58 => ?_)
            ·
              unfold f_X12_closedOf_93
              unfold f_X12_closedOf_94
              refine okN ?_
              exact hK4 _ c11 ⟨nI_1 _, h48⟩
            ·
              unfold f_X12_closedOf_93
              unfold f_X12_closedOf_94
              refine okN ?_
              exact hK4 _ c11 ⟨nI_1 _, h48⟩
          ·
            refine okI (fun c59 => ?_) (fun c59 => ?_)
            ·
              refine okB (T_X12_holdsBy q h48) ?_
              intro r62 s60 h61
              refine okI (fun c63 => ?_) (fun c63 => ?_)
              ·
                unfold f_X12_closedOf_70
                unfold f_X12_closedOf_75
                refine okN ?_
                exact hK45 _ c55 ⟨nI_1 _, rfl, h61⟩
              ·
                unfold f_X12_closedOf_75
                refine okN ?_
                exact hK45 _ c55 ⟨nI_1 _, rfl, h61⟩
            ·
              unfold f_X12_closedOf_70
              unfold f_X12_closedOf_75
              refine okN ?_
              exact hK45 _ c55 ⟨nI_1 _, rfl, h48⟩
      ·
        unfold f_X12_closedOf_94
        refine okN ?_
        exact hK4 _ c11 ⟨nI_1 _, h39⟩
theorem T_X12_close {Z : St → Prop} {σ0 : St} {M T S E A U Y L P N : Nat} (q : QB Z σ0 M T S E A U Y L P N) {p0 : Int32} {s : St} (h : Z s) : Ok (fun _ s' => Z s') (f_X12_close p0 s) := by
  have qM := q.b.hM
  have qT := q.b.hT
  have qS := q.b.S512
  have qE := q.b.hE
  have qA := q.b.hA
  have qU := q.b.hU
  have qY := q.b.hY
  have qA2 := q.b.A256
  have qU2 := q.b.U256
  unfold f_X12_close
  refine okB (T_X12_isSigned q h) ?_
  intro r3 s1 h2
  refine okI (fun c4 => ?_) (fun c4 => ?_)
  ·
    exact okR h2
  ·
    refine okB (T_X12_closedOf q h2) ?_
    intro r7 s5 h6
    refine okI (fun c8 => ?_) (fun c8 => ?_)
    ·
      unfold f_X12_close_30
      exact okR h6
    ·
      refine okB (T_X12_bits q h6) ?_
      intro r11 s9 h10
      unfold f_X12_close_30
      exact okR h10
theorem T_X12_closed {Z : St → Prop} {σ0 : St} {M T S E A U Y L P N : Nat} (q : QB Z σ0 M T S E A U Y L P N) {p0 : Int32} {s : St} (h : Z s) : Ok (fun _ s' => Z s') (f_X12_closed p0 s) := by
  have qM := q.b.hM
  have qT := q.b.hT
  have qS := q.b.S512
  have qE := q.b.hE
  have qA := q.b.hA
  have qU := q.b.hU
  have qY := q.b.hY
  have qA2 := q.b.A256
  have qU2 := q.b.U256
  unfold f_X12_closed
  refine okB (T_X12_isSigned q h) ?_
  intro r3 s1 h2
  refine okI (fun c4 => ?_) (fun c4 => ?_)
  ·
    unfold f_X12_closed_18
    exact okR h2
  ·
    refine okB (T_X12_closedOf q h2) ?_
    intro r7 s5 h6
    unfold f_X12_closed_18
    exact okR h6
theorem T_X12_signs {Z : St → Prop} {σ0 : St} {M T S E A U Y L P N : Nat} (q : QB Z σ0 M T S E A U Y L P N)  {s : St} (h : Z s) : Ok (fun _ s' => Z s') (f_X12_signs s) := by
  have qM := q.b.hM
  have qT := q.b.hT
  have qS := q.b.S512
  have qE := q.b.hE
  have qA := q.b.hA
  have qU := q.b.hU
  have qY := q.b.hY
  have qA2 := q.b.A256
  have qU2 := q.b.U256
  unfold f_X12_signs
  refine okB (T_X12_isWar q h) ?_
  intro r3 s1 h2
  refine okI (fun c4 => ?_) (fun c4 => ?_)
  ·
    exact okR h2
  ·
    refine okC (fun (i : Nat) (x : Int32 × St) => x.1 = nI i ∧ Z x.2) 60 ?_ (i := 0) (by unfold FU; omega) (by omega) ⟨rfl, h2⟩
    rintro i5 ⟨v12, s10⟩ K6 hi7 ⟨hv9, h11⟩ hK8
    dsimp only at hv9 h11
    subst hv9
    unfold g_X12_signs_12
    dsimp only
    refine okI (fun _ => ?_) (fun c13 => ?_)
    ·
      exact okR h11
    ·
      replace c13 : i5 < 60 := cnt_le rfl (by omega) c13 hi7
      refine okB (T_X12_readingsOf q h11) ?_
      intro r16 s14 h15
      rw [Q_X12_allReadings q h15, bd_mk]
      refine okI (fun c17 => ?_) (fun c17 => ?_)
      ·
        exact okR h15
      ·
        refine okN ?_
        exact hK8 _ c13 ⟨nI_1 _, h15⟩
theorem T_X12_isTreaty {Z : St → Prop} {σ0 : St} {M T S E A U Y L P N : Nat} (q : QB Z σ0 M T S E A U Y L P N) {t : Nat} {p1 : Int32} {s : St} (h : Z s) (ht : t ≤ M) : Ok (fun _ s' => Z s') (f_X12_isTreaty (nI t) p1 s) := by
  have qM := q.b.hM
  unfold f_X12_isTreaty
  rw [bnd_mk, nI_1]
  refine okC (fun (i : Nat) (x : Int32 × Int32 × Int32 × St) => x.2.2.1 = nI i ∧ x.1 = nI t ∧ Z x.2.2.2) (M + 1) ?_ (i := t + 1) (by unfold FU; omega) (by omega) ⟨rfl, rfl, h⟩
  rintro i ⟨v1, v2, v3, s2⟩ K hi ⟨hv, hw, h2⟩ hK
  dsimp only at hv hw h2
  subst hv hw
  unfold g_X12_isTreaty_4
  dsimp only
  refine okD rfl ?_
  refine okI (fun _ => okD rfl (okR h2)) (fun c => ?_)
  replace c : i < M + 1 := cnt_lt (q.at' h2).mM (by omega) c hi
  refine okD (inb_ln (n := 61) rfl (by omega) (by omega)) ?_
  refine okD (inb_ln (n := 61) rfl (by omega) (by omega)) ?_
  refine okI (fun _ => okN (hK _ c ⟨nI_1 _, rfl, h2⟩)) (fun _ => okD rfl (okR h2))
theorem T_X12_treaties {Z : St → Prop} {σ0 : St} {M T S E A U Y L P N : Nat} (q : QB Z σ0 M T S E A U Y L P N) {p0 : Int32} {s : St} (h : Z s) : Ok (fun _ s' => Z s') (f_X12_treaties p0 s) := by
  have qM := q.b.hM
  have qT := q.b.hT
  have qS := q.b.S512
  have qE := q.b.hE
  have qA := q.b.hA
  have qU := q.b.hU
  have qY := q.b.hY
  have qA2 := q.b.A256
  have qU2 := q.b.U256
  unfold f_X12_treaties
  refine okB (T_X12_areTrains q h) ?_
  intro r3 s1 h2
  refine okI (fun c4 => ?_) (fun c4 => ?_)
  ·
    exact okR h2
  ·
    refine okB (T_X12_lastFront q h2) ?_
    intro r7 s5 h6
    refine okC (fun (i : Nat) (x : Int64 × Int32 × St) => x.2.1 = nI i ∧ Z x.2.2) (M + 1) ?_ (i := 1) (by unfold FU; omega) (by omega) ⟨rfl, h6⟩
    rintro i8 ⟨v15, v16, s13⟩ K9 hi10 ⟨hv12, h14⟩ hK11
    dsimp only at hv12 h14
    subst hv12
    unfold g_X12_treaties_23
    dsimp only
    refine okD rfl ?_
    refine okI (fun _ => ?_) (fun c17 => ?_)
    ·
      exact okR h14
    ·
      replace c17 : i8 < M + 1 := cnt_lt (q.at' h14).mM (by omega) c17 hi10
      refine okD rfl ?_
      refine okB (T_X12_isTreaty q h14 (by omega)) ?_
      intro r20 s18 h19
      refine okI (fun c21 => ?_) (fun c21 => ?_)
      ·
        unfold f_X12_treaties_60
        refine okN ?_
        refine okN ?_
        exact hK11 _ c17 ⟨nI_1 _, h19⟩
      ·
        unfold f_X12_treaties_60
        refine okN ?_
        refine okN ?_
        exact hK11 _ c17 ⟨nI_1 _, h19⟩
theorem T_X12_price {Z : St → Prop} {σ0 : St} {M T S E A U Y L P N : Nat} (q : QB Z σ0 M T S E A U Y L P N) {p0 p1 : Int32} {s : St} (h : Z s) : Ok (fun _ s' => Z s') (f_X12_price p0 p1 s) := by
  have qM := q.b.hM
  unfold f_X12_price f_X12_price_24
  refine okB (T_X12_areTrains q h) ?_
  intro r1 s1 h1
  refine okI (fun _ => okR h1) (fun _ => okD rfl ?_)
  rw [S_in, bd_mk]
  refine okI (fun _ => okR h1) (fun c2 => ?_)
  rw [show gr s1 59 (0 : Int32).toNatClampNeg = nI M from (q.at' h1).mM] at c2
  have e : (nI M).toInt64.toInt = M := by rw [Int32.toInt_toInt64, nI_toInt (by omega)]
  obtain ⟨t, -, -, ht, rfl⟩ := in_nI (n := 60) c2 (by decide) (by omega)
  refine okB (T_X12_lastFront q h1) ?_
  intro r2 s2 h2
  refine okC (fun (i : Nat) (x : Int32 × Int32 × St) => x.2.1 = nI i ∧ x.1 = nI t ∧ Z x.2.2) (60 + 1) ?_ (i := 0) (by unfold FU; omega) (by omega) ⟨rfl, rfl, h2⟩
  rintro i ⟨v1, v2, s3⟩ K hi ⟨hv, hw, h3⟩ hK
  dsimp only at hv hw h3
  subst hv hw
  unfold g_X12_price_35
  dsimp only
  refine okI (fun _ => okR h3) (fun c => ?_)
  replace c : i < 60 + 1 := cnt_lt rfl (by omega) c hi
  refine okB (T_X12_isTreaty q h3 (by omega)) ?_
  intro r4 s4 h4
  exact okI (fun _ => okN (hK _ c ⟨nI_1 _, rfl, h4⟩)) (fun _ => okR h4)
theorem T_X12_spiesBy {Z : St → Prop} {σ0 : St} {M T S E A U Y L P N : Nat} (q : QB Z σ0 M T S E A U Y L P N) {p0 : Int32} {s : St} (h : Z s) : Ok (fun _ s' => Z s') (f_X12_spiesBy p0 s) := by
  have qM := q.b.hM
  have qT := q.b.hT
  have qS := q.b.S512
  have qE := q.b.hE
  have qA := q.b.hA
  have qU := q.b.hU
  have qY := q.b.hY
  have qA2 := q.b.A256
  have qU2 := q.b.U256
  unfold f_X12_spiesBy
  refine okC (fun (i : Nat) (x : Int32 × Int32 × Int32 × St) => x.2.2.1 = nI i ∧ Z x.2.2.2) Y ?_ (i := 0) (by unfold FU; omega) (by omega) ⟨rfl, h⟩
  rintro i1 ⟨v8, v9, v10, s6⟩ K2 hi3 ⟨hv5, h7⟩ hK4
  dsimp only at hv5 h7
  subst hv5
  unfold g_X12_spiesBy_4
  dsimp only
  refine okD rfl ?_
  refine okI (fun _ => ?_) (fun c11 => ?_)
  ·
    exact okR h7
  ·
    replace c11 : i1 < Y := cnt_le (q.at' h7).mY (by omega) c11 hi3
    refine okD (by simp only [zL1, zL2, zL4, zL6, zL11, zL13, zL67, zL75, zL107, zL115, nI_add, nI_mul]; exact inb_ln (n := 240) rfl (by omega) (by omega)) ?_
    refine okI (fun c12 => ?_) (fun c12 => ?_)
    ·
      unfold f_X12_spiesBy_39
      refine okN ?_
      refine okN ?_
      exact hK4 _ c11 ⟨nI_1 _, h7⟩
    ·
      unfold f_X12_spiesBy_39
      refine okN ?_
      refine okN ?_
      exact hK4 _ c11 ⟨nI_1 _, h7⟩
theorem T_X12_knowing {Z : St → Prop} {σ0 : St} {M T S E A U Y L P N : Nat} (q : QB Z σ0 M T S E A U Y L P N) {p0 : Int32} {p1 : Int32} {s : St} (h : Z s) : Ok (fun _ s' => Z s') (f_X12_knowing p0 p1 s) := by
  have qM := q.b.hM
  have qT := q.b.hT
  have qS := q.b.S512
  have qE := q.b.hE
  have qA := q.b.hA
  have qU := q.b.hU
  have qY := q.b.hY
  have qA2 := q.b.A256
  have qU2 := q.b.U256
  unfold f_X12_knowing
  refine okC (fun (i : Nat) (x : Int32 × Int32 × Int32 × Int32 × St) => x.2.2.2.1 = nI i ∧ Z x.2.2.2.2) Y ?_ (i := 0) (by unfold FU; omega) (by omega) ⟨rfl, h⟩
  rintro i1 ⟨v8, v9, v10, v11, s6⟩ K2 hi3 ⟨hv5, h7⟩ hK4
  dsimp only at hv5 h7
  subst hv5
  unfold g_X12_knowing_5
  dsimp only
  refine okD rfl ?_
  refine okI (fun _ => ?_) (fun c12 => ?_)
  ·
    exact okR h7
  ·
    replace c12 : i1 < Y := cnt_le (q.at' h7).mY (by omega) c12 hi3
    refine okB (T_X12_bit q h7) ?_
    intro r15 s13 h14
    refine okD (by simp only [zL1, zL2, zL4, zL6, zL11, zL13, zL67, zL75, zL107, zL115, nI_add, nI_mul]; exact inb_ln (n := 240) rfl (by omega) (by omega)) ?_
    refine okB (T_X12_bit q h14) ?_
    intro r18 s16 h17
    refine okN ?_
    refine okN ?_
    exact hK4 _ c12 ⟨nI_1 _, h17⟩
theorem T_X12_spies {Z : St → Prop} {σ0 : St} {M T S E A U Y L P N : Nat} (q : QB Z σ0 M T S E A U Y L P N) {p0 : Int32} {s : St} (h : Z s) : Ok (fun _ s' => Z s') (f_X12_spies p0 s) := by
  have qM := q.b.hM
  have qT := q.b.hT
  have qS := q.b.S512
  have qE := q.b.hE
  have qA := q.b.hA
  have qU := q.b.hU
  have qY := q.b.hY
  have qA2 := q.b.A256
  have qU2 := q.b.U256
  unfold f_X12_spies
  refine okB (T_X12_areTrains q h) ?_
  intro r3 s1 h2
  refine okI (fun c4 => ?_) (fun c4 => ?_)
  ·
    unfold f_X12_spies_18
    exact okR h2
  ·
    refine okB (T_X12_spiesBy q h2) ?_
    intro r7 s5 h6
    unfold f_X12_spies_18
    exact okR h6
theorem T_X12_watchOf {Z : St → Prop} {σ0 : St} {M T S E A U Y L P N : Nat} (q : QB Z σ0 M T S E A U Y L P N) {p0 : Int32} {s : St} (h : Z s) : Ok (fun _ s' => Z s') (f_X12_watchOf p0 s) := by
  have qM := q.b.hM
  have qT := q.b.hT
  have qS := q.b.S512
  have qE := q.b.hE
  have qA := q.b.hA
  have qU := q.b.hU
  have qY := q.b.hY
  have qA2 := q.b.A256
  have qU2 := q.b.U256
  unfold f_X12_watchOf
  refine okB (T_X12_spiesBy q h) ?_
  intro r3 s1 h2
  refine okB (T_X12_bits q h2) ?_
  intro r6 s4 h5
  refine okZ (Z := Z) (q.1.2.2 _ _ _ h5 (by decide)) (fun s7 h8 => ?_)
  refine okC (fun (i : Nat) (x : Int32 × Int32 × Int32 × Int32 × St) => x.2.2.2.1 = nI i ∧ Z x.2.2.2.2) T ?_ (i := 0) (by unfold FU; omega) (by omega) ⟨rfl, h8⟩
  rintro i9 ⟨v16, v17, v18, v19, s14⟩ K10 hi11 ⟨hv13, h15⟩ hK12
  dsimp only at hv13 h15
  subst hv13
  unfold g_X12_watchOf_19
  dsimp only
  refine okD rfl ?_
  refine okI (fun _ => ?_) (fun c20 => ?_)
  ·
    exact okR h15
  ·
    replace c20 : i9 < T := cnt_le (q.at' h15).mT (by omega) c20 hi11
    refine okB (T_X12_knowing q h15) ?_
    intro r23 s21 h22
    refine okB (T_X12_bits q h22) ?_
    intro r26 s24 h25
    refine okB (T_X12_knowing q h25) ?_
    intro r29 s27 h28
    refine okN ?_
    refine okB (T_X12_bit q h28) ?_
    intro r32 s30 h31
    refine okI (fun c33 => ?_) (fun c33 => ?_)
    ·
      unfold f_X12_watchOf_85
      refine okN ?_
      exact hK12 _ c20 ⟨nI_1 _, h31⟩
    ·
      refine okI (fun c34 => ?_) (fun c34 => ?_)
      ·
        refine okZ (Z := Z) (q.1.2.2 _ _ _ h31 (by decide)) (fun s35 h36 => ?_)
        unfold f_X12_watchOf_85
        refine okN ?_
        exact hK12 _ c20 ⟨nI_1 _, h36⟩
      ·
        unfold f_X12_watchOf_85
        refine okN ?_
        exact hK12 _ c20 ⟨nI_1 _, h31⟩
theorem T_X12_watch {Z : St → Prop} {σ0 : St} {M T S E A U Y L P N : Nat} (q : QB Z σ0 M T S E A U Y L P N) {p0 : Int32} {s : St} (h : Z s) : Ok (fun _ s' => Z s') (f_X12_watch p0 s) := by
  have qM := q.b.hM
  have qT := q.b.hT
  have qS := q.b.S512
  have qE := q.b.hE
  have qA := q.b.hA
  have qU := q.b.hU
  have qY := q.b.hY
  have qA2 := q.b.A256
  have qU2 := q.b.U256
  unfold f_X12_watch
  refine okB (T_X12_areTrains q h) ?_
  intro r3 s1 h2
  refine okI (fun c4 => ?_) (fun c4 => ?_)
  ·
    unfold f_X12_watch_18
    exact okR h2
  ·
    refine okB (T_X12_watchOf q h2) ?_
    intro r7 s5 h6
    unfold f_X12_watch_18
    exact okR h6
theorem T_X12_leaves {Z : St → Prop} {σ0 : St} {M T S E A U Y L P N : Nat} (q : QB Z σ0 M T S E A U Y L P N) {p0 : Int32} {s : St} (h : Z s) : Ok (fun _ s' => Z s') (f_X12_leaves p0 s) := by
  have qM := q.b.hM
  have qT := q.b.hT
  have qS := q.b.S512
  have qE := q.b.hE
  have qA := q.b.hA
  have qU := q.b.hU
  have qY := q.b.hY
  have qA2 := q.b.A256
  have qU2 := q.b.U256
  unfold f_X12_leaves
  refine okB (T_X12_areTrains q h) ?_
  intro r3 s1 h2
  refine okI (fun c4 => ?_) (fun c4 => ?_)
  ·
    exact okR h2
  ·
    refine okB (T_X12_watchOf q h2) ?_
    intro r7 s5 h6
    exact okR h6
theorem T_X12_known {Z : St → Prop} {σ0 : St} {M T S E A U Y L P N : Nat} (q : QB Z σ0 M T S E A U Y L P N) {p0 : Int32} {p1 : Int32} {s : St} (h : Z s) : Ok (fun _ s' => Z s') (f_X12_known p0 p1 s) := by
  have qM := q.b.hM
  have qT := q.b.hT
  have qS := q.b.S512
  have qE := q.b.hE
  have qA := q.b.hA
  have qU := q.b.hU
  have qY := q.b.hY
  have qA2 := q.b.A256
  have qU2 := q.b.U256
  unfold f_X12_known
  refine okB (T_X12_areTrains q h) ?_
  intro r3 s1 h2
  refine okI (fun c4 => ?_) (fun c4 => ?_)
  ·
    unfold f_X12_known_18
    exact okR h2
  ·
    refine okB (T_X12_in q h2) ?_
    intro r7 s5 h6
    refine okI (fun c8 => ?_) (fun c8 => ?_)
    ·
      unfold f_X12_known_18
      exact okR h6
    ·
      refine okB (T_X12_spiesBy q h6) ?_
      intro r11 s9 h10
      refine okC (fun (i : Nat) (x : Int32 × Int32 × Int32 × Int32 × St) => x.2.2.2.1 = nI i ∧ Z x.2.2.2.2) T ?_ (i := 0) (by unfold FU; omega) (by omega) ⟨rfl, h10⟩
      rintro i12 ⟨v19, v20, v21, v22, s17⟩ K13 hi14 ⟨hv16, h18⟩ hK15
      dsimp only at hv16 h18
      subst hv16
      unfold g_X12_known_33
      dsimp only
      refine okD rfl ?_
      refine okI (fun _ => ?_) (fun c23 => ?_)
      ·
        exact okR h18
      ·
        replace c23 : i12 < T := cnt_le (q.at' h18).mT (by omega) c23 hi14
        refine okI (fun c24 => ?_) (fun c24 => ?_)
        ·
          unfold f_X12_known_83
          refine okN ?_
          exact hK15 _ c23 ⟨nI_1 _, h18⟩
        ·
          refine okB (T_X12_knowing q h18) ?_
          intro r27 s25 h26
          refine okI (fun c28 => ?_) (fun c28 => ?_)
          ·
            refine okB (T_X12_bits q h26) ?_
            intro r31 s29 h30
            unfold f_X12_known_69
            refine okI (fun c32 => ?_) (fun c32 => ?_)
            ·
              unfold f_X12_known_80
              refine okN ?_
              unfold f_X12_known_83
              refine okN ?_
              exact hK15 _ c23 ⟨nI_1 _, h30⟩
            ·
              unfold f_X12_known_80
              refine okN ?_
              unfold f_X12_known_83
              refine okN ?_
              exact hK15 _ c23 ⟨nI_1 _, h30⟩
          ·
            unfold f_X12_known_69
            refine okI (fun c33 => ?_) (fun c33 => ?_)
            ·
              unfold f_X12_known_80
              refine okN ?_
              unfold f_X12_known_83
              refine okN ?_
              exact hK15 _ c23 ⟨nI_1 _, h26⟩
            ·
              unfold f_X12_known_80
              refine okN ?_
              unfold f_X12_known_83
              refine okN ?_
              exact hK15 _ c23 ⟨nI_1 _, h26⟩
theorem QB.ask {Z : St → Prop} {σ0 : St} {M T S E A U Y L P N : Nat} (q : QB Z σ0 M T S E A U Y L P N) {k : Nat} (hk : k < A) : ∃ a l : Nat, a ≤ 59 ∧ 1 ≤ l ∧ l ≤ 20 ∧ gr σ0 59 (75 + 4 * k + 1) = nI a ∧ gr σ0 59 (75 + 4 * k + 2) = nI l := by
  obtain ⟨-, -, -, ⟨k', hk', -, h3, h4⟩, -⟩ := q.2.2
  have e := q.b.mA
  have hA := q.b.hA
  rw [h3] at e
  obtain rfl : k' = A := (nI_eq (by omega) (by omega)).mp e
  have a1 := (h4 k hk 1 (by omega)).2
  have a2 := (h4 k hk 2 (by omega)).2
  replace a1 : (0 : Int) ≤ (gr σ0 59 (75 + 4 * k + 1)).toInt ∧ (gr σ0 59 (75 + 4 * k + 1)).toInt ≤ 59 := a1
  replace a2 : (1 : Int) ≤ (gr σ0 59 (75 + 4 * k + 2)).toInt ∧ (gr σ0 59 (75 + 4 * k + 2)).toInt ≤ 20 := a2
  obtain ⟨a, ha, e1⟩ := nI_ofT (n := 59) a1.1 a1.2
  obtain ⟨l, hl, e2⟩ := nI_ofT (x := gr σ0 59 (75 + 4 * k + 2)) (n := 20) (by omega) a2.2
  refine ⟨a, l, ha, ?_, hl, e1, e2⟩
  rw [e2, nI_toInt (by omega)] at a2
  omega
theorem T_X12_nextAskR {Z : St → Prop} {σ0 : St} {M T S E A U Y L P N : Nat} (q : QB Z σ0 M T S E A U Y L P N) {p0 p1 : Int32} {s : St} (h : Z s) : Ok (fun r s' => Z s' ∧ (r = -1 ∨ ∃ k, k < A ∧ r = nI k ∧ p1.toInt ≤ (gr σ0 59 (75 + 4 * k + 1)).toInt)) (f_X12_nextAsk p0 p1 s) := by
  have qA := q.b.hA
  unfold f_X12_nextAsk
  refine okC (fun (i : Nat) (x : Int32 × Int32 × Int32 × Int32 × St) => x.2.2.2.1 = nI i ∧ x.2.1 = p1 ∧ (x.2.2.1 = -1 ∨ ∃ k, k < A ∧ x.2.2.1 = nI k ∧ p1.toInt ≤ (gr σ0 59 (75 + 4 * k + 1)).toInt) ∧ Z x.2.2.2.2) A ?_ (i := 0) (by unfold FU; omega) (by omega) ⟨rfl, rfl, Or.inl rfl, h⟩
  rintro i ⟨v1, v2, v3, v4, s2⟩ K hi ⟨hv, hw, hx, h2⟩ hK
  dsimp only at hv hw hx h2
  subst hv hw
  unfold g_X12_nextAsk_5 f_X12_nextAsk_62 f_X12_nextAsk_59
  dsimp only
  refine okD rfl ?_
  refine okI (fun _ => okR ⟨h2, hx⟩) (fun c => ?_)
  replace c : i < A := cnt_le (q.at' h2).mA (by omega) c hi
  refine okB (T_X12_bit q h2) ?_
  intro r3 s3 h3
  refine okI (fun _ => ?_) (fun _ => hK _ c ⟨nI_1 _, rfl, hx, h3⟩)
  rw [show f_X12_ofAsk (nI i) (1 : Int32) s3 = some (gr s3 59 (75 + 4 * i + 1), s3) from S_X12_ofAsk s3 (j := 1) (by omega) (by omega), bd_mk]
  refine okI (fun _ => hK _ c ⟨nI_1 _, rfl, hx, h3⟩) (fun c3 => ?_)
  rw [lt_toInt, q.g59 h3] at c3
  have hnew : nI i = -1 ∨ ∃ k, k < A ∧ nI i = nI k ∧ v2.toInt ≤ (gr σ0 59 (75 + 4 * k + 1)).toInt := Or.inr ⟨i, c, rfl, by omega⟩
  refine okI (fun _ => ?_) (fun c4 => ?_)
  · unfold f_X12_nextAsk_62
    exact hK _ c ⟨nI_1 _, rfl, hnew, h3⟩
  obtain ⟨k, hk, rfl, -⟩ := hx.resolve_left c4
  rw [show f_X12_ofAsk (nI i) (1 : Int32) s3 = some (gr s3 59 (75 + 4 * i + 1), s3) from S_X12_ofAsk s3 (j := 1) (by omega) (by omega), bd_mk]
  rw [show f_X12_ofAsk (nI k) (1 : Int32) s3 = some (gr s3 59 (75 + 4 * k + 1), s3) from S_X12_ofAsk s3 (j := 1) (by omega) (by omega), bd_mk]
  refine okI (fun _ => hK _ c ⟨nI_1 _, rfl, hx, h3⟩) (fun _ => ?_)
  unfold f_X12_nextAsk_62
  exact hK _ c ⟨nI_1 _, rfl, hnew, h3⟩
theorem T_X12_canGrant {Z : St → Prop} {σ0 : St} {M T S E A U Y L P N : Nat} (q : QB Z σ0 M T S E A U Y L P N) {p0 p1 : Int32} {s : St} (h : Z s) : Ok (fun _ s' => Z s') (f_X12_canGrant p0 p1 s) := by
  have qA := q.b.hA
  unfold f_X12_canGrant
  refine okB (T_X12_nextAskR q h) ?_
  rintro r1 s1 ⟨h1, hr⟩
  refine okM (fun (x : Int32 × Int32 × Int32 × Int32 × Int32 × St) => (x.2.2.2.2.1 = -1 ∨ ∃ k, k < A ∧ x.2.2.2.2.1 = nI k) ∧ Z x.2.2.2.2.2) (fun x => if x.2.2.2.2.1 = -1 then 0 else 61 - (gr σ0 59 (75 + 4 * x.2.2.2.2.1.toNatClampNeg + 1)).toInt.toNat) ?_ (by
    dsimp only
    by_cases c : r1 = -1
    · rw [if_pos c]; decide
    · rw [if_neg c]; unfold FU; omega) ⟨by
    rcases hr with e | ⟨k, hk, e, -⟩
    · exact Or.inl e
    · exact Or.inr ⟨k, hk, e⟩, h1⟩
  rintro ⟨v1, v2, v3, v4, v6, s2⟩ K ⟨hv, h2⟩ hK
  dsimp only at hv h2 hK
  unfold g_X12_canGrant_17 f_X12_canGrant_86
  dsimp only
  refine okI (fun _ => ?_) (fun c => ?_)
  · refine okB (T_X12_bits q h2) ?_
    intro r3 s3 h3
    exact okI (fun _ => okD rfl (okR h3)) (fun _ => okD rfl (okR h3))
  obtain ⟨k, hk, rfl⟩ := hv.resolve_left c
  have key : ∀ s3, Z s3 → Ok (fun _ s' => Z s') (f_X12_canGrant_41 K v1 v2 v3 (nI k) s3) := by
    intro s3 h3
    unfold f_X12_canGrant_41
    refine okB (T_X12_ofAsk q h3 (j := 0) (by omega) (by omega)) ?_
    intro r4 s4 h4
    unfold f_X12_endOf
    rw [show f_X12_ofAsk (nI k) (1 : Int32) s4 = some (gr s4 59 (75 + 4 * k + 1), s4) from S_X12_ofAsk s4 (j := 1) (by omega) (by omega), bd_mk]
    rw [show f_X12_ofAsk (nI k) (2 : Int32) s4 = some (gr s4 59 (75 + 4 * k + 2), s4) from S_X12_ofAsk s4 (j := 2) (by omega) (by omega), bd_mk, bd_mk, bnd_mk]
    refine okB (T_X12_nextAskR q h4) ?_
    rintro r5 s5 ⟨h5, hr5⟩
    obtain ⟨a, l, ha, hl, hl2, e1, e2⟩ := q.ask hk
    refine hK _ ⟨?_, h5⟩ ?_
    · rcases hr5 with e | ⟨j, hj, e, -⟩
      · exact Or.inl e
      · exact Or.inr ⟨j, hj, e⟩
    · dsimp only
      rw [if_neg c, nI_clamp (by omega), e1, nI_toInt (by omega)]
      rcases hr5 with e | ⟨j, hj, e, hle⟩
      · rw [if_pos e]; omega
      · by_cases c5 : r5 = -1
        · rw [if_pos c5]; omega
        · rw [if_neg c5, e, nI_clamp (by omega)]
          rw [q.g59 h4, e1, e2, nI_add, nI_toInt (by omega)] at hle
          omega
  refine okI (fun _ => key _ h2) (fun _ => ?_)
  rw [show f_X12_ofAsk (nI k) (0 : Int32) s2 = some (gr s2 59 (75 + 4 * k + 0), s2) from S_X12_ofAsk s2 (j := 0) (by omega) (by omega), bd_mk]
  exact okI (fun _ => okD rfl (okR h2)) (fun _ => key _ h2)
theorem T_X12_grantOf {Z : St → Prop} {σ0 : St} {M T S E A U Y L P N : Nat} (q : QB Z σ0 M T S E A U Y L P N) {p0 : Int32} {s : St} (h : Z s) : Ok (fun _ s' => Z s') (f_X12_grantOf p0 s) := by
  have qM := q.b.hM
  have qT := q.b.hT
  have qS := q.b.S512
  have qE := q.b.hE
  have qA := q.b.hA
  have qU := q.b.hU
  have qY := q.b.hY
  have qA2 := q.b.A256
  have qU2 := q.b.U256
  unfold f_X12_grantOf
  refine okC (fun (i : Nat) (x : Int32 × Int32 × Int32 × St) => x.2.2.1 = nI i ∧ Z x.2.2.2) (2 ^ A) ?_ (i := 0) (by unfold FU; omega) (by omega) ⟨rfl, h⟩
  rintro i1 ⟨v8, v9, v10, s6⟩ K2 hi3 ⟨hv5, h7⟩ hK4
  dsimp only at hv5 h7
  subst hv5
  unfold g_X12_grantOf_4
  dsimp only
  refine okD rfl ?_
  refine okI (fun _ => ?_) (fun c11 => ?_)
  ·
    exact okR h7
  ·
    replace c11 : i1 < (2 ^ A) := cnt_le (q.at' h7).rA (by omega) c11 hi3
    refine okC (fun (i : Nat) (x : Int32 × Int32 × Int32 × Int32 × Int32 × St) => x.2.2.2.2.1 = nI i ∧ x.2.2.1 = nI i1 ∧ Z x.2.2.2.2.2) A ?_ (i := 0) (by unfold FU; omega) (by omega) ⟨rfl, rfl, h7⟩
    rintro i12 ⟨v19, v20, v21, v22, v23, s17⟩ K13 hi14 ⟨hv16, hx24, h18⟩ hK15
    dsimp only at hv16 hx24 h18
    subst hv16 hx24
    unfold g_X12_grantOf_23
    dsimp only
    refine okD rfl ?_
    refine okI (fun _ => ?_) (fun c25 => ?_)
    ·
      refine okI (fun c26 => ?_) (fun c26 => ?_)
      ·
        unfold f_X12_grantOf_86
        refine okN ?_
        exact hK4 _ c11 ⟨nI_1 _, h18⟩
      ·
        refine okB (T_X12_canGrant q h18) ?_
        intro r29 s27 h28
        refine okI (fun c30 => ?_) (fun c30 => ?_)
        ·
          unfold f_X12_grantOf_86
          refine okN ?_
          exact hK4 _ c11 ⟨nI_1 _, h28⟩
        ·
          refine okZ (Z := Z) (q.1.2.2 _ _ _ h28 (by decide)) (fun s31 h32 => ?_)
          unfold f_X12_grantOf_86
          refine okN ?_
          exact hK4 _ c11 ⟨nI_1 _, h32⟩
    ·
      replace c25 : i12 < A := cnt_le (q.at' h18).mA (by omega) c25 hi14
      refine okB (T_X12_bit q h18) ?_
      intro r35 s33 h34
      refine okB (T_X12_ofAsk q h34 (j := 3) (by omega) (by omega)) ?_
      intro r38 s36 h37
      refine okN ?_
      refine okN ?_
      exact hK15 _ c25 ⟨nI_1 _, rfl, h37⟩
theorem T_X12_grant {Z : St → Prop} {σ0 : St} {M T S E A U Y L P N : Nat} (q : QB Z σ0 M T S E A U Y L P N)  {s : St} (h : Z s) : Ok (fun _ s' => Z s') (f_X12_grant s) := by
  have qM := q.b.hM
  have qT := q.b.hT
  have qS := q.b.S512
  have qE := q.b.hE
  have qA := q.b.hA
  have qU := q.b.hU
  have qY := q.b.hY
  have qA2 := q.b.A256
  have qU2 := q.b.U256
  unfold f_X12_grant
  refine okB (T_X12_isWar q h) ?_
  intro r3 s1 h2
  refine okI (fun c4 => ?_) (fun c4 => ?_)
  ·
    unfold f_X12_grant_17
    exact okR h2
  ·
    refine okB (T_X12_grantOf q h2) ?_
    intro r7 s5 h6
    unfold f_X12_grant_17
    exact okR h6
theorem T_X12_granted {Z : St → Prop} {σ0 : St} {M T S E A U Y L P N : Nat} (q : QB Z σ0 M T S E A U Y L P N)  {s : St} (h : Z s) : Ok (fun _ s' => Z s') (f_X12_granted s) := by
  have qM := q.b.hM
  have qT := q.b.hT
  have qS := q.b.S512
  have qE := q.b.hE
  have qA := q.b.hA
  have qU := q.b.hU
  have qY := q.b.hY
  have qA2 := q.b.A256
  have qU2 := q.b.U256
  unfold f_X12_granted
  refine okB (T_X12_isWar q h) ?_
  intro r3 s1 h2
  refine okI (fun c4 => ?_) (fun c4 => ?_)
  ·
    exact okR h2
  ·
    refine okB (T_X12_grantOf q h2) ?_
    intro r7 s5 h6
    exact okR h6
theorem T_X12_halves {Z : St → Prop} {σ0 : St} {M T S E A U Y L P N : Nat} (q : QB Z σ0 M T S E A U Y L P N)  {s : St} (h : Z s) : Ok (fun _ s' => Z s') (f_X12_halves s) := by
  have qM := q.b.hM
  have qT := q.b.hT
  have qS := q.b.S512
  have qE := q.b.hE
  have qA := q.b.hA
  have qU := q.b.hU
  have qY := q.b.hY
  have qA2 := q.b.A256
  have qU2 := q.b.U256
  unfold f_X12_halves
  refine okB (T_X12_isWar q h) ?_
  intro r3 s1 h2
  refine okI (fun c4 => ?_) (fun c4 => ?_)
  ·
    unfold f_X12_halves_17
    exact okR h2
  ·
    refine okB (T_X12_grantOf q h2) ?_
    intro r7 s5 h6
    unfold f_X12_halves_17
    exact okR h6
theorem T_X12_halved {Z : St → Prop} {σ0 : St} {M T S E A U Y L P N : Nat} (q : QB Z σ0 M T S E A U Y L P N)  {s : St} (h : Z s) : Ok (fun _ s' => Z s') (f_X12_halved s) := by
  have qM := q.b.hM
  have qT := q.b.hT
  have qS := q.b.S512
  have qE := q.b.hE
  have qA := q.b.hA
  have qU := q.b.hU
  have qY := q.b.hY
  have qA2 := q.b.A256
  have qU2 := q.b.U256
  unfold f_X12_halved
  refine okB (T_X12_isWar q h) ?_
  intro r3 s1 h2
  refine okI (fun c4 => ?_) (fun c4 => ?_)
  ·
    exact okR h2
  ·
    refine okB (T_X12_grantOf q h2) ?_
    intro r7 s5 h6
    exact okR h6
theorem T_X12_dry {Z : St → Prop} {σ0 : St} {M T S E A U Y L P N : Nat} (q : QB Z σ0 M T S E A U Y L P N) {p0 p1 p2 : Int32} {s : St} (h : Z s) : Ok (fun _ s' => Z s') (f_X12_dry p0 p1 p2 s) := by
  unfold f_X12_dry f_X12_dry_40
  refine okB (T_X12_isWar q h) ?_
  intro r1 s1 h1
  refine okI (fun _ => okR h1) (fun _ => ?_)
  rw [S_in, bd_mk]
  refine okI (fun _ => okR h1) (fun c1 => ?_)
  rw [S_in, bd_mk]
  refine okI (fun _ => okR h1) (fun c2 => ?_)
  rw [S_in, bd_mk]
  refine okI (fun _ => okR h1) (fun _ => ?_)
  obtain ⟨a, ha, -, -, rfl⟩ := in_nI (n := 9) c1 (by decide) (by decide)
  obtain ⟨b, hb, -, -, rfl⟩ := in_nI (n := 9) c2 (by decide) (by rw [Int32.toInt_toInt64, nI_toInt (by omega)]; omega)
  refine okC (fun (i : Nat) (x : Int32 × Int32 × Int32 × Int64 × Int64 × Int32 × St) => x.2.2.2.2.2.1 = nI i ∧ x.1 = nI a ∧ x.2.1 = nI b ∧ x.2.2.2.2.1 = 1 ∧ Z x.2.2.2.2.2.2) b ?_ (i := 0) (by unfold FU; omega) (by omega) ⟨rfl, rfl, rfl, rfl, h1⟩
  rintro i ⟨v1, v2, v3, v4, v6, v8, s2⟩ K hi ⟨hv, ha1, hb1, h61, h2⟩ hK
  dsimp only at hv ha1 hb1 h61 h2
  subst hv ha1 hb1 h61
  unfold g_X12_dry_53
  dsimp only
  refine okI (fun _ => ?_) (fun c => ?_)
  · refine okC (fun (i : Nat) (x : Int32 × Int32 × Int32 × Int64 × Int64 × Int32 × St) => x.2.2.2.2.2.1 = nI i ∧ x.1 = nI a ∧ x.2.2.2.2.1 = Int64.ofNat (100 ^ i) ∧ Z x.2.2.2.2.2.2) a ?_ (i := 0) (by unfold FU; omega) (by omega) ⟨rfl, rfl, rfl, h2⟩
    rintro i ⟨v1, v2, v3, v4, v6, v8, s3⟩ K hi ⟨hv, ha1, h61, h3⟩ hK
    dsimp only at hv ha1 h61 h3
    subst hv ha1 h61
    unfold g_X12_dry_84 f_X12_dry_118
    dsimp only
    refine okI (fun _ => ?_) (fun c => ?_)
    · refine okB (T_X12_part q h3 (pow100 i (by omega))) ?_
      intro r4 s4 h4
      exact okR h4
    · replace c := cnt_le rfl (by omega) c hi
      exact okI (fun _ => okD rfl (hK _ c ⟨nI_1 _, rfl, pow100s i, h3⟩)) (fun _ => okD rfl (hK _ c ⟨nI_1 _, rfl, pow100s i, h3⟩))
  · replace c := cnt_le rfl (by omega) c hi
    refine okD ?_ (okN (okN (hK _ c ⟨nI_1 _, rfl, rfl, rfl, h2⟩)))
    rw [Bool.not_eq_true', decide_eq_false_iff_not, nI_1]
    intro e
    have e2 := congrArg Int64.toInt e
    rw [Int32.toInt_toInt64, nI_toInt (by omega)] at e2
    have z0 : (0 : Int64).toInt = 0 := rfl
    omega
theorem T_X12_insist {Z : St → Prop} {σ0 : St} {M T S E A U Y L P N : Nat} (q : QB Z σ0 M T S E A U Y L P N) {p0 : Int32} {s : St} (h : Z s) : Ok (fun _ s' => Z s') (f_X12_insist p0 s) := by
  have qM := q.b.hM
  have qT := q.b.hT
  have qS := q.b.S512
  have qE := q.b.hE
  have qA := q.b.hA
  have qU := q.b.hU
  have qY := q.b.hY
  have qA2 := q.b.A256
  have qU2 := q.b.U256
  unfold f_X12_insist
  refine okB (T_X12_isWar q h) ?_
  intro r3 s1 h2
  refine okI (fun c4 => ?_) (fun c4 => ?_)
  ·
    unfold f_X12_insist_19
    exact okR h2
  ·
    refine okB (T_X12_in q h2) ?_
    intro r7 s5 h6
    refine okI (fun c8 => ?_) (fun c8 => ?_)
    ·
      unfold f_X12_insist_19
      exact okR h6
    ·
      refine okC (fun (i : Nat) (x : Int32 × Int32 × Int32 × St) => x.2.2.1 = nI i ∧ Z x.2.2.2) (60 + 1) ?_ (i := 1) (by unfold FU; omega) (by omega) ⟨rfl, h6⟩
      rintro i9 ⟨v16, v17, v18, s14⟩ K10 hi11 ⟨hv13, h15⟩ hK12
      dsimp only at hv13 h15
      subst hv13
      unfold g_X12_insist_28
      dsimp only
      refine okI (fun _ => ?_) (fun c19 => ?_)
      ·
        exact okR h15
      ·
        replace c19 : i9 < 60 + 1 := cnt_lt rfl (by omega) c19 hi11
        refine okD rfl ?_
        refine okN ?_
        refine okI (fun c20 => ?_) (fun c20 => ?_)
        ·
          refine okN ?_
          exact hK12 _ c19 ⟨nI_1 _, h15⟩
        ·
          exact okR h15
theorem T_X12_drawnDelays {Z : St → Prop} {σ0 : St} {M T S E A U Y L P N : Nat} (q : QB Z σ0 M T S E A U Y L P N) {p0 : Int64} {s : St} (h : Z s) : Ok (fun _ s' => Z s') (f_X12_drawnDelays p0 s) := by
  have qM := q.b.hM
  have qT := q.b.hT
  have qS := q.b.S512
  have qE := q.b.hE
  have qA := q.b.hA
  have qU := q.b.hU
  have qY := q.b.hY
  have qA2 := q.b.A256
  have qU2 := q.b.U256
  unfold f_X12_drawnDelays
  refine okN ?_
  refine okD rfl ?_
  refine okI (fun c1 => ?_) (fun c1 => ?_)
  ·
    refine okC (fun (i : Nat) (x : Int64 × Int32 × Int32 × St) => x.2.2.1 = nI i ∧ Z x.2.2.2) T ?_ (i := 0) (by unfold FU; omega) (by omega) ⟨rfl, h⟩
    rintro i2 ⟨v9, v10, v11, s7⟩ K3 hi4 ⟨hv6, h8⟩ hK5
    dsimp only at hv6 h8
    subst hv6
    unfold g_X12_drawnDelays_42
    dsimp only
    refine okD rfl ?_
    refine okI (fun _ => ?_) (fun c12 => ?_)
    ·
      exact okR h8
    ·
      replace c12 : i2 < T := cnt_le (q.at' h8).mT (by omega) c12 hi4
      refine okN ?_
      refine okB (T_X12_of q h8 (j := 3) (by omega) (by omega)) ?_
      intro r15 s13 h14
      refine okI (fun c16 => ?_) (fun c16 => ?_)
      ·
        unfold f_X12_drawnDelays_98
        refine okN ?_
        refine okN ?_
        exact hK5 _ c12 ⟨nI_1 _, h14⟩
      ·
        unfold f_X12_drawnDelays_98
        refine okN ?_
        refine okN ?_
        exact hK5 _ c12 ⟨nI_1 _, h14⟩
  ·
    exact okR h
theorem T_X12_isSeed {Z : St → Prop} {σ0 : St} {M T S E A U Y L P N : Nat} (q : QB Z σ0 M T S E A U Y L P N) {p0 : Int32} {s : St} (h : Z s) : Ok (fun _ s' => Z s') (f_X12_isSeed p0 s) := by
  have qM := q.b.hM
  have qT := q.b.hT
  have qS := q.b.S512
  have qE := q.b.hE
  have qA := q.b.hA
  have qU := q.b.hU
  have qY := q.b.hY
  have qA2 := q.b.A256
  have qU2 := q.b.U256
  unfold f_X12_isSeed
  refine okB (T_X12_isWar q h) ?_
  intro r3 s1 h2
  refine okI (fun c4 => ?_) (fun c4 => ?_)
  ·
    unfold f_X12_isSeed_23
    unfold f_X12_isSeed_24
    refine okD rfl ?_
    exact okR h2
  ·
    refine okB (T_X12_in q h2) ?_
    intro r7 s5 h6
    refine okI (fun c8 => ?_) (fun c8 => ?_)
    ·
      unfold f_X12_isSeed_23
      unfold f_X12_isSeed_24
      refine okD rfl ?_
      exact okR h6
    ·
      unfold f_X12_isSeed_24
      refine okD rfl ?_
      exact okR h6
theorem T_X12_drawn {Z : St → Prop} {σ0 : St} {M T S E A U Y L P N : Nat} (q : QB Z σ0 M T S E A U Y L P N) {p0 : Int32} {p1 : Int32} {s : St} (h : Z s) : Ok (fun _ s' => Z s') (f_X12_drawn p0 p1 s) := by
  have qM := q.b.hM
  have qT := q.b.hT
  have qS := q.b.S512
  have qE := q.b.hE
  have qA := q.b.hA
  have qU := q.b.hU
  have qY := q.b.hY
  have qA2 := q.b.A256
  have qU2 := q.b.U256
  unfold f_X12_drawn
  refine okB (T_X12_isSeed q h) ?_
  intro r3 s1 h2
  refine okI (fun c4 => ?_) (fun c4 => ?_)
  ·
    unfold f_X12_drawn_20
    exact okR h2
  ·
    refine okB (T_X12_in q h2) ?_
    intro r7 s5 h6
    refine okI (fun c8 => ?_) (fun c8 => ?_)
    ·
      unfold f_X12_drawn_20
      exact okR h6
    ·
      refine okB (T_X12_drawnDelays q h6) ?_
      intro r11 s9 h10
      refine okI (fun c12 => ?_) (fun c12 => ?_)
      ·
        try subst c12
        exact okR h10
      ·
        refine okI (fun c13 => ?_) (fun c13 => ?_)
        ·
          refine okI (fun c14 => ?_) (fun c14 => ?_)
          ·
            try subst c14
            unfold f_X12_drawn_51
            exact okR h10
          ·
            unfold f_X12_drawn_51
            exact okR h10
        ·
          refine okI (fun c15 => ?_) (fun c15 => ?_)
          ·
            try subst c15
            refine okB (T_X12_winner q h10) ?_
            intro r18 s16 h17
            unfold f_X12_drawn_70
            exact okR h17
          ·
            refine okB (T_X12_lastFront q h10) ?_
            intro r21 s19 h20
            unfold f_X12_drawn_70
            exact okR h20
theorem T_X12_luck {Z : St → Prop} {σ0 : St} {M T S E A U Y L P N : Nat} (q : QB Z σ0 M T S E A U Y L P N) {p0 p1 p2 : Int32} {s : St} (h : Z s) : Ok (fun _ s' => Z s') (f_X12_luck p0 p1 p2 s) := by
  unfold f_X12_luck f_X12_luck_28
  refine okB (T_X12_isSeed q h) ?_
  intro r1 s1 h1
  refine okI (fun _ => okR h1) (fun _ => ?_)
  rw [S_in, bd_mk]
  refine okI (fun _ => okR h1) (fun c1 => ?_)
  refine okB (T_X12_isSideR q h1) ?_
  rintro r2 s2 ⟨h2, -⟩
  refine okI (fun _ => okR h2) (fun _ => ?_)
  obtain ⟨a, ha, -, -, rfl⟩ := in_nI (n := 20) c1 (by decide) (by decide)
  refine okC (fun (i : Nat) (x : Int32 × Int32 × Int32 × Int32 × Int32 × St) => x.2.2.2.2.1 = nI i ∧ x.2.1 = nI a ∧ Z x.2.2.2.2.2) a ?_ (i := 0) (by unfold FU; omega) (by omega) ⟨rfl, rfl, h2⟩
  rintro i ⟨v1, v2, v3, v4, v5, s3⟩ K hi ⟨hv, hw, h3⟩ hK
  dsimp only at hv hw h3
  subst hv hw
  unfold g_X12_luck_37 f_X12_luck_77 f_X12_luck_78
  dsimp only
  refine okI (fun _ => okR h3) (fun c => ?_)
  replace c := cnt_le rfl (by omega) c hi
  refine okB (T_X12_drawnDelays q h3) ?_
  intro r4 s4 h4
  refine okI (fun _ => ?_) (fun _ => ?_)
  · exact okN (okN (hK _ c ⟨nI_1 _, rfl, h4⟩))
  refine okB (T_X12_winner q h4) ?_
  intro r5 s5 h5
  exact okI (fun _ => okN (okN (hK _ c ⟨nI_1 _, rfl, h5⟩))) (fun _ => okN (okN (hK _ c ⟨nI_1 _, rfl, h5⟩)))
theorem T_X12_count {Z : St → Prop} {σ0 : St} {M T S E A U Y L P N : Nat} (q : QB Z σ0 M T S E A U Y L P N) {p0 : Int32} {s : St} (h : Z s) : Ok (fun _ s' => Z s') (f_X12_count p0 s) := by
  have qM := q.b.hM
  have qT := q.b.hT
  have qS := q.b.S512
  have qE := q.b.hE
  have qA := q.b.hA
  have qU := q.b.hU
  have qY := q.b.hY
  have qA2 := q.b.A256
  have qU2 := q.b.U256
  unfold f_X12_count
  refine okI (fun c1 => ?_) (fun c1 => ?_)
  ·
    try subst c1
    refine okD rfl ?_
    exact okR h
  ·
    refine okI (fun c2 => ?_) (fun c2 => ?_)
    ·
      try subst c2
      refine okD rfl ?_
      exact okR h
    ·
      refine okI (fun c3 => ?_) (fun c3 => ?_)
      ·
        try subst c3
        refine okD rfl ?_
        exact okR h
      ·
        refine okI (fun c4 => ?_) (fun c4 => ?_)
        ·
          try subst c4
          refine okD rfl ?_
          exact okR h
        ·
          refine okI (fun c5 => ?_) (fun c5 => ?_)
          ·
            try subst c5
            refine okD rfl ?_
            exact okR h
          ·
            refine okI (fun c6 => ?_) (fun c6 => ?_)
            ·
              try subst c6
              refine okD rfl ?_
              exact okR h
            ·
              refine okI (fun c7 => ?_) (fun c7 => ?_)
              ·
                try subst c7
                refine okD rfl ?_
                exact okR h
              ·
                refine okI (fun c8 => ?_) (fun c8 => ?_)
                ·
                  try subst c8
                  refine okD rfl ?_
                  exact okR h
                ·
                  refine okI (fun c9 => ?_) (fun c9 => ?_)
                  ·
                    try subst c9
                    refine okD rfl ?_
                    exact okR h
                  ·
                    refine okI (fun c10 => ?_) (fun c10 => ?_)
                    ·
                      try subst c10
                      refine okD rfl ?_
                      exact okR h
                    ·
                      refine okI (fun c11 => ?_) (fun c11 => ?_)
                      ·
                        try subst c11
                        exact okR h
                      ·
                        refine okI (fun c12 => ?_) (fun c12 => ?_)
                        ·
                          try subst c12
                          refine okD rfl ?_
                          exact okR h
                        ·
                          refine okI (fun c13 => ?_) (fun c13 => ?_)
                          ·
                            try subst c13
                            refine okC (fun (i : Nat) (x : Int32 × Int32 × St) => x.2.1 = nI i ∧ Z x.2.2) 4 ?_ (i := 0) (by unfold FU; omega) (by omega) ⟨rfl, h⟩
                            rintro i14 ⟨v21, v22, s19⟩ K15 hi16 ⟨hv18, h20⟩ hK17
                            dsimp only at hv18 h20
                            subst hv18
                            unfold g_X12_count_157
                            dsimp only
                            refine okI (fun _ => ?_) (fun c23 => ?_)
                            ·
                              exact okR h20
                            ·
                              replace c23 : i14 < 4 := cnt_le rfl (by omega) c23 hi16
                              refine okD (inb_ln (n := 4) rfl (by omega) (by omega)) ?_
                              refine okI (fun c24 => ?_) (fun c24 => ?_)
                              ·
                                unfold f_X12_count_178
                                refine okN ?_
                                refine okN ?_
                                exact hK17 _ c23 ⟨nI_1 _, h20⟩
                              ·
                                unfold f_X12_count_178
                                refine okN ?_
                                refine okN ?_
                                exact hK17 _ c23 ⟨nI_1 _, h20⟩
                          ·
                            exact okR h
/-! ===== what holds between calls ===== -/
/-- a WAR without lines is empty -/
def WN (σ : St) (w : Nat) (F : Nat → Int32) : Prop := WR σ w F ∧ (gf σ w 0 = nI 0 → gf σ (w + 2) 3 = nI 0)
theorem WN.be {σ σ' : St} {w u : Nat} {F : Nat → Int32} (h : WN σ u F) (hb : BE σ σ' w u) : WN σ' w F := by
  refine ⟨h.1.be hb, ?_⟩
  rw [hb.1 0 (by omega), (hb.2.2 2 (by omega)).1]
  exact h.2
theorem WN.row {σ : St} {w : Nat} {F G : Nat → Int32} (h : WN σ w F) (hg : ∀ j, j < 240 → G j = F j) : WN σ w G := ⟨h.1.row hg, h.2⟩
def IM (σ : St) : Prop := ∀ k, k < 3 → (gm σ k = none ∧ gr σ 61 k = 0) ∨ ∃ b, gm σ k = some b ∧ gr σ 61 k = 1 ∧ WN σ (75 + 14 * b) (fun j => gr σ 60 (240 * k + j))
def IJ (σ : St) : Prop := ∀ k k' b, gm σ k = some b → gm σ k' = some b → k = k'
def c1 (o : Option Nat) : Nat := match o with
  | none => 0
  | some _ => 1
def IC (σ : St) : Prop := gn σ = c1 (gm σ 0) + c1 (gm σ 1) + c1 (gm σ 2)
def IV (σ : St) : Prop := TP σ ∧ SL σ ∧ FE σ ∧ MI σ ∧ WN σ 1 (gr σ 59) ∧ IM σ ∧ IJ σ ∧ IC σ
theorem c1_le (o : Option Nat) : c1 o ≤ 1 := by
  cases o with
  | none => exact Nat.zero_le _
  | some b => exact Nat.le_refl _
theorem IV.n3 {σ : St} (h : IV σ) : gn σ ≤ 3 := by
  have e : IC σ := h.2.2.2.2.2.2.2
  unfold IC at e
  have := c1_le (gm σ 0)
  have := c1_le (gm σ 1)
  have := c1_le (gm σ 2)
  omega
theorem WN.kp {σ σ' : St} {w : Nat} {F : Nat → Int32} (h : WN σ w F) (hk : ∀ i, w ≤ i → i < w + 14 → gf σ' i = gf σ i ∧ gr σ' i = gr σ i) : WN σ' w F := by
  refine h.be ⟨fun k _ => by rw [(hk w (by omega) (by omega)).1], fun j _ => by rw [(hk (w + 1) (by omega) (by omega)).2], fun t ht => ?_⟩
  have ht' : t ≤ 12 := by omega
  exact ⟨by rw [(hk (w + t) (by omega) (by omega)).1], fun j _ => by rw [(hk (w + t + 1) (by omega) (by omega)).2]⟩
theorem IM.kp {σ σ' : St} (h : IM σ) (hk : ∀ i, (i = 60 ∨ i = 61 ∨ 75 ≤ i) → gf σ' i = gf σ i ∧ gr σ' i = gr σ i) (hm : gm σ' = gm σ) : IM σ' := by
  intro k hk3
  rcases h k hk3 with ⟨a, b⟩ | ⟨b, a1, a2, a3⟩
  · exact Or.inl ⟨by rw [hm]; exact a, by rw [(hk 61 (by omega)).2]; exact b⟩
  · refine Or.inr ⟨b, by rw [hm]; exact a1, by rw [(hk 61 (by omega)).2]; exact a2, ?_⟩
    rw [(hk 60 (by omega)).2]
    exact a3.kp (fun i hi _ => hk i (by omega))
theorem IV.fr {σ σ' : St} {l : List Nat} (h : IV σ) (hf : Fr l σ σ') (hl : ∀ i ∈ l, 15 ≤ i ∧ i < 75 ∧ i ≠ 59 ∧ i ≠ 60 ∧ i ≠ 61) (hT : TP σ') (hS : SL σ') (hF : FE σ') : IV σ' := by
  obtain ⟨-, -, -, a4, a5, a6, a7, a8⟩ := h
  have hk : ∀ i, (i < 15 ∨ i = 59 ∨ i = 60 ∨ i = 61 ∨ 75 ≤ i) → gf σ' i = gf σ i ∧ gr σ' i = gr σ i := fun i hi => by
    have := hf.1 i (fun hm => by have := hl i hm; omega)
    exact ⟨this.1, this.2.1⟩
  refine ⟨hT, hS, hF, ?_, ?_, a6.kp (fun i hi => hk i (by omega)) hf.2.1, ?_, ?_⟩
  · intro k b hb
    rw [hf.2.1] at hb
    rw [hf.2.2]
    exact a4 k b hb
  · rw [(hk 59 (by omega)).2]
    exact a5.kp (fun i _ hi => hk i (by omega))
  · intro k k' b
    rw [hf.2.1]
    exact a7 k k' b
  · unfold IC
    rw [hf.2.1, hf.2.2]
    exact a8
theorem TP.fr {σ σ' : St} {l : List Nat} (h : TP σ) (hf : Fr l σ σ') (hl : 29 ∉ l ∧ 30 ∉ l ∧ 62 ∉ l) (h5 : gf σ' 58 5 = gf σ 58 5) : TP σ' := by
  obtain ⟨n, a1, a2, a3, a4, a5⟩ := h
  refine ⟨n, a1, by rw [(hf.1 29 hl.1).1]; exact a2, h5.trans a3, fun j hj => ?_, fun j hj => ?_⟩
  · rw [(hf.1 30 hl.2.1).2.1, (hf.1 62 hl.2.2).2.1]; exact a4 j hj
  · rw [(hf.1 30 hl.2.1).2.1]; exact a5 j hj
theorem FE.fr {σ σ' : St} {l : List Nat} (h : FE σ) (hf : Fr l σ σ') (hl : 29 ∉ l) (h12 : gf σ' 58 12 = gf σ 58 12) (h13 : gf σ' 58 13 = gf σ 58 13) : FE σ' := by
  unfold FE at *
  rw [(hf.1 29 hl).1, h12, h13]
  exact h
/-- a change to objects that no row speaks of -/
theorem IV.fr0 {σ σ' : St} {l : List Nat} (h : IV σ) (hf : Fr l σ σ') (hl : ∀ i ∈ l, 30 < i ∧ i < 75 ∧ i ≠ 53 ∧ i ≠ 54 ∧ i ≠ 55 ∧ i ≠ 59 ∧ i ≠ 60 ∧ i ≠ 61 ∧ i ≠ 62 ∧ i ≠ 71 ∧ i ≠ 72) (h5 : ∀ c, c < 14 → gf σ' 58 c = gf σ 58 c) : IV σ' := by
  have hn : ∀ i, (i = 29 ∨ i = 30 ∨ i = 62 ∨ i = 53 ∨ i = 54 ∨ i = 55 ∨ i = 71 ∨ i = 72) → i ∉ l := fun i hi hm => by have := hl i hm; omega
  exact h.fr hf (fun i hi => by have := hl i hi; omega) (h.1.fr hf ⟨hn _ (by omega), hn _ (by omega), hn _ (by omega)⟩ (h5 _ (by omega))) (h.2.1.fr hf (hn _ (by omega)) (hn _ (by omega)) (hn _ (by omega)) (hn _ (by omega)) (hn _ (by omega))) (h.2.2.1.fr hf (hn _ (by omega)) (h5 _ (by omega)) (h5 _ (by omega)))
def ZR (σ : St) : St → Prop := fun s => Fr SRf σ s ∧ ∀ c, c < 14 → gf s 58 c = gf σ 58 c
theorem zq_of (σ : St) : ZQ (ZR σ) σ := by
  refine ⟨fun s h => h.1, fun s i f h hi => ⟨h.1.tr (Fr.cR ?_), fun c hc => h.2 c hc⟩, fun s c v h hc => ⟨h.1.tr (Fr.c1 (by decide)), fun c' hc' => ?_⟩⟩
  · rcases hi with rfl | rfl | rfl
    · decide
    · decide
    · decide
  · rw [← h.2 c' hc']
    show gf (sF s 58 (upd (gf s 58) c v)) 58 c' = _
    rw [gf_sF, if_pos rfl]
    unfold upd
    rw [if_neg (by omega)]
/-! ===== what is told anew, what is taken back ===== -/
theorem tb13 : TB4 13 3 60 := by unfold TB4; decide
theorem S_setc {t wd room k i c : Nat} {σ : St} (hT : TB4 t wd room) (hk : k ≤ room) (hi' : i < k) (hc : c < wd) (r : Int32) (h : gf σ t 3 = nI k) : f_X9_set t (nI i) (nI c) r σ = some ((), sr σ (t + 1) (i * wd + c) r) := by
  have hi := hT.isT σ
  obtain ⟨h1, h2, h3, h4, h5, h6, h7, h8, h9, h10, -⟩ := hT
  have hb : i * wd + c < room * wd := by
    have : (i + 1) * wd ≤ room * wd := Nat.mul_le_mul_right _ (by omega)
    rw [Nat.add_mul, Nat.one_mul] at this
    omega
  have hb2 : room * wd ≤ 360 := by
    calc room * wd ≤ 60 * 6 := Nat.mul_le_mul h10 h8
      _ = 360 := rfl
  unfold f_X9_set f_X9_set_38
  rw [hi, gd_tt, h, h1, if_neg (nI_pos (by omega)), if_neg (nI_ge (by omega) (by omega)), if_neg (nI_pos (by omega)), if_neg (nI_ge (by omega) (by omega)), h3, nI_mul, nI_add, inb_nI hb (by omega), gd_tt, bnd_mk, nI_clamp (by omega)]
theorem WR.chg {σ σ' : St} {F F' : Nat → Int32} (h : WR σ 1 F) (ho : ∀ i, 5 ≤ i → i < 13 → gf σ' i = gf σ i ∧ gr σ' i = gr σ i) (hF : ∀ j, (4 ≤ j ∧ j ≤ 8) ∨ (67 ≤ j ∧ j < 120) → F' j = F j) (hd : HD σ' 1 F') (ht : TV σ' 3 F' 4 13 6 9 [0, 1, 0, 0, 1, 0] [1, 99, 59, 100, 30, 999]) (hc : CR σ' 1 F') : WR σ' 1 F' := by
  obtain ⟨-, -, b3, b4, b5, b6, b7, b8, b9, -⟩ := h
  refine ⟨hd, ht, ?_, ?_, ?_, ?_, ?_, ?_, ?_, hc⟩
  · exact b3.mv (congrFun (ho (1 + 4) (by omega) (by omega)).1 3) (fun j _ => congrFun (ho (1 + 4 + 1) (by omega) (by omega)).2 j) (hF 5 (by omega)) (fun j h1 h2 => hF j (by omega))
  · exact b4.mv (congrFun (ho (1 + 6) (by omega) (by omega)).1 3) (fun j _ => congrFun (ho (1 + 6 + 1) (by omega) (by omega)).2 j) (hF 6 (by omega)) (fun j h1 h2 => hF j (by omega))
  · exact b5.mv (congrFun (ho (1 + 8) (by omega) (by omega)).1 3) (fun j _ => congrFun (ho (1 + 8 + 1) (by omega) (by omega)).2 j) (hF 7 (by omega)) (fun j h1 h2 => hF j (by omega))
  · exact b6.mv (congrFun (ho (1 + 10) (by omega) (by omega)).1 3) (fun j _ => congrFun (ho (1 + 10 + 1) (by omega) (by omega)).2 j) (hF 8 (by omega)) (fun j h1 h2 => hF j (by omega))
  · intro k hk h4 i hi
    rw [hF (67 + 2 * i) (by omega), hF (67 + 2 * i + 1) (by omega)]
    exact b7 k (by rw [← hF 5 (by omega)]; exact hk) h4 i hi
  · intro k hk h4 i hi
    rw [hF (107 + 2 * i) (by omega), hF (107 + 2 * i + 1) (by omega)]
    exact b8 k (by rw [← hF 7 (by omega)]; exact hk) h4 i hi
  · intro k m hk h5 hm h9 i hi
    rw [hF (115 + i) (by omega)]
    exact b9 k m (by rw [← hF 8 (by omega)]; exact hk) h5 (by rw [← hF 4 (by omega)]; exact hm) h9 i hi
theorem CE.mv {σ σ' : St} {F F' : Nat → Int32} {j : Nat} (h : CE σ 1 F j) (h4 : F' 4 = F 4) (hg : ∀ x, x < 3 → gr σ' (1 + 13) (3 * j + x) = gr σ (1 + 13) (3 * j + x)) (h0 : F' (120 + 2 * j) = F (120 + 2 * j)) (h1 : F' (121 + 2 * j) = F (121 + 2 * j)) : CE σ' 1 F' j := by
  obtain ⟨row, what, old, m, a1, a2, a3, a4, a5, a6, a7⟩ := h
  refine ⟨row, what, old, m, h4.trans a1, a2, (hg 0 (by omega)).trans a3, (hg 1 (by omega)).trans a4, (hg 2 (by omega)).trans a5, h1.trans a6, ?_⟩
  rw [h0]
  exact a7
theorem cell_ne {wd i c i' c' : Nat} (hc : c < wd) (hc' : c' < wd) (h : ¬ (i' = i ∧ c' = c)) : i' * wd + c' ≠ i * wd + c := by
  intro e
  rcases Nat.lt_trichotomy i' i with g | g | g
  · have := Nat.mul_le_mul_right wd (show i' + 1 ≤ i from g)
    rw [Nat.add_mul, Nat.one_mul] at this
    omega
  · subst g
    omega
  · have := Nat.mul_le_mul_right wd (show i + 1 ≤ i' from g)
    rw [Nat.add_mul, Nat.one_mul] at this
    omega
theorem TV.set {σ σ' : St} {t : Nat} {F F' : Nat → Int32} {ix base wd room k i c : Nat} {lo hi : List Int} (h : TV σ t F ix base wd room lo hi) (hk : gf σ t 3 = nI k) (hkr : k ≤ room) (hr : room ≤ 60) (hc : c < wd) (v : Int32) (hv : lo.getD c 0 ≤ v.toInt ∧ v.toInt ≤ hi.getD c 0) (h1 : gf σ' t 3 = gf σ t 3) (h2 : ∀ j, j < wd * room → gr σ' (t + 1) j = if j = i * wd + c then v else gr σ (t + 1) j) (h3 : F' ix = F ix) (h4 : ∀ j, base ≤ j → j < base + wd * room → F' j = if j = base + wd * i + c then v else F j) : TV σ' t F' ix base wd room lo hi := by
  obtain ⟨k', a1, a2, a3, a4⟩ := h
  refine ⟨k', a1, h1.trans a2, h3.trans a3, fun i' hi' c' hc' => ?_⟩
  have hb : i' * wd + c' < wd * room := by
    have : (i' + 1) * wd ≤ room * wd := Nat.mul_le_mul_right _ (by omega)
    rw [Nat.add_mul, Nat.one_mul] at this
    rw [Nat.mul_comm wd room]
    omega
  have e1 : wd * i' = i' * wd := Nat.mul_comm _ _
  have e2 : wd * i = i * wd := Nat.mul_comm _ _
  rw [h2 _ hb, h4 _ (by omega) (by omega)]
  by_cases e : i' = i ∧ c' = c
  · rw [if_pos (by rw [e.1, e.2]), if_pos (by rw [e.1, e.2]), e.2]
    exact ⟨rfl, hv⟩
  · have := cell_ne hc hc' e
    rw [if_neg this, if_neg (by omega)]
    exact a4 i' hi' c' hc'
/-- the reference's row behind a change -/
def CHG (F : Nat → Int32) (X k : Nat) (v : Int32) : Nat → Int32 := upd (upd (upd (upd F (120 + 2 * k) (nI X)) (121 + 2 * k) (F X)) X v) 10 (nI (k + 1))
theorem upd_at (f : Nat → Int32) (k j : Nat) (v : Int32) : upd f k v j = if j = k then v else f j := rfl
theorem sr_sR (s : St) (i k : Nat) (f : Nat → Int32) (v : Int32) : sr (sR s i f) i k v = sR s i (upd f k v) := by
  unfold sr
  rw [gr_sR, if_pos rfl]
  unfold sR
  congr 2
  funext j
  unfold va_up
  by_cases e : j = i
  · rw [if_pos e, if_pos e]
  · simp only [if_neg e]
theorem S_changed {σ : St} {X k : Nat} {v : Int32} (hX : X < 120) (hX0 : X ≠ 10) (hk : k < 60) (h : gr σ 59 10 = nI k) : f_X12_changed (nI X) v σ = some (gr σ 59 X, sR σ 59 (CHG (gr σ 59) X k v)) := by
  unfold f_X12_changed f_X12_change
  rw [show inb (10 : Int32) (ln 59) = true from rfl, gd_tt, show (10 : Int32).toNatClampNeg = 10 from rfl, h, if_neg (show ¬ nI k = (60 : Int32) from fun z => absurd ((nI_eq (b := 60) (by omega) (by omega)).mp z) (by omega)), inb_ln (n := 240) rfl (show X < 240 by omega) (by omega), gd_tt, nI_clamp (by omega), bnd_mk, gd_tt, show (120 : Int32) + (2 : Int32) * nI k = nI (120 + 2 * k) from by rw [show (120 : Int32) = nI 120 from rfl, zL2, nI_mul, nI_add], bnd_mk, inb_ln (n := 240) rfl (show 120 + 2 * k < 240 by omega) (by omega), gd_tt, nI_clamp (by omega), bnd_mk, gd_tt, nI_1, inb_ln (n := 240) rfl (show 120 + 2 * k + 1 < 240 by omega) (by omega), gd_tt, nI_clamp (by omega), bnd_mk, gd_tt, bnd_mk, gd_tt, gd_tt, bnd_mk, bd_mk]
  have e0 : sr σ 59 (120 + 2 * k) (nI X) = sR σ 59 (upd (gr σ 59) (120 + 2 * k) (nI X)) := rfl
  rw [e0, sr_sR, sr_sR, sr_sR, gr_sR, if_pos rfl, gr_sR, if_pos rfl]
  have e1 : upd (gr σ 59) (120 + 2 * k) (nI X) X = gr σ 59 X := by rw [upd_at, if_neg (by omega)]
  have e2 : upd (upd (upd (gr σ 59) (120 + 2 * k) (nI X)) (120 + 2 * k + 1) (upd (gr σ 59) (120 + 2 * k) (nI X) X)) X v 10 = nI k := by
    rw [upd_at, if_neg (by omega), upd_at, if_neg (by omega), upd_at, if_neg (by omega), h]
  rw [e2, nI_1, e1]
  unfold CHG
  rw [show 120 + 2 * k + 1 = 121 + 2 * k by omega]
theorem S_changed60 {σ : St} {X v : Int32} (h : gr σ 59 10 = nI 60) : f_X12_changed X v σ = some (-5, σ) := by
  unfold f_X12_changed
  rw [show inb (10 : Int32) (ln 59) = true from rfl, gd_tt, show (10 : Int32).toNatClampNeg = 10 from rfl, h, if_pos (show nI 60 = (60 : Int32) from rfl)]
theorem CHG_at (F : Nat → Int32) (X k : Nat) (v : Int32) (j : Nat) : CHG F X k v j = if j = 10 then nI (k + 1) else if j = X then v else if j = 121 + 2 * k then F X else if j = 120 + 2 * k then nI X else F j := rfl
/-- CR behind a change: the class's table has a row more -/
theorem CR.chg {σ σ' : St} {F : Nat → Int32} {X k row what old : Nat} {v : Int32} (h : CR σ 1 F) (hk0 : gf σ 13 3 = nI k) (hk : k < 60) (hX : X < 120) (hX4 : X ≠ 4) (hX0 : X ≠ 10)
    (h3 : gf σ' 13 3 = nI (k + 1)) (hg : ∀ j, j < 3 * k → gr σ' 14 j = gr σ 14 j) (g0 : gr σ' 14 (3 * k) = nI row) (g1 : gr σ' 14 (3 * k + 1) = nI what) (g2 : gr σ' 14 (3 * k + 2) = nI old) (hold : F X = nI old)
    (hx : ∃ m, F 4 = nI m ∧ m ≤ 9 ∧ ((what = 0 ∧ row < m ∧ nI X = nI (13 + 6 * row + 2) ∧ old ≤ 59) ∨ (what = 1 ∧ row < m ∧ nI X = nI (13 + 6 * row + 3) ∧ old ≤ 100) ∨ (what = 2 ∧ row < m ∧ nI X = nI (13 + 6 * row + 5) ∧ old ≤ 999) ∨ (what = 3 ∧ row < 2 ∧ nI X = nI (11 + row) ∧ old ≤ 999))) : CR σ' 1 (CHG F X k v) := by
  obtain ⟨k', a1, a2, a3, a4⟩ := h
  obtain rfl : k = k' := (nI_eq (by omega) (by omega)).mp (hk0.symm.trans a2)
  have e4 : CHG F X k v 4 = F 4 := by rw [CHG_at, if_neg (by omega), if_neg (by omega), if_neg (by omega), if_neg (by omega)]
  refine ⟨k + 1, by omega, h3, by rw [CHG_at, if_pos rfl], fun j hj => ?_⟩
  by_cases e : j = k
  · subst e
    obtain ⟨m, m1, m2, m3⟩ := hx
    refine ⟨row, what, old, m, e4.trans m1, m2, g0, g1, g2, ?_, ?_⟩
    · rw [CHG_at, if_neg (by omega), if_neg (by omega), if_pos rfl, hold]
    · rw [CHG_at, if_neg (by omega), if_neg (by omega), if_neg (by omega), if_pos rfl]
      exact m3
  · refine (a4 j (by omega)).mv e4 (fun x hx => hg _ (by omega)) ?_ ?_
    · rw [CHG_at, if_neg (by omega), if_neg (by omega), if_neg (by omega), if_neg (by omega)]
    · rw [CHG_at, if_neg (by omega), if_neg (by omega), if_neg (by omega), if_neg (by omega)]
/-! the first questions of a call, as both answer them -/
theorem S_isTold {σ : St} {N : Nat} (hN : N ≤ 1200) (h : gf σ 1 0 = nI N) : f_X10_isTold 1 σ = some (b2 (1 ≤ N), σ) := by
  unfold f_X10_isTold f_X10_isTold_12
  rw [isW_lit (Or.inl rfl), gd_tt, h]
  by_cases c : 1 ≤ N
  · rw [if_neg (nI_nle (by omega) (by omega)), bz_1, gd_tt, b2_t c]
  · obtain rfl : N = 0 := by omega
    rw [if_pos (show nI 0 ≤ (0 : Int32) from by decide), bz_0, gd_tt, b2_f c]
theorem S_isWar {σ : St} {N : Nat} (hN : N ≤ 1200) (h : gr σ 59 9 = nI N) : f_X12_isWar σ = some (b2 (1 ≤ N), σ) := by
  unfold f_X12_isWar f_X12_isWar_15
  rw [show inb (9 : Int32) (ln 59) = true from rfl, gd_tt, show (9 : Int32).toNatClampNeg = 9 from rfl, h]
  by_cases c : 1 ≤ N
  · rw [if_neg (nI_nle (by omega) (by omega)), bz_1, gd_tt, b2_t c]
  · obtain rfl : N = 0 := by omega
    rw [if_pos (show nI 0 ≤ (0 : Int32) from by decide), bz_0, gd_tt, b2_f c]
theorem S_hasTrain {σ : St} {N T : Nat} (p : Int32) (hN : N ≤ 1200) (hT : T ≤ 9) (h : gf σ 1 0 = nI N) (h3 : gf σ 3 3 = nI T) : f_X10_hasTrain 1 p σ = some (b2 (1 ≤ N ∧ 0 ≤ p.toInt ∧ p.toInt < T), σ) := by
  have z0 : (0 : Int32).toInt = 0 := rfl
  unfold f_X10_hasTrain f_X10_hasTrain_26 f_X10_hasTrain_27
  rw [isW_lit (Or.inl rfl), gd_tt, S_isTold hN h, bd_mk]
  by_cases c : 1 ≤ N
  · rw [b2_t c, if_neg n10]
    by_cases c1 : p < 0
    · rw [if_pos c1, bz_0, gd_tt, b2_f]
      rw [lt_toInt] at c1
      omega
    · rw [if_neg c1, isW_lit (Or.inl rfl), gd_tt, show gf σ (1 + 2) 3 = nI T from h3]
      rw [lt_toInt] at c1
      by_cases c2 : nI T ≤ p
      · rw [if_pos c2, bz_0, gd_tt, b2_f]
        rw [le_toInt, nI_toInt (by omega)] at c2
        omega
      · rw [if_neg c2, bz_1, gd_tt, b2_t]
        rw [le_toInt, nI_toInt (by omega)] at c2
        omega
  · rw [b2_f c, if_pos rfl, bz_0, gd_tt, b2_f (by omega)]
theorem S_isTrain {σ : St} {T : Nat} (p : Int32) (hT : T ≤ 9) (h : gr σ 59 4 = nI T) : f_X12_isTrain p σ = some (b2 (0 ≤ p.toInt ∧ p.toInt < T), σ) := by
  unfold f_X12_isTrain
  rw [show inb (4 : Int32) (ln 59) = true from rfl, gd_tt, S_in, bd_mk, bz_b2, gd_tt]
  have e := pred_toInt (x := gr σ 59 (4 : Int32).toNatClampNeg) (k := T) h (by omega)
  have z0 : (0 : Int64).toInt = 0 := rfl
  have e0 : p.toInt64.toInt = p.toInt := by rw [Int32.toInt_toInt64]
  congr 2
  by_cases c : 0 ≤ p.toInt ∧ p.toInt < T
  · rw [b2_t c, b2_t (by omega)]
  · rw [b2_f c, b2_f (by omega)]
theorem S_hasSide {σ : St} {N : Nat} (p : Int32) (hN : N ≤ 1200) (h : gf σ 1 0 = nI N) : f_X10_hasSide 1 p σ = some (b2 (1 ≤ N ∧ (p = 0 ∨ p = 1)), σ) := by
  unfold f_X10_hasSide f_X10_hasSide_20 f_X10_hasSide_16 f_X10_hasSide_21
  rw [isW_lit (Or.inl rfl), gd_tt, S_isTold hN h, bd_mk]
  by_cases c : 1 ≤ N
  · rw [b2_t c, if_neg n10]
    by_cases c1 : p = 0
    · rw [if_pos c1, bz_1, gd_tt, b2_t ⟨c, Or.inl c1⟩]
    · rw [if_neg c1]
      by_cases c2 : p = 1
      · rw [if_pos c2, bz_1, gd_tt, b2_t ⟨c, Or.inr c2⟩]
      · rw [if_neg c2, bz_0, gd_tt, b2_f (fun z => z.2.elim c1 c2)]
  · rw [b2_f c, if_pos rfl, bz_0, gd_tt, b2_f (fun z => c z.1)]
theorem side_in (p : Int32) : ((0 : Int64).toInt ≤ p.toInt64.toInt ∧ p.toInt64.toInt ≤ (1 : Int64).toInt) ↔ (p = 0 ∨ p = 1) := by
  constructor
  · exact fun h => sd_of h
  · rintro (rfl | rfl)
    · decide
    · decide
theorem S_isSide {σ : St} {N : Nat} (p : Int32) (hN : N ≤ 1200) (h : gr σ 59 9 = nI N) : f_X12_isSide p σ = some (b2 (1 ≤ N ∧ (p = 0 ∨ p = 1)), σ) := by
  unfold f_X12_isSide f_X12_isSide_21 f_X12_isSide_22
  rw [S_isWar hN h, bd_mk]
  by_cases c : 1 ≤ N
  · rw [b2_t c, if_neg n10, S_in, bd_mk]
    by_cases c1 : p = 0 ∨ p = 1
    · rw [b2_t ((side_in p).mpr c1), if_neg n10, bz_1, gd_tt, b2_t ⟨c, c1⟩]
    · rw [b2_f (fun z => c1 ((side_in p).mp z)), if_pos rfl, bz_0, gd_tt, b2_f (fun z => c1 z.2)]
  · rw [b2_f c, if_pos rfl, bz_0, gd_tt, b2_f (fun z => c z.1)]
/-! the class's side of a change -/
theorem S_told_t {σ : St} {T t c : Nat} {p : Int32} (hT : T ≤ 9) (ht : t < T) (h3 : gf σ 3 3 = nI T) (hp : p = nI c) (hc : c < 3) : f_X10_toldNumber 1 (nI t) p σ = some (gr σ 4 (t * 6 + (tColumn c).toNatClampNeg), σ) := by
  subst hp
  unfold f_X10_toldNumber
  rw [isW_lit (Or.inl rfl), gd_tt, if_neg (nI_pos (by omega)), if_neg (nI_ge (by omega) (by omega)), inb_nI hc (by omega), gd_tt, nI_clamp (by omega)]
  rcases (by omega : c = 0 ∨ c = 1 ∨ c = 2) with rfl | rfl | rfl
  · rw [show f_X9_cell (1 + 2) (nI t) (tColumn 0) σ = some (gr σ 4 (t * 6 + 2), σ) from S_getc (c := 2) tb3 hT ht (by omega) h3, bd_mk]; rfl
  · rw [show f_X9_cell (1 + 2) (nI t) (tColumn 1) σ = some (gr σ 4 (t * 6 + 3), σ) from S_getc (c := 3) tb3 hT ht (by omega) h3, bd_mk]; rfl
  · rw [show f_X9_cell (1 + 2) (nI t) (tColumn 2) σ = some (gr σ 4 (t * 6 + 5), σ) from S_getc (c := 5) tb3 hT ht (by omega) h3, bd_mk]; rfl
theorem S_setT_t {σ : St} {T t c : Nat} {p v : Int32} (hT : T ≤ 9) (ht : t < T) (h3 : gf σ 3 3 = nI T) (hp : p = nI c) (hc : c < 3) : f_X10_setToldNumber 1 (nI t) p v σ = some ((), sr σ 4 (t * 6 + (tColumn c).toNatClampNeg) v) := by
  subst hp
  unfold f_X10_setToldNumber f_X10_setToldNumber_35
  rw [isW_lit (Or.inl rfl), gd_tt, if_neg (nI_pos (by omega)), if_neg (nI_ge (by omega) (by omega)), inb_nI hc (by omega), gd_tt, nI_clamp (by omega)]
  rcases (by omega : c = 0 ∨ c = 1 ∨ c = 2) with rfl | rfl | rfl
  · rw [show f_X9_set (1 + 2) (nI t) (tColumn 0) v σ = some ((), sr σ 4 (t * 6 + 2) v) from S_setc (c := 2) tb3 hT ht (by omega) v h3, bd_mk]; rfl
  · rw [show f_X9_set (1 + 2) (nI t) (tColumn 1) v σ = some ((), sr σ 4 (t * 6 + 3) v) from S_setc (c := 3) tb3 hT ht (by omega) v h3, bd_mk]; rfl
  · rw [show f_X9_set (1 + 2) (nI t) (tColumn 2) v σ = some ((), sr σ 4 (t * 6 + 5) v) from S_setc (c := 5) tb3 hT ht (by omega) v h3, bd_mk]; rfl
theorem S_needOf {σ : St} {i : Nat} (hi : i < 2) : f_X10_needOf 1 (nI i) σ = some (gr σ 2 i, σ) := by
  rcases (by omega : i = 0 ∨ i = 1) with rfl | rfl
  · rfl
  · rfl
theorem S_told_n {σ : St} {i : Nat} (hi : i < 2) : f_X10_toldNumber 1 (nI i) 3 σ = some (gr σ 2 i, σ) := by
  unfold f_X10_toldNumber f_X10_toldNumber_26
  rw [isW_lit (Or.inl rfl), gd_tt, if_neg (show ¬ (3 : Int32) < 0 from by decide), if_pos (show nI 3 ≤ (3 : Int32) from by decide), S_needOf hi, bd_mk]
theorem S_setT_n {σ : St} {i : Nat} {v : Int32} (hi : i < 2) : f_X10_setToldNumber 1 (nI i) 3 v σ = some ((), sr σ 2 i v) := by
  rcases (by omega : i = 0 ∨ i = 1) with rfl | rfl
  · rfl
  · rfl
/-- the class's state behind a change: the table of changes -/
def CHS (σ : St) (k : Nat) (a b c : Int32) : St := sr (sr (sr (sf σ 13 3 (nI (k + 1))) 14 (k * 3 + 0) a) 14 (k * 3 + 1) b) 14 (k * 3 + 2) c
theorem S_change {σ : St} {k : Nat} {p0 p1 p2 old : Int32} {g : St → St} (hk : k < 60) (h : gf σ 13 3 = nI k) (ht : f_X10_toldNumber 1 p0 p1 σ = some (old, σ)) (hs : f_X10_setToldNumber 1 p0 p1 p2 (CHS σ k p0 p1 old) = some ((), g (CHS σ k p0 p1 old))) : f_X10_change 1 p0 p1 p2 σ = some (old, g (CHS σ k p0 p1 old)) := by
  unfold f_X10_change
  have g3 : gf (sf σ 13 3 (nI (k + 1))) 13 3 = nI (k + 1) := by rw [gf_sf_s, if_pos rfl]
  rw [isW_lit (Or.inl rfl), gd_tt, show f_X9_isFull (1 + 12) σ = some (b2 (k = 60), σ) from S_full tb13 (by omega) h, bd_mk, b2_f (by omega), if_pos rfl, ht, bd_mk, isW_lit (Or.inl rfl), gd_tt, show f_X9_add (1 + 12) σ = some ((), sf σ 13 3 (nI (k + 1))) from S_add tb13 hk h, bd_mk, isW_lit (Or.inl rfl), gd_tt, bnd_mk, show gf (sf σ 13 3 (nI (k + 1))) (1 + 12) 3 = nI (k + 1) from g3]
  rw [show f_X9_set (1 + 12) (nI (k + 1) - 1) (0 : Int32) p0 (sf σ 13 3 (nI (k + 1))) = some ((), sr (sf σ 13 3 (nI (k + 1))) 14 (k * 3 + 0) p0) from S_set (c := 0) tb13 hk (by omega) p0 g3, bd_mk, isW_lit (Or.inl rfl), gd_tt]
  rw [show f_X9_set (1 + 12) (nI (k + 1) - 1) (1 : Int32) p1 (sr (sf σ 13 3 (nI (k + 1))) 14 (k * 3 + 0) p0) = some ((), sr (sr (sf σ 13 3 (nI (k + 1))) 14 (k * 3 + 0) p0) 14 (k * 3 + 1) p1) from S_set (c := 1) tb13 hk (by omega) p1 g3, bd_mk, isW_lit (Or.inl rfl), gd_tt]
  rw [show f_X9_set (1 + 12) (nI (k + 1) - 1) (2 : Int32) old (sr (sr (sf σ 13 3 (nI (k + 1))) 14 (k * 3 + 0) p0) 14 (k * 3 + 1) p1) = some ((), CHS σ k p0 p1 old) from S_set (c := 2) tb13 hk (by omega) old g3, bd_mk, hs, bd_mk]
theorem S_change60 {σ : St} {p0 p1 p2 : Int32} (h : gf σ 13 3 = nI 60) : f_X10_change 1 p0 p1 p2 σ = some (-5, σ) := by
  unfold f_X10_change
  rw [isW_lit (Or.inl rfl), gd_tt, show f_X9_isFull (1 + 12) σ = some (b2 (60 = 60), σ) from S_full tb13 (by omega) h, bd_mk, b2_t rfl, if_neg n10]
theorem CHS_f {σ : St} {k : Nat} {a b c : Int32} (i : Nat) (h : i ≠ 13) : gf (CHS σ k a b c) i = gf σ i := by
  funext j
  unfold CHS
  exact gf_sf_n _ _ _ _ h
theorem CHS_r {σ : St} {k : Nat} {a b c : Int32} (i : Nat) (h : i ≠ 14) : gr (CHS σ k a b c) i = gr σ i := by
  funext j
  unfold CHS
  rw [gr_sr_n _ _ _ _ h, gr_sr_n _ _ _ _ h, gr_sr_n _ _ _ _ h]
  rfl
theorem CHS_3 {σ : St} {k : Nat} {a b c : Int32} : gf (CHS σ k a b c) 13 3 = nI (k + 1) := by
  show gf (sf σ 13 3 (nI (k + 1))) 13 3 = _
  rw [gf_sf_s, if_pos rfl]
theorem CHS_14 {σ : St} {k : Nat} {a b c : Int32} (j : Nat) : gr (CHS σ k a b c) 14 j = if j = k * 3 + 2 then c else if j = k * 3 + 1 then b else if j = k * 3 then a else gr σ 14 j := by
  unfold CHS
  rw [gr_sr_s, gr_sr_s, gr_sr_s]
  rfl
/-! ===== tell, needs, undo: the same of both ===== -/
theorem IV.ch {σ σ' : St} {l : List Nat} (h : IV σ) (hf : Fr l σ σ') (hl : ∀ i ∈ l, i < 75 ∧ i ≠ 60 ∧ i ≠ 61) (hT : TP σ') (hS : SL σ') (hF : FE σ') (hW : WN σ' 1 (gr σ' 59)) : IV σ' := by
  obtain ⟨-, -, -, a4, -, a6, a7, a8⟩ := h
  refine ⟨hT, hS, hF, ?_, hW, a6.kp (fun i hi => ?_) hf.2.1, ?_, ?_⟩
  · intro k b hb
    rw [hf.2.1] at hb
    rw [hf.2.2]
    exact a4 k b hb
  · have := hf.1 i (fun hm => by have := hl i hm; omega)
    exact ⟨this.1, this.2.1⟩
  · intro k k' b
    rw [hf.2.1]
    exact a7 k k' b
  · unfold IC
    rw [hf.2.1, hf.2.2]
    exact a8
/-- a change to the WAR alone -/
theorem IV.wc {σ σ' : St} (h : IV σ) (hf : Fr [1, 2, 3, 4, 5, 6, 7, 8, 9, 10, 11, 12, 13, 14, 31, 59] σ σ') (hW : WN σ' 1 (gr σ' 59)) : IV σ' :=
  h.ch hf (by decide) (h.1.fr hf (by decide) (by rw [(hf.1 58 (by decide)).1])) (h.2.1.fr hf (by decide) (by decide) (by decide) (by decide) (by decide)) (h.2.2.1.fr hf (by decide) (by rw [(hf.1 58 (by decide)).1]) (by rw [(hf.1 58 (by decide)).1])) hW
def hiT (c : Nat) : Nat := if c = 0 then 59 else if c = 1 then 100 else 999
theorem hiT_le (c : Nat) : hiT c ≤ 999 := by unfold hiT; split <;> (try split) <;> omega
theorem CHSs_f {σ : St} {k i' j' : Nat} {a b c v : Int32} (i : Nat) (h : i ≠ 13) : gf (sr (CHS σ k a b c) i' j' v) i = gf σ i := CHS_f (a := a) (b := b) (c := c) i h
theorem CHSs_3 {σ : St} {k i' j' : Nat} {a b c v : Int32} : gf (sr (CHS σ k a b c) i' j' v) 13 3 = nI (k + 1) := CHS_3 (σ := σ) (a := a) (b := b) (c := c)
theorem mT3 (c : Nat) (hc : c < 3) : mTold c = nI (hiT c) := by
  rcases (by omega : c = 0 ∨ c = 1 ∨ c = 2) with rfl | rfl | rfl
  · rfl
  · rfl
  · rfl
def coT (c : Nat) : Nat := (tColumn c).toNatClampNeg
theorem coT_le {c : Nat} (hc : c < 3) : coT c < 6 := by
  rcases (by omega : c = 0 ∨ c = 1 ∨ c = 2) with rfl | rfl | rfl
  · decide
  · decide
  · decide
theorem S_most {c : Nat} (hc : c < 4) (σ : St) : f_X10_mostTold (nI c) σ = some (mTold c, σ) := by
  unfold f_X10_mostTold f_X10_mostTold_21
  rw [if_neg (nI_pos (by omega)), if_neg (nI_ge (by omega) (by omega)), inb_nI hc (by omega), gd_tt, nI_clamp (by omega)]
/-- the class's tell, when all is in its bounds -/
theorem C_tell {σ : St} {N T t c v : Nat} (hN : N ≤ 1200) (hN1 : 1 ≤ N) (hT : T ≤ 9) (ht : t < T) (hc : c < 3) (h : gf σ 1 0 = nI N) (h3 : gf σ 3 3 = nI T) (hv : v ≤ hiT c) : f_X11_tell (nI t) (nI c) (nI v) σ = bd (f_X10_change 1 (nI t) (nI c) (nI v) (sf σ 31 5 0)) fun r s => some (r, s) := by
  have hv9 : hiT c ≤ 999 := by unfold hiT; split <;> (try split) <;> omega
  unfold f_X11_tell
  rw [S_hasTrain _ hN hT h h3, bd_mk, b2_t ⟨hN1, by rw [nI_toInt (by omega)]; omega⟩, if_neg n10, if_neg (nI_pos (by omega)), if_neg (show ¬ (2 : Int32) < nI c from nI_nlt (b := c) (a := 2) (by omega) (by omega)), if_neg (nI_pos (by omega)), S_most (by omega), bd_mk, mT3 c hc, if_pos (show nI v ≤ nI (hiT c) from nI_le hv (by omega))]
  unfold f_X2_forget
  rw [bz_0, gd_tt, bnd_mk, bd_mk]
theorem M_in {σ : St} {p : Int32} {lo hi : Int64} (h : ¬ (lo.toInt ≤ p.toInt ∧ p.toInt ≤ hi.toInt)) : f_X12_in p.toInt64 lo hi σ = some (0, σ) := by
  rw [S_in, b2_f]
  rw [Int32.toInt_toInt64]
  exact h
theorem M_inY {σ : St} {p : Int32} {lo hi : Int64} (h : lo.toInt ≤ p.toInt ∧ p.toInt ≤ hi.toInt) : f_X12_in p.toInt64 lo hi σ = some (1, σ) := by
  rw [S_in, b2_t]
  rw [Int32.toInt_toInt64]
  exact h
theorem M_tell47 {σ : St} {t c : Nat} {p2 : Int32} (ht : t < 9) (hc : c < 3) (hi : Int64) (hhi : hi.toInt = hiT c) : f_X12_tell_47 (nI t) (nI c) p2 hi 0 p2.toInt64 σ = if 0 ≤ p2.toInt ∧ p2.toInt ≤ hiT c then (bd (f_X12_changed (nI (13 + 6 * t + coT c)) p2 σ) fun r s => some (r, s)) else some (-2, σ) := by
  have z0 : (0 : Int64).toInt = 0 := rfl
  unfold f_X12_tell_47 f_X12_tell_53
  by_cases g : 0 ≤ p2.toInt ∧ p2.toInt ≤ hiT c
  · rw [if_pos g, M_inY (by rw [hhi]; exact g), bd_mk, if_neg n10]
    have e : (13 : Int32) + (6 : Int32) * nI t = nI (13 + 6 * t) := by rw [zL13, zL6, nI_mul, nI_add]
    unfold f_X12_tell_82
    rcases (by omega : c = 0 ∨ c = 1 ∨ c = 2) with rfl | rfl | rfl
    · rw [if_pos (show nI 0 = 0 from rfl), e, show nI (13 + 6 * t) + (2 : Int32) = nI (13 + 6 * t + coT 0) from by rw [zL2, nI_add]; rfl]
    · rw [if_neg (show ¬ nI 1 = 0 from by decide), if_pos (show nI 1 = 1 from rfl), e, show nI (13 + 6 * t) + (3 : Int32) = nI (13 + 6 * t + coT 1) from by rw [show (3 : Int32) = nI 3 from rfl, nI_add]; rfl]
    · rw [if_neg (show ¬ nI 2 = 0 from by decide), if_neg (show ¬ nI 2 = 1 from by decide), e, show nI (13 + 6 * t) + (5 : Int32) = nI (13 + 6 * t + coT 2) from by rw [show (5 : Int32) = nI 5 from rfl, nI_add]; rfl]
  · rw [if_neg g, M_in (by rw [hhi]; exact g), bd_mk, if_pos rfl]
theorem M_tell {σ : St} {T t c : Nat} {p2 : Int32} (hT : T ≤ 9) (ht : t < T) (hc : c < 3) (h4 : gr σ 59 4 = nI T) : f_X12_tell (nI t) (nI c) p2 σ = if 0 ≤ p2.toInt ∧ p2.toInt ≤ hiT c then (bd (f_X12_changed (nI (13 + 6 * t + coT c)) p2 σ) fun r s => some (r, s)) else some (-2, σ) := by
  unfold f_X12_tell
  rw [S_isTrain _ hT h4, bd_mk, b2_t (by rw [nI_toInt (by omega)]; omega), if_neg n10, M_inY (by rw [nI_toInt (by omega)]; show (0 : Int) ≤ c ∧ (c : Int) ≤ 2; omega), bd_mk, if_neg n10]
  rcases (by omega : c = 0 ∨ c = 1 ∨ c = 2) with rfl | rfl | rfl
  · rw [if_pos (show nI 0 = 0 from rfl)]; exact M_tell47 (by omega) (by omega) 59 rfl
  · rw [if_neg (show ¬ nI 1 = 0 from by decide), if_pos (show nI 1 = 1 from rfl)]; exact M_tell47 (by omega) (by omega) 100 rfl
  · rw [if_neg (show ¬ nI 2 = 0 from by decide), if_neg (show ¬ nI 2 = 1 from by decide)]; exact M_tell47 (by omega) (by omega) 999 rfl
/-- the WAR behind a change of a TRAIN -/
theorem WR.tell {σ : St} {F : Nat → Int32} {T t c k v old : Nat} (h : WR σ 1 F) (hT : T ≤ 9) (ht : t < T) (h3 : gf σ 3 3 = nI T) (hF4 : F 4 = nI T) (hc : c < 3) (hk : k < 60) (hk0 : gf σ 13 3 = nI k) (hv : v ≤ hiT c) (hold : F (13 + 6 * t + coT c) = nI old) (ho : old ≤ hiT c) : WR (sr (CHS σ k (nI t) (nI c) (nI old)) 4 (t * 6 + coT c) (nI v)) 1 (CHG F (13 + 6 * t + coT c) k (nI v)) := by
  have hco := coT_le hc
  have gf' : ∀ i, i ≠ 13 → gf (sr (CHS σ k (nI t) (nI c) (nI old)) 4 (t * 6 + coT c) (nI v)) i = gf σ i := fun i hi => CHSs_f i hi
  have gr' : ∀ i, i ≠ 14 → i ≠ 4 → gr (sr (CHS σ k (nI t) (nI c) (nI old)) 4 (t * 6 + coT c) (nI v)) i = gr σ i := fun i hi h4 => by
    funext j
    rw [gr_sr_n _ _ _ _ h4, CHS_r i hi]
  have hFs : ∀ j, j ≠ 10 → j < 120 → j ≠ 13 + 6 * t + coT c → CHG F (13 + 6 * t + coT c) k (nI v) j = F j := fun j h1 h2 h3 => by
    rw [CHG_at, if_neg h1, if_neg h3, if_neg (by omega), if_neg (by omega)]
  refine h.chg (fun i h1 h2 => ⟨gf' i (by omega), gr' i (by omega) (by omega)⟩) (fun j hj => hFs j (by omega) (by omega) (by omega)) ?_ ?_ ?_
  · exact h.1.mv (fun j _ => by rw [gf' 1 (by omega)]) (fun j _ => by rw [gr' (1 + 1) (by omega) (by omega)]) (fun j h1 h2 h3 h4 h5 h6 h7 => hFs j (by omega) (by omega) (by omega))
  · refine TV.set (σ := σ) (k := T) (i := t) (c := coT c) h.2.1 h3 hT (by omega) hco (nI v) ?_ ?_ (fun j hj => ?_) (hFs 4 (by omega) (by omega) (by omega)) (fun j h1 h2 => ?_)
    · rw [nI_toInt (by have := hiT_le c; omega)]
      rcases (by omega : c = 0 ∨ c = 1 ∨ c = 2) with rfl | rfl | rfl
      · show (0 : Int) ≤ v ∧ (v : Int) ≤ 59
        have : hiT 0 = 59 := rfl
        omega
      · show (0 : Int) ≤ v ∧ (v : Int) ≤ 100
        have : hiT 1 = 100 := rfl
        omega
      · show (0 : Int) ≤ v ∧ (v : Int) ≤ 999
        have : hiT 2 = 999 := rfl
        omega
    · rw [gf' 3 (by omega)]
    · show gr (sr (CHS σ k (nI t) (nI c) (nI old)) 4 (t * 6 + coT c) (nI v)) 4 j = _
      rw [gr_sr_s, CHS_r 4 (by omega)]
    · rw [CHG_at, if_neg (by omega)]
      by_cases e : j = 13 + 6 * t + coT c
      · rw [if_pos e, if_pos e]
      · rw [if_neg e, if_neg e, if_neg (by omega), if_neg (by omega)]
  · have g14 : ∀ j, gr (sr (CHS σ k (nI t) (nI c) (nI old)) 4 (t * 6 + coT c) (nI v)) 14 j = if j = k * 3 + 2 then nI old else if j = k * 3 + 1 then nI c else if j = k * 3 then nI t else gr σ 14 j := fun j => by
      rw [gr_sr_n _ _ _ _ (by decide)]
      exact CHS_14 j
    refine CR.chg (row := t) (what := c) (old := old) h.2.2.2.2.2.2.2.2.2 hk0 hk (by omega) (by omega) (by omega) CHSs_3 (fun j hj => ?_) ?_ ?_ ?_ hold ⟨T, hF4, hT, ?_⟩
    · rw [g14, if_neg (by omega), if_neg (by omega), if_neg (by omega)]
    · rw [g14, if_neg (by omega), if_neg (by omega), if_pos (by omega)]
    · rw [g14, if_neg (by omega), if_pos (by omega)]
    · rw [g14, if_pos (by omega)]
    · rcases (by omega : c = 0 ∨ c = 1 ∨ c = 2) with rfl | rfl | rfl
      · exact Or.inl ⟨rfl, ht, rfl, ho⟩
      · exact Or.inr (Or.inl ⟨rfl, ht, rfl, ho⟩)
      · exact Or.inr (Or.inr (Or.inl ⟨rfl, ht, rfl, ho⟩))
theorem R_tell (p0 p1 p2 : Int32) (σ : St) (hI : IV σ) : ∃ r s1 s2, f_X11_tell p0 p1 p2 σ = some (r, s1) ∧ f_X12_tell p0 p1 p2 s1 = some (r, s2) ∧ IV s2 ∧ (s2 = σ ∨ gf s2 31 5 = 0) := by
  obtain ⟨hW, hN0⟩ := hI.2.2.2.2.1
  obtain ⟨M, T, S, E, A, U, Y, L, P, N, hb⟩ := hW.bb
  have hT := hb.hT
  have hN := hb.hN
  have z0 : (0 : Int32).toInt = 0 := rfl
  have z2 : (2 : Int32).toInt = 2 := rfl
  have hNT : N = 0 → T = 0 := fun e => by
    have h1 := hN0 (by rw [hb.cN, e])
    rw [show gf σ (1 + 2) 3 = nI T from hb.cT] at h1
    exact (nI_eq (by omega) (by omega)).mp h1
  by_cases c1 : ¬ (1 ≤ N ∧ 0 ≤ p0.toInt ∧ p0.toInt < T)
  · refine ⟨-2, σ, σ, ?_, ?_, hI, Or.inl rfl⟩
    · unfold f_X11_tell f_X11_tell_32
      rw [S_hasTrain _ hN hT hb.cN hb.cT, bd_mk, b2_f c1, if_pos rfl]
    · unfold f_X12_tell f_X12_tell_53
      rw [S_isTrain _ hT hb.mT, bd_mk, b2_f (fun z => c1 ⟨by omega, z⟩), if_pos rfl]
  replace c1 := Decidable.not_not.mp c1
  obtain ⟨t, ht', rfl⟩ := nI_ofT (x := p0) (n := 9) c1.2.1 (by omega)
  have ht : t < T := by
    have := c1.2.2
    rw [nI_toInt (by omega)] at this
    omega
  by_cases c2 : ¬ (0 ≤ p1.toInt ∧ p1.toInt ≤ 2)
  · refine ⟨-2, σ, σ, ?_, ?_, hI, Or.inl rfl⟩
    · unfold f_X11_tell f_X11_tell_32
      rw [S_hasTrain _ hN hT hb.cN hb.cT, bd_mk, b2_t c1, if_neg n10]
      by_cases g : p1 < 0
      · rw [if_pos g]
      · rw [if_neg g, if_pos]
        rw [lt_toInt] at g
        rw [lt_toInt]
        omega
    · unfold f_X12_tell f_X12_tell_53
      rw [S_isTrain _ hT hb.mT, bd_mk, b2_t c1.2, if_neg n10, M_in (p := p1) (lo := 0) (hi := 2) c2, bd_mk, if_pos rfl]
  replace c2 := Decidable.not_not.mp c2
  obtain ⟨c, hc', rfl⟩ := nI_ofT (x := p1) (n := 2) c2.1 (by omega)
  have hc : c < 3 := by omega
  have h9 := hiT_le c
  by_cases c3 : ¬ (0 ≤ p2.toInt ∧ p2.toInt ≤ hiT c)
  · refine ⟨-2, σ, σ, ?_, ?_, hI, Or.inl rfl⟩
    · unfold f_X11_tell f_X11_tell_32
      rw [S_hasTrain _ hN hT hb.cN hb.cT, bd_mk, b2_t c1, if_neg n10, if_neg (nI_pos (by omega)), if_neg (show ¬ (2 : Int32) < nI c from nI_nlt (b := c) (a := 2) (by omega) (by omega))]
      by_cases g : p2 < 0
      · rw [if_pos g]
      · rw [if_neg g, S_most (by omega), bd_mk, mT3 c hc, if_neg]
        rw [lt_toInt] at g
        show ¬ p2 ≤ nI (hiT c)
        rw [le_toInt, nI_toInt (by omega)]
        omega
    · rw [M_tell hT ht hc hb.mT, if_neg c3]
  replace c3 := Decidable.not_not.mp c3
  obtain ⟨v, hv', rfl⟩ := nI_ofT (x := p2) (n := 999) c3.1 (by omega)
  have hv : v ≤ hiT c := by
    have := c3.2
    rw [nI_toInt (by omega)] at this
    omega
  obtain ⟨k, hk, k1, k2, -⟩ := hW.2.2.2.2.2.2.2.2.2
  have f31 : Fr [31] σ (sf σ 31 5 0) := Fr.c1 (by simp)
  have hI31 : IV (sf σ 31 5 0) := hI.fr0 f31 (by decide) (fun c _ => by rw [(f31.1 58 (by decide)).1])
  have k31 : gf (sf σ 31 5 0) 13 3 = nI k := by rw [gf_sf_n _ _ _ _ (by decide)]; exact k1
  have t31 : gf (sf σ 31 5 0) 3 3 = nI T := by rw [gf_sf_n _ _ _ _ (by decide)]; exact hb.cT
  rw [C_tell hN c1.1 hT ht hc hb.cN hb.cT hv]
  by_cases c6 : k = 60
  · subst c6
    refine ⟨-5, sf σ 31 5 0, sf σ 31 5 0, by rw [S_change60 k31, bd_mk], ?_, hI31, Or.inr (by rw [gf_sf_s, if_pos rfl])⟩
    rw [M_tell (σ := sf σ 31 5 0) hT ht hc hb.mT, if_pos c3, S_changed60 (σ := sf σ 31 5 0) k2, bd_mk]
  · have hk6 : k < 60 := by omega
    have hX : 13 + 6 * t + coT c < 120 := by have := coT_le hc; omega
    obtain ⟨T', u1, u2, u3, u4⟩ := hW.2.1
    obtain rfl : T = T' := (nI_eq (by omega) (by omega)).mp (hb.cT.symm.trans u2)
    obtain ⟨w1, w2, w3⟩ := u4 t ht (coT c) (coT_le hc)
    have hob : 0 ≤ (gr σ 59 (13 + 6 * t + coT c)).toInt ∧ (gr σ 59 (13 + 6 * t + coT c)).toInt ≤ hiT c := by
      rcases (by omega : c = 0 ∨ c = 1 ∨ c = 2) with rfl | rfl | rfl
      · exact ⟨w2, w3⟩
      · exact ⟨w2, w3⟩
      · exact ⟨w2, w3⟩
    obtain ⟨old, ho', eo⟩ := nI_ofT (x := gr σ 59 (13 + 6 * t + coT c)) (n := 999) hob.1 (by omega)
    have ho : old ≤ hiT c := by
      have := hob.2
      rw [eo, nI_toInt (by omega)] at this
      omega
    have w1' : gr σ 4 (t * 6 + coT c) = nI old := by rw [← eo]; exact w1
    have hch := S_change (σ := sf σ 31 5 0) (p0 := nI t) (p1 := nI c) (p2 := nI v) (old := nI old) (g := fun s => sr s 4 (t * 6 + coT c) (nI v)) hk6 k31 (by rw [S_told_t hT ht t31 rfl hc, ← w1']; rfl) (by rw [S_setT_t hT ht (by rw [CHS_f 3 (by omega)]; exact t31) rfl hc]; rfl)
    have hWt := WR.tell (σ := sf σ 31 5 0) (F := gr σ 59) (v := v) (hI31.2.2.2.2.1).1 hT ht t31 hb.mT hc hk6 k31 hv eo ho
    have g59 : gr (sr (CHS (sf σ 31 5 0) k (nI t) (nI c) (nI old)) 4 (t * 6 + coT c) (nI v)) 59 = gr σ 59 := by
      funext j
      rw [gr_sr_n _ _ _ _ (by decide), CHS_r 59 (by decide)]
      rfl
    refine ⟨nI old, sr (CHS (sf σ 31 5 0) k (nI t) (nI c) (nI old)) 4 (t * 6 + coT c) (nI v), sR (sr (CHS (sf σ 31 5 0) k (nI t) (nI c) (nI old)) 4 (t * 6 + coT c) (nI v)) 59 (CHG (gr σ 59) (13 + 6 * t + coT c) k (nI v)), by rw [hch, bd_mk], ?_, ?_, Or.inr ?_⟩
    · rw [M_tell hT ht hc (by rw [g59]; exact hb.mT), if_pos c3, S_changed hX (by omega) hk6 (by rw [g59]; exact k2), bd_mk, g59, eo]
    · have F1 : Fr [1, 2, 3, 4, 5, 6, 7, 8, 9, 10, 11, 12, 13, 14, 31, 59] σ (sr (CHS (sf σ 31 5 0) k (nI t) (nI c) (nI old)) 4 (t * 6 + coT c) (nI v)) := by
        unfold CHS
        exact (((((Fr.c1 (by simp)).tr (Fr.c1 (by simp))).tr (Fr.c2 (by simp))).tr (Fr.c2 (by simp))).tr (Fr.c2 (by simp))).tr (Fr.c2 (by simp))
      refine hI.wc (F1.tr (Fr.cR (by simp))) ?_
      rw [gr_sR, if_pos rfl]
      have hWN : WN (sr (CHS (sf σ 31 5 0) k (nI t) (nI c) (nI old)) 4 (t * 6 + coT c) (nI v)) 1 (CHG (gr σ 59) (13 + 6 * t + coT c) k (nI v)) := ⟨hWt, by
        rw [show gf (sr (CHS (sf σ 31 5 0) k (nI t) (nI c) (nI old)) 4 (t * 6 + coT c) (nI v)) 1 = gf (sf σ 31 5 0) 1 from CHSs_f 1 (by omega), show gf (sr (CHS (sf σ 31 5 0) k (nI t) (nI c) (nI old)) 4 (t * 6 + coT c) (nI v)) (1 + 2) = gf (sf σ 31 5 0) (1 + 2) from CHSs_f (1 + 2) (by omega)]
        exact (hI31.2.2.2.2.1).2⟩
      exact hWN.kp (fun i h1 h2 => ⟨rfl, by rw [gr_sR, if_neg (by omega)]⟩)
    · show gf (sr (CHS (sf σ 31 5 0) k (nI t) (nI c) (nI old)) 4 (t * 6 + coT c) (nI v)) 31 5 = 0
      rw [CHSs_f 31 (by omega), gf_sf_s, if_pos rfl]
/-- the WAR with a TRAIN's number anew -/
theorem WR.updT {σ σ' : St} {F F' : Nat → Int32} {T t c v : Nat} (h : WR σ 1 F) (hT : T ≤ 9) (ht : t < T) (h3 : gf σ 3 3 = nI T) (hc : c < 3) (hv : v ≤ hiT c) (gf' : ∀ i, i ≠ 13 → gf σ' i = gf σ i) (gr' : ∀ i, i < 14 → i ≠ 4 → gr σ' i = gr σ i) (g4 : ∀ j, gr σ' 4 j = if j = t * 6 + coT c then nI v else gr σ 4 j) (hFs : ∀ j, j ≠ 10 → j < 120 → j ≠ 13 + 6 * t + coT c → F' j = F j) (hFX : F' (13 + 6 * t + coT c) = nI v) (hCR : CR σ' 1 F') : WR σ' 1 F' := by
  have hco := coT_le hc
  refine h.chg (fun i h1 h2 => ⟨gf' i (by omega), gr' i (by omega) (by omega)⟩) (fun j hj => hFs j (by omega) (by omega) (by omega)) ?_ ?_ hCR
  · exact h.1.mv (fun j _ => by rw [gf' 1 (by omega)]) (fun j _ => by rw [gr' (1 + 1) (by omega) (by omega)]) (fun j h1 h2 h3 h4 h5 h6 h7 => hFs j (by omega) (by omega) (by omega))
  · refine TV.set (σ := σ) (k := T) (i := t) (c := coT c) h.2.1 h3 hT (by omega) hco (nI v) ?_ ?_ (fun j hj => ?_) (hFs 4 (by omega) (by omega) (by omega)) (fun j h1 h2 => ?_)
    · rw [nI_toInt (by have := hiT_le c; omega)]
      rcases (by omega : c = 0 ∨ c = 1 ∨ c = 2) with rfl | rfl | rfl
      · show (0 : Int) ≤ v ∧ (v : Int) ≤ 59
        have : hiT 0 = 59 := rfl
        omega
      · show (0 : Int) ≤ v ∧ (v : Int) ≤ 100
        have : hiT 1 = 100 := rfl
        omega
      · show (0 : Int) ≤ v ∧ (v : Int) ≤ 999
        have : hiT 2 = 999 := rfl
        omega
    · rw [gf' 3 (by omega)]
    · exact g4 j
    · by_cases e : j = 13 + 6 * t + coT c
      · rw [if_pos e, e, hFX]
      · rw [if_neg e, hFs j (by omega) (by omega) e]
/-- the WAR with a NEED anew -/
theorem WR.updN {σ σ' : St} {F F' : Nat → Int32} {i v : Nat} (h : WR σ 1 F) (hi : i < 2) (hv : v ≤ 999) (gf' : ∀ i, i ≠ 13 → gf σ' i = gf σ i) (gr' : ∀ i, i < 14 → i ≠ 2 → gr σ' i = gr σ i) (g2 : ∀ j, gr σ' 2 j = if j = i then nI v else gr σ 2 j) (hFs : ∀ j, j ≠ 10 → j < 120 → j ≠ 11 + i → F' j = F j) (hFX : F' (11 + i) = nI v) (hCR : CR σ' 1 F') : WR σ' 1 F' := by
  refine h.chg (fun j h1 h2 => ⟨gf' j (by omega), gr' j (by omega) (by omega)⟩) (fun j hj => hFs j (by omega) (by omega) (by omega)) ?_ ?_ hCR
  · obtain ⟨l, m, a, p, r, d, e, y1, y2, y3, y4, y5, y6, y7, y8, u1, u2, u3, u4, u5, u6, u7, u8, u9, u10, u11, u12, u13, u14⟩ := h.1
    have e1 := gf' 1 (by omega)
    rcases (by omega : i = 0 ∨ i = 1) with rfl | rfl
    · refine ⟨l, m, a, p, r, v, e, y1, y2, y3, y4, y5, hv, y7, y8, by rw [e1]; exact u1, by rw [hFs 9 (by omega) (by omega) (by omega)]; exact u2, by rw [e1]; exact u3, by rw [hFs 0 (by omega) (by omega) (by omega)]; exact u4, by rw [e1]; exact u5, by rw [hFs 1 (by omega) (by omega) (by omega)]; exact u6, by rw [e1]; exact u7, by rw [hFs 2 (by omega) (by omega) (by omega)]; exact u8, by rw [e1]; exact u9, by rw [hFs 3 (by omega) (by omega) (by omega)]; exact u10, (g2 0).trans (if_pos rfl), hFX, (g2 1).trans ((if_neg (by omega)).trans u13), by rw [hFs 12 (by omega) (by omega) (by omega)]; exact u14⟩
    · refine ⟨l, m, a, p, r, d, v, y1, y2, y3, y4, y5, y6, hv, y8, by rw [e1]; exact u1, by rw [hFs 9 (by omega) (by omega) (by omega)]; exact u2, by rw [e1]; exact u3, by rw [hFs 0 (by omega) (by omega) (by omega)]; exact u4, by rw [e1]; exact u5, by rw [hFs 1 (by omega) (by omega) (by omega)]; exact u6, by rw [e1]; exact u7, by rw [hFs 2 (by omega) (by omega) (by omega)]; exact u8, by rw [e1]; exact u9, by rw [hFs 3 (by omega) (by omega) (by omega)]; exact u10, (g2 0).trans ((if_neg (by omega)).trans u11), by rw [hFs 11 (by omega) (by omega) (by omega)]; exact u12, (g2 1).trans (if_pos rfl), hFX⟩
  · exact h.2.1.mv (congrFun (gf' 3 (by omega)) 3) (fun j _ => congrFun (gr' 4 (by omega) (by omega)) j) (hFs 4 (by omega) (by omega) (by omega)) (fun j h1 h2 => hFs j (by omega) (by omega) (by omega))
theorem C_need {σ : St} {N i v : Nat} (hN : N ≤ 1200) (hN1 : 1 ≤ N) (hi : i < 2) (h : gf σ 1 0 = nI N) (hv : v ≤ 999) : f_X11_needs (nI i) (nI v) σ = bd (f_X10_change 1 (nI i) 3 (nI v) (sf σ 31 5 0)) fun r s => some (r, s) := by
  have hs : nI i = 0 ∨ nI i = 1 := by
    rcases (by omega : i = 0 ∨ i = 1) with rfl | rfl
    · exact Or.inl rfl
    · exact Or.inr rfl
  unfold f_X11_needs
  rw [S_hasSide _ hN h, bd_mk, b2_t ⟨hN1, hs⟩, if_neg n10, if_neg (nI_pos (by omega)), show f_X10_mostTold (3 : Int32) σ = some (nI 999, σ) from S_most (c := 3) (by omega) σ, bd_mk, if_pos (nI_le hv (by omega))]
  unfold f_X2_forget
  rw [bz_0, gd_tt, bnd_mk, bd_mk]
theorem R_needs (p0 p1 : Int32) (σ : St) (hI : IV σ) : ∃ r s1 s2, f_X11_needs p0 p1 σ = some (r, s1) ∧ f_X12_needs_ p0 p1 s1 = some (r, s2) ∧ IV s2 ∧ (s2 = σ ∨ gf s2 31 5 = 0) := by
  obtain ⟨hW, hN0⟩ := hI.2.2.2.2.1
  obtain ⟨M, T, S, E, A, U, Y, L, P, N, hb⟩ := hW.bb
  have hN := hb.hN
  have z0 : (0 : Int32).toInt = 0 := rfl
  by_cases c1 : ¬ (1 ≤ N ∧ (p0 = 0 ∨ p0 = 1))
  · refine ⟨-2, σ, σ, ?_, ?_, hI, Or.inl rfl⟩
    · unfold f_X11_needs f_X11_needs_23
      rw [S_hasSide _ hN hb.cN, bd_mk, b2_f c1, if_pos rfl]
    · unfold f_X12_needs_ f_X12_needs__32 f_X12_needs__34
      rw [S_isSide _ hN hb.mN, bd_mk, b2_f c1, if_pos rfl]
  replace c1 := Decidable.not_not.mp c1
  obtain ⟨i, hi, rfl⟩ : ∃ i, i < 2 ∧ p0 = nI i := by
    rcases c1.2 with e | e
    · exact ⟨0, by omega, e⟩
    · exact ⟨1, by omega, e⟩
  by_cases c3 : ¬ (0 ≤ p1.toInt ∧ p1.toInt ≤ 999)
  · refine ⟨-2, σ, σ, ?_, ?_, hI, Or.inl rfl⟩
    · unfold f_X11_needs f_X11_needs_23
      rw [S_hasSide _ hN hb.cN, bd_mk, b2_t c1, if_neg n10]
      by_cases g : p1 < 0
      · rw [if_pos g]
      · rw [if_neg g, show f_X10_mostTold (3 : Int32) σ = some (nI 999, σ) from S_most (c := 3) (by omega) σ, bd_mk, if_neg]
        rw [lt_toInt] at g
        rw [le_toInt, nI_toInt (by omega)]
        omega
    · unfold f_X12_needs_ f_X12_needs__32 f_X12_needs__34
      rw [S_isSide _ hN hb.mN, bd_mk, b2_t c1, if_neg n10, M_in (p := p1) (lo := 0) (hi := 999) c3, bd_mk, if_pos rfl]
  replace c3 := Decidable.not_not.mp c3
  obtain ⟨v, hv, rfl⟩ := nI_ofT (x := p1) (n := 999) c3.1 c3.2
  obtain ⟨k, hk, k1, k2, kk⟩ := hW.2.2.2.2.2.2.2.2.2
  have f31 : Fr [31] σ (sf σ 31 5 0) := Fr.c1 (by simp)
  have hI31 : IV (sf σ 31 5 0) := hI.fr0 f31 (by decide) (fun c _ => by rw [(f31.1 58 (by decide)).1])
  have k31 : gf (sf σ 31 5 0) 13 3 = nI k := by rw [gf_sf_n _ _ _ _ (by decide)]; exact k1
  have eX : (11 : Int32) + nI i = nI (11 + i) := by rw [zL11, nI_add]
  have hM : ∀ s, gr s 59 9 = nI N → f_X12_needs_ (nI i) (nI v) s = bd (f_X12_changed (nI (11 + i)) (nI v) s) fun r s => some (r, s) := fun s h9 => by
    unfold f_X12_needs_ f_X12_needs__34
    rw [S_isSide _ hN h9, bd_mk, b2_t c1, if_neg n10, M_inY (p := nI v) (lo := 0) (hi := 999) c3, bd_mk, if_neg n10, eX]
  rw [C_need hN c1.1 hi hb.cN hv]
  by_cases c6 : k = 60
  · subst c6
    refine ⟨-5, sf σ 31 5 0, sf σ 31 5 0, by rw [S_change60 k31, bd_mk], ?_, hI31, Or.inr (by rw [gf_sf_s, if_pos rfl])⟩
    rw [hM (sf σ 31 5 0) hb.mN, S_changed60 (σ := sf σ 31 5 0) k2, bd_mk]
  · have hk6 : k < 60 := by omega
    obtain ⟨old, ho, eo, eo2⟩ : ∃ old, old ≤ 999 ∧ gr σ 2 i = nI old ∧ gr σ 59 (11 + i) = nI old := by
      obtain ⟨l, m, a, p, r, d, e, y1, y2, y3, y4, y5, y6, y7, y8, u1, u2, u3, u4, u5, u6, u7, u8, u9, u10, u11, u12, u13, u14⟩ := hW.1
      rcases (by omega : i = 0 ∨ i = 1) with rfl | rfl
      · exact ⟨d, y6, u11, u12⟩
      · exact ⟨e, y7, u13, u14⟩
    have hch := S_change (σ := sf σ 31 5 0) (p0 := nI i) (p1 := 3) (p2 := nI v) (old := nI old) (g := fun s => sr s 2 i (nI v)) hk6 k31 (by rw [S_told_n hi, ← eo]; rfl) (by rw [S_setT_n hi])
    have g59 : gr (sr (CHS (sf σ 31 5 0) k (nI i) 3 (nI old)) 2 i (nI v)) 59 = gr σ 59 := by
      funext j
      rw [gr_sr_n _ _ _ _ (by decide), CHS_r 59 (by decide)]
      rfl
    have g14 : ∀ j, gr (sr (CHS (sf σ 31 5 0) k (nI i) 3 (nI old)) 2 i (nI v)) 14 j = if j = k * 3 + 2 then nI old else if j = k * 3 + 1 then 3 else if j = k * 3 then nI i else gr σ 14 j := fun j => by
      rw [gr_sr_n _ _ _ _ (by decide)]
      exact CHS_14 j
    have hWt : WR (sr (CHS (sf σ 31 5 0) k (nI i) 3 (nI old)) 2 i (nI v)) 1 (CHG (gr σ 59) (11 + i) k (nI v)) := by
      refine WR.updN (σ := sf σ 31 5 0) (F := gr σ 59) (i := i) (v := v) (hI31.2.2.2.2.1).1 hi hv (fun j hj => CHSs_f j hj) (fun j h1 h2 => ?_) (fun j => ?_) (fun j h1 h2 h3 => ?_) ?_ ?_
      · funext x
        rw [gr_sr_n _ _ _ _ h2, CHS_r j (by omega)]
      · rw [gr_sr_s, CHS_r 2 (by omega)]
      · rw [CHG_at, if_neg h1, if_neg h3, if_neg (by omega), if_neg (by omega)]
      · rw [CHG_at, if_neg (by omega), if_pos rfl]
      · refine CR.chg (σ := sf σ 31 5 0) (row := i) (what := 3) (old := old) (hI31.2.2.2.2.1).1.2.2.2.2.2.2.2.2.2 k31 hk6 (by omega) (by omega) (by omega) CHSs_3 (fun j hj => ?_) ?_ ?_ ?_ eo2 ⟨T, hb.mT, hb.hT, Or.inr (Or.inr (Or.inr ⟨rfl, hi, rfl, ho⟩))⟩
        · rw [g14, if_neg (by omega), if_neg (by omega), if_neg (by omega)]; rfl
        · rw [g14, if_neg (by omega), if_neg (by omega), if_pos (by omega)]
        · rw [g14, if_neg (by omega), if_pos (by omega)]; rfl
        · rw [g14, if_pos (by omega)]
    refine ⟨nI old, sr (CHS (sf σ 31 5 0) k (nI i) 3 (nI old)) 2 i (nI v), sR (sr (CHS (sf σ 31 5 0) k (nI i) 3 (nI old)) 2 i (nI v)) 59 (CHG (gr σ 59) (11 + i) k (nI v)), by rw [hch, bd_mk], ?_, ?_, Or.inr ?_⟩
    · rw [hM _ (by rw [g59]; exact hb.mN), S_changed (X := 11 + i) (by omega) (by omega) hk6 (by rw [g59]; exact k2), bd_mk, g59, eo2]
    · have F1 : Fr [1, 2, 3, 4, 5, 6, 7, 8, 9, 10, 11, 12, 13, 14, 31, 59] σ (sr (CHS (sf σ 31 5 0) k (nI i) 3 (nI old)) 2 i (nI v)) := by
        unfold CHS
        exact (((((Fr.c1 (by simp)).tr (Fr.c1 (by simp))).tr (Fr.c2 (by simp))).tr (Fr.c2 (by simp))).tr (Fr.c2 (by simp))).tr (Fr.c2 (by simp))
      refine hI.wc (F1.tr (Fr.cR (by simp))) ?_
      rw [gr_sR, if_pos rfl]
      have hWN : WN (sr (CHS (sf σ 31 5 0) k (nI i) 3 (nI old)) 2 i (nI v)) 1 (CHG (gr σ 59) (11 + i) k (nI v)) := ⟨hWt, by
        rw [show gf (sr (CHS (sf σ 31 5 0) k (nI i) 3 (nI old)) 2 i (nI v)) 1 = gf (sf σ 31 5 0) 1 from CHSs_f 1 (by omega), show gf (sr (CHS (sf σ 31 5 0) k (nI i) 3 (nI old)) 2 i (nI v)) (1 + 2) = gf (sf σ 31 5 0) (1 + 2) from CHSs_f (1 + 2) (by omega)]
        exact (hI31.2.2.2.2.1).2⟩
      exact hWN.kp (fun j h1 h2 => ⟨rfl, by rw [gr_sR, if_neg (by omega)]⟩)
    · show gf (sr (CHS (sf σ 31 5 0) k (nI i) 3 (nI old)) 2 i (nI v)) 31 5 = 0
      rw [CHSs_f 31 (by omega), gf_sf_s, if_pos rfl]
/-! taking back -/
theorem S_drop {σ : St} {k : Nat} (hk : k < 60) (h : gf σ 13 3 = nI (k + 1)) : f_X9_drop 13 σ = some ((), sf σ 13 3 (nI k)) := by
  unfold f_X9_drop f_X9_drop_17
  rw [tb13.isT, gd_tt, h, if_neg (nI_nle (by omega) (by omega)), bnd_mk, nI_pred]
theorem C_undo {σ : St} {k : Nat} {row what old : Int32} {g : St → St} (hk : k < 60) (h : gf σ 13 3 = nI (k + 1)) (h0 : gr σ 14 (3 * k) = row) (h1 : gr σ 14 (3 * k + 1) = what) (h2 : gr σ 14 (3 * k + 2) = old) (hs : f_X10_setToldNumber 1 row what old σ = some ((), g σ)) (hg : gf (g σ) 13 3 = nI (k + 1)) : f_X10_takeBack 1 σ = some (nI k, sf (g σ) 13 3 (nI k)) := by
  unfold f_X10_takeBack
  have c0 : f_X9_cell (1 + 12) (nI k) (0 : Int32) σ = some (row, σ) := by
    rw [← h0, show 3 * k = k * 3 + 0 by omega]
    exact S_getc (c := 0) tb13 (show k + 1 ≤ 60 by omega) (by omega) (by omega) h
  have c1 : f_X9_cell (1 + 12) (nI k) (1 : Int32) σ = some (what, σ) := by
    rw [← h1, show 3 * k + 1 = k * 3 + 1 by omega]
    exact S_getc (c := 1) tb13 (show k + 1 ≤ 60 by omega) (by omega) (by omega) h
  have c2 : f_X9_cell (1 + 12) (nI k) (2 : Int32) σ = some (old, σ) := by
    rw [← h2, show 3 * k + 2 = k * 3 + 2 by omega]
    exact S_getc (c := 2) tb13 (show k + 1 ≤ 60 by omega) (by omega) (by omega) h
  rw [isW_lit (Or.inl rfl), gd_tt, show gf σ (1 + 12) 3 = nI (k + 1) from h, if_neg (nI_ne0 (by omega) (by omega)), bnd_mk, nI_pred, c0, bd_mk, isW_lit (Or.inl rfl), gd_tt, c1, bd_mk, isW_lit (Or.inl rfl), gd_tt, c2, bd_mk, hs, bd_mk, isW_lit (Or.inl rfl), gd_tt, show f_X9_drop (1 + 12) (g σ) = some ((), sf (g σ) 13 3 (nI k)) from S_drop hk hg, bd_mk, isW_lit (Or.inl rfl), gd_tt, show gf (sf (g σ) 13 3 (nI k)) (1 + 12) 3 = nI k from by rw [gf_sf_s, if_pos rfl]]
/-- the reference's row behind an undo -/
def UND (F : Nat → Int32) (X k : Nat) (v : Int32) : Nat → Int32 := upd (upd F 10 (nI k)) X v
theorem UND_at (F : Nat → Int32) (X k : Nat) (v : Int32) (j : Nat) : UND F X k v j = if j = X then v else if j = 10 then nI k else F j := rfl
theorem M_undo {σ : St} {N X k : Nat} (hN : N ≤ 1200) (hN1 : 1 ≤ N) (h9 : gr σ 59 9 = nI N) (hk : k < 60) (h10 : gr σ 59 10 = nI (k + 1)) (hX : X < 120) (hX0 : X ≠ 10) (h0 : gr σ 59 (120 + 2 * k) = nI X) : f_X12_undo σ = some (nI k, sR σ 59 (UND (gr σ 59) X k (gr σ 59 (121 + 2 * k)))) := by
  unfold f_X12_undo
  rw [S_isWar hN h9, bd_mk, b2_t hN1, if_neg n10, show inb (10 : Int32) (ln 59) = true from rfl, gd_tt, show (10 : Int32).toNatClampNeg = 10 from rfl, h10, if_neg (nI_ne0 (by omega) (by omega)), gd_tt, gd_tt, bnd_mk, nI_pred, gd_tt]
  have e0 : sr σ 59 10 (nI k) = sR σ 59 (upd (gr σ 59) 10 (nI k)) := rfl
  have e1 : gr (sR σ 59 (upd (gr σ 59) 10 (nI k))) 59 = upd (gr σ 59) 10 (nI k) := by rw [gr_sR, if_pos rfl]
  rw [e0, e1, upd_at, if_pos rfl, show (120 : Int32) + (2 : Int32) * nI k = nI (120 + 2 * k) from by rw [show (120 : Int32) = nI 120 from rfl, zL2, nI_mul, nI_add], bnd_mk, inb_ln (n := 240) rfl (show 120 + 2 * k < 240 by omega) (by omega), gd_tt, nI_1, inb_ln (n := 240) rfl (show 120 + 2 * k + 1 < 240 by omega) (by omega), gd_tt, nI_clamp (by omega), nI_clamp (by omega)]
  rw [upd_at, if_neg (by omega), h0, inb_ln (n := 240) rfl (show X < 240 by omega) (by omega), gd_tt, nI_clamp (by omega), bnd_mk, gd_tt, sr_sR, gr_sR, if_pos rfl]
  rw [upd_at (upd (gr σ 59) 10 (nI k)), if_neg (fun z => hX0 z.symm), upd_at, if_pos rfl]
  rw [show upd (gr σ 59) 10 (nI k) (120 + 2 * k + 1) = gr σ 59 (121 + 2 * k) from by rw [upd_at, if_neg (by omega), show 120 + 2 * k + 1 = 121 + 2 * k by omega]]
  rfl
theorem CR.und {σ σ' : St} {F : Nat → Int32} {X k v : Nat} (h : CR σ 1 F) (hk0 : gf σ 13 3 = nI (k + 1)) (hk : k < 60) (hX : X < 120) (hX4 : X ≠ 4) (hX0 : X ≠ 10) (h3 : gf σ' 13 3 = nI k) (hg : gr σ' 14 = gr σ 14) : CR σ' 1 (UND F X k (nI v)) := by
  obtain ⟨k', a1, a2, a3, a4⟩ := h
  obtain rfl : k + 1 = k' := (nI_eq (by omega) (by omega)).mp (hk0.symm.trans a2)
  refine ⟨k, by omega, h3, by rw [UND_at, if_neg (fun z => hX0 z.symm), if_pos rfl], fun j hj => ?_⟩
  refine (a4 j (by omega)).mv ?_ (fun x hx => congrFun hg _) ?_ ?_
  · rw [UND_at, if_neg (fun z => hX4 z.symm), if_neg (by omega)]
  · rw [UND_at, if_neg (by omega), if_neg (by omega)]
  · rw [UND_at, if_neg (by omega), if_neg (by omega)]
theorem R_undo (σ : St) (hI : IV σ) : ∃ r s1 s2, f_X11_undo σ = some (r, s1) ∧ f_X12_undo s1 = some (r, s2) ∧ IV s2 ∧ (s2 = σ ∨ gf s2 31 5 = 0) := by
  obtain ⟨hW, hN0⟩ := hI.2.2.2.2.1
  obtain ⟨M, T, S, E, A, U, Y, L, P, N, hb⟩ := hW.bb
  have hN := hb.hN
  have hT := hb.hT
  by_cases c1 : ¬ 1 ≤ N
  · refine ⟨-2, σ, σ, ?_, ?_, hI, Or.inl rfl⟩
    · unfold f_X11_undo
      rw [S_isTold hN hb.cN, bd_mk, b2_f c1, if_pos rfl]
    · unfold f_X12_undo
      rw [S_isWar hN hb.mN, bd_mk, b2_f c1, if_pos rfl]
  replace c1 := Decidable.not_not.mp c1
  have f31 : Fr [31] σ (sf σ 31 5 0) := Fr.c1 (by simp)
  have hI31 : IV (sf σ 31 5 0) := hI.fr0 f31 (by decide) (fun c _ => by rw [(f31.1 58 (by decide)).1])
  have hc : f_X11_undo σ = bd (f_X10_takeBack 1 (sf σ 31 5 0)) fun r s => some (r, s) := by
    unfold f_X11_undo f_X2_forget
    rw [S_isTold hN hb.cN, bd_mk, b2_t c1, if_neg n10, bz_0, gd_tt, bnd_mk, bd_mk]
  rw [hc]
  obtain ⟨k, hk, k1, k2, kk⟩ := hW.2.2.2.2.2.2.2.2.2
  have k31 : gf (sf σ 31 5 0) 13 3 = nI k := by rw [gf_sf_n _ _ _ _ (by decide)]; exact k1
  rcases k with _ | k
  · refine ⟨-5, sf σ 31 5 0, sf σ 31 5 0, ?_, ?_, hI31, Or.inr (by rw [gf_sf_s, if_pos rfl])⟩
    · unfold f_X10_takeBack
      rw [isW_lit (Or.inl rfl), gd_tt, show gf (sf σ 31 5 0) (1 + 12) 3 = nI 0 from k31, if_pos (show nI 0 = 0 from rfl), bd_mk]
    · unfold f_X12_undo
      rw [S_isWar (σ := sf σ 31 5 0) hN hb.mN, bd_mk, b2_t c1, if_neg n10, show inb (10 : Int32) (ln 59) = true from rfl, gd_tt, show gr (sf σ 31 5 0) 59 (10 : Int32).toNatClampNeg = nI 0 from k2, if_pos (show nI 0 = 0 from rfl)]
  · obtain ⟨row, what, old, m, a1, a2, a3, a4, a5, a6, a7⟩ := kk k (by omega)
    obtain rfl : m = T := (nI_eq (by omega) (by omega)).mp (a1.symm.trans hb.mT)
    have t31 : gf (sf σ 31 5 0) 3 3 = nI m := by rw [gf_sf_n _ _ _ _ (by decide)]; exact hb.cT
    have fin : ∀ (X : Nat) (g : St → St), X < 120 → X ≠ 4 → X ≠ 10 → gr σ 59 (120 + 2 * k) = nI X → f_X10_setToldNumber 1 (nI row) (nI what) (nI old) (sf σ 31 5 0) = some ((), g (sf σ 31 5 0)) → gf (g (sf σ 31 5 0)) = gf (sf σ 31 5 0) → gr (g (sf σ 31 5 0)) 59 = gr σ 59 → gr (g (sf σ 31 5 0)) 14 = gr σ 14 → Fr [1, 2, 3, 4, 5, 6, 7, 8, 9, 10, 11, 12, 13, 14, 31, 59] σ (g (sf σ 31 5 0)) → (CR (sf (g (sf σ 31 5 0)) 13 3 (nI k)) 1 (UND (gr σ 59) X k (nI old)) → WR (sf (g (sf σ 31 5 0)) 13 3 (nI k)) 1 (UND (gr σ 59) X k (nI old))) → ∃ r s1 s2, (bd (f_X10_takeBack 1 (sf σ 31 5 0)) fun r s => some (r, s)) = some (r, s1) ∧ f_X12_undo s1 = some (r, s2) ∧ IV s2 ∧ (s2 = σ ∨ gf s2 31 5 = 0) := by
      intro X g x1 x2 x3 x4 x5 x6 x7 x8 x9 x10
      have g13 : gf (g (sf σ 31 5 0)) 13 3 = nI (k + 1) := by rw [x6]; exact k31
      have g59 : gr (sf (g (sf σ 31 5 0)) 13 3 (nI k)) 59 = gr σ 59 := x7
      refine ⟨nI k, sf (g (sf σ 31 5 0)) 13 3 (nI k), sR (sf (g (sf σ 31 5 0)) 13 3 (nI k)) 59 (UND (gr σ 59) X k (nI old)), ?_, ?_, ?_, Or.inr ?_⟩
      · rw [C_undo (by omega) k31 a3 a4 a5 x5 g13, bd_mk]
      · rw [M_undo (X := X) (k := k) hN c1 (by rw [g59]; exact hb.mN) (by omega) (by rw [g59]; exact k2) x1 x3 (by rw [g59]; exact x4), g59, a6]
      · refine hI.wc ((x9.tr (Fr.c1 (by simp))).tr (Fr.cR (by simp))) ?_
        rw [gr_sR, if_pos rfl]
        have hCR : CR (sf (g (sf σ 31 5 0)) 13 3 (nI k)) 1 (UND (gr σ 59) X k (nI old)) := CR.und (σ := σ) hW.2.2.2.2.2.2.2.2.2 k1 (by omega) x1 x2 x3 (by rw [gf_sf_s, if_pos rfl]) x8
        have hWN : WN (sf (g (sf σ 31 5 0)) 13 3 (nI k)) 1 (UND (gr σ 59) X k (nI old)) := ⟨x10 hCR, by
          rw [gf_sf_n _ _ _ _ (by decide), gf_sf_n _ _ _ _ (by decide), x6]
          exact (hI31.2.2.2.2.1).2⟩
        exact hWN.kp (fun j h1 h2 => ⟨rfl, by rw [gr_sR, if_neg (by omega)]⟩)
      · show gf (sf (g (sf σ 31 5 0)) 13 3 (nI k)) 31 5 = 0
        rw [gf_sf_n _ _ _ _ (by decide), x6, gf_sf_s, if_pos rfl]
    have trn : ∀ c, what = c → c < 3 → row < m → gr σ 59 (120 + 2 * k) = nI (13 + 6 * row + coT c) → old ≤ hiT c → ∃ r s1 s2, (bd (f_X10_takeBack 1 (sf σ 31 5 0)) fun r s => some (r, s)) = some (r, s1) ∧ f_X12_undo s1 = some (r, s2) ∧ IV s2 ∧ (s2 = σ ∨ gf s2 31 5 = 0) := by
      intro c ec hc hr hx ho
      have hco := coT_le hc
      refine fin (13 + 6 * row + coT c) (fun s => sr s 4 (row * 6 + coT c) (nI old)) (by omega) (by omega) (by omega) hx ?_ rfl ?_ ?_ ?_ (fun hCR => ?_)
      · rw [S_setT_t hT hr t31 (by rw [ec]) hc]; rfl
      · funext j; rw [gr_sr_n _ _ _ _ (by decide)]; rfl
      · funext j; rw [gr_sr_n _ _ _ _ (by decide)]; rfl
      · exact (Fr.c1 (by simp)).tr (Fr.c2 (by simp))
      · refine WR.updT (σ := sf σ 31 5 0) (F := gr σ 59) (T := m) (t := row) (c := c) (v := old) (hI31.2.2.2.2.1).1 hT hr t31 hc ho (fun i hi => ?_) (fun i h1 h2 => ?_) (fun j => ?_) (fun j h1 h2 h3 => ?_) ?_ hCR
        · funext j; rw [gf_sf_n _ _ _ _ hi]; rfl
        · funext j
          show gr (sr (sf σ 31 5 0) 4 (row * 6 + coT c) (nI old)) i j = _
          rw [gr_sr_n _ _ _ _ h2]
        · show gr (sr (sf σ 31 5 0) 4 (row * 6 + coT c) (nI old)) 4 j = _
          rw [gr_sr_s]
        · rw [UND_at, if_neg h3, if_neg h1]
        · rw [UND_at, if_pos rfl]
    rcases a7 with ⟨b1, b2', b3, b4⟩ | ⟨b1, b2', b3, b4⟩ | ⟨b1, b2', b3, b4⟩ | ⟨b1, b2', b3, b4⟩
    · exact trn 0 b1 (by omega) b2' b3 b4
    · exact trn 1 b1 (by omega) b2' b3 b4
    · exact trn 2 b1 (by omega) b2' b3 b4
    · subst b1
      refine fin (11 + row) (fun s => sr s 2 row (nI old)) (by omega) (by omega) (by omega) b3 (S_setT_n b2') rfl ?_ ?_ ?_ (fun hCR => ?_)
      · funext j; rw [gr_sr_n _ _ _ _ (by decide)]; rfl
      · funext j; rw [gr_sr_n _ _ _ _ (by decide)]; rfl
      · exact (Fr.c1 (by simp)).tr (Fr.c2 (by simp))
      · refine WR.updN (σ := sf σ 31 5 0) (F := gr σ 59) (i := row) (v := old) (hI31.2.2.2.2.1).1 b2' b4 (fun i hi => ?_) (fun i h1 h2 => ?_) (fun j => ?_) (fun j h1 h2 h3 => ?_) ?_ hCR
        · funext j; rw [gf_sf_n _ _ _ _ hi]; rfl
        · funext j
          show gr (sr (sf σ 31 5 0) 2 row (nI old)) i j = _
          rw [gr_sr_n _ _ _ _ h2]
        · show gr (sr (sf σ 31 5 0) 2 row (nI old)) 2 j = _
          rw [gr_sr_s]
        · rw [UND_at, if_neg h3, if_neg h1]
        · rw [UND_at, if_pos rfl]
/-! ===== image and back: the same of both ===== -/
theorem S_image (p : Int32) (σ : St) : f_X11_isImage p σ = some (b2 (0 ≤ p.toInt ∧ p.toInt ≤ 2), σ) := by
  unfold f_X11_isImage f_X11_isImage_13 f_X11_isImage_14
  rw [bz_0, bz_1, gd_tt, gd_tt]
  have z0 : (0 : Int32).toInt = 0 := rfl
  have z3 : (3 : Int32).toInt = 3 := rfl
  by_cases h1 : p < 0
  · rw [if_pos h1, b2_f]
    rw [lt_toInt] at h1
    omega
  · rw [if_neg h1]
    rw [lt_toInt] at h1
    by_cases h2 : (3 : Int32) ≤ p
    · rw [if_pos h2, b2_f]
      rw [le_toInt] at h2
      omega
    · rw [if_neg h2, b2_t]
      rw [le_toInt] at h2
      omega
theorem idx240 {k i : Nat} (hk : k < 3) (hi : i < 240) : (240 : Int32) * nI k + nI i = nI (240 * k + i) ∧ inb (nI (240 * k + i)) (ln 60) = true := by
  refine ⟨by rw [show (240 : Int32) = nI 240 from rfl, nI_mul, nI_add], inb_ln (n := 720) rfl (by omega) (by omega)⟩
theorem imgM {k : Nat} (hk : k < 3) : ∀ (c i Q : Nat) (τ : St), i + c = 240 → c < Q → (∀ j, j < i → gr τ 60 (240 * k + j) = gr τ 59 j) → ∃ τ', itr g_X12_image_17 Q (nI k, nI i, τ) = some (0, τ') ∧ (∀ j, j < 240 → gr τ' 60 (240 * k + j) = gr τ 59 j) ∧ (∀ j, (j < 240 * k ∨ 240 * k + 240 ≤ j) → gr τ' 60 j = gr τ 60 j) ∧ (∀ j, gr τ' 61 j = if j = k then 1 else gr τ 61 j) ∧ Fr [60, 61] τ τ' := by
  intro c
  induction c with
  | zero =>
    intro i Q τ hc hQ hj
    obtain ⟨R, rfl⟩ : ∃ R, Q = R + 1 := ⟨Q - 1, by omega⟩
    obtain rfl : i = 240 := by omega
    refine ⟨sr τ 61 k 1, ?_, fun j h => ?_, fun j h => ?_, fun j => ?_, Fr.c2 (by simp)⟩
    · rw [itr_succ]
      generalize itr g_X12_image_17 R = Z
      unfold g_X12_image_17
      dsimp only
      rw [if_pos (show (240 : Int32) ≤ nI 240 from by decide), inb_ln (n := 3) rfl hk (by omega), gd_tt, bnd_mk, nI_clamp (by omega)]
      rfl
    · rw [gr_sr_n _ _ _ _ (by decide)]
      exact hj j h
    · rw [gr_sr_n _ _ _ _ (by decide)]
    · rw [gr_sr_s]
  | succ c ih =>
    intro i Q τ hc hQ hj
    obtain ⟨R, rfl⟩ : ∃ R, Q = R + 1 := ⟨Q - 1, by omega⟩
    obtain ⟨e1, e2⟩ := idx240 hk (show i < 240 by omega)
    obtain ⟨τ', a1, a2, a3, a4, a5⟩ := ih (i + 1) R (sr τ 60 (240 * k + i) (gr τ 59 i)) (by omega) (by omega) (fun j h => by
      rw [gr_sr_s, gr_sr_n _ _ _ _ (by decide)]
      by_cases e : j = i
      · rw [if_pos (by omega), e]
      · rw [if_neg (by omega)]
        exact hj j (by omega))
    refine ⟨τ', ?_, fun j h => ?_, fun j h => ?_, fun j => ?_, (Fr.c2 (by simp)).tr a5⟩
    · rw [itr_succ, ← a1]
      generalize itr g_X12_image_17 R = Z
      unfold g_X12_image_17
      dsimp only
      rw [if_neg (show ¬ (240 : Int32) ≤ nI i from nI_ge (b := 240) (a := i) (by omega) (by omega)), inb_ln (n := 240) rfl (show i < 240 by omega) (by omega), gd_tt, e1, e2, gd_tt, bnd_mk, bnd_mk, nI_clamp (by omega), nI_clamp (by omega), nI_1]
    · rw [a2 j h, gr_sr_n _ _ _ _ (by decide)]
    · rw [a3 j h, gr_sr_s, if_neg (by omega)]
    · rw [a4 j, gr_sr_n _ _ _ _ (by decide)]
theorem bakM {k : Nat} (hk : k < 3) : ∀ (c i Q : Nat) (τ : St), i + c = 240 → c < Q → (∀ j, j < i → gr τ 59 j = gr τ 60 (240 * k + j)) → ∃ τ', itr g_X12_back_29 Q (nI k, nI i, τ) = some (0, τ') ∧ (∀ j, j < 240 → gr τ' 59 j = gr τ 60 (240 * k + j)) ∧ Fr [59] τ τ' := by
  intro c
  induction c with
  | zero =>
    intro i Q τ hc hQ hj
    obtain ⟨R, rfl⟩ : ∃ R, Q = R + 1 := ⟨Q - 1, by omega⟩
    obtain rfl : i = 240 := by omega
    refine ⟨τ, ?_, hj, Fr.rf⟩
    rw [itr_succ]
    generalize itr g_X12_back_29 R = Z
    unfold g_X12_back_29
    dsimp only
    rw [if_pos (show (240 : Int32) ≤ nI 240 from by decide)]
  | succ c ih =>
    intro i Q τ hc hQ hj
    obtain ⟨R, rfl⟩ : ∃ R, Q = R + 1 := ⟨Q - 1, by omega⟩
    obtain ⟨e1, e2⟩ := idx240 hk (show i < 240 by omega)
    obtain ⟨τ', a1, a2, a3⟩ := ih (i + 1) R (sr τ 59 i (gr τ 60 (240 * k + i))) (by omega) (by omega) (fun j h => by
      rw [gr_sr_s, gr_sr_n _ _ _ _ (by decide)]
      by_cases e : j = i
      · rw [if_pos e, e]
      · rw [if_neg e]
        exact hj j (by omega))
    refine ⟨τ', ?_, fun j h => ?_, (Fr.c2 (by simp)).tr a3⟩
    · rw [itr_succ, ← a1]
      generalize itr g_X12_back_29 R = Z
      unfold g_X12_back_29
      dsimp only
      rw [if_neg (show ¬ (240 : Int32) ≤ nI i from nI_ge (b := 240) (a := i) (by omega) (by omega)), e1, e2, gd_tt, inb_ln (n := 240) rfl (show i < 240 by omega) (by omega), gd_tt, bnd_mk, bnd_mk, nI_clamp (by omega), nI_clamp (by omega), nI_1]
    · rw [a2 j h, gr_sr_n _ _ _ _ (by decide)]
theorem isW_b {σ : St} {b : Nat} (h : b < gn σ) : isW σ (75 + 14 * b) = true := by
  unfold isW nA
  simp only [Bool.or_eq_true, Bool.and_eq_true, decide_eq_true_eq]
  exact Or.inr ⟨⟨by omega, by omega⟩, by omega⟩
theorem R_back (p : Int32) (σ : St) (hI : IV σ) : ∃ r s1 s2, f_X11_back p σ = some (r, s1) ∧ f_X12_back p s1 = some (r, s2) ∧ IV s2 ∧ (s2 = σ ∨ gf s2 31 5 = 0) := by
  by_cases c1 : ¬ (0 ≤ p.toInt ∧ p.toInt ≤ 2)
  · refine ⟨-2, σ, σ, ?_, ?_, hI, Or.inl rfl⟩
    · unfold f_X11_back
      rw [S_image, bd_mk, b2_f c1, if_pos rfl]
    · unfold f_X12_back
      rw [M_in (p := p) (lo := 0) (hi := 2) c1, bd_mk, if_pos rfl]
  replace c1 := Decidable.not_not.mp c1
  obtain ⟨k, hk', rfl⟩ := nI_ofT (x := p) (n := 2) c1.1 c1.2
  have hk : k < 3 := by omega
  have hc : f_X11_back (nI k) σ = match gm σ k with
    | none => some ((-6 : Int32), σ)
    | some b => bd (f_X10_become 1 (75 + 14 * b) σ) fun _ s3 => bd (f_X2_forget s3) fun _ s4 => some ((0 : Int32), s4) := by
    unfold f_X11_back
    rw [S_image, bd_mk, b2_t c1, if_neg n10, inb_nI hk (by omega), gd_tt, nI_clamp (by omega)]
    cases gm σ k <;> rfl
  have hm : ∀ s, f_X12_back (nI k) s = if gr s 61 k = 0 then some (-6, s) else itr g_X12_back_29 FU (nI k, 0, s) := fun s => by
    unfold f_X12_back
    rw [M_inY (p := nI k) (lo := 0) (hi := 2) c1, bd_mk, if_neg n10, inb_ln (n := 3) rfl hk (by omega), gd_tt, nI_clamp (by omega)]
  rcases hI.2.2.2.2.2.1 k hk with ⟨a1, a2⟩ | ⟨b, a1, a2, a3⟩
  · exact ⟨-6, σ, σ, by rw [hc, a1], by rw [hm, if_pos a2], hI, Or.inl rfl⟩
  · obtain ⟨s3, b1, b2', b3⟩ := S_bec (σ := σ) (w := 1) (u := 75 + 14 * b) (isW_lit (Or.inl rfl)) (isW_b (hI.2.2.2.1 k b a1)) (by omega)
    have F3 : Fr [1, 2, 3, 4, 5, 6, 7, 8, 9, 10, 11, 12, 13, 14, 31, 59] σ (sf s3 31 5 0) := (b3.fr.mo (by simp)).tr (Fr.c1 (by simp))
    obtain ⟨s2, d1, d2, d3⟩ := bakM hk 240 0 FU (sf s3 31 5 0) (by omega) (by unfold FU; omega) (fun j h => absurd h (by omega))
    refine ⟨0, sf s3 31 5 0, s2, ?_, ?_, ?_, Or.inr ?_⟩
    · rw [hc, a1]
      dsimp only
      unfold f_X2_forget
      rw [b1, bd_mk, bz_0, gd_tt, bnd_mk, bd_mk]
    · rw [hm, if_neg (by rw [(F3.1 61 (by decide)).2.1, a2]; decide)]
      exact d1
    · have F4 : Fr [1, 2, 3, 4, 5, 6, 7, 8, 9, 10, 11, 12, 13, 14, 31, 59] σ s2 := F3.tr (d3.mo (by simp))
      refine hI.wc F4 ?_
      have w1 : WN s3 1 (fun j => gr σ 60 (240 * k + j)) := a3.be b2'
      have w2 : WN s2 1 (fun j => gr σ 60 (240 * k + j)) := by
        have hf : Fr [31, 59] s3 s2 := (Fr.c1 (by simp)).tr (d3.mo (by simp))
        exact w1.kp (fun i h1 h2 => ⟨(hf.1 i (by simp; omega)).1, (hf.1 i (by simp; omega)).2.1⟩)
      refine w2.row (fun j hj => ?_)
      rw [d2 j hj, (F3.1 60 (by decide)).2.1]
    · rw [(d3.1 31 (by decide)).1, gf_sf_s, if_pos rfl]
theorem R_image (p : Int32) (σ : St) (hI : IV σ) : ∃ r s1 s2, f_X11_image p σ = some (r, s1) ∧ f_X12_image p s1 = some (r, s2) ∧ IV s2 ∧ (∀ i, i < 75 → i ≠ 60 → i ≠ 61 → gf s2 i = gf σ i ∧ gr s2 i = gr σ i) := by
  by_cases c1 : ¬ (0 ≤ p.toInt ∧ p.toInt ≤ 2)
  · refine ⟨-2, σ, σ, ?_, ?_, hI, fun _ _ _ _ => ⟨rfl, rfl⟩⟩
    · unfold f_X11_image
      rw [S_image, bd_mk, b2_f c1, if_pos rfl]
    · unfold f_X12_image
      rw [M_in (p := p) (lo := 0) (hi := 2) c1, bd_mk, if_pos rfl]
  replace c1 := Decidable.not_not.mp c1
  obtain ⟨k, hk', rfl⟩ := nI_ofT (x := p) (n := 2) c1.1 c1.2
  have hk : k < 3 := by omega
  have hc : f_X11_image (nI k) σ = match gm σ k with
    | none => bd (f_X10_become (75 + 14 * gn σ) 1 (sM (zI σ) k (gn σ))) fun _ s3 => some ((0 : Int32), s3)
    | some b => bd (f_X10_become (75 + 14 * b) 1 σ) fun _ s3 => some ((0 : Int32), s3) := by
    unfold f_X11_image
    rw [S_image, bd_mk, b2_t c1, if_neg n10, inb_nI hk (by omega), gd_tt, nI_clamp (by omega)]
    cases gm σ k <;> rfl
  have hm : ∀ s, f_X12_image (nI k) s = itr g_X12_image_17 FU (nI k, 0, s) := fun s => by
    unfold f_X12_image
    rw [M_inY (p := nI k) (lo := 0) (hi := 2) c1, bd_mk, if_neg n10]
  /- what follows for the state σ1 ahead of the copy, with block b -/
  have fin : ∀ (b : Nat) (σ1 : St), f_X11_image (nI k) σ = (bd (f_X10_become (75 + 14 * b) 1 σ1) fun _ s3 => some ((0 : Int32), s3)) → gm σ1 k = some b → b < gn σ1 → (∀ i, (i < 75 ∨ (75 ≤ i ∧ ∃ b' k', k' ≠ k ∧ gm σ k' = some b' ∧ 75 + 14 * b' ≤ i ∧ i < 75 + 14 * b' + 14)) → gf σ1 i = gf σ i ∧ gr σ1 i = gr σ i ∧ gj σ1 i = gj σ i) → (∀ k', k' ≠ k → gm σ1 k' = gm σ k') → MI σ1 → IJ σ1 → IC σ1 → ∃ r s1 s2, f_X11_image (nI k) σ = some (r, s1) ∧ f_X12_image (nI k) s1 = some (r, s2) ∧ IV s2 ∧ (∀ i, i < 75 → i ≠ 60 → i ≠ 61 → gf s2 i = gf σ i ∧ gr s2 i = gr σ i) := by
    intro b σ1 x1 x2 x3 x4 x5 x6 x7 x8
    obtain ⟨s3, b1, b2', b3⟩ := S_bec (σ := σ1) (w := 75 + 14 * b) (u := 1) (isW_b x3) (isW_lit (Or.inl rfl)) (by omega)
    obtain ⟨s2, d1, d2, d3, d4, d5⟩ := imgM hk 240 0 FU s3 (by omega) (by unfold FU; omega) (fun j h => absurd h (by omega))
    /- below 75 nothing changes but rows 60 and 61 -/
    have lo : ∀ i, i < 75 → i ≠ 60 → i ≠ 61 → gf s2 i = gf σ i ∧ gr s2 i = gr σ i ∧ gj s2 i = gj σ i := fun i h1 h2 h3 => by
      obtain ⟨u1, u2, u3⟩ := d5.1 i (by simp; omega)
      obtain ⟨v1, v2, v3⟩ := b3.1 i (by omega)
      obtain ⟨w1, w2, w3⟩ := x4 i (Or.inl h1)
      exact ⟨(u1.trans v1).trans w1, (u2.trans v2).trans w2, (u3.trans v3).trans w3⟩
    have r3 : ∀ i, i < 75 → gr s3 i = gr σ i := fun i h1 => by
      obtain ⟨v1, v2, v3⟩ := b3.1 i (by omega)
      obtain ⟨w1, w2, w3⟩ := x4 i (Or.inl h1)
      exact v2.trans w2
    have gm2 : gm s2 = gm σ1 := d5.2.1.trans b3.2.1
    have gn2 : gn s2 = gn σ1 := d5.2.2.trans b3.2.2
    refine ⟨0, s3, s2, by rw [x1, b1, bd_mk], by rw [hm]; exact d1, ?_, fun i h1 h2 h3 => ⟨(lo i h1 h2 h3).1, (lo i h1 h2 h3).2.1⟩⟩
    obtain ⟨q1, q2, q3, q4, q5, q6, q7, q8⟩ := hI
    refine ⟨?_, ?_, ?_, ?_, ?_, ?_, ?_, ?_⟩
    · obtain ⟨n, a1, a2, a3, a4, a5⟩ := q1
      refine ⟨n, a1, by rw [(lo 29 (by omega) (by omega) (by omega)).1]; exact a2, by rw [(lo 58 (by omega) (by omega) (by omega)).1]; exact a3, fun j hj => ?_, fun j hj => ?_⟩
      · rw [(lo 30 (by omega) (by omega) (by omega)).2.1, (lo 62 (by omega) (by omega) (by omega)).2.1]; exact a4 j hj
      · rw [(lo 30 (by omega) (by omega) (by omega)).2.1]; exact a5 j hj
    · intro s hs
      have := q2 s hs
      unfold SLs at *
      rw [(lo 53 (by omega) (by omega) (by omega)).2.1, (lo 54 (by omega) (by omega) (by omega)).2.1, (lo 55 (by omega) (by omega) (by omega)).2.1, (lo 71 (by omega) (by omega) (by omega)).2.1, (lo 72 (by omega) (by omega) (by omega)).2.1]
      exact this
    · unfold FE at *
      rw [(lo 29 (by omega) (by omega) (by omega)).1, (lo 58 (by omega) (by omega) (by omega)).1]
      exact q3
    · intro k' b' h'
      rw [gm2] at h'
      rw [gn2]
      exact x6 k' b' h'
    · rw [(lo 59 (by omega) (by omega) (by omega)).2.1]
      exact q5.kp (fun i h1 h2 => ⟨(lo i (by omega) (by omega) (by omega)).1, (lo i (by omega) (by omega) (by omega)).2.1⟩)
    · intro k' hk3
      by_cases e : k' = k
      · subst e
        refine Or.inr ⟨b, by rw [gm2]; exact x2, by rw [d4, if_pos rfl], ?_⟩
        have w0 : WN σ1 1 (gr σ 59) := q5.kp (fun i h1 h2 => ⟨(x4 i (Or.inl (by omega))).1, (x4 i (Or.inl (by omega))).2.1⟩)
        have w1 : WN s3 (75 + 14 * b) (gr σ 59) := w0.be b2'
        have w2 : WN s2 (75 + 14 * b) (gr σ 59) := w1.kp (fun i h1 h2 => ⟨(d5.1 i (by simp; omega)).1, (d5.1 i (by simp; omega)).2.1⟩)
        refine w2.row (fun j hj => ?_)
        rw [d2 j hj, r3 59 (by omega)]
      · rcases q6 k' hk3 with ⟨a1, a2⟩ | ⟨b', a1, a2, a3⟩
        · exact Or.inl ⟨by rw [gm2, x5 k' e]; exact a1, by rw [d4, if_neg e, r3 61 (by omega)]; exact a2⟩
        · refine Or.inr ⟨b', by rw [gm2, x5 k' e]; exact a1, by rw [d4, if_neg e, r3 61 (by omega)]; exact a2, ?_⟩
          have hbb : b' ≠ b := fun z => e (x7 k' k b (by rw [x5 k' e, a1, z]) x2)
          have w2 : WN s2 (75 + 14 * b') (fun j => gr σ 60 (240 * k' + j)) := a3.kp (fun i h1 h2 => by
            obtain ⟨u1, u2, u3⟩ := d5.1 i (by simp; omega)
            obtain ⟨v1, v2, v3⟩ := b3.1 i (by omega)
            obtain ⟨w1, w2, w3⟩ := x4 i (Or.inr ⟨by omega, b', k', e, a1, h1, h2⟩)
            exact ⟨(u1.trans v1).trans w1, (u2.trans v2).trans w2⟩)
          refine w2.row (fun j hj => ?_)
          rw [d3 _ (by omega), r3 60 (by omega)]
    · intro k1 k2 b'
      rw [gm2]
      exact x7 k1 k2 b'
    · unfold IC
      rw [gm2, gn2]
      exact x8
  obtain ⟨q1, q2, q3, q4, q5, q6, q7, q8⟩ := hI
  cases hg : gm σ k with
  | some b =>
    rw [hg] at hc
    exact fin b σ hc hg (q4 k b hg) (fun i _ => ⟨rfl, rfl, rfl⟩) (fun _ _ => rfl) q4 q7 q8
  | none =>
    rw [hg] at hc
    have m1 : ∀ k', gm (sM (zI σ) k (gn σ)) k' = if k' = k then some (gn σ) else gm σ k' := fun k' => rfl
    have n1 : gn (sM (zI σ) k (gn σ)) = gn σ + 1 := rfl
    refine fin (gn σ) (sM (zI σ) k (gn σ)) hc (by rw [m1, if_pos rfl]) (by rw [n1]; omega) (fun i hi => ?_) (fun k' e => by rw [m1, if_neg e]) ?_ ?_ ?_
    · have hn : i < nA σ := by
        unfold nA
        rcases hi with h | ⟨h, b', k', -, h2, h3, h4⟩
        · omega
        · have := q4 k' b' h2
          omega
      refine ⟨?_, ?_, rfl⟩
      · show (if _ then _ else _) = _
        rw [if_neg (by omega)]
        rfl
      · show (if _ then _ else _) = _
        rw [if_neg (by omega)]
        rfl
    · intro k' b' h'
      rw [m1] at h'
      rw [n1]
      by_cases e : k' = k
      · rw [if_pos e] at h'
        cases h'
        omega
      · rw [if_neg e] at h'
        have := q4 k' b' h'
        omega
    · intro k1 k2 b' h1 h2
      rw [m1] at h1 h2
      by_cases e1 : k1 = k
      · by_cases e2 : k2 = k
        · rw [e1, e2]
        · rw [if_pos e1] at h1
          rw [if_neg e2] at h2
          cases h1
          have := q4 k2 _ h2
          omega
      · by_cases e2 : k2 = k
        · rw [if_neg e1] at h1
          rw [if_pos e2] at h2
          cases h2
          have := q4 k1 _ h1
          omega
        · rw [if_neg e1] at h1
          rw [if_neg e2] at h2
          exact q7 k1 k2 b' h1 h2
    · clear c1
      unfold IC at *
      rw [n1, m1, m1, m1, q8]
      rcases (by omega : k = 0 ∨ k = 1 ∨ k = 2) with rfl | rfl | rfl
      · rw [if_pos rfl, if_neg (by omega), if_neg (by omega), hg]
        unfold c1
        dsimp only
        omega
      · rw [if_neg (by omega), if_pos rfl, if_neg (by omega), hg]
        unfold c1
        dsimp only
        omega
      · rw [if_neg (by omega), if_neg (by omega), if_pos rfl, hg]
        unfold c1
        dsimp only
/-! ===== every call: an end, and what holds between calls ===== -/
theorem D_feed (a b c d e : Int32) (σ : St) (hI : IV σ) : ∃ r s1 s2, f_X11_feed a b c d e σ = some (r, s1) ∧ f_X12_feed a b c d e s1 = some (r, s2) ∧ IV s2 := by
  obtain ⟨r, s1, s2, h1, h2, hT, hf, h29, h58⟩ := R_feed a b c d e σ hI.1
  refine ⟨r, s1, s2, h1, h2, hI.fr hf (by decide) hT (hI.2.1.fr hf (by decide) (by decide) (by decide) (by decide) (by decide)) ?_⟩
  have := hI.2.2.1
  unfold FE at *
  rw [h29 2 (by omega), h29 3 (by omega), h58 12 (by omega), h58 13 (by omega)]
  exact this
theorem D_end (a : Int32) (σ : St) (hI : IV σ) : ∃ r s1 s2, f_X11_end a σ = some (r, s1) ∧ f_X12_end a s1 = some (r, s2) ∧ IV s2 := by
  obtain ⟨r, s1, s2, h1, h2, hT, hf, h29, h58⟩ := R_end a σ hI.1
  refine ⟨r, s1, s2, h1, h2, hI.fr hf (by decide) hT (hI.2.1.fr hf (by decide) (by decide) (by decide) (by decide) (by decide)) ?_⟩
  have := hI.2.2.1
  unfold FE at *
  rw [h29 2 (by omega), h29 3 (by omega), h58 12 (by omega), h58 13 (by omega)]
  exact this
theorem D_war (σ : St) (hI : IV σ) : ∃ r s1 s2, f_X11_war σ = some (r, s1) ∧ f_X12_war s1 = some (r, s2) ∧ IV s2 := by
  obtain ⟨r, s1, s2, h1, h2, hT, hF, -, hc⟩ := R_war σ hI.1
  refine ⟨r, s1, s2, h1, h2, ?_⟩
  rcases hc with hf | ⟨hW, hf, -, -, -, h0⟩
  · exact hI.fr hf (by decide) hT (hI.2.1.fr hf (by decide) (by decide) (by decide) (by decide) (by decide)) hF
  · exact hI.ch hf (by decide) hT (hI.2.1.fr hf (by decide) (by decide) (by decide) (by decide) (by decide)) hF ⟨hW, h0⟩
theorem D_row (a b c : Int32) (σ : St) (hI : IV σ) : ∃ r s1 s2, f_X11_row a b c σ = some (r, s1) ∧ f_X12_row a b c s1 = some (r, s2) ∧ IV s2 := by
  obtain ⟨r, s1, s2, h1, h2, hS, hf⟩ := R_row a b c σ hI.2.1
  exact ⟨r, s1, s2, h1, h2, hI.fr hf (by decide) (hI.1.fr hf (by decide) (by rw [(hf.1 58 (by decide)).1])) hS (hI.2.2.1.fr hf (by decide) (by rw [(hf.1 58 (by decide)).1]) (by rw [(hf.1 58 (by decide)).1]))⟩
theorem D_write (a b : Int32) (c : Int64) (σ : St) (hI : IV σ) : ∃ r s1 s2, f_X11_write a b c σ = some (r, s1) ∧ f_X12_write a b c s1 = some (r, s2) ∧ IV s2 := by
  obtain ⟨r, s1, s2, h1, h2, hS, hf⟩ := R_write a b c σ hI.2.1
  exact ⟨r, s1, s2, h1, h2, hI.fr hf (by decide) (hI.1.fr hf (by decide) (by rw [(hf.1 58 (by decide)).1])) hS (hI.2.2.1.fr hf (by decide) (by rw [(hf.1 58 (by decide)).1]) (by rw [(hf.1 58 (by decide)).1]))⟩
theorem D_paste (a b c d e : Int32) (σ : St) (hI : IV σ) : ∃ r s1 s2, f_X11_paste a b c d e σ = some (r, s1) ∧ f_X12_paste a b c d e s1 = some (r, s2) ∧ IV s2 := by
  obtain ⟨r, s1, s2, h1, h2, hS, hf⟩ := R_paste a b c d e σ hI.2.1
  exact ⟨r, s1, s2, h1, h2, hI.fr hf (by decide) (hI.1.fr hf (by decide) (by rw [(hf.1 58 (by decide)).1])) hS (hI.2.2.1.fr hf (by decide) (by rw [(hf.1 58 (by decide)).1]) (by rw [(hf.1 58 (by decide)).1]))⟩
