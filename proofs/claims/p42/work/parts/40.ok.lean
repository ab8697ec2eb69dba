/-! ===== that a call comes to an end: a calculus ===== -/
def Ok {α : Type} (P : α → St → Prop) (o : Option (α × St)) : Prop := ∃ r s, o = some (r, s) ∧ P r s
theorem okR {α : Type} {P : α → St → Prop} {r : α} {s : St} (h : P r s) : Ok P (some (r, s)) := ⟨r, s, rfl, h⟩
theorem okB {α β : Type} {P : β → St → Prop} {Q : α → St → Prop} {o : Option (α × St)} {k : α → St → Option (β × St)} (h : Ok Q o) (hk : ∀ r s, Q r s → Ok P (k r s)) : Ok P (bd o k) := by
  obtain ⟨r, s, rfl, hq⟩ := h
  exact hk r s hq
theorem okN {α β : Type} {P : β → St → Prop} {a : α} {k : α → Option (β × St)} (h : Ok P (k a)) : Ok P (bnd a k) := h
theorem okZ {β : Type} {P : β → St → Prop} {Z : St → Prop} {a : St} {k : St → Option (β × St)} (ha : Z a) (h : ∀ s, Z s → Ok P (k s)) : Ok P (bnd a k) := h a ha
theorem okG {α β : Type} {P : β → St → Prop} {a : α} {k : α → Option (β × St)} (h : ∀ a, Ok P (k a)) : Ok P (bnd a k) := h a
theorem okD {α : Type} {P : α → St → Prop} {b : Bool} {o : Option (α × St)} (hb : b = true) (h : Ok P o) : Ok P (gd b o) := by
  rw [hb, gd_tt]; exact h
theorem okI {α : Type} {P : α → St → Prop} {c : Prop} [Decidable c] {a b : Option (α × St)} (h1 : c → Ok P a) (h2 : ¬ c → Ok P b) : Ok P (if c then a else b) := by
  by_cases h : c
  · rw [if_pos h]; exact h1 h
  · rw [if_neg h]; exact h2 h
theorem okW {α : Type} {P Q : α → St → Prop} {o : Option (α × St)} (h : Ok Q o) (hq : ∀ r s, Q r s → P r s) : Ok P o := by
  obtain ⟨r, s, rfl, hr⟩ := h
  exact ⟨r, s, rfl, hq r s hr⟩
/-- a loop that counts up to B -/
theorem okC {α β : Type} {body : (α → Option (β × St)) → α → Option (β × St)} {P : β → St → Prop} (J : Nat → α → Prop) (B : Nat)
    (hb : ∀ i x (K : α → Option (β × St)), i ≤ B → J i x → (∀ y, i < B → J (i + 1) y → Ok P (K y)) → Ok P (body K x)) {n i : Nat} {x : α} (hn : B < n + i) (hi : i ≤ B) (h0 : J i x) : Ok P (itr body n x) := by
  have main : ∀ (c n i : Nat) (x : α), i + c = B → c < n → J i x → Ok P (itr body n x) := by
    intro c
    induction c with
    | zero =>
      intro n i x hc hn hJ
      obtain ⟨m, rfl⟩ : ∃ m, n = m + 1 := ⟨n - 1, by omega⟩
      rw [itr_succ]
      exact hb i x _ (by omega) hJ (fun y hy _ => absurd hy (by omega))
    | succ c ih =>
      intro n i x hc hn hJ
      obtain ⟨m, rfl⟩ : ∃ m, n = m + 1 := ⟨n - 1, by omega⟩
      rw [itr_succ]
      exact hb i x _ (by omega) hJ (fun y _ hy => ih m (i + 1) y (by omega) (by omega) hy)
  exact main (B - i) n i x (by omega) (by omega) h0
/-- any loop, by a measure -/
theorem okM {α β : Type} {body : (α → Option (β × St)) → α → Option (β × St)} {P : β → St → Prop} (J : α → Prop) (μ : α → Nat)
    (hb : ∀ x (K : α → Option (β × St)), J x → (∀ y, J y → μ y < μ x → Ok P (K y)) → Ok P (body K x)) {n : Nat} {x : α} (hn : μ x < n) (h0 : J x) : Ok P (itr body n x) := by
  have main : ∀ (n : Nat) (x : α), μ x < n → J x → Ok P (itr body n x) := by
    intro n
    induction n with
    | zero => intro x hx; omega
    | succ n ih =>
      intro x hx hJ
      rw [itr_succ]
      exact hb x _ hJ (fun y hy hlt => ih y (by omega) hy)
  exact main n x hn h0
theorem cnt_le {x : Int32} {i B : Nat} (hx : x = nI B) (hB : B < 2147483648) (hc : ¬ x ≤ nI i) (hi : i ≤ B) : i < B := by
  rcases Nat.lt_or_ge i B with h | h
  · exact h
  · obtain rfl : i = B := by omega
    exact absurd (by rw [hx, le_toInt]; exact Int.le_refl _) hc
theorem cnt_lt {x : Int32} {i B : Nat} (hx : x = nI B) (hB : B < 2147483647) (hc : ¬ x < nI i) (hi : i ≤ B + 1) : i < B + 1 := by
  rcases Nat.lt_or_ge i (B + 1) with h | h
  · exact h
  · obtain rfl : i = B + 1 := by omega
    refine absurd ?_ hc
    rw [hx, lt_toInt, nI_toInt (by omega), nI_toInt (by omega)]
    omega
theorem inb_ln {j n k : Nat} (hk : ln k = n) (h : j < n) (hn : n ≤ 2147483648) : inb (nI j) (ln k) = true := by
  rw [hk]; exact inb_nI h (by omega)
/-- the objects that questions write to; those without the memo of reckon -/
abbrev SQ : List Nat := [31, 32, 33, 34, 35, 36, 37, 38, 39, 40, 41, 42, 43, 44, 45, 46, 47, 51, 65, 66, 67, 68, 69, 70]
abbrev SQf : List Nat := [32, 33, 36, 37, 38, 39, 40, 41, 42, 43, 44, 45, 46, 47, 51, 65, 66, 67, 68, 69, 70]
def ZZ (Z : St → Prop) (σ0 : St) : Prop := (∀ s, Z s → Fr SQ σ0 s) ∧ (∀ s i f, Z s → i ∈ SQf → Z (sR s i f)) ∧ (∀ s i f, Z s → i ∈ SQf → Z (sJ s i f)) ∧ (∀ s f, Z s → Z (sF s 43 f))
theorem ZZ.base {Z : St → Prop} {σ0 : St} (h : ZZ Z σ0) : ∀ s, Z s → Fr SQ σ0 s := h.1
theorem ZZ.wr {Z : St → Prop} {σ0 : St} (h : ZZ Z σ0) : ∀ s i f, Z s → i ∈ SQf → Z (sR s i f) := h.2.1
theorem ZZ.wj {Z : St → Prop} {σ0 : St} (h : ZZ Z σ0) : ∀ s i f, Z s → i ∈ SQf → Z (sJ s i f) := h.2.2.1
theorem ZZ.wf {Z : St → Prop} {σ0 : St} (h : ZZ Z σ0) : ∀ s f, Z s → Z (sF s 43 f) := h.2.2.2
/-- reckon keeps it; the memo's rows may be written -/
def RKZ (Z : St → Prop) : Prop := ∀ s, Z s → Ok (fun _ s' => Z s') (f_X2_reckon s)
def MZ (Z : St → Prop) : Prop := (∀ s i f, Z s → (i = 34 ∨ i = 35) → Z (sR s i f)) ∧ ∀ s f, Z s → Z (sF s 31 f)
/-- the sizes of a WAR, as both have them -/
def BB (σ : St) (M T S E A U Y L P N : Nat) : Prop := (M ≤ 60) ∧ (T ≤ 9) ∧ (S = 2 ^ T) ∧ (E ≤ 4) ∧ (A ≤ 8) ∧ (U ≤ 4) ∧ (Y ≤ 5) ∧ (L ≤ 59) ∧ (P ≤ 60) ∧ (N ≤ 1200) ∧ (gf σ 1 0 = nI N) ∧ (gf σ 1 1 = nI M) ∧ (gf σ 1 2 = nI L) ∧ (gf σ 1 3 = nI P) ∧ (gf σ 3 3 = nI T) ∧ (gf σ 5 3 = nI E) ∧ (gf σ 7 3 = nI A) ∧ (gf σ 9 3 = nI U) ∧ (gf σ 11 3 = nI Y) ∧ (gr σ 59 0 = nI M) ∧ (gr σ 59 1 = nI L) ∧ (gr σ 59 2 = nI P) ∧ (gr σ 59 4 = nI T) ∧ (gr σ 59 5 = nI E) ∧ (gr σ 59 6 = nI A) ∧ (gr σ 59 7 = nI U) ∧ (gr σ 59 8 = nI Y) ∧ (gr σ 59 9 = nI N)
theorem BB.hM {σ : St} {M T S E A U Y L P N : Nat} (h : BB σ M T S E A U Y L P N) : M ≤ 60 := h.1
theorem BB.hT {σ : St} {M T S E A U Y L P N : Nat} (h : BB σ M T S E A U Y L P N) : T ≤ 9 := h.2.1
theorem BB.hS {σ : St} {M T S E A U Y L P N : Nat} (h : BB σ M T S E A U Y L P N) : S = 2 ^ T := h.2.2.1
theorem BB.hE {σ : St} {M T S E A U Y L P N : Nat} (h : BB σ M T S E A U Y L P N) : E ≤ 4 := h.2.2.2.1
theorem BB.hA {σ : St} {M T S E A U Y L P N : Nat} (h : BB σ M T S E A U Y L P N) : A ≤ 8 := h.2.2.2.2.1
theorem BB.hU {σ : St} {M T S E A U Y L P N : Nat} (h : BB σ M T S E A U Y L P N) : U ≤ 4 := h.2.2.2.2.2.1
theorem BB.hY {σ : St} {M T S E A U Y L P N : Nat} (h : BB σ M T S E A U Y L P N) : Y ≤ 5 := h.2.2.2.2.2.2.1
theorem BB.hL {σ : St} {M T S E A U Y L P N : Nat} (h : BB σ M T S E A U Y L P N) : L ≤ 59 := h.2.2.2.2.2.2.2.1
theorem BB.hP {σ : St} {M T S E A U Y L P N : Nat} (h : BB σ M T S E A U Y L P N) : P ≤ 60 := h.2.2.2.2.2.2.2.2.1
theorem BB.hN {σ : St} {M T S E A U Y L P N : Nat} (h : BB σ M T S E A U Y L P N) : N ≤ 1200 := h.2.2.2.2.2.2.2.2.2.1
theorem BB.cN {σ : St} {M T S E A U Y L P N : Nat} (h : BB σ M T S E A U Y L P N) : gf σ 1 0 = nI N := h.2.2.2.2.2.2.2.2.2.2.1
theorem BB.cM {σ : St} {M T S E A U Y L P N : Nat} (h : BB σ M T S E A U Y L P N) : gf σ 1 1 = nI M := h.2.2.2.2.2.2.2.2.2.2.2.1
theorem BB.cL {σ : St} {M T S E A U Y L P N : Nat} (h : BB σ M T S E A U Y L P N) : gf σ 1 2 = nI L := h.2.2.2.2.2.2.2.2.2.2.2.2.1
theorem BB.cP {σ : St} {M T S E A U Y L P N : Nat} (h : BB σ M T S E A U Y L P N) : gf σ 1 3 = nI P := h.2.2.2.2.2.2.2.2.2.2.2.2.2.1
theorem BB.cT {σ : St} {M T S E A U Y L P N : Nat} (h : BB σ M T S E A U Y L P N) : gf σ 3 3 = nI T := h.2.2.2.2.2.2.2.2.2.2.2.2.2.2.1
theorem BB.cE {σ : St} {M T S E A U Y L P N : Nat} (h : BB σ M T S E A U Y L P N) : gf σ 5 3 = nI E := h.2.2.2.2.2.2.2.2.2.2.2.2.2.2.2.1
theorem BB.cA {σ : St} {M T S E A U Y L P N : Nat} (h : BB σ M T S E A U Y L P N) : gf σ 7 3 = nI A := h.2.2.2.2.2.2.2.2.2.2.2.2.2.2.2.2.1
theorem BB.cU {σ : St} {M T S E A U Y L P N : Nat} (h : BB σ M T S E A U Y L P N) : gf σ 9 3 = nI U := h.2.2.2.2.2.2.2.2.2.2.2.2.2.2.2.2.2.1
theorem BB.cY {σ : St} {M T S E A U Y L P N : Nat} (h : BB σ M T S E A U Y L P N) : gf σ 11 3 = nI Y := h.2.2.2.2.2.2.2.2.2.2.2.2.2.2.2.2.2.2.1
theorem BB.mM {σ : St} {M T S E A U Y L P N : Nat} (h : BB σ M T S E A U Y L P N) : gr σ 59 0 = nI M := h.2.2.2.2.2.2.2.2.2.2.2.2.2.2.2.2.2.2.2.1
theorem BB.mL {σ : St} {M T S E A U Y L P N : Nat} (h : BB σ M T S E A U Y L P N) : gr σ 59 1 = nI L := h.2.2.2.2.2.2.2.2.2.2.2.2.2.2.2.2.2.2.2.2.1
theorem BB.mP {σ : St} {M T S E A U Y L P N : Nat} (h : BB σ M T S E A U Y L P N) : gr σ 59 2 = nI P := h.2.2.2.2.2.2.2.2.2.2.2.2.2.2.2.2.2.2.2.2.2.1
theorem BB.mT {σ : St} {M T S E A U Y L P N : Nat} (h : BB σ M T S E A U Y L P N) : gr σ 59 4 = nI T := h.2.2.2.2.2.2.2.2.2.2.2.2.2.2.2.2.2.2.2.2.2.2.1
theorem BB.mE {σ : St} {M T S E A U Y L P N : Nat} (h : BB σ M T S E A U Y L P N) : gr σ 59 5 = nI E := h.2.2.2.2.2.2.2.2.2.2.2.2.2.2.2.2.2.2.2.2.2.2.2.1
theorem BB.mA {σ : St} {M T S E A U Y L P N : Nat} (h : BB σ M T S E A U Y L P N) : gr σ 59 6 = nI A := h.2.2.2.2.2.2.2.2.2.2.2.2.2.2.2.2.2.2.2.2.2.2.2.2.1
theorem BB.mU {σ : St} {M T S E A U Y L P N : Nat} (h : BB σ M T S E A U Y L P N) : gr σ 59 7 = nI U := h.2.2.2.2.2.2.2.2.2.2.2.2.2.2.2.2.2.2.2.2.2.2.2.2.2.1
theorem BB.mY {σ : St} {M T S E A U Y L P N : Nat} (h : BB σ M T S E A U Y L P N) : gr σ 59 8 = nI Y := h.2.2.2.2.2.2.2.2.2.2.2.2.2.2.2.2.2.2.2.2.2.2.2.2.2.2.1
theorem BB.mN {σ : St} {M T S E A U Y L P N : Nat} (h : BB σ M T S E A U Y L P N) : gr σ 59 9 = nI N := h.2.2.2.2.2.2.2.2.2.2.2.2.2.2.2.2.2.2.2.2.2.2.2.2.2.2.2
theorem BB.fr {σ σ' : St} {M T S E A U Y L P N : Nat} (h : BB σ M T S E A U Y L P N) (hf : Fr SQ σ σ') : BB σ' M T S E A U Y L P N := by
  obtain ⟨a1, a2, a3, a4, a5, a6, a7, a8, a9, a10, b0, b1, b2', b3, b4, b5, b6, b7, b8, c1, c2, c3, c4, c5, c6, c7, c8, c9⟩ := h
  have g1 := (hf.1 1 (by decide)).1
  have g59 := (hf.1 59 (by decide)).2.1
  exact ⟨a1, a2, a3, a4, a5, a6, a7, a8, a9, a10, by rw [g1]; exact b0, by rw [g1]; exact b1, by rw [g1]; exact b2', by rw [g1]; exact b3, by rw [(hf.1 3 (by decide)).1]; exact b4, by rw [(hf.1 5 (by decide)).1]; exact b5, by rw [(hf.1 7 (by decide)).1]; exact b6, by rw [(hf.1 9 (by decide)).1]; exact b7, by rw [(hf.1 11 (by decide)).1]; exact b8, by rw [g59]; exact c1, by rw [g59]; exact c2, by rw [g59]; exact c3, by rw [g59]; exact c4, by rw [g59]; exact c5, by rw [g59]; exact c6, by rw [g59]; exact c7, by rw [g59]; exact c8, by rw [g59]; exact c9⟩
theorem BB.S512 {σ : St} {M T S E A U Y L P N : Nat} (h : BB σ M T S E A U Y L P N) : 1 ≤ S ∧ S ≤ 512 := by
  rw [h.hS]
  exact ⟨Nat.one_le_two_pow, by
    calc 2 ^ T ≤ 2 ^ 9 := Nat.pow_le_pow_right (by decide) h.hT
      _ = 512 := rfl⟩
/-- where a predicate and the sizes stand together -/
def ZB (Z : St → Prop) (σ0 : St) (M T S E A U Y L P N : Nat) : Prop := (ZZ Z σ0) ∧ (BB σ0 M T S E A U Y L P N)
theorem ZB.z {Z : St → Prop} {σ0 : St} {M T S E A U Y L P N : Nat} (h : ZB Z σ0 M T S E A U Y L P N) : ZZ Z σ0 := h.1
theorem ZB.b {Z : St → Prop} {σ0 : St} {M T S E A U Y L P N : Nat} (h : ZB Z σ0 M T S E A U Y L P N) : BB σ0 M T S E A U Y L P N := h.2
theorem ZB.at' {Z : St → Prop} {σ0 : St} {M T S E A U Y L P N : Nat} (q : ZB Z σ0 M T S E A U Y L P N) {s : St} (h : Z s) : BB s M T S E A U Y L P N := q.b.fr (q.z.base s h)
theorem BB.sA {σ : St} {M T S E A U Y L P N : Nat} (h : BB σ M T S E A U Y L P N) : (1 : Int32) <<< (gf σ 7 3 &&& 31) = nI (2 ^ A) := by
  rw [h.cA]; exact nI_sh1 _ (by have := h.hA; omega)
theorem BB.rA {σ : St} {M T S E A U Y L P N : Nat} (h : BB σ M T S E A U Y L P N) : (1 : Int32) <<< (gr σ 59 6 &&& 31) = nI (2 ^ A) := by
  rw [h.mA]; exact nI_sh1 _ (by have := h.hA; omega)
theorem BB.A256 {σ : St} {M T S E A U Y L P N : Nat} (h : BB σ M T S E A U Y L P N) : 1 ≤ 2 ^ A ∧ 2 ^ A ≤ 256 := 
  ⟨Nat.one_le_two_pow, by
    calc 2 ^ A ≤ 2 ^ 8 := Nat.pow_le_pow_right (by decide) h.hA
      _ = 256 := rfl⟩
theorem BB.U256 {σ : St} {M T S E A U Y L P N : Nat} (h : BB σ M T S E A U Y L P N) : 1 ≤ 2 ^ (2 * U) ∧ 2 ^ (2 * U) ≤ 256 := 
  ⟨Nat.one_le_two_pow, by
    calc 2 ^ (2 * U) ≤ 2 ^ 8 := Nat.pow_le_pow_right (by decide) (by have := h.hU; omega)
      _ = 256 := rfl⟩
theorem nI_shl {t : Nat} (h : t ≤ 30) : (1 : Int32) <<< (nI t &&& 31) = nI (2 ^ t) := nI_sh1 t (by omega)
theorem WR.bb {σ : St} (h : WR σ 1 (gr σ 59)) : ∃ M T S E A U Y L P N, BB σ M T S E A U Y L P N := by
  obtain ⟨⟨l, m, a, p, r, d, e, y1, y2, y3, y4, y5, y6, y7, y8, u1, u2, u3, u4, u5, u6, u7, u8, -⟩, ⟨T, t1, t2, t3, -⟩, ⟨E, e1, e2, e3, -⟩, ⟨A, a1, a2, a3, -⟩, ⟨U, v1, v2, v3, -⟩, ⟨Y, w1, w2, w3, -⟩, -⟩ := h
  exact ⟨m, T, 2 ^ T, E, A, U, Y, a, p, l, y2, t1, rfl, e1, a1, v1, w1, y3, y4, y1, u1, u3, u5, u7, t2, e2, a2, v2, w2, u4, u6, u8, t3, e3, a3, v3, w3, u2⟩
