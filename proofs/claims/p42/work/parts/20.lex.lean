/-! ===== TOKENS: what both readers see of a TAPE ===== -/
def by8 (x : Int32) : Prop := -128 ≤ x.toInt ∧ x.toInt ≤ 127
/-- kinds of a byte: 1 blank, 2 of a word, 3 of a number, 4 the sign, 5 another -/
def bk (x : Int32) : Nat := if x = 32 ∨ x = 10 then 1 else if 97 ≤ x.toInt ∧ x.toInt ≤ 122 then 2 else if 48 ≤ x.toInt ∧ x.toInt ≤ 57 then 3 else if x = 59 then 4 else 5
def kn (b : Nat → Int32) (n p : Nat) : Nat := if p < n then bk (b p) else 0
theorem bk_bd (x : Int32) : 1 ≤ bk x ∧ bk x ≤ 5 := by
  unfold bk
  split
  · omega
  · split
    · omega
    · split
      · omega
      · split <;> omega
theorem kn_bd (b : Nat → Int32) (n p : Nat) : kn b n p ≤ 5 := by
  unfold kn
  split
  · exact (bk_bd _).2
  · omega
/-- from p on: the TOKEN that begins at q, ends ahead of e, is of kind K (0: the end) -/
def Tk (b : Nat → Int32) (n p q e K : Nat) : Prop := p ≤ q ∧ q ≤ n ∧ (∀ j, p ≤ j → j < q → bk (b j) = 1) ∧ kn b n q = K ∧ K ≠ 1 ∧ q ≤ e ∧ e ≤ n ∧
  (K = 0 → e = q) ∧ (K = 4 ∨ K = 5 → e = q + 1) ∧ (K = 2 ∨ K = 3 → q < e ∧ (∀ j, q ≤ j → j < e → bk (b j) = K) ∧ kn b n e ≠ K)
theorem Tk_q {b : Nat → Int32} {n p q e K q' e' K' : Nat} (h : Tk b n p q e K) (g : Tk b n p q' e' K') : q = q' := by
  obtain ⟨h1, h2, h3, h4, h5, -⟩ := h
  obtain ⟨g1, g2, g3, g4, g5, -⟩ := g
  have no : ∀ x y L : Nat, p ≤ x → y ≤ n → x < y → (∀ j, p ≤ j → j < y → bk (b j) = 1) → kn b n x = L → L ≠ 1 → False := fun x y L a1 a2 a3 a4 a5 a6 => by
    have := a4 x a1 a3
    unfold kn at a5
    rw [if_pos (by omega), this] at a5
    exact a6 a5.symm
  rcases Nat.lt_trichotomy q q' with c | c | c
  · exact (no q q' K h1 g2 c g3 h4 h5).elim
  · exact c
  · exact (no q' q K' g1 h2 c h3 g4 g5).elim
theorem Tk_u {b : Nat → Int32} {n p q e K q' e' K' : Nat} (h : Tk b n p q e K) (g : Tk b n p q' e' K') : q = q' ∧ e = e' ∧ K = K' := by
  have eq := Tk_q h g
  subst eq
  obtain ⟨h1, h2, h3, h4, h5, h6, h7, h8, h9, h10⟩ := h
  obtain ⟨g1, g2, g3, g4, g5, g6, g7, g8, g9, g10⟩ := g
  have eK : K = K' := h4.symm.trans g4
  subst eK
  refine ⟨rfl, ?_, rfl⟩
  have hb := kn_bd b n q
  rcases (show K = 0 ∨ (K = 4 ∨ K = 5) ∨ (K = 2 ∨ K = 3) by omega) with c | c | c
  · rw [h8 c, g8 c]
  · rw [h9 c, g9 c]
  · obtain ⟨a1, a2, a3⟩ := h10 c
    obtain ⟨b1, b2', b3⟩ := g10 c
    have no : ∀ x y : Nat, q < x → y ≤ n → x < y → (∀ j, q ≤ j → j < y → bk (b j) = K) → kn b n x ≠ K → False := fun x y c1 c2 c3 c4 c5 => by
      apply c5
      unfold kn
      rw [if_pos (by omega)]
      exact c4 x (by omega) c3
    rcases Nat.lt_trichotomy e e' with d | d | d
    · exact (no e e' a1 g7 d b2' a3).elim
    · exact d
    · exact (no e' e b1 h7 d a2 b3).elim
theorem kn_c {b b' : Nat → Int32} {n : Nat} (h : ∀ j, j < n → b j = b' j) (p : Nat) : kn b n p = kn b' n p := by
  unfold kn
  split
  · rename_i q
    rw [h p q]
  · rfl
theorem Tk_c {b b' : Nat → Int32} {n p q e K : Nat} (h : ∀ j, j < n → b j = b' j) (t : Tk b n p q e K) : Tk b' n p q e K := by
  obtain ⟨h1, h2, h3, h4, h5, h6, h7, h8, h9, h10⟩ := t
  refine ⟨h1, h2, fun j a c => ?_, (kn_c h q).symm.trans h4, h5, h6, h7, h8, h9, fun c => ⟨(h10 c).1, fun j a d => ?_, ?_⟩⟩
  · rw [← h j (by omega)]
    exact h3 j a c
  · rw [← h j (by omega)]
    exact (h10 c).2.1 j a d
  · rw [← kn_c h e]
    exact (h10 c).2.2
/-- a number's worth, no more than a cap -/
def dcv (cap : Nat) (b : Nat → Int32) (q : Nat) : Nat → Nat
  | 0 => 0
  | k + 1 => min cap (10 * dcv cap b q k + ((b (q + k)).toInt - 48).toNat)
theorem dcv_c {cap : Nat} {b b' : Nat → Int32} {q : Nat} : ∀ k, (∀ j, q ≤ j → j < q + k → b j = b' j) → dcv cap b q k = dcv cap b' q k := by
  intro k
  induction k with
  | zero => intro _; rfl
  | succ k ih =>
    intro h
    unfold dcv
    rw [ih (fun j a c => h j a (by omega)), h (q + k) (by omega) (by omega)]
theorem dcv_le (cap : Nat) (b : Nat → Int32) (q k : Nat) : dcv cap b q k ≤ cap := by
  cases k with
  | zero => exact Nat.zero_le _
  | succ k => exact Nat.min_le_left _ _
/-- by both caps: the same, or above every bound -/
def VR (x y : Nat) : Prop := (x = y ∧ y < 99999) ∨ (99999 ≤ x ∧ x ≤ 100000 ∧ y = 99999)
theorem dcv_VR (b : Nat → Int32) (q k : Nat) : VR (dcv 100000 b q k) (dcv 99999 b q k) := by
  induction k with
  | zero => exact Or.inl ⟨rfl, Nat.lt_of_lt_of_le (Nat.zero_lt_succ 0) (by decide)⟩
  | succ k ih =>
    unfold dcv
    generalize ((b (q + k)).toInt - 48).toNat = d at *
    generalize dcv 100000 b q k = x at *
    generalize dcv 99999 b q k = y at *
    unfold VR at *
    rcases ih with ⟨h1, h2⟩ | ⟨h1, h2, h3⟩
    · subst h1
      by_cases c : 10 * x + d < 99999
      · exact Or.inl ⟨by omega, by omega⟩
      · exact Or.inr ⟨by omega, by omega, by omega⟩
    · exact Or.inr ⟨by omega, by omega, by omega⟩
/-! ===== the class's TOKENS ===== -/
theorem S_kindAt {σ : St} {n p : Nat} (hn : n ≤ 1200) (hp : p ≤ 1200) (h : gf σ 29 1 = nI n) : f_X6_kindAt (nI p) σ = some (nI (kn (gr σ 30) n p), σ) := by
  unfold f_X6_kindAt f_X6_kindAt_21 f_X6_kindAt_42 f_X6_kindAt_58 f_X6_kindAt_72 f_X6_kindAt_83 kn
  rw [if_neg (nI_pos (by omega)), h]
  by_cases c : p < n
  · rw [if_neg (nI_ge c (by omega)), if_pos c, show nI (ln 30) = nI 1200 from rfl, if_pos (nI_lt (by omega) (by omega)), show ln 30 = 1200 from rfl, inb_nI (by omega) (by decide), gd_tt, bnd_mk, nI_clamp (by omega)]
    generalize gr σ 30 p = x
    unfold bk
    have z97 : (97 : Int32).toInt = 97 := rfl
    have z122 : (122 : Int32).toInt = 122 := rfl
    have z48 : (48 : Int32).toInt = 48 := rfl
    have z57 : (57 : Int32).toInt = 57 := rfl
    by_cases a1 : x = 32
    · rw [if_pos a1, if_pos (Or.inl a1)]
      rfl
    · rw [if_neg a1]
      by_cases a2 : x = 10
      · rw [if_pos a2, if_pos (Or.inr a2)]
        rfl
      · have a12 : ¬ (x = 32 ∨ x = 10) := fun g => g.elim a1 a2
        rw [if_neg a2, if_neg a12]
        have E : (if x < 48 then (if x = 59 then some ((4 : Int32), σ) else some (5, σ)) else if (57 : Int32) < x then (if x = 59 then some ((4 : Int32), σ) else some (5, σ)) else some (3, σ)) = some (nI (if 48 ≤ x.toInt ∧ x.toInt ≤ 57 then 3 else if x = 59 then 4 else 5), σ) := by
          by_cases d : 48 ≤ x.toInt ∧ x.toInt ≤ 57
          · rw [if_neg (by rw [lt_toInt]; omega), if_neg (by rw [lt_toInt]; omega), if_pos d]
            rfl
          · rw [if_neg d]
            have F : (if x = 59 then some ((4 : Int32), σ) else some (5, σ)) = some (nI (if x = 59 then 4 else 5), σ) := by
              split <;> rfl
            by_cases d1 : x < 48
            · rw [if_pos d1, F]
            · have d2 : (57 : Int32) < x := by
                rw [lt_toInt] at d1 ⊢
                omega
              rw [if_neg d1, if_pos d2, F]
        by_cases a3 : 97 ≤ x.toInt ∧ x.toInt ≤ 122
        · rw [if_neg (show ¬ x < 97 by rw [lt_toInt]; omega), if_neg (show ¬ (122 : Int32) < x by rw [lt_toInt]; omega), if_pos a3]
          rfl
        · rw [if_neg a3]
          by_cases d1 : x < 97
          · rw [if_pos d1]
            exact E
          · have d2 : (122 : Int32) < x := by
              rw [lt_toInt] at d1 ⊢
              omega
            rw [if_neg d1, if_pos d2]
            exact E
  · rw [if_pos (nI_le (by omega) (by omega)), if_neg c]
    rfl
theorem S_byteAt {σ : St} {p : Nat} (hp : p < 1200) : f_X6_byteAt (nI p) σ = some (gr σ 30 p, σ) := by
  unfold f_X6_byteAt f_X6_byteAt_22 f_X6_byteAt_23
  rw [if_neg (nI_pos (by omega)), show nI (ln 30) = nI 1200 from rfl, if_neg (nI_ge hp (by omega)), show ln 30 = 1200 from rfl, inb_nI hp (by decide), gd_tt, nI_clamp (by omega)]
/-- four fields of the reader: from, kind, value, to -/
def L4 (f : Nat → Int32) (a k v e : Int32) : Nat → Int32 := fun j => if j = 5 then a else if j = 7 then k else if j = 8 then v else if j = 6 then e else f j
theorem sf_sF (σ : St) (i k : Nat) (f : Nat → Int32) (v : Int32) : sf (sF σ i f) i k v = sF σ i (upd f k v) := by
  unfold sf
  rw [gf_sF, if_pos rfl]
  unfold sF
  refine Prod.ext ?_ rfl
  funext j
  show va_up (va_up σ.1 i f) i _ j = va_up σ.1 i _ j
  unfold va_up
  by_cases h : j = i
  · simp [h]
  · simp [h]
theorem sF_id (σ : St) (i : Nat) : sF σ i (gf σ i) = σ := by
  unfold sF gf
  refine Prod.ext ?_ rfl
  funext j
  show va_up σ.1 i (σ.1 i) j = σ.1 j
  unfold va_up
  split
  · rename_i q
    rw [q]
  · rfl
theorem L4_id (f : Nat → Int32) : L4 f (f 5) (f 7) (f 8) (f 6) = f := by
  funext j
  unfold L4
  split
  · rename_i q; rw [q]
  · split
    · rename_i q; rw [q]
    · split
      · rename_i q; rw [q]
      · split
        · rename_i q; rw [q]
        · rfl
theorem L4_5 (f : Nat → Int32) (a k v e x : Int32) : upd (L4 f a k v e) 5 x = L4 f x k v e := by
  funext j
  unfold upd L4
  by_cases c : j = 5 <;> simp [c]
theorem L4_7 (f : Nat → Int32) (a k v e x : Int32) : upd (L4 f a k v e) 7 x = L4 f a x v e := by
  funext j
  unfold upd L4
  by_cases c : j = 7
  · simp [c]
  · simp [c]
theorem L4_8 (f : Nat → Int32) (a k v e x : Int32) : upd (L4 f a k v e) 8 x = L4 f a k x e := by
  funext j
  unfold upd L4
  by_cases c : j = 8
  · simp [c]
  · simp [c]
theorem L4_6 (f : Nat → Int32) (a k v e x : Int32) : upd (L4 f a k v e) 6 x = L4 f a k v x := by
  funext j
  unfold upd L4
  by_cases c : j = 6
  · simp [c]
  · simp [c]
/-- the class's state with these four -/
def C4 (σ : St) (a k v e : Int32) : St := sF σ 29 (L4 (gf σ 29) a k v e)
theorem C4_1 (σ : St) (a k v e : Int32) : gf (C4 σ a k v e) 29 1 = gf σ 29 1 := by unfold C4; rw [gf_sF, if_pos rfl]; rfl
theorem C4_5 (σ : St) (a k v e : Int32) : gf (C4 σ a k v e) 29 5 = a := by unfold C4; rw [gf_sF, if_pos rfl]; rfl
theorem C4_6 (σ : St) (a k v e : Int32) : gf (C4 σ a k v e) 29 6 = e := by unfold C4; rw [gf_sF, if_pos rfl]; rfl
theorem C4_7 (σ : St) (a k v e : Int32) : gf (C4 σ a k v e) 29 7 = k := by unfold C4; rw [gf_sF, if_pos rfl]; rfl
theorem C4_8 (σ : St) (a k v e : Int32) : gf (C4 σ a k v e) 29 8 = v := by unfold C4; rw [gf_sF, if_pos rfl]; rfl
theorem C4_s5 (σ : St) (a k v e x : Int32) : sf (C4 σ a k v e) 29 5 x = C4 σ x k v e := by unfold C4; rw [sf_sF, L4_5]
theorem C4_s6 (σ : St) (a k v e x : Int32) : sf (C4 σ a k v e) 29 6 x = C4 σ a k v x := by unfold C4; rw [sf_sF, L4_6]
theorem C4_s7 (σ : St) (a k v e x : Int32) : sf (C4 σ a k v e) 29 7 x = C4 σ a x v e := by unfold C4; rw [sf_sF, L4_7]
theorem C4_s8 (σ : St) (a k v e x : Int32) : sf (C4 σ a k v e) 29 8 x = C4 σ a k x e := by unfold C4; rw [sf_sF, L4_8]
theorem C4_r (σ : St) (a k v e : Int32) : gr (C4 σ a k v e) 30 = gr σ 30 := rfl
theorem C4_id (σ : St) : C4 σ (gf σ 29 5) (gf σ 29 7) (gf σ 29 8) (gf σ 29 6) = σ := by unfold C4; rw [L4_id, sF_id]
theorem C4_fr (σ : St) (a k v e : Int32) : Fr [29] σ (C4 σ a k v e) := Fr.cF (by simp)
theorem c_skip {n : Nat} (hn : n ≤ 1200) (σ : St) (hl : gf σ 29 1 = nI n) (k v e : Int32) : ∀ (c p Q : Nat), p + c = n → c < Q → ∃ q, p ≤ q ∧ q ≤ n ∧ (∀ j, p ≤ j → j < q → bk (gr σ 30 j) = 1) ∧ kn (gr σ 30) n q ≠ 1 ∧ itr g_X6_advance_8 Q (C4 σ (nI p) k v e) = f_X6_advance_44 (C4 σ (nI q) k v e) := by
  intro c
  induction c with
  | zero =>
    intro p Q h hQ
    obtain ⟨Q, rfl⟩ : ∃ r, Q = r + 1 := ⟨Q - 1, by omega⟩
    refine ⟨p, by omega, by omega, fun j a c => by omega, by unfold kn; rw [if_neg (by omega)]; decide, ?_⟩
    rw [itr_succ]
    generalize itr g_X6_advance_8 Q = R
    unfold g_X6_advance_8
    dsimp only
    rw [C4_1, C4_5, hl, if_pos (nI_le (by omega) (by omega))]
  | succ c ih =>
    intro p Q h hQ
    obtain ⟨Q, rfl⟩ : ∃ r, Q = r + 1 := ⟨Q - 1, by omega⟩
    have hk := S_kindAt (σ := C4 σ (nI p) k v e) (n := n) (p := p) hn (by omega) (by rw [C4_1]; exact hl)
    rw [C4_r] at hk
    by_cases hb : kn (gr σ 30) n p = 1
    · obtain ⟨q, q1, q2, q3, q4, q5⟩ := ih (p + 1) Q (by omega) (by omega)
      refine ⟨q, by omega, q2, fun j a d => ?_, q4, ?_⟩
      · by_cases ej : j = p
        · subst ej
          unfold kn at hb
          rw [if_pos (by omega)] at hb
          exact hb
        · exact q3 j (by omega) d
      · rw [itr_succ]
        generalize hR : itr g_X6_advance_8 Q = R at q5
        unfold g_X6_advance_8
        dsimp only
        rw [C4_1, C4_5, hl, if_neg (nI_ge (by omega) (by omega)), hk, bd_mk, hb, if_pos (show nI 1 = (1 : Int32) from rfl), bnd_mk, C4_5, nI_1, C4_s5]
        exact q5
    · refine ⟨p, by omega, by omega, fun j a d => by omega, hb, ?_⟩
      rw [itr_succ]
      generalize itr g_X6_advance_8 Q = R
      unfold g_X6_advance_8
      dsimp only
      have hne : ¬ nI (kn (gr σ 30) n p) = 1 := fun q => hb (by
        have hb5 := kn_bd (gr σ 30) n p
        exact (nI_eq (by omega) (by omega)).mp (q.trans (show (1 : Int32) = nI 1 from rfl)))
      rw [C4_1, C4_5, hl, if_neg (nI_ge (by omega) (by omega)), hk, bd_mk, if_neg hne]
theorem i32_eq {x y : Int32} (h : x.toInt = y.toInt) : x = y := Int32.toInt_inj.mp h
/-- a digit more, no more than the cap -/
theorem cap_c {x : Nat} {b : Int32} (hx : x ≤ 100000) (hb : bk b = 3) : (if nI x * 10 + b - 48 < (100000 : Int32) then nI x * 10 + b - 48 else (100000 : Int32)) = nI (min 100000 (10 * x + (b.toInt - 48).toNat)) := by
  have hd : 48 ≤ b.toInt ∧ b.toInt ≤ 57 := by
    unfold bk at hb
    split at hb
    · omega
    · split at hb
      · omega
      · split at hb
        · rename_i q
          exact q
        · split at hb <;> omega
  have z48 : (48 : Int32).toInt = 48 := rfl
  have z1 : (100000 : Int32).toInt = 100000 := rfl
  have e1 : (nI x * 10).toInt = 10 * x := by
    rw [show (10 : Int32) = nI 10 from rfl, nI_mul, nI_toInt (by omega)]
    omega
  have e2 : (nI x * 10 + b).toInt = 10 * x + b.toInt := by rw [i32_add (by omega), e1]
  have e3 : (nI x * 10 + b - 48).toInt = 10 * x + b.toInt - 48 := by rw [i32_sub (by omega), e2, z48]
  apply i32_eq
  rw [nI_toInt (by omega)]
  by_cases c : nI x * 10 + b - 48 < (100000 : Int32)
  · rw [if_pos c, e3]
    rw [lt_toInt, e3, z1] at c
    omega
  · rw [if_neg c, z1]
    rw [lt_toInt, e3, z1] at c
    omega
theorem c_run {n : Nat} (hn : n ≤ 1200) (σ : St) (hl : gf σ 29 1 = nI n) (q K : Nat) (hK : K = 2 ∨ K = 3) : ∀ (c e Q : Nat) (v : Int32), e + c = n → c < Q → q < e → (∀ j, q ≤ j → j < e → bk (gr σ 30 j) = K) → (K = 3 → v = nI (dcv 100000 (gr σ 30) q (e - q))) →
    ∃ e' v', e ≤ e' ∧ e' ≤ n ∧ (∀ j, q ≤ j → j < e' → bk (gr σ 30 j) = K) ∧ kn (gr σ 30) n e' ≠ K ∧ (K = 3 → v' = nI (dcv 100000 (gr σ 30) q (e' - q))) ∧ itr g_X6_advance_118 Q (C4 σ (nI q) (nI K) v (nI e)) = some ((), C4 σ (nI q) (nI K) v' (nI e')) := by
  intro c
  induction c with
  | zero =>
    intro e Q v h hQ hq hr hv
    obtain ⟨Q, rfl⟩ : ∃ r, Q = r + 1 := ⟨Q - 1, by omega⟩
    refine ⟨e, v, by omega, by omega, hr, by unfold kn; rw [if_neg (by omega)]; omega, hv, ?_⟩
    rw [itr_succ]
    generalize itr g_X6_advance_118 Q = R
    unfold g_X6_advance_118 f_X6_advance_193
    dsimp only
    rw [C4_1, C4_6, hl, if_pos (nI_le (by omega) (by omega))]
  | succ c ih =>
    intro e Q v h hQ hq hr hv
    obtain ⟨Q, rfl⟩ : ∃ r, Q = r + 1 := ⟨Q - 1, by omega⟩
    have hk := S_kindAt (σ := C4 σ (nI q) (nI K) v (nI e)) (n := n) (p := e) hn (by omega) (by rw [C4_1]; exact hl)
    rw [C4_r] at hk
    have hb5 := kn_bd (gr σ 30) n e
    by_cases hb : kn (gr σ 30) n e = K
    · have hbe : bk (gr σ 30 e) = K := by
        unfold kn at hb
        rw [if_pos (by omega)] at hb
        exact hb
      have hr' : ∀ j, q ≤ j → j < e + 1 → bk (gr σ 30 j) = K := fun j a d => by
        by_cases ej : j = e
        · rw [ej]; exact hbe
        · exact hr j a (by omega)
      rcases hK with k2 | k3
      · obtain ⟨e', v', a1, a2, a3, a4, a5, a6⟩ := ih (e + 1) Q v (by omega) (by omega) (by omega) hr' (fun z => by omega)
        refine ⟨e', v', by omega, a2, a3, a4, a5, ?_⟩
        rw [itr_succ]
        generalize hR : itr g_X6_advance_118 Q = R at a6
        unfold g_X6_advance_118 f_X6_advance_180
        dsimp only
        rw [C4_1, C4_6, hl, if_neg (nI_ge (by omega) (by omega)), hk, bd_mk, hb, C4_7, if_pos rfl, if_neg (by rw [k2]; decide), bnd_mk, C4_6, nI_1, C4_s6]
        exact a6
      · have hv3 := hv k3
        have hd : dcv 100000 (gr σ 30) q (e - q) ≤ 100000 := dcv_le _ _ _ _
        have hc := cap_c hd (hbe.trans k3)
        have hs : dcv 100000 (gr σ 30) q (e + 1 - q) = min 100000 (10 * dcv 100000 (gr σ 30) q (e - q) + ((gr σ 30 e).toInt - 48).toNat) := by
          rw [show e + 1 - q = (e - q) + 1 by omega]
          show min 100000 (10 * dcv 100000 (gr σ 30) q (e - q) + ((gr σ 30 (q + (e - q))).toInt - 48).toNat) = _
          rw [show q + (e - q) = e by omega]
        obtain ⟨e', v', a1, a2, a3, a4, a5, a6⟩ := ih (e + 1) Q (nI (dcv 100000 (gr σ 30) q (e + 1 - q))) (by omega) (by omega) (by omega) hr' (fun _ => rfl)
        refine ⟨e', v', by omega, a2, a3, a4, a5, ?_⟩
        rw [itr_succ]
        generalize hR : itr g_X6_advance_118 Q = R at a6
        unfold g_X6_advance_118 f_X6_advance_180
        dsimp only
        have hby := S_byteAt (σ := C4 σ (nI q) (nI K) v (nI e)) (p := e) (by omega)
        rw [C4_r] at hby
        rw [C4_1, C4_6, hl, if_neg (nI_ge (by omega) (by omega)), hk, bd_mk, hb, C4_7, if_pos rfl, if_pos (by rw [k3]; rfl), C4_6, hby, bd_mk, bnd_mk, bnd_mk, C4_8, hv3, hc, C4_s8, C4_6, nI_1, C4_s6, ← hs]
        exact a6
    · refine ⟨e, v, by omega, by omega, hr, hb, hv, ?_⟩
      rw [itr_succ]
      generalize itr g_X6_advance_118 Q = R
      unfold g_X6_advance_118 f_X6_advance_193
      dsimp only
      have hne : ¬ nI (kn (gr σ 30) n e) = nI K := fun z => hb ((nI_eq (by omega) (by omega)).mp z)
      rw [C4_1, C4_6, hl, if_neg (nI_ge (by omega) (by omega)), hk, bd_mk, C4_7, if_neg hne]
/-- advance: the next TOKEN -/
theorem S_adv {σ : St} {n p : Nat} (hn : n ≤ 1200) (hl : gf σ 29 1 = nI n) (hp : gf σ 29 6 = nI p) (hpn : p ≤ n) : ∃ q e K v, Tk (gr σ 30) n p q e K ∧ (K = 3 → v = nI (dcv 100000 (gr σ 30) q (e - q))) ∧ f_X6_advance σ = some ((), C4 σ (nI q) (nI K) v (nI e)) := by
  have e0 : sf σ 29 5 (gf σ 29 6) = C4 σ (nI p) (gf σ 29 7) (gf σ 29 8) (gf σ 29 6) := by
    have h := C4_s5 σ (gf σ 29 5) (gf σ 29 7) (gf σ 29 8) (gf σ 29 6) (nI p)
    rw [C4_id] at h
    rw [hp] at h ⊢
    exact h
  obtain ⟨q, q1, q2, q3, q4, q5⟩ := c_skip hn σ hl (gf σ 29 7) (gf σ 29 8) (gf σ 29 6) (n - p) p FU (by omega) (by unfold FU; omega)
  have hk := S_kindAt (σ := C4 σ (nI q) (gf σ 29 7) (gf σ 29 8) (gf σ 29 6)) (n := n) (p := q) hn (by omega) (by rw [C4_1]; exact hl)
  rw [C4_r] at hk
  have hK5 := kn_bd (gr σ 30) n q
  obtain ⟨K, hK⟩ : ∃ K, K = kn (gr σ 30) n q := ⟨_, rfl⟩
  rw [← hK] at hk q4 hK5
  -- the first end
  have hto : ∀ x : Nat, q ≤ n → (if nI n < nI q + 1 then nI n else nI q + 1) = nI (min n (q + 1)) := fun _ _ => by
    rw [nI_1]
    by_cases c : n < q + 1
    · rw [if_pos (nI_lt c (by omega)), Nat.min_eq_left (by omega)]
    · rw [if_neg (nI_nlt (by omega) (by omega)), Nat.min_eq_right (by omega)]
  have E : f_X6_advance σ = f_X6_advance_44 (C4 σ (nI q) (gf σ 29 7) (gf σ 29 8) (gf σ 29 6)) := by
    unfold f_X6_advance
    rw [bnd_mk, e0]
    exact q5
  have E2 : f_X6_advance_44 (C4 σ (nI q) (gf σ 29 7) (gf σ 29 8) (gf σ 29 6)) = (if nI K = (3 : Int32) then bd (f_X6_byteAt (nI q) (C4 σ (nI q) (nI K) 0 (nI (min n (q + 1))))) (fun r7 s8 => bnd (sf s8 29 8 (r7 - 48)) fun s10 => f_X6_advance_101 s10) else f_X6_advance_101 (C4 σ (nI q) (nI K) 0 (nI (min n (q + 1))))) := by
    unfold f_X6_advance_44
    rw [C4_5, hk, bd_mk, bnd_mk, C4_s7, bnd_mk, C4_s8, bnd_mk, C4_1, C4_5, hl, hto 0 q2, C4_s6, C4_7, C4_5]
  have hT : ∀ e : Nat, q ≤ e → e ≤ n → (K = 0 → e = q) → (K = 4 ∨ K = 5 → e = q + 1) → (K = 2 ∨ K = 3 → q < e ∧ (∀ j, q ≤ j → j < e → bk (gr σ 30 j) = K) ∧ kn (gr σ 30) n e ≠ K) → Tk (gr σ 30) n p q e K := fun e a1 a2 a3 a4 a5 => ⟨q1, q2, q3, hK.symm, q4, a1, a2, a3, a4, a5⟩
  have hqn : K ≠ 0 → q < n := fun c => by
    rcases Nat.lt_or_ge q n with d | d
    · exact d
    · exfalso
      apply c
      rw [hK]
      unfold kn
      rw [if_neg (by omega)]
  have hK0 : K = 0 → q = n := fun c => by
    rcases Nat.lt_or_ge q n with d | d
    · exfalso
      rw [hK] at c
      unfold kn at c
      rw [if_pos d] at c
      have := (bk_bd (gr σ 30 q)).1
      omega
    · omega
  have hbq : K ≠ 0 → bk (gr σ 30 q) = K := fun c => by
    rw [hK]
    unfold kn
    rw [if_pos (hqn c)]
  rw [E, E2]
  rcases (show K = 0 ∨ (K = 4 ∨ K = 5) ∨ K = 2 ∨ K = 3 by omega) with c | c | c | c
  · refine ⟨q, q, K, 0, hT q (by omega) q2 (fun _ => rfl) (fun z => by omega) (fun z => by omega), fun z => by omega, ?_⟩
    rw [show min n (q + 1) = q by have := hK0 c; omega, if_neg (by rw [c]; decide)]
    unfold f_X6_advance_101
    rw [C4_7, if_neg (by rw [c]; decide), if_neg (by rw [c]; decide)]
  · have hq := hqn (by omega)
    refine ⟨q, q + 1, K, 0, hT (q + 1) (by omega) (by omega) (fun z => by omega) (fun _ => rfl) (fun z => by omega), fun z => by omega, ?_⟩
    have n3 : ¬ nI K = (3 : Int32) := fun z => by
      have := (nI_eq (a := K) (b := 3) (by omega) (by omega)).mp z
      omega
    have n2 : ¬ nI K = (2 : Int32) := fun z => by
      have := (nI_eq (a := K) (b := 2) (by omega) (by omega)).mp z
      omega
    rw [show min n (q + 1) = q + 1 by omega, if_neg n3]
    unfold f_X6_advance_101
    rw [C4_7, if_neg n2, if_neg n3]
  · have hq := hqn (by omega)
    obtain ⟨e', v', a1, a2, a3, a4, a5, a6⟩ := c_run hn σ hl q K (Or.inl c) (n - (q + 1)) (q + 1) FU 0 (by omega) (by unfold FU; omega) (by omega) (fun j b1 b2 => by rw [show j = q by omega]; exact hbq (by omega)) (fun z => by omega)
    refine ⟨q, e', K, v', hT e' (by omega) a2 (fun z => by omega) (fun z => by omega) (fun _ => ⟨by omega, a3, a4⟩), a5, ?_⟩
    rw [show min n (q + 1) = q + 1 by omega, if_neg (by rw [c]; decide)]
    unfold f_X6_advance_101
    rw [C4_7, if_pos (by rw [c]; rfl)]
    exact a6
  · have hq := hqn (by omega)
    have hbq3 := (hbq (by omega)).trans c
    have h1 : gr σ 30 q - 48 = nI (dcv 100000 (gr σ 30) q 1) := by
      have hd : 48 ≤ (gr σ 30 q).toInt ∧ (gr σ 30 q).toInt ≤ 57 := by
        unfold bk at hbq3
        split at hbq3
        · omega
        · split at hbq3
          · omega
          · split at hbq3
            · rename_i z
              exact z
            · split at hbq3 <;> omega
      apply i32_eq
      rw [i32_sub (by have : (48 : Int32).toInt = 48 := rfl; omega)]
      show (gr σ 30 q).toInt - 48 = (nI (min 100000 (10 * 0 + ((gr σ 30 (q + 0)).toInt - 48).toNat))).toInt
      rw [nI_toInt (by omega), Nat.add_zero]
      omega
    obtain ⟨e', v', a1, a2, a3, a4, a5, a6⟩ := c_run hn σ hl q K (Or.inr c) (n - (q + 1)) (q + 1) FU (gr σ 30 q - 48) (by omega) (by unfold FU; omega) (by omega) (fun j b1 b2 => by rw [show j = q by omega]; exact hbq (by omega)) (fun _ => by rw [show q + 1 - q = 1 by omega]; exact h1)
    refine ⟨q, e', K, v', hT e' (by omega) a2 (fun z => by omega) (fun z => by omega) (fun _ => ⟨by omega, a3, a4⟩), a5, ?_⟩
    have hby := S_byteAt (σ := C4 σ (nI q) (nI K) 0 (nI (min n (q + 1)))) (p := q) (by omega)
    rw [C4_r] at hby
    rw [if_pos (by rw [c]; rfl), hby, bd_mk, bnd_mk, C4_s8, show min n (q + 1) = q + 1 by omega]
    unfold f_X6_advance_101
    rw [C4_7, if_neg (by rw [c]; decide), if_pos (by rw [c]; rfl)]
    exact a6
