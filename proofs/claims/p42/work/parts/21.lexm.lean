/-! ===== the reference's TOKENS ===== -/
def M4l (f : Nat → Int32) (a p t v : Int32) : Nat → Int32 := fun j => if j = 8 then a else if j = 9 then p else if j = 10 then t else if j = 11 then v else f j
theorem M4_id (f : Nat → Int32) : M4l f (f 8) (f 9) (f 10) (f 11) = f := by
  funext j
  unfold M4l
  split
  · rename_i q; rw [q]
  · split
    · rename_i q; rw [q]
    · split
      · rename_i q; rw [q]
      · split
        · rename_i q; rw [q]
        · rfl
theorem M4_8 (f : Nat → Int32) (a p t v x : Int32) : upd (M4l f a p t v) 8 x = M4l f x p t v := by
  funext j
  unfold upd M4l
  by_cases c : j = 8 <;> simp [c]
theorem M4_9 (f : Nat → Int32) (a p t v x : Int32) : upd (M4l f a p t v) 9 x = M4l f a x t v := by
  funext j
  unfold upd M4l
  by_cases c : j = 9
  · simp [c]
  · simp [c]
theorem M4_10 (f : Nat → Int32) (a p t v x : Int32) : upd (M4l f a p t v) 10 x = M4l f a p x v := by
  funext j
  unfold upd M4l
  by_cases c : j = 10
  · simp [c]
  · simp [c]
theorem M4_11 (f : Nat → Int32) (a p t v x : Int32) : upd (M4l f a p t v) 11 x = M4l f a p t x := by
  funext j
  unfold upd M4l
  by_cases c : j = 11
  · simp [c]
  · simp [c]
/-- the reference's state with these four: at, from, token, value -/
def D4 (τ : St) (a p t v : Int32) : St := sF τ 58 (M4l (gf τ 58) a p t v)
theorem D4_7 (τ : St) (a p t v : Int32) : gf (D4 τ a p t v) 58 7 = gf τ 58 7 := by unfold D4; rw [gf_sF, if_pos rfl]; rfl
theorem D4_8 (τ : St) (a p t v : Int32) : gf (D4 τ a p t v) 58 8 = a := by unfold D4; rw [gf_sF, if_pos rfl]; rfl
theorem D4_9 (τ : St) (a p t v : Int32) : gf (D4 τ a p t v) 58 9 = p := by unfold D4; rw [gf_sF, if_pos rfl]; rfl
theorem D4_10 (τ : St) (a p t v : Int32) : gf (D4 τ a p t v) 58 10 = t := by unfold D4; rw [gf_sF, if_pos rfl]; rfl
theorem D4_11 (τ : St) (a p t v : Int32) : gf (D4 τ a p t v) 58 11 = v := by unfold D4; rw [gf_sF, if_pos rfl]; rfl
theorem D4_s8 (τ : St) (a p t v x : Int32) : sf (D4 τ a p t v) 58 8 x = D4 τ x p t v := by unfold D4; rw [sf_sF, M4_8]
theorem D4_s9 (τ : St) (a p t v x : Int32) : sf (D4 τ a p t v) 58 9 x = D4 τ a x t v := by unfold D4; rw [sf_sF, M4_9]
theorem D4_s10 (τ : St) (a p t v x : Int32) : sf (D4 τ a p t v) 58 10 x = D4 τ a p x v := by unfold D4; rw [sf_sF, M4_10]
theorem D4_s11 (τ : St) (a p t v x : Int32) : sf (D4 τ a p t v) 58 11 x = D4 τ a p t x := by unfold D4; rw [sf_sF, M4_11]
theorem D4_r (τ : St) (a p t v : Int32) : gr (D4 τ a p t v) 62 = gr τ 62 := rfl
theorem D4_id (τ : St) : D4 τ (gf τ 58 8) (gf τ 58 9) (gf τ 58 10) (gf τ 58 11) = τ := by unfold D4; rw [M4_id, sF_id]
theorem D4_fr (τ : St) (a p t v : Int32) : Fr [58] τ (D4 τ a p t v) := Fr.cF (by simp)
theorem and255 {x : Int32} (h : by8 x) : (x &&& 255).toInt = if 0 ≤ x.toInt then x.toInt else x.toInt + 256 := by
  have d : ∀ k : Fin 256, (Int32.ofInt ((k.val : Int) - 128) &&& 255).toInt = if 0 ≤ ((k.val : Int) - 128) then ((k.val : Int) - 128) else ((k.val : Int) - 128) + 256 := by decide +kernel
  have hx : x = Int32.ofInt x.toInt := (Int32.ofInt_toInt x).symm
  have := d ⟨(x.toInt + 128).toNat, by have := h.1; have := h.2; omega⟩
  have e : (((x.toInt + 128).toNat : Nat) : Int) - 128 = x.toInt := by have := h.1; omega
  simp only [e] at this
  rw [← hx] at this
  exact this
/-- what is seen at a place -/
def sn (b : Nat → Int32) (n p : Nat) : Int32 := if p < n then b p &&& 255 else -1
theorem S_see {τ : St} {n p : Nat} (hn : n ≤ 1200) (hp : p ≤ 1200) (h : gf τ 58 7 = nI n) : f_X12_see (nI p) τ = some (sn (gr τ 62) n p, τ) := by
  unfold f_X12_see f_X12_see_22 sn
  rw [h]
  by_cases c : p < n
  · rw [if_neg (nI_ge c (by omega)), if_pos c, show ln 62 = 1200 from rfl, inb_nI (by omega) (by decide), gd_tt, nI_clamp (by omega)]
  · rw [if_pos (nI_le (by omega) (by omega)), if_neg c]
theorem bk_iff {x : Int32} : (bk x = 1 ↔ (x.toInt = 32 ∨ x.toInt = 10)) ∧ (bk x = 2 ↔ 97 ≤ x.toInt ∧ x.toInt ≤ 122) ∧ (bk x = 3 ↔ 48 ≤ x.toInt ∧ x.toInt ≤ 57) ∧ (bk x = 4 ↔ x.toInt = 59) := by
  have e : ∀ c : Int32, x = c ↔ x.toInt = c.toInt := fun c => ⟨fun q => by rw [q], fun q => i32_eq q⟩
  have e32 : x = 32 ↔ x.toInt = 32 := e 32
  have e10 : x = 10 ↔ x.toInt = 10 := e 10
  have e59 : x = 59 ↔ x.toInt = 59 := e 59
  unfold bk
  by_cases c1 : x = 32 ∨ x = 10
  · rw [if_pos c1]
    have : x.toInt = 32 ∨ x.toInt = 10 := c1.imp e32.mp e10.mp
    omega
  · rw [if_neg c1]
    have h1 : ¬ (x.toInt = 32 ∨ x.toInt = 10) := fun q => c1 (q.imp e32.mpr e10.mpr)
    by_cases c2 : 97 ≤ x.toInt ∧ x.toInt ≤ 122
    · rw [if_pos c2]
      omega
    · rw [if_neg c2]
      by_cases c3 : 48 ≤ x.toInt ∧ x.toInt ≤ 57
      · rw [if_pos c3]
        omega
      · rw [if_neg c3]
        by_cases c4 : x = 59
        · rw [if_pos c4]
          have := e59.mp c4
          omega
        · rw [if_neg c4]
          have h4 : ¬ x.toInt = 59 := fun q => c4 (e59.mpr q)
          omega
/-- what is seen tells the kind -/
theorem sn_kn {b : Nat → Int32} {n p : Nat} (hb : ∀ j, j < n → by8 (b j)) : (kn b n p = 0 ↔ (sn b n p).toInt = -1) ∧ (kn b n p = 1 ↔ ((sn b n p).toInt = 32 ∨ (sn b n p).toInt = 10)) ∧ (kn b n p = 2 ↔ 97 ≤ (sn b n p).toInt ∧ (sn b n p).toInt ≤ 122) ∧ (kn b n p = 3 ↔ 48 ≤ (sn b n p).toInt ∧ (sn b n p).toInt ≤ 57) ∧ (kn b n p = 4 ↔ (sn b n p).toInt = 59) := by
  unfold kn sn
  by_cases c : p < n
  · rw [if_pos c, if_pos c]
    have h8 := hb p c
    have h := and255 h8
    obtain ⟨k1, k2, k3, k4⟩ := bk_iff (x := b p)
    have k0 := bk_bd (b p)
    have l1 := h8.1
    rw [h]
    split <;> omega
  · rw [if_neg c, if_neg c]
    have : (-1 : Int32).toInt = -1 := rfl
    omega
theorem sn_dig {b : Nat → Int32} {n p : Nat} (hb : ∀ j, j < n → by8 (b j)) (h : kn b n p = 3) : (sn b n p).toInt = (b p).toInt := by
  have hs := (sn_kn (p := p) hb).2.2.2.1.mp h
  unfold sn at hs ⊢
  unfold kn at h
  by_cases c : p < n
  · rw [if_pos c] at hs ⊢
    have h8 := hb p c
    rw [and255 h8] at hs ⊢
    have l1 := h8.1
    split at hs
    · rename_i z
      rw [if_pos z]
    · omega
  · rw [if_neg c] at h
    omega
theorem cap_m {x : Nat} {b r : Int32} (hx : x ≤ 99999) (hr : r.toInt = b.toInt) (hb : 48 ≤ b.toInt ∧ b.toInt ≤ 57) : (if (10 : Int32) * nI x + r - 48 < (99999 : Int32) then (10 : Int32) * nI x + r - 48 else (99999 : Int32)) = nI (min 99999 (10 * x + (b.toInt - 48).toNat)) := by
  have z48 : (48 : Int32).toInt = 48 := rfl
  have z1 : (99999 : Int32).toInt = 99999 := rfl
  have e1 : ((10 : Int32) * nI x).toInt = 10 * x := by
    rw [show (10 : Int32) = nI 10 from rfl, nI_mul, nI_toInt (by omega)]
    omega
  have e2 : ((10 : Int32) * nI x + r).toInt = 10 * x + b.toInt := by rw [i32_add (by omega), e1, hr]
  have e3 : ((10 : Int32) * nI x + r - 48).toInt = 10 * x + b.toInt - 48 := by rw [i32_sub (by omega), e2, z48]
  apply i32_eq
  rw [nI_toInt (by omega)]
  by_cases c : (10 : Int32) * nI x + r - 48 < (99999 : Int32)
  · rw [if_pos c, e3]
    rw [lt_toInt, e3, z1] at c
    omega
  · rw [if_neg c, z1]
    rw [lt_toInt, e3, z1] at c
    omega
/-- the reference's name of a kind -/
def tkK (K : Nat) : Nat := if K = 0 then 0 else K - 1
theorem i32_lit {x c : Int32} {z : Int} (hc : c.toInt = z) : x = c ↔ x.toInt = z := ⟨fun q => by rw [q, hc], fun q => i32_eq (q.trans hc.symm)⟩
theorem m_word {n : Nat} (hn : n ≤ 1200) (τ : St) (hl : gf τ 58 7 = nI n) (hb : ∀ j, j < n → by8 (gr τ 62 j)) (q : Nat) (t v : Int32) : ∀ (c e Q : Nat), e + c = n → c < Q → q ≤ e → (∀ j, q ≤ j → j < e → bk (gr τ 62 j) = 2) →
    ∃ e', e ≤ e' ∧ e' ≤ n ∧ (∀ j, q ≤ j → j < e' → bk (gr τ 62 j) = 2) ∧ kn (gr τ 62) n e' ≠ 2 ∧ itr g_X12_advance_83 Q (D4 τ (nI e) (nI q) t v) = some ((), D4 τ (nI e') (nI q) 1 v) := by
  intro c
  induction c with
  | zero =>
    intro e Q h hQ hq hr
    obtain ⟨Q, rfl⟩ : ∃ r, Q = r + 1 := ⟨Q - 1, by omega⟩
    have hs := S_see (τ := D4 τ (nI e) (nI q) t v) (n := n) (p := e) hn (by omega) (by rw [D4_7]; exact hl)
    rw [D4_r] at hs
    have hk : kn (gr τ 62) n e ≠ 2 := by unfold kn; rw [if_neg (by omega)]; decide
    refine ⟨e, by omega, by omega, hr, hk, ?_⟩
    rw [itr_succ]
    generalize itr g_X12_advance_83 Q = R
    unfold g_X12_advance_83 f_X12_advance_239
    dsimp only
    rw [D4_8, hs, bd_mk, S_in, bd_mk, b2_f (by rw [Int32.toInt_toInt64]; exact fun z => hk ((sn_kn hb).2.2.1.mpr z)), if_pos rfl, bnd_mk, D4_s10]
  | succ c ih =>
    intro e Q h hQ hq hr
    obtain ⟨Q, rfl⟩ : ∃ r, Q = r + 1 := ⟨Q - 1, by omega⟩
    have hs := S_see (τ := D4 τ (nI e) (nI q) t v) (n := n) (p := e) hn (by omega) (by rw [D4_7]; exact hl)
    rw [D4_r] at hs
    by_cases hk : kn (gr τ 62) n e = 2
    · have hbe : bk (gr τ 62 e) = 2 := by
        unfold kn at hk
        rw [if_pos (by omega)] at hk
        exact hk
      obtain ⟨e', a1, a2, a3, a4, a5⟩ := ih (e + 1) Q (by omega) (by omega) (by omega) (fun j b1 b2 => by
        by_cases ej : j = e
        · rw [ej]; exact hbe
        · exact hr j b1 (by omega))
      refine ⟨e', by omega, a2, a3, a4, ?_⟩
      rw [itr_succ]
      generalize hR : itr g_X12_advance_83 Q = R at a5
      unfold g_X12_advance_83
      dsimp only
      rw [D4_8, hs, bd_mk, S_in, bd_mk, b2_t (by rw [Int32.toInt_toInt64]; exact (sn_kn hb).2.2.1.mp hk), if_neg n10, bnd_mk, D4_8, nI_1, D4_s8]
      exact a5
    · refine ⟨e, by omega, by omega, hr, hk, ?_⟩
      rw [itr_succ]
      generalize itr g_X12_advance_83 Q = R
      unfold g_X12_advance_83 f_X12_advance_239
      dsimp only
      rw [D4_8, hs, bd_mk, S_in, bd_mk, b2_f (by rw [Int32.toInt_toInt64]; exact fun z => hk ((sn_kn hb).2.2.1.mpr z)), if_pos rfl, bnd_mk, D4_s10]
theorem m_num {n : Nat} (hn : n ≤ 1200) (τ : St) (hl : gf τ 58 7 = nI n) (hb : ∀ j, j < n → by8 (gr τ 62 j)) (q : Nat) (t : Int32) : ∀ (c e Q : Nat), e + c = n → c < Q → q ≤ e → (∀ j, q ≤ j → j < e → bk (gr τ 62 j) = 3) →
    ∃ e', e ≤ e' ∧ e' ≤ n ∧ (∀ j, q ≤ j → j < e' → bk (gr τ 62 j) = 3) ∧ kn (gr τ 62) n e' ≠ 3 ∧ itr g_X12_advance_144 Q (D4 τ (nI e) (nI q) t (nI (dcv 99999 (gr τ 62) q (e - q)))) = some ((), D4 τ (nI e') (nI q) 2 (nI (dcv 99999 (gr τ 62) q (e' - q)))) := by
  intro c
  induction c with
  | zero =>
    intro e Q h hQ hq hr
    obtain ⟨Q, rfl⟩ : ∃ r, Q = r + 1 := ⟨Q - 1, by omega⟩
    have hs := S_see (τ := D4 τ (nI e) (nI q) t (nI (dcv 99999 (gr τ 62) q (e - q)))) (n := n) (p := e) hn (by omega) (by rw [D4_7]; exact hl)
    rw [D4_r] at hs
    have hk : kn (gr τ 62) n e ≠ 3 := by unfold kn; rw [if_neg (by omega)]; decide
    refine ⟨e, by omega, by omega, hr, hk, ?_⟩
    rw [itr_succ]
    generalize itr g_X12_advance_144 Q = R
    unfold g_X12_advance_144 f_X12_advance_239
    dsimp only
    rw [D4_8, hs, bd_mk, S_in, bd_mk, b2_f (by rw [Int32.toInt_toInt64]; exact fun z => hk ((sn_kn hb).2.2.2.1.mpr z)), if_pos rfl, bnd_mk, D4_s10]
  | succ c ih =>
    intro e Q h hQ hq hr
    obtain ⟨Q, rfl⟩ : ∃ r, Q = r + 1 := ⟨Q - 1, by omega⟩
    have hs := S_see (τ := D4 τ (nI e) (nI q) t (nI (dcv 99999 (gr τ 62) q (e - q)))) (n := n) (p := e) hn (by omega) (by rw [D4_7]; exact hl)
    rw [D4_r] at hs
    by_cases hk : kn (gr τ 62) n e = 3
    · have hbe : bk (gr τ 62 e) = 3 := by
        unfold kn at hk
        rw [if_pos (by omega)] at hk
        exact hk
      have hd := (bk_iff (x := gr τ 62 e)).2.2.1.mp hbe
      have hc := cap_m (x := dcv 99999 (gr τ 62) q (e - q)) (b := gr τ 62 e) (r := sn (gr τ 62) n e) (dcv_le _ _ _ _) (sn_dig hb hk) hd
      have hs2 : dcv 99999 (gr τ 62) q (e + 1 - q) = min 99999 (10 * dcv 99999 (gr τ 62) q (e - q) + ((gr τ 62 e).toInt - 48).toNat) := by
        rw [show e + 1 - q = (e - q) + 1 by omega]
        show min 99999 (10 * dcv 99999 (gr τ 62) q (e - q) + ((gr τ 62 (q + (e - q))).toInt - 48).toNat) = _
        rw [show q + (e - q) = e by omega]
      obtain ⟨e', a1, a2, a3, a4, a5⟩ := ih (e + 1) Q (by omega) (by omega) (by omega) (fun j b1 b2 => by
        by_cases ej : j = e
        · rw [ej]; exact hbe
        · exact hr j b1 (by omega))
      refine ⟨e', by omega, a2, a3, a4, ?_⟩
      rw [itr_succ]
      generalize hR : itr g_X12_advance_144 Q = R at a5
      unfold g_X12_advance_144
      dsimp only
      rw [D4_8, hs, bd_mk, S_in, bd_mk, b2_t (by rw [Int32.toInt_toInt64]; exact (sn_kn hb).2.2.2.1.mp hk), if_neg n10, D4_8, hs, bd_mk, bnd_mk, D4_11, hc, D4_s11, bnd_mk, D4_8, nI_1, D4_s8, ← hs2]
      exact a5
    · refine ⟨e, by omega, by omega, hr, hk, ?_⟩
      rw [itr_succ]
      generalize itr g_X12_advance_144 Q = R
      unfold g_X12_advance_144 f_X12_advance_239
      dsimp only
      rw [D4_8, hs, bd_mk, S_in, bd_mk, b2_f (by rw [Int32.toInt_toInt64]; exact fun z => hk ((sn_kn hb).2.2.2.1.mpr z)), if_pos rfl, bnd_mk, D4_s10]
/-- advance, from a place that is no blank -/
theorem m_tok {n : Nat} (hn : n ≤ 1200) (τ : St) (hl : gf τ 58 7 = nI n) (hb : ∀ j, j < n → by8 (gr τ 62 j)) (f t v : Int32) (q : Nat) (hq : q ≤ n) (h1 : kn (gr τ 62) n q ≠ 1) (R : St → Option (Unit × St)) :
    ∃ e K w, kn (gr τ 62) n q = K ∧ q ≤ e ∧ e ≤ n ∧ (K = 0 → e = q) ∧ (K = 4 ∨ K = 5 → e = q + 1) ∧ (K = 2 ∨ K = 3 → q < e ∧ (∀ j, q ≤ j → j < e → bk (gr τ 62 j) = K) ∧ kn (gr τ 62) n e ≠ K) ∧ (K = 3 → w = nI (dcv 99999 (gr τ 62) q (e - q))) ∧ g_X12_advance_0 R (D4 τ (nI q) f t v) = some ((), D4 τ (nI e) (nI q) (nI (tkK K)) w) := by
  have hs := fun (f t v : Int32) => S_see (τ := D4 τ (nI q) f t v) (n := n) (p := q) hn (by omega) (by rw [D4_7]; exact hl)
  simp only [D4_r] at hs
  obtain ⟨s0, s1, s2, s3, s4⟩ := sn_kn (p := q) hb
  have hK5 := kn_bd (gr τ 62) n q
  have a32 : ¬ sn (gr τ 62) n q = 32 := fun z => h1 (s1.mpr (Or.inl ((i32_lit (c := 32) (z := 32) rfl).mp z)))
  have a10 : ¬ sn (gr τ 62) n q = 10 := fun z => h1 (s1.mpr (Or.inr ((i32_lit (c := 10) (z := 10) rfl).mp z)))
  have E : g_X12_advance_0 R (D4 τ (nI q) f t v) = (if sn (gr τ 62) n q = -1 then some ((), D4 τ (nI q) (nI q) 0 v) else if b2 (97 ≤ (sn (gr τ 62) n q).toInt ∧ (sn (gr τ 62) n q).toInt ≤ 122) = 0 then (if b2 (48 ≤ (sn (gr τ 62) n q).toInt ∧ (sn (gr τ 62) n q).toInt ≤ 57) = 0 then (if sn (gr τ 62) n q = 59 then f_X12_advance_226 3 (D4 τ (nI q) (nI q) t v) else f_X12_advance_226 4 (D4 τ (nI q) (nI q) t v)) else itr g_X12_advance_144 FU (D4 τ (nI q) (nI q) t 0)) else itr g_X12_advance_83 FU (D4 τ (nI q) (nI q) t v)) := by
    unfold g_X12_advance_0 f_X12_advance_239
    dsimp only
    rw [D4_8, hs, bd_mk, if_neg a32, D4_8, hs, bd_mk, if_neg a10, bnd_mk, D4_8, D4_s9, D4_8, hs, bd_mk]
    simp only [S_in, bd_mk, bnd_mk, D4_s10, D4_s11, Int32.toInt_toInt64]
    rfl
  have hqn : kn (gr τ 62) n q ≠ 0 → q < n := fun c => by
    rcases Nat.lt_or_ge q n with d | d
    · exact d
    · exfalso
      apply c
      unfold kn
      rw [if_neg (by omega)]
  have hbq : kn (gr τ 62) n q ≠ 0 → bk (gr τ 62 q) = kn (gr τ 62) n q := fun c => by
    unfold kn
    rw [if_pos (hqn c)]
  have m1 : sn (gr τ 62) n q = -1 ↔ (sn (gr τ 62) n q).toInt = -1 := i32_lit rfl
  have m59 : sn (gr τ 62) n q = 59 ↔ (sn (gr τ 62) n q).toInt = 59 := i32_lit rfl
  rw [E]
  generalize hK : kn (gr τ 62) n q = K at *
  rcases (show K = 0 ∨ (K = 4 ∨ K = 5) ∨ K = 2 ∨ K = 3 by omega) with c | c | c | c
  · refine ⟨q, K, v, rfl, by omega, hq, fun _ => rfl, fun z => by omega, fun z => by omega, fun z => by omega, ?_⟩
    rw [if_pos (m1.mpr (s0.mp c)), c]
    rfl
  · have hq' := hqn (by omega)
    refine ⟨q + 1, K, v, rfl, by omega, by omega, fun z => by omega, fun _ => rfl, fun z => by omega, fun z => by omega, ?_⟩
    rw [if_neg (fun z => by have := s0.mpr (m1.mp z); omega), b2_f (fun z => by have := s2.mpr z; omega), if_pos rfl, b2_f (fun z => by have := s3.mpr z; omega), if_pos rfl]
    unfold f_X12_advance_226 f_X12_advance_239
    simp only [bnd_mk, D4_s10, D4_8, nI_1, D4_s8]
    rcases c with c | c
    · rw [if_pos (m59.mpr (s4.mp c)), c]
      rfl
    · rw [if_neg (fun z => by have := s4.mpr (m59.mp z); omega), c]
      rfl
  · have hq' := hqn (by omega)
    obtain ⟨e', a1, a2, a3, a4, a5⟩ := m_word hn τ hl hb q t v (n - q) q FU (by omega) (by unfold FU; omega) (by omega) (fun j b1 b2 => by omega)
    have hlt : q < e' := by
      rcases Nat.lt_or_ge q e' with d | d
      · exact d
      · exfalso
        have : e' = q := by omega
        rw [this] at a4
        exact a4 (hK.trans c)
    refine ⟨e', K, v, rfl, by omega, a2, fun z => by omega, fun z => by omega, fun _ => ⟨hlt, by rw [c]; exact a3, by rw [c]; exact a4⟩, fun z => by omega, ?_⟩
    rw [if_neg (fun z => by have := s0.mpr (m1.mp z); omega), b2_t (s2.mp c), if_neg n10, a5, c]
    rfl
  · have hq' := hqn (by omega)
    obtain ⟨e', a1, a2, a3, a4, a5⟩ := m_num hn τ hl hb q t (n - q) q FU (by omega) (by unfold FU; omega) (by omega) (fun j b1 b2 => by omega)
    have hlt : q < e' := by
      rcases Nat.lt_or_ge q e' with d | d
      · exact d
      · exfalso
        have : e' = q := by omega
        rw [this] at a4
        exact a4 (hK.trans c)
    refine ⟨e', K, _, rfl, by omega, a2, fun z => by omega, fun z => by omega, fun _ => ⟨hlt, by rw [c]; exact a3, by rw [c]; exact a4⟩, fun _ => rfl, ?_⟩
    rw [show q - q = 0 by omega] at a5
    rw [if_neg (fun z => by have := s0.mpr (m1.mp z); omega), b2_f (fun z => by have := s2.mpr z; omega), if_pos rfl, b2_t (s3.mp c), if_neg n10, c]
    exact a5
theorem m_skip {n : Nat} (hn : n ≤ 1200) (τ : St) (hl : gf τ 58 7 = nI n) (hb : ∀ j, j < n → by8 (gr τ 62 j)) (f t v : Int32) : ∀ (c p Q : Nat), p + c = n → c < Q →
    ∃ q e K w, Tk (gr τ 62) n p q e K ∧ (K = 3 → w = nI (dcv 99999 (gr τ 62) q (e - q))) ∧ itr g_X12_advance_0 Q (D4 τ (nI p) f t v) = some ((), D4 τ (nI e) (nI q) (nI (tkK K)) w) := by
  intro c
  induction c with
  | zero =>
    intro p Q h hQ
    obtain ⟨Q, rfl⟩ : ∃ r, Q = r + 1 := ⟨Q - 1, by omega⟩
    have hk : kn (gr τ 62) n p ≠ 1 := by unfold kn; rw [if_neg (by omega)]; decide
    obtain ⟨e, K, w, a1, a2, a3, a4, a5, a6, a7, a8⟩ := m_tok hn τ hl hb f t v p (by omega) hk (itr g_X12_advance_0 Q)
    exact ⟨p, e, K, w, ⟨by omega, by omega, fun j b1 b2 => by omega, a1, by rw [← a1]; exact hk, a2, a3, a4, a5, a6⟩, a7, a8⟩
  | succ c ih =>
    intro p Q h hQ
    obtain ⟨Q, rfl⟩ : ∃ r, Q = r + 1 := ⟨Q - 1, by omega⟩
    by_cases hk : kn (gr τ 62) n p = 1
    · obtain ⟨q, e, K, w, ⟨b1, b2', b3, b4⟩, a7, a8⟩ := ih (p + 1) Q (by omega) (by omega)
      have hbp : bk (gr τ 62 p) = 1 := by
        unfold kn at hk
        rw [if_pos (by omega)] at hk
        exact hk
      refine ⟨q, e, K, w, ⟨by omega, b2', fun j c1 c2 => ?_, b4⟩, a7, ?_⟩
      · by_cases ej : j = p
        · rw [ej]; exact hbp
        · exact b3 j (by omega) c2
      · have hs := fun (f t v : Int32) => S_see (τ := D4 τ (nI p) f t v) (n := n) (p := p) hn (by omega) (by rw [D4_7]; exact hl)
        simp only [D4_r] at hs
        obtain ⟨s0, s1, s2, s3, s4⟩ := sn_kn (p := p) hb
        rw [itr_succ]
        generalize hR : itr g_X12_advance_0 Q = R at a8
        unfold g_X12_advance_0 f_X12_advance_26
        dsimp only
        rw [D4_8, hs, bd_mk]
        rcases s1.mp hk with d | d
        · rw [if_pos ((i32_lit (c := 32) (z := 32) rfl).mpr d), bnd_mk, D4_8, nI_1, D4_s8]
          exact a8
        · rw [if_neg (fun z => by have := (i32_lit (c := 32) (z := 32) rfl).mp z; omega), D4_8, hs, bd_mk, if_pos ((i32_lit (c := 10) (z := 10) rfl).mpr d), bnd_mk, D4_8, nI_1, D4_s8]
          exact a8
    · obtain ⟨e, K, w, a1, a2, a3, a4, a5, a6, a7, a8⟩ := m_tok hn τ hl hb f t v p (by omega) hk (itr g_X12_advance_0 Q)
      exact ⟨p, e, K, w, ⟨by omega, by omega, fun j b1 b2 => by omega, a1, by rw [← a1]; exact hk, a2, a3, a4, a5, a6⟩, a7, a8⟩
theorem S_advM {τ : St} {n p : Nat} (hn : n ≤ 1200) (hl : gf τ 58 7 = nI n) (hb : ∀ j, j < n → by8 (gr τ 62 j)) (hp : gf τ 58 8 = nI p) (hpn : p ≤ n) : ∃ q e K w, Tk (gr τ 62) n p q e K ∧ (K = 3 → w = nI (dcv 99999 (gr τ 62) q (e - q))) ∧ f_X12_advance τ = some ((), D4 τ (nI e) (nI q) (nI (tkK K)) w) := by
  obtain ⟨q, e, K, w, h1, h2, h3⟩ := m_skip hn τ hl hb (gf τ 58 9) (gf τ 58 10) (gf τ 58 11) (n - p) p FU (by omega) (by unfold FU; omega)
  refine ⟨q, e, K, w, h1, h2, ?_⟩
  unfold f_X12_advance
  rw [← hp, D4_id] at h3
  exact h3
