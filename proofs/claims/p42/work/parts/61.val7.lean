/-! ===== values: bits, bounds to be told ===== -/
theorem sh31 : ∀ j, j < 32 → nI j &&& 31 = nI j := by decide +kernel
theorem smod32 : ∀ j, j < 32 → ((nI j).toBitVec.smod 32).toNat = j := by decide +kernel
theorem bit_lsb (x : Int32) {j : Nat} (hj : j < 31) : bitOf x j = if x.toBitVec.getLsbD j then 1 else 0 := by
  have e : bitOf x j = if x.toBitVec.getLsbD j = true then (1 : Int32) else 0 := by
    unfold bitOf
    rw [sh31 j (by omega)]
    apply Int32.toBitVec.inj
    rw [Int32.toBitVec_and, Int32.toBitVec_shiftRight]
    have hs := smod32 j (by omega)
    apply BitVec.eq_of_getLsbD_eq
    intro i hi
    rw [BitVec.getLsbD_and, BitVec.sshiftRight', BitVec.getLsbD_sshiftRight, hs]
    by_cases c : x.toBitVec.getLsbD j = true
    · rw [if_pos c]
      by_cases i0 : i = 0
      · subst i0
        simp [c]
        omega
      · have h1 : (Int32.toBitVec 1).getLsbD i = false := by
          show (1#32).getLsbD i = false
          rw [BitVec.getLsbD_one]
          simp [i0]
        rw [h1, Bool.and_false]
    · rw [if_neg c]
      have h0 : (Int32.toBitVec 0).getLsbD i = false := by
        show (0#32).getLsbD i = false
        exact BitVec.getLsbD_zero
      rw [h0]
      by_cases i0 : i = 0
      · subst i0
        simp at c
        simp [c]
        omega
      · have h1 : (Int32.toBitVec 1).getLsbD i = false := by
          show (1#32).getLsbD i = false
          rw [BitVec.getLsbD_one]
          simp [i0]
        rw [h1, Bool.and_false]
  exact e
theorem sup_bit {x y : Int32} (h : (x &&& (y ^^^ (-1 : Int32))) = 0) {j : Nat} (hj : j < 31) : (bitOf x j).toInt ≤ (bitOf y j).toInt := by
  rw [bit_lsb x hj, bit_lsb y hj]
  have h2 := congrArg (fun z : Int32 => z.toBitVec.getLsbD j) h
  rw [Int32.toBitVec_and, Int32.toBitVec_xor, BitVec.getLsbD_and, BitVec.getLsbD_xor] at h2
  have h3 : (Int32.toBitVec (-1)).getLsbD j = true := by
    show (BitVec.allOnes 32).getLsbD j = true
    rw [BitVec.getLsbD_allOnes]
    simp
    omega
  have h4 : (Int32.toBitVec 0).getLsbD j = false := BitVec.getLsbD_zero
  rw [h3, h4] at h2
  cases hx : x.toBitVec.getLsbD j <;> cases hy : y.toBitVec.getLsbD j <;> rw [hx, hy] at h2 <;> simp at h2 ⊢
theorem self_sup (x : Int32) : (x &&& (x ^^^ (-1 : Int32))) = 0 := by
  apply Int32.toBitVec.inj
  rw [Int32.toBitVec_and, Int32.toBitVec_xor]
  apply BitVec.eq_of_getLsbD_eq
  intro i hi
  rw [BitVec.getLsbD_and, BitVec.getLsbD_xor]
  have h3 : (Int32.toBitVec (-1)).getLsbD i = true := by
    show (BitVec.allOnes 32).getLsbD i = true
    rw [BitVec.getLsbD_allOnes]
    simp
    omega
  have h4 : (Int32.toBitVec 0).getLsbD i = false := BitVec.getLsbD_zero
  rw [h3, h4]
  cases x.toBitVec.getLsbD i <;> rfl
theorem held_sup {F : Nat → Int32} {U : Nat} {m x y : Int32} (hU : U ≤ 4) (hs : (x &&& (y ^^^ (-1 : Int32))) = 0) (h : heldV F U m y = 1) : heldV F U m x = 1 := by
  rw [held1] at h ⊢
  intro j hj q
  have h1 := sup_bit hs (j := 2 * j) (by omega)
  have h2 := sup_bit hs (j := 2 * j + 1) (by omega)
  refine h j hj ⟨?_, ?_⟩
  · have := q.1
    omega
  · have := q.2
    omega
/-- how many bits -/
def bitsA (x : Int32) : Nat → Int32
  | 0 => 0
  | i + 1 => bitsA x i + bitOf x i
def bcV (p0 : Int32) : Int32 :=
  let x1 := (p0 - ((p0.toUInt32 >>> ((1 : Int32).toUInt32 &&& Int32.toUInt32 31)).toInt32 &&& (1431655765 : Int32)))
  let x2 := ((x1 &&& (858993459 : Int32)) + ((x1.toUInt32 >>> ((2 : Int32).toUInt32 &&& Int32.toUInt32 31)).toInt32 &&& (858993459 : Int32)))
  let x3 := ((x2 + (x2.toUInt32 >>> ((4 : Int32).toUInt32 &&& Int32.toUInt32 31)).toInt32) &&& (252645135 : Int32))
  let x4 := (x3 + (x3.toUInt32 >>> ((8 : Int32).toUInt32 &&& Int32.toUInt32 31)).toInt32)
  let x5 := (x4 + (x4.toUInt32 >>> ((16 : Int32).toUInt32 &&& Int32.toUInt32 31)).toInt32)
  x5 &&& (63 : Int32)
theorem S_bc (p : Int32) (σ : St) : f_J6_bitCount_0f7a4 p σ = some (bcV p, σ) := rfl
theorem S_bits (x : Int32) (σ : St) : f_X12_bits x σ = some (bitsA x 12, σ) := by
  unfold f_X12_bits
  refine itr_cnt (fun i => (x, bitsA x i, nI i, σ)) 12 _ (fun i K hi => ?_) (fun K => ?_) 12 0 FU (by omega) (by unfold FU; omega)
  · unfold g_X12_bits_4
    dsimp only
    rw [if_neg (show ¬ (12 : Int32) ≤ nI i from lt_ge (m := 12) hi (by omega)), nI_1]
    rfl
  · unfold g_X12_bits_4
    dsimp only
    rw [if_pos (show (12 : Int32) ≤ nI 12 from le_rf 12)]
theorem bc_bits : ∀ k, k < 512 → bcV (nI k) = bitsA (nI k) 12 := by decide +kernel
theorem bc_lt : ∀ U, U < 5 → ∀ i, i < 2 ^ (2 * U) → bcV (nI i) < nI (2 * U + 1) := by decide +kernel
theorem nI_m1' {n : Nat} (h : n < 1000000) : ¬ nI n = -1 := fun q => by
  have := congrArg Int32.toInt q
  rw [nI_toInt (by omega)] at this
  have e : (-1 : Int32).toInt = -1 := rfl
  omega
theorem least {Q : Nat → Prop} : ∀ n, Q n → ∃ k, k ≤ n ∧ Q k ∧ ∀ j, j < k → ¬ Q j := by
  intro n
  induction n using Nat.strongRecOn with
  | ind n ih =>
    intro h
    by_cases c : ∃ j, j < n ∧ Q j
    · obtain ⟨j, hj, hq⟩ := c
      obtain ⟨k, a, b, d⟩ := ih j hj hq
      exact ⟨k, by omega, b, d⟩
    · exact ⟨n, Nat.le_refl _, h, fun j hj hq => c ⟨j, hj, hq⟩⟩
/-- the fewest bounds that close minute m, of the first i -/
def clB (F : Nat → Int32) (U : Nat) (m : Int32) : Nat → Int32 × Int32
  | 0 => (-1, nI (2 * U + 1))
  | i + 1 => if (clB F U m i).2 ≤ bcV (nI i) then clB F U m i else if heldV F U m (nI i) = 0 then (nI i, bcV (nI i)) else clB F U m i
theorem clB_inv (F : Nat → Int32) (U : Nat) (m : Int32) : ∀ i, clB F U m i = (-1, nI (2 * U + 1)) ∨ ∃ b, b < i ∧ clB F U m i = (nI b, bcV (nI b)) := by
  intro i
  induction i with
  | zero => exact Or.inl rfl
  | succ i ih =>
    have e : clB F U m (i + 1) = if (clB F U m i).2 ≤ bcV (nI i) then clB F U m i else if heldV F U m (nI i) = 0 then (nI i, bcV (nI i)) else clB F U m i := rfl
    have old : clB F U m i = (-1, nI (2 * U + 1)) ∨ ∃ b, b < i + 1 ∧ clB F U m i = (nI b, bcV (nI b)) := by
      rcases ih with h | ⟨b, hb, h⟩
      · exact Or.inl h
      · exact Or.inr ⟨b, by omega, h⟩
    rw [e]
    by_cases c : (clB F U m i).2 ≤ bcV (nI i)
    · rw [if_pos c]; exact old
    · rw [if_neg c]
      by_cases c1 : heldV F U m (nI i) = 0
      · rw [if_pos c1]; exact Or.inr ⟨i, by omega, rfl⟩
      · rw [if_neg c1]; exact old
theorem V_close {s : St} {F : Nat → Int32} {M T S E A U Y L P N : Nat} (v : VW s F M T S E A U Y L P N) (m : Int32) : f_X4_closingBounds m s = some ((clB F U m (2 ^ (2 * U))).1, s) := by
  have h2 := v.2.2.U256
  have hU := v.2.2.hU
  unfold f_X4_closingBounds
  rw [bnd_mk, show gf s 9 3 = nI U from v.2.2.cU, two_nI, nI_1]
  refine itr_cnt (fun i => (m, (clB F U m i).1, (clB F U m i).2, nI i, s)) (2 ^ (2 * U)) _ (fun i K hi => ?_) (fun K => ?_) (2 ^ (2 * U)) 0 FU (by omega) (by unfold FU; omega)
  · unfold g_X4_closingBounds_20 f_X4_closingBounds_57
    dsimp only
    rw [V_allR v, bd_mk, if_neg (lt_ge hi (by omega)), S_bc, bd_mk, V_held v, bd_mk, S_bc, bd_mk, nI_1]
    show _ = K (m, (if (clB F U m i).2 ≤ bcV (nI i) then clB F U m i else if heldV F U m (nI i) = 0 then (nI i, bcV (nI i)) else clB F U m i).1, (if (clB F U m i).2 ≤ bcV (nI i) then clB F U m i else if heldV F U m (nI i) = 0 then (nI i, bcV (nI i)) else clB F U m i).2, nI (i + 1), s)
    by_cases c : (clB F U m i).2 ≤ bcV (nI i)
    · rw [if_pos c, if_pos c]
      rfl
    · rw [if_neg c, if_neg c]
      by_cases c1 : heldV F U m (nI i) = 0
      · rw [if_pos c1, if_pos c1]
        rfl
      · rw [if_neg c1, if_neg c1]
        rfl
  · unfold g_X4_closingBounds_20
    dsimp only
    rw [V_allR v, bd_mk, if_pos (le_rf _)]
theorem M_inner {s : St} {F : Nat → Int32} {M T S E A U Y L P N : Nat} (v : VW s F M T S E A U Y L P N) {i : Nat} (m w : Int32) (hi : i < 2 ^ (2 * U)) (K : Int32 × Int32 × Int32 × St → Option (Int32 × St)) : f_X12_closedOf_31 K m w (nI i) s = K (m, (if heldV F U m (nI i) = 0 then nI i else w), nI (i + 1), s) := by
  have h2 := v.2.2.U256
  have hU := v.2.2.hU
  have e83 : ∀ f : Int32, f_X12_closedOf_83 K m w (nI i) f s = if f = 0 then K (m, w, nI (i + 1), s) else K (m, nI i, nI (i + 1), s) := fun f => by
    unfold f_X12_closedOf_83 f_X12_closedOf_93 f_X12_closedOf_94
    rw [nI_1]
    rfl
  have body : ∀ (Z : Int32 × Int32 × Int32 × Int32 × Int32 × St → Option (Int32 × St)) (j : Nat), j < 2 ^ (2 * U) → g_X12_closedOf_37 K Z (m, w, nI i, 1, nI j, s) = Z (m, w, nI i, (if (nI i &&& (nI j ^^^ (-1 : Int32))) = 0 ∧ heldV F U m (nI j) = 1 then 0 else 1), nI (j + 1), s) := fun Z j hj => by
    unfold g_X12_closedOf_37 f_X12_closedOf_70 f_X12_closedOf_75
    dsimp only
    rw [M_allR v, bd_mk, if_neg (lt_ge hj (by omega)), if_neg n10, M_held v, bd_mk, nI_1]
    by_cases c : (nI i &&& (nI j ^^^ (-1 : Int32))) = 0
    · rw [if_pos c]
      rcases held01 F U m (nI j) with e | e
      · rw [e, if_pos rfl, if_neg (fun z => absurd z.2 (by decide))]
        rfl
      · rw [e, if_neg n10, if_pos ⟨c, rfl⟩]
        rfl
    · rw [if_neg c, if_neg (fun z => c z.1)]
      rfl
  unfold f_X12_closedOf_31
  rcases held01 F U m (nI i) with e | e
  · rw [if_pos e]
    refine itr_cnt (fun j => (m, w, nI i, 1, nI j, s)) (2 ^ (2 * U)) _ (fun j Z hj => ?_) (fun Z => ?_) (2 ^ (2 * U)) 0 FU (by omega) (by unfold FU; omega)
    · rw [body Z j hj, if_neg]
      intro z
      rw [held_sup hU z.1 z.2] at e
      exact absurd e (by decide)
    · unfold g_X12_closedOf_37
      dsimp only
      rw [M_allR v, bd_mk, if_pos (le_rf _), e83, if_neg n10]
  · rw [if_neg (by rw [e]; decide)]
    obtain ⟨k, hk, hq, hl⟩ := least (Q := fun j => (nI i &&& (nI j ^^^ (-1 : Int32))) = 0 ∧ heldV F U m (nI j) = 1) i ⟨self_sup _, e⟩
    refine itr_cnt (fun j => (m, w, nI i, (if j ≤ k then 1 else 0), nI j, s)) (k + 1) _ (fun j Z hj => ?_) (fun Z => ?_) (k + 1) 0 FU (by omega) (by unfold FU; omega)
    · rw [if_pos (by omega), body Z j (by omega)]
      by_cases g : j = k
      · subst g
        rw [if_pos hq, if_neg (by omega)]
      · rw [if_neg (hl j (by omega)), if_pos (by omega)]
    · unfold g_X12_closedOf_37
      dsimp only
      rw [M_allR v, bd_mk, if_neg (show ¬ k + 1 ≤ k by omega), e83, if_pos rfl]
      by_cases g : nI (2 ^ (2 * U)) ≤ nI (k + 1)
      · rw [if_pos g]
      · rw [if_neg g, if_pos rfl]
theorem M_close {s : St} {F : Nat → Int32} {M T S E A U Y L P N : Nat} (v : VW s F M T S E A U Y L P N) (m : Int32) : f_X12_closedOf m s = some ((clB F U m (2 ^ (2 * U))).1, s) := by
  have h2 := v.2.2.U256
  have hU := v.2.2.hU
  unfold f_X12_closedOf
  refine itr_cnt (fun i => (m, (clB F U m i).1, nI i, s)) (2 ^ (2 * U)) _ (fun i K hi => ?_) (fun K => ?_) (2 ^ (2 * U)) 0 FU (by omega) (by unfold FU; omega)
  · unfold g_X12_closedOf_4 f_X12_closedOf_94
    dsimp only
    rw [M_allR v, bd_mk, if_neg (lt_ge hi (by omega)), S_bits, bd_mk, S_bits, bd_mk, M_inner v _ _ hi, nI_1]
    have nx : clB F U m (i + 1) = if (clB F U m i).2 ≤ bcV (nI i) then clB F U m i else if heldV F U m (nI i) = 0 then (nI i, bcV (nI i)) else clB F U m i := rfl
    rcases clB_inv F U m i with h | ⟨b, hb, h⟩
    · have hlt := bc_lt U (by omega) i hi
      rw [h] at nx
      dsimp only at nx
      rw [if_neg (show ¬ nI (2 * U + 1) ≤ bcV (nI i) from by rw [lt_toInt] at hlt; rw [le_toInt]; omega)] at nx
      rw [h, nx]
      dsimp only
      rw [if_pos rfl]
      by_cases c1 : heldV F U m (nI i) = 0
      · rw [if_pos c1, if_pos c1]
      · rw [if_neg c1, if_neg c1]
    · rw [h] at nx
      dsimp only at nx
      rw [h, nx]
      dsimp only
      rw [if_neg (nI_m1' (by omega)), ← bc_bits i (by omega), ← bc_bits b (by omega)]
      by_cases c : bcV (nI b) ≤ bcV (nI i)
      · rw [if_pos c, if_neg (by rw [le_toInt] at c; rw [lt_toInt]; omega)]
        rfl
      · rw [if_neg c, if_pos (by rw [le_toInt] at c; rw [lt_toInt]; omega)]
        by_cases c1 : heldV F U m (nI i) = 0
        · rw [if_pos c1, if_pos c1]
        · rw [if_neg c1, if_neg c1]
  · unfold g_X12_closedOf_4
    dsimp only
    rw [M_allR v, bd_mk, if_pos (le_rf _)]
theorem D_closed (a : Int32) (σ : St) (hI : IV σ) : ∃ r s1 s2, f_X11_closed a σ = some (r, s1) ∧ f_X12_closed a s1 = some (r, s2) ∧ IV s2 := by
  obtain ⟨M, T, S, E, A, U, Y, L, P, N, v⟩ := hI.vw
  unfold f_X11_closed f_X11_closed_21 f_X12_closed f_X12_closed_18
  rw [S_isPeace v, bd_mk]
  by_cases c : 1 ≤ N ∧ 0 ≤ a.toInt ∧ a.toInt ≤ 59
  · refine ⟨_, σ, σ, by rw [b2_t c, if_neg n10, V_close v, bd_mk], ?_, hI⟩
    rw [M_isSigned v, bd_mk, b2_t c, if_neg n10, M_close v, bd_mk]
  · refine ⟨-2, σ, σ, by rw [b2_f c, if_pos rfl], ?_, hI⟩
    rw [M_isSigned v, bd_mk, b2_f c, if_pos rfl]
theorem D_close (a : Int32) (σ : St) (hI : IV σ) : ∃ r s1 s2, f_X11_close a σ = some (r, s1) ∧ f_X12_close a s1 = some (r, s2) ∧ IV s2 := by
  obtain ⟨M, T, S, E, A, U, Y, L, P, N, v⟩ := hI.vw
  have h2 := v.2.2.U256
  unfold f_X11_close f_X11_close_33 f_X12_close f_X12_close_30
  rw [S_isPeace v, bd_mk]
  by_cases c : 1 ≤ N ∧ 0 ≤ a.toInt ∧ a.toInt ≤ 59
  · rw [b2_t c, if_neg n10, V_close v, bd_mk, S_bc, bd_mk]
    rcases clB_inv (gr σ 59) U a (2 ^ (2 * U)) with h | ⟨b, hb, h⟩
    · refine ⟨-1, σ, σ, by rw [h, if_pos rfl], ?_, hI⟩
      rw [M_isSigned v, bd_mk, b2_t c, if_neg n10, M_close v, bd_mk, h, if_pos rfl]
    · refine ⟨bcV (nI b), σ, σ, by rw [h, if_neg (nI_m1' (by omega))], ?_, hI⟩
      rw [M_isSigned v, bd_mk, b2_t c, if_neg n10, M_close v, bd_mk, h, if_neg (nI_m1' (by omega)), S_bits, bd_mk, bc_bits b (by omega)]
  · refine ⟨-2, σ, σ, by rw [b2_f c, if_pos rfl], ?_, hI⟩
    rw [M_isSigned v, bd_mk, b2_f c, if_pos rfl]
