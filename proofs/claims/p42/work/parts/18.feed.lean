/-! ===== the TAPE: feed, end ===== -/
def bt (v k : Int32) : Int32 := vp_nar .byte ((v >>> k).toInt8.toInt32)
/-- one byte more behind the class's TAPE -/
def T1 (σ : St) (n : Nat) (x : Int32) : St := sf (sr σ 30 n x) 29 1 (nI (n + 1))
theorem gf_sf_s (σ : St) (i k j : Nat) (v : Int32) : gf (sf σ i k v) i j = if j = k then v else gf σ i j := by
  unfold sf
  rw [gf_sF, if_pos rfl]
  rfl
theorem gf_sf_n (σ : St) {i i' : Nat} (k j : Nat) (v : Int32) (h : i' ≠ i) : gf (sf σ i k v) i' j = gf σ i' j := by
  unfold sf
  rw [gf_sF, if_neg h]
theorem T1_len (σ : St) (n : Nat) (x : Int32) : gf (T1 σ n x) 29 1 = nI (n + 1) := by
  unfold T1
  rw [gf_sf_s, if_pos rfl]
theorem T1_fld (σ : St) (n j : Nat) (x : Int32) (h : j ≠ 1) : gf (T1 σ n x) 29 j = gf σ 29 j := by
  unfold T1
  rw [gf_sf_s, if_neg h]
  rfl
theorem T1_row (σ : St) (n j : Nat) (x : Int32) : gr (T1 σ n x) 30 j = if j = n then x else gr σ 30 j := by
  unfold T1
  show gr (sr σ 30 n x) 30 j = _
  rw [gr_sr_s]
theorem T1_fr (σ : St) (n : Nat) (x : Int32) : Fr [29, 30] σ (T1 σ n x) := (Fr.c2 (by simp)).tr (Fr.c1 (by simp))
theorem take_step (K : Int32 × Int32 × St → Option (Unit × St)) (v k k' : Int32) (σ : St) {n : Nat} (hn : n < 1200) (h : gf σ 29 1 = nI n) (hk : ¬ k < 0) (hk' : k &&& 31 = k) (he : k + (-8) = k') : g_X6_take_3 K (v, k, σ) = K (v, k', T1 σ n (bt v k)) := by
  unfold g_X6_take_3 f_X6_take_42
  dsimp only
  rw [if_neg hk, h, show nI (ln 30) = nI 1200 from rfl, if_neg (nI_ge (by omega) (by omega)), show ln 30 = 1200 from rfl, inb_nI hn (by decide), gd_tt, bnd_mk, bnd_mk, bnd_mk, he, hk', nI_clamp (by omega)]
  have e : gf (sr σ 30 n (vp_nar .byte ((v >>> k).toInt8.toInt32))) 29 1 = nI n := h
  rw [e, nI_1]
  rfl
theorem S_take (v : Int32) (σ : St) {n : Nat} (hn : n + 4 ≤ 1200) (h : gf σ 29 1 = nI n) : f_X6_take v σ = some ((), T1 (T1 (T1 (T1 σ n (bt v 24)) (n + 1) (bt v 16)) (n + 2) (bt v 8)) (n + 3) (bt v 0)) := by
  unfold f_X6_take
  rw [show FU = 4995 + 1 + 1 + 1 + 1 + 1 from rfl, itr_succ, take_step _ v 24 16 σ (by omega) h (by decide) (by decide) (by decide)]
  rw [itr_succ, take_step _ v 16 8 _ (n := n + 1) (by omega) (T1_len _ _ _) (by decide) (by decide) (by decide)]
  rw [itr_succ, take_step _ v 8 0 _ (n := n + 2) (by omega) (T1_len _ _ _) (by decide) (by decide) (by decide)]
  rw [itr_succ, take_step _ v 0 (-8) _ (n := n + 3) (by omega) (T1_len _ _ _) (by decide) (by decide) (by decide)]
  rfl
/-- behind a take: four bytes of a number -/
theorem take_sp (v : Int32) (σ : St) {n : Nat} (hn : n + 4 ≤ 1200) (h : gf σ 29 1 = nI n) : ∃ σ', f_X6_take v σ = some ((), σ') ∧ gf σ' 29 1 = nI (n + 4) ∧ (∀ j, j ≠ 1 → gf σ' 29 j = gf σ 29 j) ∧ (∀ j, gr σ' 30 j = if n ≤ j ∧ j < n + 4 then bt v (nI (24 - 8 * (j - n))) else gr σ 30 j) ∧ Fr [29, 30] σ σ' := by
  refine ⟨_, S_take v σ hn h, T1_len _ _ _, fun j hj => ?_, fun j => ?_, (((T1_fr _ _ _).tr (T1_fr _ _ _)).tr (T1_fr _ _ _)).tr (T1_fr _ _ _)⟩
  · rw [T1_fld _ _ _ _ hj, T1_fld _ _ _ _ hj, T1_fld _ _ _ _ hj, T1_fld _ _ _ _ hj]
  · rw [T1_row, T1_row, T1_row, T1_row]
    by_cases c3 : j = n + 3
    · rw [if_pos c3, if_pos (by omega), show 24 - 8 * (j - n) = 0 by omega]
      rfl
    · rw [if_neg c3]
      by_cases c2 : j = n + 2
      · rw [if_pos c2, if_pos (by omega), show 24 - 8 * (j - n) = 8 by omega]
        rfl
      · rw [if_neg c2]
        by_cases c1 : j = n + 1
        · rw [if_pos c1, if_pos (by omega), show 24 - 8 * (j - n) = 16 by omega]
          rfl
        · rw [if_neg c1]
          by_cases c0 : j = n
          · rw [if_pos c0, if_pos (by omega), show 24 - 8 * (j - n) = 24 by omega]
            rfl
          · rw [if_neg c0, if_neg (by omega)]
theorem fd20 : ∀ k : Nat, k < 20 → inb (nI k / 4) 5 = true ∧ (nI k / 4).toNatClampNeg = k / 4 ∧ (((24 : Int32) - 8 * (nI k - nI k / 4 * 4)) &&& 31) = nI (24 - 8 * (k % 4)) := by decide
theorem feed_loop {n : Nat} (hn : n + 20 ≤ 1200) : ∀ (c k q : Nat) (σ : St), k + c = 20 → c < q → gf σ 58 5 = nI n →
    ∃ σ', itr g_X12_feed_55 q (nI k, σ) = some (nI (n + 20), σ') ∧ gf σ' 58 5 = nI (n + 20) ∧ (∀ j, j ≠ 5 → gf σ' 58 j = gf σ 58 j) ∧ (∀ j, gr σ' 62 j = if n + k ≤ j ∧ j < n + 20 then bt (gr σ 63 ((j - n) / 4)) (nI (24 - 8 * ((j - n) % 4))) else gr σ 62 j) ∧ Fr [58, 62] σ σ' := by
  intro c
  induction c with
  | zero =>
    intro k q σ h hq hl
    obtain ⟨q, rfl⟩ : ∃ r, q = r + 1 := ⟨q - 1, by omega⟩
    obtain rfl : k = 20 := by omega
    refine ⟨sf σ 58 5 (nI (n + 20)), ?_, ?_, ?_, ?_, Fr.c1 (by simp)⟩
    · rw [itr_succ]
      unfold g_X12_feed_55
      dsimp only
      rw [show (20 : Int32) = nI 20 from rfl, if_pos (nI_le (by omega) (by omega)), bnd_mk, hl, nI_add, gf_sf_s, if_pos rfl]
    · rw [gf_sf_s, if_pos rfl]
    · intro j hj
      rw [gf_sf_s, if_neg hj]
    · intro j
      rw [if_neg (by omega)]
      rfl
  | succ c ih =>
    intro k q σ h hq hl
    obtain ⟨q, rfl⟩ : ∃ r, q = r + 1 := ⟨q - 1, by omega⟩
    obtain ⟨a1, a2, a3⟩ := fd20 k (by omega)
    rw [itr_succ]
    generalize hR : itr g_X12_feed_55 q = R
    unfold g_X12_feed_55
    dsimp only
    rw [show (20 : Int32) = nI 20 from rfl, if_neg (nI_ge (by omega) (by omega)), show ln 63 = 5 from rfl, a1, gd_tt, hl, nI_add, show ln 62 = 1200 from rfl, inb_nI (show n + k < 1200 by omega) (by decide), gd_tt, bnd_mk, bnd_mk, nI_1, a2, a3, nI_clamp (by omega)]
    have hl' : gf (sr σ 62 (n + k) (vp_nar .byte ((gr σ 63 (k / 4)) >>> nI (24 - 8 * (k % 4))).toInt8.toInt32)) 58 5 = nI n := hl
    obtain ⟨σ', e, f1, f2, f3, f4⟩ := ih (k + 1) q _ (by omega) (by omega) hl'
    rw [hR] at e
    refine ⟨σ', e, f1, fun j hj => f2 j hj, fun j => ?_, (Fr.c2 (by simp)).tr f4⟩
    rw [f3 j]
    by_cases c1 : n + (k + 1) ≤ j ∧ j < n + 20
    · rw [if_pos c1, if_pos (by omega), gr_sr_n _ _ _ _ (by decide)]
    · rw [if_neg c1, gr_sr_s]
      by_cases c2 : j = n + k
      · rw [if_pos c2, if_pos (by omega), show j - n = k by omega]
        rfl
      · rw [if_neg c2, if_neg (by omega)]
theorem bt_8 (v k : Int32) : -128 ≤ (bt v k).toInt ∧ (bt v k).toInt ≤ 127 := by
  unfold bt
  show -128 ≤ ((((v >>> k).toInt8.toInt32).toInt8).toInt32).toInt ∧ ((((v >>> k).toInt8.toInt32).toInt8).toInt32).toInt ≤ 127
  rw [Int8.toInt_toInt32]
  have h1 := Int8.le_toInt (((v >>> k).toInt8.toInt32).toInt8)
  have h2 := Int8.toInt_lt (((v >>> k).toInt8.toInt32).toInt8)
  omega
theorem ite8 {p : Prop} [Decidable p] {x y : Int32} (hx : -128 ≤ x.toInt ∧ x.toInt ≤ 127) (hy : ¬ p → -128 ≤ y.toInt ∧ y.toInt ≤ 127) : -128 ≤ (if p then x else y).toInt ∧ (if p then x else y).toInt ≤ 127 := by
  by_cases h : p
  · rw [if_pos h]; exact hx
  · rw [if_neg h]; exact hy h
/-- the TAPE as both have it -/
def TP (σ : St) : Prop := ∃ n : Nat, n ≤ 1200 ∧ gf σ 29 1 = nI n ∧ gf σ 58 5 = nI n ∧ (∀ j, j < n → gr σ 30 j = gr σ 62 j) ∧ ∀ j, j < n → -128 ≤ (gr σ 30 j).toInt ∧ (gr σ 30 j).toInt ≤ 127
def five (a b c d e : Int32) (k : Nat) : Int32 := if k = 0 then a else if k = 1 then b else if k = 2 then c else if k = 3 then d else e
theorem R_feed (a b c d e : Int32) (σ : St) (hT : TP σ) : ∃ r s1 s2, f_X11_feed a b c d e σ = some (r, s1) ∧ f_X12_feed a b c d e s1 = some (r, s2) ∧ TP s2 ∧ Fr [29, 30, 58, 62, 63] σ s2 ∧ (∀ j, j ≠ 1 → gf s2 29 j = gf σ 29 j) ∧ (∀ j, j ≠ 5 → gf s2 58 j = gf σ 58 j) := by
  obtain ⟨n, hn, h1, h2, h3, h4⟩ := hT
  unfold f_X11_feed f_X12_feed f_X6_hasRoom f_X6_hasRoom_17
  rw [h1, show (20 : Int32) = nI 20 from rfl, show (1200 : Int32) = nI 1200 from rfl, nI_add]
  by_cases hr : n + 20 ≤ 1200
  · rw [if_neg (nI_nlt hr (by omega)), bz_1, gd_tt, bd_mk, if_neg n10]
    obtain ⟨s5, t1, l1, w1, r1, f1⟩ := take_sp a σ (by omega) h1
    obtain ⟨s8, t2, l2, w2, r2, f2⟩ := take_sp b s5 (by omega) l1
    obtain ⟨s11, t3, l3, w3, r3, f3⟩ := take_sp c s8 (by omega) l2
    obtain ⟨s14, t4, l4, w4, r4, f4⟩ := take_sp d s11 (by omega) l3
    obtain ⟨s17, t5, l5, w5, r5, f5⟩ := take_sp e s14 (by omega) l4
    have F : Fr [29, 30] σ s17 := (((f1.tr f2).tr f3).tr f4).tr f5
    have h58 : gf s17 58 = gf σ 58 := (F.1 58 (by simp)).1
    have hl : gf (sr (sr (sr (sr (sr s17 63 0 a) 63 1 b) 63 2 c) 63 3 d) 63 4 e) 58 5 = nI n := by
      show gf s17 58 5 = nI n
      rw [h58]
      exact h2
    obtain ⟨s2, g1, g2, g3, g4, g5⟩ := feed_loop hr 20 0 FU _ (by omega) (by unfold FU; omega) hl
    have F2 : Fr [29, 30, 58, 62, 63] s17 s2 := (((((Fr.c2 (by simp)).tr (Fr.c2 (by simp))).tr (Fr.c2 (by simp))).tr (Fr.c2 (by simp))).tr (Fr.c2 (by simp))).tr (g5.mo (by simp))
    have hlen : gf s17 29 1 = nI (n + 20) := l5
    refine ⟨nI (n + 20), s17, s2, ?_, ?_, ⟨n + 20, hr, ?_, g2, ?_, ?_⟩, (F.mo (by simp)).tr F2, ?_, ?_⟩
    · rw [t1, bd_mk, t2, bd_mk, t3, bd_mk, t4, bd_mk, t5, bd_mk, hlen]
    · rw [h58, h2, nI_add, if_pos (nI_le hr (by omega))]
      exact g1
    · rw [show gf s2 29 = gf s17 29 from ((g5.1 29 (by simp)).1).trans rfl]
      exact hlen
    · intro j hj
      rw [show gr s2 30 = gr s17 30 from ((g5.1 30 (by simp)).2.1).trans rfl, g4 j]
      have h63 : ∀ k, k < 5 → gr (sr (sr (sr (sr (sr s17 63 0 a) 63 1 b) 63 2 c) 63 3 d) 63 4 e) 63 k = five a b c d e k := fun k hk => by
        rcases (show k = 0 ∨ k = 1 ∨ k = 2 ∨ k = 3 ∨ k = 4 by omega) with rfl | rfl | rfl | rfl | rfl <;> rfl
      have h62 : ∀ k, gr (sr (sr (sr (sr (sr s17 63 0 a) 63 1 b) 63 2 c) 63 3 d) 63 4 e) 62 k = gr σ 62 k := fun k => by
        show gr s17 62 k = _
        rw [(F.1 62 (by simp)).2.1]
      rw [h62]
      by_cases c0 : n ≤ j
      · rw [if_pos (by omega), h63 _ (by omega), r5 j, r4 j, r3 j, r2 j, r1 j]
        by_cases d4 : n + 16 ≤ j
        · rw [if_pos (by omega), show (j - n) / 4 = 4 by omega, show (j - n) % 4 = j - (n + 4 + 4 + 4 + 4) by omega]
          rfl
        · rw [if_neg (by omega)]
          by_cases d3 : n + 12 ≤ j
          · rw [if_pos (by omega), show (j - n) / 4 = 3 by omega, show (j - n) % 4 = j - (n + 4 + 4 + 4) by omega]
            rfl
          · rw [if_neg (by omega)]
            by_cases d2 : n + 8 ≤ j
            · rw [if_pos (by omega), show (j - n) / 4 = 2 by omega, show (j - n) % 4 = j - (n + 4 + 4) by omega]
              rfl
            · rw [if_neg (by omega)]
              by_cases d1 : n + 4 ≤ j
              · rw [if_pos (by omega), show (j - n) / 4 = 1 by omega, show (j - n) % 4 = j - (n + 4) by omega]
                rfl
              · rw [if_neg (by omega), if_pos (by omega), show (j - n) / 4 = 0 by omega, show (j - n) % 4 = j - n by omega]
                rfl
      · rw [if_neg (by omega), r5 j, r4 j, r3 j, r2 j, r1 j, if_neg (by omega), if_neg (by omega), if_neg (by omega), if_neg (by omega), if_neg (by omega)]
        exact h3 j (by omega)
    · intro j hj
      rw [show gr s2 30 = gr s17 30 from ((g5.1 30 (by simp)).2.1).trans rfl, r5 j, r4 j, r3 j, r2 j, r1 j]
      exact ite8 (bt_8 _ _) fun n5 => ite8 (bt_8 _ _) fun n4 => ite8 (bt_8 _ _) fun n3 => ite8 (bt_8 _ _) fun n2 => ite8 (bt_8 _ _) fun n1 => h4 j (by omega)
    · intro j hj
      rw [show gf s2 29 = gf s17 29 from ((g5.1 29 (by simp)).1).trans rfl, w5 j hj, w4 j hj, w3 j hj, w2 j hj, w1 j hj]
    · intro j hj
      rw [g3 j hj]
      show gf s17 58 j = _
      rw [h58]
  · rw [if_pos (nI_lt (by omega) (by omega)), bz_0, gd_tt, bd_mk, if_pos rfl]
    refine ⟨-1, σ, σ, rfl, ?_, ⟨n, hn, h1, h2, h3, h4⟩, Fr.rf, fun _ _ => rfl, fun _ _ => rfl⟩
    rw [h2, nI_add, if_neg (nI_ge (by omega) (by omega))]
theorem R_end (a : Int32) (σ : St) (hT : TP σ) : ∃ r s1 s2, f_X11_end a σ = some (r, s1) ∧ f_X12_end a s1 = some (r, s2) ∧ TP s2 ∧ Fr [29, 58] σ s2 ∧ (∀ j, j ≠ 1 → gf s2 29 j = gf σ 29 j) ∧ (∀ j, j ≠ 5 → gf s2 58 j = gf σ 58 j) := by
  obtain ⟨n, hn, h1, h2, h3, h4⟩ := hT
  have z0 : (0 : Int32).toInt = 0 := rfl
  unfold f_X11_end f_X12_end f_X6_cut f_X6_cut_12 f_X11_end_16
  simp only [S_in, bd_mk, bz_0, bz_1, gd_tt, bnd_mk, h1]
  by_cases c : 0 ≤ a.toInt ∧ a.toInt ≤ n
  · have c1 : ¬ a < 0 := by rw [lt_toInt]; omega
    have c2 : a ≤ nI n := by rw [le_toInt, nI_toInt (by omega)]; omega
    rw [if_neg c1, if_pos c2, bd_mk, if_neg n10]
    obtain ⟨m, hm, rfl⟩ := nI_ofT (n := n) c.1 c.2
    refine ⟨nI m, sf σ 29 1 (nI m), sf (sf σ 29 1 (nI m)) 58 5 (nI m), rfl, ?_, ⟨m, by omega, ?_, ?_, fun j hj => h3 j (by omega), fun j hj => h4 j (by omega)⟩, (Fr.c1 (by simp)).tr (Fr.c1 (by simp)), ?_, ?_⟩
    · have h2' : gf (sf σ 29 1 (nI m)) 58 5 = nI n := h2
      rw [h2', b2_t (by rw [Int32.toInt_toInt64, Int32.toInt_toInt64, nI_toInt (show n < 2 ^ 31 by omega)]; exact c), if_neg n10]
    · rw [gf_sf_n _ _ _ _ (by decide), gf_sf_s, if_pos rfl]
    · rw [gf_sf_s, if_pos rfl]
    · intro j hj
      rw [gf_sf_n _ _ _ _ (by decide), gf_sf_s, if_neg hj]
    · intro j hj
      rw [gf_sf_s, if_neg hj, gf_sf_n _ _ _ _ (by decide)]
  · have e : (if a < 0 then some ((0 : Int32), σ) else if a ≤ nI n then some (1, sf σ 29 1 a) else some (0, σ)) = some (0, σ) := by
      by_cases c1 : a < 0
      · rw [if_pos c1]
      · rw [if_neg c1, if_neg]
        rw [lt_toInt] at c1
        rw [le_toInt, nI_toInt (by omega)]
        omega
    rw [e, bd_mk, if_pos rfl]
    refine ⟨-1, σ, σ, rfl, ?_, ⟨n, hn, h1, h2, h3, h4⟩, Fr.rf, fun _ _ => rfl, fun _ _ => rfl⟩
    rw [h2, b2_f (by rw [Int32.toInt_toInt64, Int32.toInt_toInt64, nI_toInt (show n < 2 ^ 31 by omega)]; exact c), if_pos rfl]
