/-! ===== image and back: the same of both ===== -/
theorem S_image (p : Int32) (σ : St) : f_X11_isImage p σ = some (b2 (0 ≤ p.toInt ∧ p.toInt ≤ 2), σ) := by
  unfold f_X11_isImage f_X11_isImage_13 f_X11_isImage_14
  rw [bz_0, bz_1, gd_tt, gd_tt]
  have z0 : (0 : Int32).toInt = 0 := rfl
  have z3 : (3 : Int32).toInt = 3 := rfl
  by_cases h1 : p < 0
  · rw [if_pos h1, b2_f]
    rw [lt_toInt] at h1
    omega
  · rw [if_neg h1]
    rw [lt_toInt] at h1
    by_cases h2 : (3 : Int32) ≤ p
    · rw [if_pos h2, b2_f]
      rw [le_toInt] at h2
      omega
    · rw [if_neg h2, b2_t]
      rw [le_toInt] at h2
      omega
theorem idx240 {k i : Nat} (hk : k < 3) (hi : i < 240) : (240 : Int32) * nI k + nI i = nI (240 * k + i) ∧ inb (nI (240 * k + i)) (ln 60) = true := by
  refine ⟨by rw [show (240 : Int32) = nI 240 from rfl, nI_mul, nI_add], inb_ln (n := 720) rfl (by omega) (by omega)⟩
theorem imgM {k : Nat} (hk : k < 3) : ∀ (c i Q : Nat) (τ : St), i + c = 240 → c < Q → (∀ j, j < i → gr τ 60 (240 * k + j) = gr τ 59 j) → ∃ τ', itr g_X12_image_17 Q (nI k, nI i, τ) = some (0, τ') ∧ (∀ j, j < 240 → gr τ' 60 (240 * k + j) = gr τ 59 j) ∧ (∀ j, (j < 240 * k ∨ 240 * k + 240 ≤ j) → gr τ' 60 j = gr τ 60 j) ∧ (∀ j, gr τ' 61 j = if j = k then 1 else gr τ 61 j) ∧ Fr [60, 61] τ τ' := by
  intro c
  induction c with
  | zero =>
    intro i Q τ hc hQ hj
    obtain ⟨R, rfl⟩ : ∃ R, Q = R + 1 := ⟨Q - 1, by omega⟩
    obtain rfl : i = 240 := by omega
    refine ⟨sr τ 61 k 1, ?_, fun j h => ?_, fun j h => ?_, fun j => ?_, Fr.c2 (by simp)⟩
    · rw [itr_succ]
      generalize itr g_X12_image_17 R = Z
      unfold g_X12_image_17
      dsimp only
      rw [if_pos (show (240 : Int32) ≤ nI 240 from by decide), inb_ln (n := 3) rfl hk (by omega), gd_tt, bnd_mk, nI_clamp (by omega)]
      rfl
    · rw [gr_sr_n _ _ _ _ (by decide)]
      exact hj j h
    · rw [gr_sr_n _ _ _ _ (by decide)]
    · rw [gr_sr_s]
  | succ c ih =>
    intro i Q τ hc hQ hj
    obtain ⟨R, rfl⟩ : ∃ R, Q = R + 1 := ⟨Q - 1, by omega⟩
    obtain ⟨e1, e2⟩ := idx240 hk (show i < 240 by omega)
    obtain ⟨τ', a1, a2, a3, a4, a5⟩ := ih (i + 1) R (sr τ 60 (240 * k + i) (gr τ 59 i)) (by omega) (by omega) (fun j h => by
      rw [gr_sr_s, gr_sr_n _ _ _ _ (by decide)]
      by_cases e : j = i
      · rw [if_pos (by omega), e]
      · rw [if_neg (by omega)]
        exact hj j (by omega))
    refine ⟨τ', ?_, fun j h => ?_, fun j h => ?_, fun j => ?_, (Fr.c2 (by simp)).tr a5⟩
    · rw [itr_succ, ← a1]
      generalize itr g_X12_image_17 R = Z
      unfold g_X12_image_17
      dsimp only
      rw [if_neg (show ¬ (240 : Int32) ≤ nI i from nI_ge (b := 240) (a := i) (by omega) (by omega)), inb_ln (n := 240) rfl (show i < 240 by omega) (by omega), gd_tt, e1, e2, gd_tt, bnd_mk, bnd_mk, nI_clamp (by omega), nI_clamp (by omega), nI_1]
    · rw [a2 j h, gr_sr_n _ _ _ _ (by decide)]
    · rw [a3 j h, gr_sr_s, if_neg (by omega)]
    · rw [a4 j, gr_sr_n _ _ _ _ (by decide)]
theorem bakM {k : Nat} (hk : k < 3) : ∀ (c i Q : Nat) (τ : St), i + c = 240 → c < Q → (∀ j, j < i → gr τ 59 j = gr τ 60 (240 * k + j)) → ∃ τ', itr g_X12_back_29 Q (nI k, nI i, τ) = some (0, τ') ∧ (∀ j, j < 240 → gr τ' 59 j = gr τ 60 (240 * k + j)) ∧ Fr [59] τ τ' := by
  intro c
  induction c with
  | zero =>
    intro i Q τ hc hQ hj
    obtain ⟨R, rfl⟩ : ∃ R, Q = R + 1 := ⟨Q - 1, by omega⟩
    obtain rfl : i = 240 := by omega
    refine ⟨τ, ?_, hj, Fr.rf⟩
    rw [itr_succ]
    generalize itr g_X12_back_29 R = Z
    unfold g_X12_back_29
    dsimp only
    rw [if_pos (show (240 : Int32) ≤ nI 240 from by decide)]
  | succ c ih =>
    intro i Q τ hc hQ hj
    obtain ⟨R, rfl⟩ : ∃ R, Q = R + 1 := ⟨Q - 1, by omega⟩
    obtain ⟨e1, e2⟩ := idx240 hk (show i < 240 by omega)
    obtain ⟨τ', a1, a2, a3⟩ := ih (i + 1) R (sr τ 59 i (gr τ 60 (240 * k + i))) (by omega) (by omega) (fun j h => by
      rw [gr_sr_s, gr_sr_n _ _ _ _ (by decide)]
      by_cases e : j = i
      · rw [if_pos e, e]
      · rw [if_neg e]
        exact hj j (by omega))
    refine ⟨τ', ?_, fun j h => ?_, (Fr.c2 (by simp)).tr a3⟩
    · rw [itr_succ, ← a1]
      generalize itr g_X12_back_29 R = Z
      unfold g_X12_back_29
      dsimp only
      rw [if_neg (show ¬ (240 : Int32) ≤ nI i from nI_ge (b := 240) (a := i) (by omega) (by omega)), e1, e2, gd_tt, inb_ln (n := 240) rfl (show i < 240 by omega) (by omega), gd_tt, bnd_mk, bnd_mk, nI_clamp (by omega), nI_clamp (by omega), nI_1]
    · rw [a2 j h, gr_sr_n _ _ _ _ (by decide)]
theorem isW_b {σ : St} {b : Nat} (h : b < gn σ) : isW σ (75 + 14 * b) = true := by
  unfold isW nA
  simp only [Bool.or_eq_true, Bool.and_eq_true, decide_eq_true_eq]
  exact Or.inr ⟨⟨by omega, by omega⟩, by omega⟩
theorem R_back (p : Int32) (σ : St) (hI : IV σ) : ∃ r s1 s2, f_X11_back p σ = some (r, s1) ∧ f_X12_back p s1 = some (r, s2) ∧ IV s2 ∧ (s2 = σ ∨ gf s2 31 5 = 0) := by
  by_cases c1 : ¬ (0 ≤ p.toInt ∧ p.toInt ≤ 2)
  · refine ⟨-2, σ, σ, ?_, ?_, hI, Or.inl rfl⟩
    · unfold f_X11_back
      rw [S_image, bd_mk, b2_f c1, if_pos rfl]
    · unfold f_X12_back
      rw [M_in (p := p) (lo := 0) (hi := 2) c1, bd_mk, if_pos rfl]
  replace c1 := Decidable.not_not.mp c1
  obtain ⟨k, hk', rfl⟩ := nI_ofT (x := p) (n := 2) c1.1 c1.2
  have hk : k < 3 := by omega
  have hc : f_X11_back (nI k) σ = match gm σ k with
    | none => some ((-6 : Int32), σ)
    | some b => bd (f_X10_become 1 (75 + 14 * b) σ) fun _ s3 => bd (f_X2_forget s3) fun _ s4 => some ((0 : Int32), s4) := by
    unfold f_X11_back
    rw [S_image, bd_mk, b2_t c1, if_neg n10, inb_nI hk (by omega), gd_tt, nI_clamp (by omega)]
    cases gm σ k <;> rfl
  have hm : ∀ s, f_X12_back (nI k) s = if gr s 61 k = 0 then some (-6, s) else itr g_X12_back_29 FU (nI k, 0, s) := fun s => by
    unfold f_X12_back
    rw [M_inY (p := nI k) (lo := 0) (hi := 2) c1, bd_mk, if_neg n10, inb_ln (n := 3) rfl hk (by omega), gd_tt, nI_clamp (by omega)]
  rcases hI.2.2.2.2.2.1 k hk with ⟨a1, a2⟩ | ⟨b, a1, a2, a3⟩
  · exact ⟨-6, σ, σ, by rw [hc, a1], by rw [hm, if_pos a2], hI, Or.inl rfl⟩
  · obtain ⟨s3, b1, b2', b3⟩ := S_bec (σ := σ) (w := 1) (u := 75 + 14 * b) (isW_lit (Or.inl rfl)) (isW_b (hI.2.2.2.1 k b a1)) (by omega)
    have F3 : Fr [1, 2, 3, 4, 5, 6, 7, 8, 9, 10, 11, 12, 13, 14, 31, 59] σ (sf s3 31 5 0) := (b3.fr.mo (by simp)).tr (Fr.c1 (by simp))
    obtain ⟨s2, d1, d2, d3⟩ := bakM hk 240 0 FU (sf s3 31 5 0) (by omega) (by unfold FU; omega) (fun j h => absurd h (by omega))
    refine ⟨0, sf s3 31 5 0, s2, ?_, ?_, ?_, Or.inr ?_⟩
    · rw [hc, a1]
      dsimp only
      unfold f_X2_forget
      rw [b1, bd_mk, bz_0, gd_tt, bnd_mk, bd_mk]
    · rw [hm, if_neg (by rw [(F3.1 61 (by decide)).2.1, a2]; decide)]
      exact d1
    · have F4 : Fr [1, 2, 3, 4, 5, 6, 7, 8, 9, 10, 11, 12, 13, 14, 31, 59] σ s2 := F3.tr (d3.mo (by simp))
      refine hI.wc F4 ?_
      have w1 : WN s3 1 (fun j => gr σ 60 (240 * k + j)) := a3.be b2'
      have w2 : WN s2 1 (fun j => gr σ 60 (240 * k + j)) := by
        have hf : Fr [31, 59] s3 s2 := (Fr.c1 (by simp)).tr (d3.mo (by simp))
        exact w1.kp (fun i h1 h2 => ⟨(hf.1 i (by simp; omega)).1, (hf.1 i (by simp; omega)).2.1⟩)
      refine w2.row (fun j hj => ?_)
      rw [d2 j hj, (F3.1 60 (by decide)).2.1]
    · rw [(d3.1 31 (by decide)).1, gf_sf_s, if_pos rfl]
theorem R_image (p : Int32) (σ : St) (hI : IV σ) : ∃ r s1 s2, f_X11_image p σ = some (r, s1) ∧ f_X12_image p s1 = some (r, s2) ∧ IV s2 ∧ (∀ i, i < 75 → i ≠ 60 → i ≠ 61 → gf s2 i = gf σ i ∧ gr s2 i = gr σ i) := by
  by_cases c1 : ¬ (0 ≤ p.toInt ∧ p.toInt ≤ 2)
  · refine ⟨-2, σ, σ, ?_, ?_, hI, fun _ _ _ _ => ⟨rfl, rfl⟩⟩
    · unfold f_X11_image
      rw [S_image, bd_mk, b2_f c1, if_pos rfl]
    · unfold f_X12_image
      rw [M_in (p := p) (lo := 0) (hi := 2) c1, bd_mk, if_pos rfl]
  replace c1 := Decidable.not_not.mp c1
  obtain ⟨k, hk', rfl⟩ := nI_ofT (x := p) (n := 2) c1.1 c1.2
  have hk : k < 3 := by omega
  have hc : f_X11_image (nI k) σ = match gm σ k with
    | none => bd (f_X10_become (75 + 14 * gn σ) 1 (sM (zI σ) k (gn σ))) fun _ s3 => some ((0 : Int32), s3)
    | some b => bd (f_X10_become (75 + 14 * b) 1 σ) fun _ s3 => some ((0 : Int32), s3) := by
    unfold f_X11_image
    rw [S_image, bd_mk, b2_t c1, if_neg n10, inb_nI hk (by omega), gd_tt, nI_clamp (by omega)]
    cases gm σ k <;> rfl
  have hm : ∀ s, f_X12_image (nI k) s = itr g_X12_image_17 FU (nI k, 0, s) := fun s => by
    unfold f_X12_image
    rw [M_inY (p := nI k) (lo := 0) (hi := 2) c1, bd_mk, if_neg n10]
  /- what follows for the state σ1 ahead of the copy, with block b -/
  have fin : ∀ (b : Nat) (σ1 : St), f_X11_image (nI k) σ = (bd (f_X10_become (75 + 14 * b) 1 σ1) fun _ s3 => some ((0 : Int32), s3)) → gm σ1 k = some b → b < gn σ1 → (∀ i, (i < 75 ∨ (75 ≤ i ∧ ∃ b' k', k' ≠ k ∧ gm σ k' = some b' ∧ 75 + 14 * b' ≤ i ∧ i < 75 + 14 * b' + 14)) → gf σ1 i = gf σ i ∧ gr σ1 i = gr σ i ∧ gj σ1 i = gj σ i) → (∀ k', k' ≠ k → gm σ1 k' = gm σ k') → MI σ1 → IJ σ1 → IC σ1 → ∃ r s1 s2, f_X11_image (nI k) σ = some (r, s1) ∧ f_X12_image (nI k) s1 = some (r, s2) ∧ IV s2 ∧ (∀ i, i < 75 → i ≠ 60 → i ≠ 61 → gf s2 i = gf σ i ∧ gr s2 i = gr σ i) := by
    intro b σ1 x1 x2 x3 x4 x5 x6 x7 x8
    obtain ⟨s3, b1, b2', b3⟩ := S_bec (σ := σ1) (w := 75 + 14 * b) (u := 1) (isW_b x3) (isW_lit (Or.inl rfl)) (by omega)
    obtain ⟨s2, d1, d2, d3, d4, d5⟩ := imgM hk 240 0 FU s3 (by omega) (by unfold FU; omega) (fun j h => absurd h (by omega))
    /- below 75 nothing changes but rows 60 and 61 -/
    have lo : ∀ i, i < 75 → i ≠ 60 → i ≠ 61 → gf s2 i = gf σ i ∧ gr s2 i = gr σ i ∧ gj s2 i = gj σ i := fun i h1 h2 h3 => by
      obtain ⟨u1, u2, u3⟩ := d5.1 i (by simp; omega)
      obtain ⟨v1, v2, v3⟩ := b3.1 i (by omega)
      obtain ⟨w1, w2, w3⟩ := x4 i (Or.inl h1)
      exact ⟨(u1.trans v1).trans w1, (u2.trans v2).trans w2, (u3.trans v3).trans w3⟩
    have r3 : ∀ i, i < 75 → gr s3 i = gr σ i := fun i h1 => by
      obtain ⟨v1, v2, v3⟩ := b3.1 i (by omega)
      obtain ⟨w1, w2, w3⟩ := x4 i (Or.inl h1)
      exact v2.trans w2
    have gm2 : gm s2 = gm σ1 := d5.2.1.trans b3.2.1
    have gn2 : gn s2 = gn σ1 := d5.2.2.trans b3.2.2
    refine ⟨0, s3, s2, by rw [x1, b1, bd_mk], by rw [hm]; exact d1, ?_, fun i h1 h2 h3 => ⟨(lo i h1 h2 h3).1, (lo i h1 h2 h3).2.1⟩⟩
    obtain ⟨q1, q2, q3, q4, q5, q6, q7, q8⟩ := hI
    refine ⟨?_, ?_, ?_, ?_, ?_, ?_, ?_, ?_⟩
    · obtain ⟨n, a1, a2, a3, a4, a5⟩ := q1
      refine ⟨n, a1, by rw [(lo 29 (by omega) (by omega) (by omega)).1]; exact a2, by rw [(lo 58 (by omega) (by omega) (by omega)).1]; exact a3, fun j hj => ?_, fun j hj => ?_⟩
      · rw [(lo 30 (by omega) (by omega) (by omega)).2.1, (lo 62 (by omega) (by omega) (by omega)).2.1]; exact a4 j hj
      · rw [(lo 30 (by omega) (by omega) (by omega)).2.1]; exact a5 j hj
    · intro s hs
      have := q2 s hs
      unfold SLs at *
      rw [(lo 53 (by omega) (by omega) (by omega)).2.1, (lo 54 (by omega) (by omega) (by omega)).2.1, (lo 55 (by omega) (by omega) (by omega)).2.1, (lo 71 (by omega) (by omega) (by omega)).2.1, (lo 72 (by omega) (by omega) (by omega)).2.1]
      exact this
    · unfold FE at *
      rw [(lo 29 (by omega) (by omega) (by omega)).1, (lo 58 (by omega) (by omega) (by omega)).1]
      exact q3
    · intro k' b' h'
      rw [gm2] at h'
      rw [gn2]
      exact x6 k' b' h'
    · rw [(lo 59 (by omega) (by omega) (by omega)).2.1]
      exact q5.kp (fun i h1 h2 => ⟨(lo i (by omega) (by omega) (by omega)).1, (lo i (by omega) (by omega) (by omega)).2.1⟩)
    · intro k' hk3
      by_cases e : k' = k
      · subst e
        refine Or.inr ⟨b, by rw [gm2]; exact x2, by rw [d4, if_pos rfl], ?_⟩
        have w0 : WN σ1 1 (gr σ 59) := q5.kp (fun i h1 h2 => ⟨(x4 i (Or.inl (by omega))).1, (x4 i (Or.inl (by omega))).2.1⟩)
        have w1 : WN s3 (75 + 14 * b) (gr σ 59) := w0.be b2'
        have w2 : WN s2 (75 + 14 * b) (gr σ 59) := w1.kp (fun i h1 h2 => ⟨(d5.1 i (by simp; omega)).1, (d5.1 i (by simp; omega)).2.1⟩)
        refine w2.row (fun j hj => ?_)
        rw [d2 j hj, r3 59 (by omega)]
      · rcases q6 k' hk3 with ⟨a1, a2⟩ | ⟨b', a1, a2, a3⟩
        · exact Or.inl ⟨by rw [gm2, x5 k' e]; exact a1, by rw [d4, if_neg e, r3 61 (by omega)]; exact a2⟩
        · refine Or.inr ⟨b', by rw [gm2, x5 k' e]; exact a1, by rw [d4, if_neg e, r3 61 (by omega)]; exact a2, ?_⟩
          have hbb : b' ≠ b := fun z => e (x7 k' k b (by rw [x5 k' e, a1, z]) x2)
          have w2 : WN s2 (75 + 14 * b') (fun j => gr σ 60 (240 * k' + j)) := a3.kp (fun i h1 h2 => by
            obtain ⟨u1, u2, u3⟩ := d5.1 i (by simp; omega)
            obtain ⟨v1, v2, v3⟩ := b3.1 i (by omega)
            obtain ⟨w1, w2, w3⟩ := x4 i (Or.inr ⟨by omega, b', k', e, a1, h1, h2⟩)
            exact ⟨(u1.trans v1).trans w1, (u2.trans v2).trans w2⟩)
          refine w2.row (fun j hj => ?_)
          rw [d3 _ (by omega), r3 60 (by omega)]
    · intro k1 k2 b'
      rw [gm2]
      exact x7 k1 k2 b'
    · unfold IC
      rw [gm2, gn2]
      exact x8
  obtain ⟨q1, q2, q3, q4, q5, q6, q7, q8⟩ := hI
  cases hg : gm σ k with
  | some b =>
    rw [hg] at hc
    exact fin b σ hc hg (q4 k b hg) (fun i _ => ⟨rfl, rfl, rfl⟩) (fun _ _ => rfl) q4 q7 q8
  | none =>
    rw [hg] at hc
    have m1 : ∀ k', gm (sM (zI σ) k (gn σ)) k' = if k' = k then some (gn σ) else gm σ k' := fun k' => rfl
    have n1 : gn (sM (zI σ) k (gn σ)) = gn σ + 1 := rfl
    refine fin (gn σ) (sM (zI σ) k (gn σ)) hc (by rw [m1, if_pos rfl]) (by rw [n1]; omega) (fun i hi => ?_) (fun k' e => by rw [m1, if_neg e]) ?_ ?_ ?_
    · have hn : i < nA σ := by
        unfold nA
        rcases hi with h | ⟨h, b', k', -, h2, h3, h4⟩
        · omega
        · have := q4 k' b' h2
          omega
      refine ⟨?_, ?_, rfl⟩
      · show (if _ then _ else _) = _
        rw [if_neg (by omega)]
        rfl
      · show (if _ then _ else _) = _
        rw [if_neg (by omega)]
        rfl
    · intro k' b' h'
      rw [m1] at h'
      rw [n1]
      by_cases e : k' = k
      · rw [if_pos e] at h'
        cases h'
        omega
      · rw [if_neg e] at h'
        have := q4 k' b' h'
        omega
    · intro k1 k2 b' h1 h2
      rw [m1] at h1 h2
      by_cases e1 : k1 = k
      · by_cases e2 : k2 = k
        · rw [e1, e2]
        · rw [if_pos e1] at h1
          rw [if_neg e2] at h2
          cases h1
          have := q4 k2 _ h2
          omega
      · by_cases e2 : k2 = k
        · rw [if_neg e1] at h1
          rw [if_pos e2] at h2
          cases h2
          have := q4 k1 _ h1
          omega
        · rw [if_neg e1] at h1
          rw [if_neg e2] at h2
          exact q7 k1 k2 b' h1 h2
    · clear c1
      unfold IC at *
      rw [n1, m1, m1, m1, q8]
      rcases (by omega : k = 0 ∨ k = 1 ∨ k = 2) with rfl | rfl | rfl
      · rw [if_pos rfl, if_neg (by omega), if_neg (by omega), hg]
        unfold c1
        dsimp only
        omega
      · rw [if_neg (by omega), if_pos rfl, if_neg (by omega), hg]
        unfold c1
        dsimp only
        omega
      · rw [if_neg (by omega), if_neg (by omega), if_pos rfl, hg]
        unfold c1
        dsimp only
