/-! ===== one WAR's block becomes another's ===== -/
def Fb (w : Nat) (σ σ' : St) : Prop := (∀ i, (i < w ∨ w + 14 ≤ i) → gf σ' i = gf σ i ∧ gr σ' i = gr σ i ∧ gj σ' i = gj σ i) ∧ gm σ' = gm σ ∧ gn σ' = gn σ
def BE (σ σ' : St) (w u : Nat) : Prop := (∀ k, k < 5 → gf σ' w k = gf σ u k) ∧ (∀ j, j < 2 → gr σ' (w + 1) j = gr σ (u + 1) j) ∧ ∀ t, (t = 2 ∨ t = 4 ∨ t = 6 ∨ t = 8 ∨ t = 10 ∨ t = 12) → gf σ' (w + t) 3 = gf σ (u + t) 3 ∧ ∀ j, j < lW (t + 1) → gr σ' (w + t + 1) j = gr σ (u + t + 1) j
theorem TV.be {σ σ' : St} {t u : Nat} {F : Nat → Int32} {ix base wd room : Nat} {lo hi : List Int} (h : TV σ u F ix base wd room lo hi) (h1 : gf σ' t 3 = gf σ u 3) (h2 : ∀ j, j < wd * room → gr σ' (t + 1) j = gr σ (u + 1) j) : TV σ' t F ix base wd room lo hi := by
  obtain ⟨k, k1, k2, k3, k4⟩ := h
  refine ⟨k, k1, h1.trans k2, k3, fun i hi c hc => ?_⟩
  have hb : i * wd + c < wd * room := by
    have : (i + 1) * wd ≤ room * wd := Nat.mul_le_mul_right _ (by omega)
    rw [Nat.add_mul, Nat.one_mul] at this
    rw [Nat.mul_comm wd room]
    omega
  rw [h2 _ hb]
  exact k4 i hi c hc
theorem WR.be {σ σ' : St} {w u : Nat} {F : Nat → Int32} (h : WR σ u F) (hb : BE σ σ' w u) : WR σ' w F := by
  obtain ⟨hH, hT, hE, hA, hU, hY, hS1, hS2, hS3, hC⟩ := h
  obtain ⟨b1, b2', b3⟩ := hb
  refine ⟨?_, hT.be (b3 2 (by simp)).1 (b3 2 (by simp)).2, hE.be (b3 4 (by simp)).1 (b3 4 (by simp)).2, hA.be (b3 6 (by simp)).1 (b3 6 (by simp)).2, hU.be (b3 8 (by simp)).1 (b3 8 (by simp)).2, hY.be (b3 10 (by simp)).1 (b3 10 (by simp)).2, hS1, hS2, hS3, ?_⟩
  · obtain ⟨l, m, a, p, r, d, e, y1, y2, y3, y4, y5, y6, y7, y8, u1, u2, u3, u4, u5, u6, u7, u8, u9, u10, u11, u12, u13, u14⟩ := hH
    exact ⟨l, m, a, p, r, d, e, y1, y2, y3, y4, y5, y6, y7, y8, (b1 0 (by omega)).trans u1, u2, (b1 1 (by omega)).trans u3, u4, (b1 2 (by omega)).trans u5, u6, (b1 3 (by omega)).trans u7, u8, (b1 4 (by omega)).trans u9, u10, (b2' 0 (by omega)).trans u11, u12, (b2' 1 (by omega)).trans u13, u14⟩
  · obtain ⟨k, k1, k2, k3, k4⟩ := hC
    obtain ⟨c1, c2⟩ := b3 12 (by simp)
    refine ⟨k, k1, c1.trans k2, k3, fun j hj => ?_⟩
    have c2' : ∀ j, j < 180 → gr σ' (w + 13) j = gr σ (u + 13) j := c2
    unfold CE at *
    obtain ⟨row, what, old, m, z1, z2, z3, z4, z5, z6⟩ := k4 j hj
    exact ⟨row, what, old, m, z1, z2, (c2' _ (by omega)).trans z3, (c2' _ (by omega)).trans z4, (c2' _ (by omega)).trans z5, z6⟩
theorem S_tbe {σ : St} {t u N : Nat} (ht : isT σ t = true) (hu : isT σ u = true) (hl : ln (t + 1) = N) (hl' : ln (u + 1) = N) (hN : N ≤ 180) : ∃ σ', f_X9_become t u σ = some ((), σ') ∧ gf σ' t 3 = gf σ u 3 ∧ (∀ j, j < N → gr σ' (t + 1) j = gr σ (u + 1) j) ∧ (∀ i, i ≠ t → gf σ' i = gf σ i) ∧ (∀ i, i ≠ t + 1 → gr σ' i = gr σ i) ∧ gj σ' = gj σ ∧ gm σ' = gm σ ∧ gn σ' = gn σ := by
  unfold f_X9_become
  rw [ht, gd_tt, hu, gd_tt, bnd_mk, hl, hl', if_neg (nI_nlt (Nat.le_refl _) (by omega))]
  have hc : cpok (0 : Int32) (0 : Int32) (nI N) N N = true := by
    unfold cpok
    rw [nI_clamp (by omega)]
    simp only [Bool.and_eq_true, decide_eq_true_eq]
    refine ⟨⟨⟨⟨by decide, by decide⟩, nI_pos (by omega)⟩, ?_⟩, ?_⟩ <;> show 0 + N ≤ N <;> omega
  rw [hc, gd_tt, bnd_mk, nI_clamp (by omega)]
  refine ⟨_, rfl, ?_, fun j hj => ?_, fun i hi => ?_, fun i hi => ?_, rfl, rfl, rfl⟩
  · show gf (sf σ t 3 (gf σ u 3)) t 3 = _
    rw [gf_sf_s, if_pos rfl]
  · rw [gr_sRs]
    show va_cpy (gr σ (u + 1)) (gr σ (t + 1)) 0 0 N j = _
    unfold va_cpy
    rw [if_pos (by omega)]
    congr 1
    omega
  · show gf (sf σ t 3 (gf σ u 3)) i = _
    funext k
    rw [gf_sf_n _ _ _ _ hi]
  · rw [gr_sRn _ _ hi]
    rfl
set_option maxHeartbeats 4000000 in
theorem S_bec {σ : St} {w u : Nat} (hw : isW σ w = true) (hu : isW σ u = true) (hd : w + 14 ≤ u ∨ u + 14 ≤ w) : ∃ σ', f_X10_become w u σ = some ((), σ') ∧ BE σ σ' w u ∧ Fb w σ σ' := by
  have gW : ∀ {s : St} {x : Nat}, gn s = gn σ → isW σ x = true → isW s x = true := fun {s x} hg hx => by
    unfold isW nA at *
    rw [hg]; exact hx
  have kT : ∀ t, (t = 2 ∨ t = 4 ∨ t = 6 ∨ t = 8 ∨ t = 10 ∨ t = 12) → t + 1 < 14 ∧ kW t = 8 ∧ kW (t + 1) = 13 := fun t h => by
    rcases h with rfl | rfl | rfl | rfl | rfl | rfl <;> exact ⟨by decide, by decide, by decide⟩
  have lT : ∀ x t, isW σ x = true → (t = 2 ∨ t = 4 ∨ t = 6 ∨ t = 8 ∨ t = 10 ∨ t = 12) → ln (x + t + 1) = lW (t + 1) := fun x t hx h => by
    rw [Nat.add_assoc]
    exact isW_ln hx (t + 1) (by omega)
  have lb : ∀ t, (t = 2 ∨ t = 4 ∨ t = 6 ∨ t = 8 ∨ t = 10 ∨ t = 12) → lW (t + 1) ≤ 180 := fun t h => by
    rcases h with rfl | rfl | rfl | rfl | rfl | rfl <;> decide
  have step : ∀ (s : St) (t : Nat), gn s = gn σ → (t = 2 ∨ t = 4 ∨ t = 6 ∨ t = 8 ∨ t = 10 ∨ t = 12) → ∃ s', f_X9_become (w + t) (u + t) s = some ((), s') ∧ gf s' (w + t) 3 = gf s (u + t) 3 ∧ (∀ j, j < lW (t + 1) → gr s' (w + t + 1) j = gr s (u + t + 1) j) ∧ (∀ i, i ≠ w + t → gf s' i = gf s i) ∧ (∀ i, i ≠ w + t + 1 → gr s' i = gr s i) ∧ gj s' = gj s ∧ gm s' = gm s ∧ gn s' = gn s := fun s t hg ht =>
    S_tbe (isW_T (gW hg hw) t (kT t ht)) (isW_T (gW hg hu) t (kT t ht)) (lT w t hw ht) (lT u t hu ht) (lb t ht)
  have l1w : ln (w + 1) = 2 := isW_ln hw 1 (by omega)
  have l1u : ln (u + 1) = 2 := isW_ln hu 1 (by omega)
  have i0 : inb (0 : Int32) 2 = true := rfl
  have i1 : inb (1 : Int32) 2 = true := rfl
  unfold f_X10_become
  rw [hw, gd_tt, hu, gd_tt]
  simp only [bnd_mk, l1w, l1u, i0, i1, gd_tt, show (0 : Int32).toNatClampNeg = 0 from rfl, show (1 : Int32).toNatClampNeg = 1 from rfl]
  generalize hs : sr (sr (sf (sf (sf (sf (sf σ w 0 (gf σ u 0)) w 1 _) w 2 _) w 3 _) w 4 _) (w + 1) 0 _) (w + 1) 1 _ = s0
  have hgn : gn s0 = gn σ := by rw [← hs]; rfl
  have hgm : gm s0 = gm σ := by rw [← hs]; rfl
  have hgj : gj s0 = gj σ := by rw [← hs]; rfl
  have hne : u ≠ w := by omega
  have hf : ∀ i, i ≠ w → gf s0 i = gf σ i := fun i hi => by
    rw [← hs]
    funext k
    show gf (sf (sf (sf (sf (sf σ w 0 _) w 1 _) w 2 _) w 3 _) w 4 _) i k = _
    rw [gf_sf_n _ _ _ _ hi, gf_sf_n _ _ _ _ hi, gf_sf_n _ _ _ _ hi, gf_sf_n _ _ _ _ hi, gf_sf_n _ _ _ _ hi]
  have hr : ∀ i, i ≠ w + 1 → gr s0 i = gr σ i := fun i hi => by
    rw [← hs]
    funext k
    rw [gr_sr_n _ _ _ _ hi, gr_sr_n _ _ _ _ hi]
    rfl
  have hfw : ∀ k, k < 5 → gf s0 w k = gf σ u k := fun k hk => by
    rw [← hs]
    show gf (sf (sf (sf (sf (sf σ w 0 _) w 1 _) w 2 _) w 3 _) w 4 _) w k = _
    simp only [gf_sf_n _ _ _ _ hne]
    rw [gf_sf_s, gf_sf_s, gf_sf_s, gf_sf_s, gf_sf_s]
    rcases (show k = 0 ∨ k = 1 ∨ k = 2 ∨ k = 3 ∨ k = 4 by omega) with rfl | rfl | rfl | rfl | rfl <;> simp
  have hrw : ∀ j, j < 2 → gr s0 (w + 1) j = gr σ (u + 1) j := fun j hj => by
    rw [← hs]
    rw [gr_sr_s, gr_sr_s, gr_sr_n _ _ _ _ (show u + 1 ≠ w + 1 by omega)]
    rcases (show j = 0 ∨ j = 1 by omega) with rfl | rfl <;> simp <;> rfl
  clear hs
  obtain ⟨s1, a1, a2, a3, a4, a5, a6, a7, a8⟩ := step s0 2 hgn (by simp)
  obtain ⟨s2, b1, b2', b3, b4, b5, b6, b7, b8⟩ := step s1 4 (by rw [a8, hgn]) (by simp)
  obtain ⟨s3, c1, c2, c3, c4, c5, c6, c7, c8⟩ := step s2 6 (by rw [b8, a8, hgn]) (by simp)
  obtain ⟨s4, d1, d2, d3, d4, d5, d6, d7, d8⟩ := step s3 8 (by rw [c8, b8, a8, hgn]) (by simp)
  obtain ⟨s5, e1, e2, e3, e4, e5, e6, e7, e8⟩ := step s4 10 (by rw [d8, c8, b8, a8, hgn]) (by simp)
  obtain ⟨s6, f1, f2, f3, f4, f5, f6, f7, f8⟩ := step s5 12 (by rw [e8, d8, c8, b8, a8, hgn]) (by simp)
  refine ⟨s6, ?_, ⟨fun k hk => ?_, fun j hj => ?_, fun t ht => ?_⟩, fun i hi => ⟨?_, ?_, ?_⟩, ?_, ?_⟩
  · rw [a1, bd_mk, gW (show gn s1 = gn σ by rw [a8, hgn]) hw, gd_tt, gW (show gn s1 = gn σ by rw [a8, hgn]) hu, gd_tt, b1, bd_mk, gW (show gn s2 = gn σ by rw [b8, a8, hgn]) hw, gd_tt, gW (show gn s2 = gn σ by rw [b8, a8, hgn]) hu, gd_tt, c1, bd_mk, gW (show gn s3 = gn σ by rw [c8, b8, a8, hgn]) hw, gd_tt, gW (show gn s3 = gn σ by rw [c8, b8, a8, hgn]) hu, gd_tt, d1, bd_mk, gW (show gn s4 = gn σ by rw [d8, c8, b8, a8, hgn]) hw, gd_tt, gW (show gn s4 = gn σ by rw [d8, c8, b8, a8, hgn]) hu, gd_tt, e1, bd_mk, gW (show gn s5 = gn σ by rw [e8, d8, c8, b8, a8, hgn]) hw, gd_tt, gW (show gn s5 = gn σ by rw [e8, d8, c8, b8, a8, hgn]) hu, gd_tt, f1, bd_mk]
  · rw [f4 _ (by omega), e4 _ (by omega), d4 _ (by omega), c4 _ (by omega), b4 _ (by omega), a4 _ (by omega)]
    exact hfw k hk
  · rw [f5 _ (by omega), e5 _ (by omega), d5 _ (by omega), c5 _ (by omega), b5 _ (by omega), a5 _ (by omega)]
    exact hrw j hj
  · rcases ht with rfl | rfl | rfl | rfl | rfl | rfl
    · refine ⟨?_, fun j hj => ?_⟩
      · rw [f4 _ (by omega), e4 _ (by omega), d4 _ (by omega), c4 _ (by omega), b4 _ (by omega), a2, hf _ (by omega)]
      · rw [f5 _ (by omega), e5 _ (by omega), d5 _ (by omega), c5 _ (by omega), b5 _ (by omega), a3 j hj, hr _ (by omega)]
    · refine ⟨?_, fun j hj => ?_⟩
      · rw [f4 _ (by omega), e4 _ (by omega), d4 _ (by omega), c4 _ (by omega), b2', a4 _ (by omega), hf _ (by omega)]
      · rw [f5 _ (by omega), e5 _ (by omega), d5 _ (by omega), c5 _ (by omega), b3 j hj, a5 _ (by omega), hr _ (by omega)]
    · refine ⟨?_, fun j hj => ?_⟩
      · rw [f4 _ (by omega), e4 _ (by omega), d4 _ (by omega), c2, b4 _ (by omega), a4 _ (by omega), hf _ (by omega)]
      · rw [f5 _ (by omega), e5 _ (by omega), d5 _ (by omega), c3 j hj, b5 _ (by omega), a5 _ (by omega), hr _ (by omega)]
    · refine ⟨?_, fun j hj => ?_⟩
      · rw [f4 _ (by omega), e4 _ (by omega), d2, c4 _ (by omega), b4 _ (by omega), a4 _ (by omega), hf _ (by omega)]
      · rw [f5 _ (by omega), e5 _ (by omega), d3 j hj, c5 _ (by omega), b5 _ (by omega), a5 _ (by omega), hr _ (by omega)]
    · refine ⟨?_, fun j hj => ?_⟩
      · rw [f4 _ (by omega), e2, d4 _ (by omega), c4 _ (by omega), b4 _ (by omega), a4 _ (by omega), hf _ (by omega)]
      · rw [f5 _ (by omega), e3 j hj, d5 _ (by omega), c5 _ (by omega), b5 _ (by omega), a5 _ (by omega), hr _ (by omega)]
    · refine ⟨?_, fun j hj => ?_⟩
      · rw [f2, e4 _ (by omega), d4 _ (by omega), c4 _ (by omega), b4 _ (by omega), a4 _ (by omega), hf _ (by omega)]
      · rw [f3 j hj, e5 _ (by omega), d5 _ (by omega), c5 _ (by omega), b5 _ (by omega), a5 _ (by omega), hr _ (by omega)]
  · rw [f4 _ (by omega), e4 _ (by omega), d4 _ (by omega), c4 _ (by omega), b4 _ (by omega), a4 _ (by omega), hf _ (by omega)]
  · rw [f5 _ (by omega), e5 _ (by omega), d5 _ (by omega), c5 _ (by omega), b5 _ (by omega), a5 _ (by omega), hr _ (by omega)]
  · rw [f6, e6, d6, c6, b6, a6, hgj]
  · rw [f7, e7, d7, c7, b7, a7, hgm]
  · rw [f8, e8, d8, c8, b8, a8, hgn]
