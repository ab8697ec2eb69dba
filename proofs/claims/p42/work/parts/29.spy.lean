/-! ===== a spy's LINE ===== -/
theorem nI_or (a b : Nat) : nI a ||| nI b = nI (a ||| b) := by
  apply Int32.toBitVec.inj
  show BitVec.ofNat 32 a ||| BitVec.ofNat 32 b = BitVec.ofNat 32 (a ||| b)
  apply BitVec.eq_of_toNat_eq
  simp [BitVec.toNat_or, BitVec.toNat_ofNat, Nat.or_mod_two_pow]
theorem nI_sh1 : ∀ t, t < 31 → (1 : Int32) <<< (nI t &&& 31) = nI (2 ^ t) := by decide +kernel
/-- the class has no FAULT yet, and one at its TOKEN to come; the reference has it -/
def PB (σ τ : St) (n : Nat) : Prop := LX σ n ∧ ok σ ∧ ¬ gf σ 29 7 = 4 ∧ ∃ q : Nat, q ≤ 1200 ∧ gf σ 29 5 = nI q ∧ gf τ 58 12 = nI 1 ∧ gf τ 58 13 = nI q
def SC (σ τ : St) (m k : Nat) : Prop := gf σ 17 3 = nI m ∧ gr τ 64 4 = nI m ∧ m ≤ 9 ∧ gf σ 25 3 = nI (k + 1) ∧ gr τ 64 8 = nI k ∧ k < 5
/-- what the reference does with the set behind a number -/
def spyM (Q : Nat) (x : Int32) (τ : St) : Option (Unit × St) :=
  if (gf τ 58 10) = (3 : Int32) then
    gd (inb (8 : Int32) (ln 64)) <|
    gd (inb ((115 : Int32) + (gr τ 64 (8 : Int32).toNatClampNeg)) (ln 64)) <|
    bnd (sr τ 64 ((115 : Int32) + (gr τ 64 (8 : Int32).toNatClampNeg)).toNatClampNeg x) fun s11 =>
    gd (inb (8 : Int32) (ln 64)) <|
    gd (inb (8 : Int32) (ln 64)) <|
    bnd (sr s11 64 (8 : Int32).toNatClampNeg ((gr s11 64 (8 : Int32).toNatClampNeg) + (1 : Int32))) fun s14 =>
    some ((), s14)
  else
    itr g_X12_readSpy_8 Q (x, τ)
/-- how a spy's LINE ends -/
def SPo (σ σ' τ τ' : St) (n m k : Nat) : Prop := (GD σ' τ' n ∧ (∃ y : Nat, y < 2 ^ m ∧ gr σ' 26 k = nI y ∧ gr τ' 64 (115 + k) = nI y) ∧ (∀ j, j ≠ k → gr σ' 26 j = gr σ 26 j) ∧ gr τ' 64 8 = nI (k + 1) ∧ (∀ j, j ≠ 8 → j ≠ 115 + k → gr τ' 64 j = gr τ 64 j) ∧ (gf σ 29 5).toInt ≤ (gf σ' 29 5).toInt) ∨ (BD σ' τ' ∧ gr τ' 64 = gr τ 64) ∨ (PB σ' τ' n ∧ gr τ' 64 = gr τ 64)
theorem spy_set {σ : St} {k : Nat} (hk : k < 5) (x : Int32) (h : gf σ 25 3 = nI (k + 1)) : f_X6_readSpy_89 x σ = some ((), sr σ 26 k x) := by
  unfold f_X6_readSpy_89
  have := S_set (c := 0) tb25 hk (by omega) x h
  rw [h, show (0 : Int32) = nI 0 from rfl, this, bd_mk, Nat.mul_one]
  rfl
theorem spy_num {τ : St} (Q : Nat) (x : Int32) (m : Nat) (h4 : gr τ 64 4 = nI m) : itr g_X12_readSpy_8 (Q + 1) (x, τ) = bd (f_X12_number 0 (nI m - 1) τ) fun r2 s3 => bd (f_X12_good s3) fun r5 s6 => if r5 = 0 then some ((), s6) else spyM Q (x ||| ((1 : Int32) <<< (r2 &&& 31))) s6 := by
  rw [itr_succ]
  unfold spyM
  generalize itr g_X12_readSpy_8 Q = R
  unfold g_X12_readSpy_8
  dsimp only
  rw [show inb (4 : Int32) (ln 64) = true from rfl, gd_tt, show gr τ 64 (4 : Int32).toNatClampNeg = nI m from h4]
  rfl
theorem errs_good {τ : St} {q : Int32} (hg : gf τ 58 12 = 0) (h9 : gf τ 58 9 = q) : f_X12_errs (1 : Int32) τ = some ((), sf (sf τ 58 12 1) 58 13 q) := by
  unfold f_X12_errs
  rw [S_good, bd_mk, b2_t hg, if_neg n10, bnd_mk, bnd_mk, show gf (sf τ 58 12 (1 : Int32)) 58 9 = q from by rw [gf_sf_s, if_neg (by decide)]; exact h9]
theorem num_err {τ : St} {q : Int32} (lo hi : Int32) (hg : gf τ 58 12 = 0) (h9 : gf τ 58 9 = q) (ht : ¬ gf τ 58 10 = 2) : f_X12_number lo hi τ = some (0, sf (sf τ 58 12 1) 58 13 q) := by
  have hb : ¬ gf (sf (sf τ 58 12 1) 58 13 q) 58 12 = 0 := by rw [gf_sf_s, if_neg (by decide), gf_sf_s, if_pos rfl]; decide
  unfold f_X12_number f_X12_number_20 f_X12_number_47
  rw [S_good, bd_mk, b2_t hg, if_neg n10, if_neg ht, errs_good hg h9, bd_mk]
  simp only [S_good, bd_mk, b2_f hb, if_true]
theorem spy_exit {σ : St} {y i k Q : Nat} (hk : k < 5) (h25 : gf σ 25 3 = nI (k + 1)) (hx : ¬ (gf σ 29 7 = 3 ∧ gf σ 29 2 = 0)) : itr g_X6_readSpy_39 (Q + 1) (nI y, nI i, σ) = some ((), sr σ 26 k (nI y)) := by
  rw [itr_succ]
  generalize itr g_X6_readSpy_39 Q = R
  unfold g_X6_readSpy_39
  dsimp only
  rw [spy_set hk _ h25]
  by_cases a : (1200 : Int32) ≤ nI i
  · rw [if_pos a]
  · rw [if_neg a]
    by_cases b : gf σ 29 7 = 3
    · rw [if_pos b, if_neg (fun z => hx ⟨b, z⟩)]
    · rw [if_neg b]
set_option maxHeartbeats 4000000 in
theorem spy_loop {n m k : Nat} : ∀ (c : Nat) (σ τ : St) (q e K y i Q Q' : Nat), LX σ n → GDb σ τ n → GDt σ τ n q e K → n - q < c → c ≤ Q → c ≤ Q' → i ≤ q → y < 2 ^ m → SC σ τ m k →
    ∃ σ' τ', itr g_X6_readSpy_39 Q (nI y, nI i, σ) = some ((), σ') ∧ spyM Q' (nI y) τ = some ((), τ') ∧ LX σ' n ∧ Fr [26, 29] σ σ' ∧ OF τ τ' ∧ SPo σ σ' τ τ' n m k := by
  intro c
  induction c with
  | zero =>
    intro σ τ q e K y i Q Q' hL hb ht hc
    exact absurd hc (by omega)
  | succ c ih =>
    intro σ τ q e K y i Q Q' hL hb ht hc hQ hQ' hi hy hs
    obtain ⟨Q, rfl⟩ : ∃ r, Q = r + 1 := ⟨Q - 1, by omega⟩
    obtain ⟨Q', rfl⟩ : ∃ r, Q' = r + 1 := ⟨Q' - 1, by omega⟩
    have hG : GD σ τ n := ⟨hb, q, e, K, ht⟩
    have hn : n ≤ 1200 := hL.1
    obtain ⟨g1, g2, g3, g4, g5, g6⟩ := hb
    obtain ⟨t1, t2, t3, t4, t5, t6, t7, t8, t9, t10, t11, t12⟩ := ht
    obtain ⟨s1, s2, s3, s4, s5, s6⟩ := hs
    have hF26 : ∀ s : St, Fr [26] s (sr s 26 k (nI y)) := fun s => Fr.c2 (by simp)
    by_cases k3 : K = 3
    · have hqe := t5 (by omega)
      have kk : gf σ 29 7 = 3 := by rw [t8, k3]; rfl
      have tk : ¬ gf τ 58 10 = 3 := by rw [t11, k3]; decide
      have em : (nI m - 1).toInt = (m : Int) - 1 := by
        have z1 : (1 : Int32).toInt = 1 := rfl
        rw [i32_sub (by rw [nI_toInt (by omega)]; omega), nI_toInt (by omega)]
        omega
      obtain ⟨r, r', σ2, τ2, a1, a2, a3, a4, a5, a6, a7, a8, a9⟩ := R_num (0 : Int32) (nI m - 1) (by decide) (by omega) ⟨hL, Or.inl hG⟩
      have z0 : (0 : Int32).toInt = 0 := rfl
      have e26 : gr σ2 26 = gr σ 26 := (a5.1 26 (by decide)).2.1
      have e64 : gr τ2 64 = gr τ 64 := a6.r64
      have e25 : gf σ2 25 3 = nI (k + 1) := by rw [(a5.1 25 (by decide)).1]; exact s4
      have headC : itr g_X6_readSpy_39 (Q + 1) (nI y, nI i, σ) = itr g_X6_readSpy_39 Q (nI y ||| ((1 : Int32) <<< (r &&& 31)), nI (i + 1), σ2) := by
        rw [itr_succ]
        generalize itr g_X6_readSpy_39 Q = R
        unfold g_X6_readSpy_39
        dsimp only
        rw [if_neg (show ¬ (1200 : Int32) ≤ nI i from nI_ge (a := i) (b := 1200) (by omega) (by omega)), if_pos kk, if_pos g1, s1, a1, bd_mk, bnd_mk, bnd_mk, nI_1]
      have headM : spyM (Q' + 1) (nI y) τ = bd (f_X12_good τ2) fun r5 s6 => if r5 = 0 then some ((), s6) else spyM Q' (nI y ||| ((1 : Int32) <<< (r' &&& 31))) s6 := by
        unfold spyM
        rw [if_neg tk, spy_num Q' (nI y) m s2, a2, bd_mk]
        rfl
      rcases a3.2 with hG2 | hB2
      · obtain ⟨b1, b2', b3⟩ := a7 hG2.okM.1
        obtain ⟨t, ht, rfl⟩ := nI_ofT (x := r) (n := m - 1) (by omega) (by omega)
        have hm1 : 1 ≤ m := by rw [nI_toInt (by omega)] at b3; omega
        have hy2 : y ||| 2 ^ t < 2 ^ m := Nat.or_lt_two_pow hy (Nat.pow_lt_pow_right (by decide) (by omega))
        obtain ⟨hb2, q2, e2, K2, ht2⟩ := hG2
        have hpos : e ≤ q2 := by
          have hadv := R_adv hL hG
          obtain ⟨σx, τx, x1, -, -, -, x5, -⟩ := hadv
          -- the number was taken: the class advanced
          have : σ2 = σx := by
            unfold f_X6_number at a1
            rw [if_pos kk, bnd_mk] at a1
            split at a1
            · unfold f_X6_number_30 at a1
              obtain ⟨u, su, hu, a1⟩ := bd_some a1
              have ea : su = σ2 := congrArg Prod.snd (Option.some.inj a1)
              unfold f_X6_blame f_X6_blame_20 at hu
              rw [if_pos g1, bnd_mk, bnd_mk] at hu
              have eb : sf (sf σ 29 2 2) 29 3 (gf (sf σ 29 2 2) 29 5) = su := congrArg Prod.snd (Option.some.inj hu)
              rw [← ea, ← eb] at hb2
              exact absurd hb2.1 (by rw [gf_sf_s, if_neg (by decide), gf_sf_s, if_pos rfl]; decide)
            · split at a1
              · rw [x1, bd_mk] at a1
                exact (congrArg Prod.snd (Option.some.inj a1)).symm
              · unfold f_X6_number_30 at a1
                obtain ⟨u, su, hu, a1⟩ := bd_some a1
                have ea : su = σ2 := congrArg Prod.snd (Option.some.inj a1)
                unfold f_X6_blame f_X6_blame_20 at hu
                rw [if_pos g1, bnd_mk, bnd_mk] at hu
                have eb : sf (sf σ 29 2 2) 29 3 (gf (sf σ 29 2 2) 29 5) = su := congrArg Prod.snd (Option.some.inj hu)
                rw [← ea, ← eb] at hb2
                exact absurd hb2.1 (by rw [gf_sf_s, if_neg (by decide), gf_sf_s, if_pos rfl]; decide)
          rw [← this, t7, ht2.2.2.2.2.2.1, nI_toInt (by omega), nI_toInt (by have := ht2.1; have := ht2.2.1; omega)] at x5
          omega
        have hs2 : SC σ2 τ2 m k := ⟨by rw [(a5.1 17 (by decide)).1]; exact s1, by rw [e64]; exact s2, s3, e25, by rw [e64]; exact s5, s6⟩
        have hq2n : q2 ≤ n := by have := ht2.1; have := ht2.2.1; omega
        obtain ⟨σ', τ', f1, f2, f3, f4, f5, f6⟩ := ih σ2 τ2 q2 e2 K2 (y ||| 2 ^ t) (i + 1) Q Q' a3.1 hb2 ht2 (by omega) (by omega) (by omega) (by omega) hy2 hs2
        rw [← b1] at headM
        rw [nI_sh1 t (by omega), nI_or] at headC headM
        refine ⟨σ', τ', headC.trans f1, ?_, f3, (a5.mo (by simp)).tr f4, a6.of.tr f5, ?_⟩
        · rw [headM, S_good, bd_mk, b2_t hb2.2.1, if_neg n10]
          exact f2
        · rcases f6 with ⟨h1, h2, h3, h4, h5, h6⟩ | ⟨h1, h2⟩ | ⟨h1, h2⟩
          · refine Or.inl ⟨h1, h2, fun j hj => by rw [h3 j hj, e26], h4, fun j j1 j2 => by rw [h5 j j1 j2, e64], ?_⟩
            rw [t6, nI_toInt (by omega)]
            rw [ht2.2.2.2.2.2.1, nI_toInt (by omega)] at h6
            omega
          · exact Or.inr (Or.inl ⟨h1, h2.trans e64⟩)
          · exact Or.inr (Or.inr ⟨h1, h2.trans e64⟩)
      · obtain ⟨Q, rfl⟩ : ∃ r, Q = r + 1 := ⟨Q - 1, by omega⟩
        have hx : ¬ (gf σ2 29 7 = 3 ∧ gf σ2 29 2 = 0) := fun z => hB2.not z.2
        obtain ⟨u, hu⟩ : ∃ u : Nat, nI y ||| ((1 : Int32) <<< (r &&& 31)) = nI u ∨ True := ⟨0, Or.inr trivial⟩
        have ex : itr g_X6_readSpy_39 (Q + 1) (nI y ||| ((1 : Int32) <<< (r &&& 31)), nI (i + 1), σ2) = some ((), sr σ2 26 k (nI y ||| ((1 : Int32) <<< (r &&& 31)))) := by
          rw [itr_succ]
          generalize itr g_X6_readSpy_39 Q = R
          unfold g_X6_readSpy_39
          dsimp only
          rw [spy_set s6 _ e25]
          by_cases a : (1200 : Int32) ≤ nI (i + 1)
          · rw [if_pos a]
          · rw [if_neg a]
            by_cases b : gf σ2 29 7 = 3
            · rw [if_pos b, if_neg (fun z => hx ⟨b, z⟩)]
            · rw [if_neg b]
        have hF : Fr [26] σ2 (sr σ2 26 k (nI y ||| ((1 : Int32) <<< (r &&& 31)))) := Fr.c2 (by simp)
        refine ⟨_, τ2, headC.trans ex, ?_, a3.1.mv hF (by decide), (a5.mo (by simp)).tr (hF.mo (by simp)), a6.of, Or.inr (Or.inl ⟨hB2.mv hF (by decide), e64⟩)⟩
        rw [headM, S_good, bd_mk, b2_f hB2.notM, if_pos rfl]
    · have kk : ¬ gf σ 29 7 = 3 := fun z => k3 ((nI_eq (a := K) (b := 3) (by omega) (by omega)).mp (t8.symm.trans z))
      have exC := spy_exit (σ := σ) (y := y) (i := i) (Q := Q) s6 s4 (fun z => kk z.1)
      by_cases k4 : K = 4
      · have tk : gf τ 58 10 = 3 := by rw [t11, k4]; rfl
        have hi8 : (115 : Int32) + gr τ 64 (8 : Int32).toNatClampNeg = nI (115 + k) := by
          rw [show gr τ 64 (8 : Int32).toNatClampNeg = nI k from s5, show (115 : Int32) = nI 115 from rfl, nI_add]
        have e8 : gr (sr τ 64 (115 + k) (nI y)) 64 (8 : Int32).toNatClampNeg = nI k := by
          show gr (sr τ 64 (115 + k) (nI y)) 64 8 = nI k
          rw [gr_sr_s, if_neg (by omega)]
          exact s5
        have hG' : GD (sr σ 26 k (nI y)) (sr (sr τ 64 (115 + k) (nI y)) 64 8 (nI (k + 1))) n := by
          have hR : RP (sr σ 26 k (nI y)) (sr (sr τ 64 (115 + k) (nI y)) 64 8 (nI (k + 1))) n := RP.mv (σ := σ) (τ := τ) ⟨hL, Or.inl hG⟩ (hF26 σ) ((Fr.c2 (l := [64]) (by simp)).tr (Fr.c2 (by simp))) (by decide) (by decide) (by decide) (by decide)
          rcases hR.2 with z | z
          · exact z
          · exact absurd ((ok.mv (hF26 σ) (by decide)).mpr g1) z.not
        refine ⟨_, _, exC, ?_, hL.mv (hF26 σ) (by decide), (hF26 σ).mo (by simp), OF.s64.tr OF.s64, Or.inl ⟨hG', ⟨y, hy, by rw [gr_sr_s, if_pos rfl], by rw [gr_sr_s, if_neg (by omega), gr_sr_s, if_pos rfl]⟩, fun j hj => by rw [gr_sr_s, if_neg hj], by rw [gr_sr_s, if_pos rfl], fun j j1 j2 => by rw [gr_sr_s, if_neg j1, gr_sr_s, if_neg j2], Int.le_refl _⟩⟩
        unfold spyM
        rw [if_pos tk, show inb (8 : Int32) (ln 64) = true from rfl, gd_tt, hi8, i64 (by omega), gd_tt, bnd_mk, nI_clamp (by omega), gd_tt, gd_tt, bnd_mk, e8, nI_1]
        rfl
      · have tk : ¬ gf τ 58 10 = 3 := fun z => by
          have := (nI_eq (a := tkK K) (b := 3) (by unfold tkK; split <;> omega) (by omega)).mp (t11.symm.trans z)
          unfold tkK at this
          split at this <;> omega
        have tk2 : ¬ gf τ 58 10 = 2 := fun z => by
          have := (nI_eq (a := tkK K) (b := 2) (by unfold tkK; split <;> omega) (by omega)).mp (t11.symm.trans z)
          unfold tkK at this
          split at this <;> omega
        have hb2 : ¬ gf (sf (sf τ 58 12 1) 58 13 (nI q)) 58 12 = 0 := by rw [gf_sf_s, if_neg (by decide), gf_sf_s, if_pos rfl]; decide
        refine ⟨_, sf (sf τ 58 12 1) 58 13 (nI q), exC, ?_, hL.mv (hF26 σ) (by decide), (hF26 σ).mo (by simp), ⟨(Fr.c1 (by simp)).tr (Fr.c1 (by simp)), fun j hj => by rw [gf_sf_s, if_neg (by omega), gf_sf_s, if_neg (by omega)]⟩, Or.inr (Or.inr ⟨⟨hL.mv (hF26 σ) (by decide), g1, fun z => k4 ((nI_eq (a := K) (b := 4) (by omega) (by omega)).mp (t8.symm.trans z)), q, by omega, t6, ?_, ?_⟩, rfl⟩)⟩
        · unfold spyM
          rw [if_neg tk, spy_num Q' (nI y) m s2, num_err _ _ g2 t9 tk2, bd_mk, S_good, bd_mk, b2_f hb2, if_pos rfl]
        · rw [gf_sf_s, if_neg (by decide), gf_sf_s, if_pos rfl]
          rfl
        · rw [gf_sf_s, if_pos rfl]
/-- a spy's LINE, when there is room -/
theorem R_readSpy {σ τ : St} {n k : Nat} (hk : k < 5) (hk1 : gf σ 25 3 = nI k) (hL : LX σ n) (hG : GD σ τ n) (hSZ : SZ σ 15) (hW : WR σ 15 (gr τ 64)) (h10 : gr τ 64 10 = nI 0) : ∃ σ' τ1 τ', f_X6_readSpy σ = some ((), σ') ∧ f_X12_advance τ = some ((), τ1) ∧ f_X12_readSpy τ1 = some ((), τ') ∧ (DI σ' τ' n ∨ (PB σ' τ' n ∧ SZ σ' 15 ∧ SM (gr τ' 64))) ∧ (PG σ σ' ∨ PB σ' τ' n) ∧ Fr RD σ σ' ∧ OF τ τ' := by
  have hsm := hW.sm
  obtain ⟨hH, hT, hE, hA, hU, hY, hS1, hS2, hS3, hC⟩ := hW
  have hF8 : gr τ 64 8 = nI k := by
    obtain ⟨k', b1, b2', b3, -⟩ := hY
    obtain rfl : k = k' := (nI_eq (by omega) (by omega)).mp (hk1.symm.trans b2')
    exact b3
  obtain ⟨m, hm9, hm1, hm2, hmr⟩ := hT
  obtain ⟨σ1, τ1, a1, a2, a3, a4, a5, a6, a6b, a7⟩ := R_begin tb25 hk hk1 hL hG
  obtain ⟨σ2, τ2, b1, b2', b3, b4, b5, b6⟩ := R_word (z := 20) (by decide) a3
  have em : (nI m - 1).toInt = (m : Int) - 1 := by
    have z1 : (1 : Int32).toInt = 1 := rfl
    rw [i32_sub (by rw [nI_toInt (by omega)]; omega), nI_toInt (by omega)]
    omega
  have z0 : (0 : Int32).toInt = 0 := rfl
  have q17 : gf σ2 17 3 = nI m := by rw [(b5.1 17 (by decide)).1, (a6.1 17 (by decide)).1]; exact hm1
  have q25 : gf σ2 25 3 = nI (k + 1) := by rw [(b5.1 25 (by decide)).1]; exact a5
  have e64 : gr τ2 64 = gr τ 64 := b6.r64.trans a7.r64
  have q4 : gr τ2 64 4 = nI m := by rw [e64]; exact hm2
  obtain ⟨r, r', σ3, τ3, c1, c2, c3, c4, c5, c6, c7, c8, c9⟩ := R_num (0 : Int32) (nI m - 1) (by decide) (by omega) b3
  have e64' : gr τ3 64 = gr τ 64 := c6.r64.trans e64
  have q25' : gf σ3 25 3 = nI (k + 1) := by rw [(c5.1 25 (by decide)).1]; exact q25
  have F3 : Fr [25, 29] σ σ3 := ((a6.mo (by simp) : Fr [25, 29] σ σ1).tr (b5.mo (by simp))).tr (c5.mo (by simp))
  have hcl : f_X6_readSpy σ = itr g_X6_readSpy_39 FU ((1 : Int32) <<< (r &&& 31), 0, σ3) := by
    unfold f_X6_readSpy
    rw [a1, bd_mk, b1, bd_mk, q17, c1, bd_mk, bnd_mk]
  have hml : f_X12_readSpy τ1 = bd (f_X12_good τ3) fun r5 s6 => if r5 = 0 then some ((), s6) else spyM 4999 ((0 : Int32) ||| ((1 : Int32) <<< (r' &&& 31))) s6 := by
    unfold f_X12_readSpy
    rw [b2', bd_mk, show FU = 4999 + 1 from rfl, spy_num 4999 0 m q4, c2, bd_mk]
  have szO : ∀ s : St, Fr [25, 26, 29] σ s → gf s 25 3 = nI (k + 1) → SZ s 15 := fun s hf h25 => by
    obtain ⟨z1, z2, z3, z4, z5, z6, z7⟩ := hSZ
    exact ⟨by rw [(hf.1 15 (by decide)).1]; exact z1, by rw [(hf.1 17 (by decide)).1]; exact z2, by rw [(hf.1 19 (by decide)).1]; exact z3, by rw [(hf.1 21 (by decide)).1]; exact z4, by rw [(hf.1 23 (by decide)).1]; exact z5, ⟨k + 1, by omega, h25⟩, by rw [(hf.1 27 (by decide)).1]; exact z7⟩
  rcases c3.2 with hG3 | hB3
  · obtain ⟨d1, d2, d3⟩ := c7 hG3.okM.1
    have dd := d1
    obtain ⟨t, ht, rfl⟩ := nI_ofT (x := r) (n := m - 1) (by omega) (by omega)
    have hmm : 1 ≤ m := by rw [nI_toInt (by omega)] at d3; omega
    obtain ⟨hb3, q, e, K, ht3⟩ := hG3
    have hSC : SC σ3 τ3 m k := ⟨by rw [(c5.1 17 (by decide)).1]; exact q17, by rw [e64']; exact hm2, hm9, q25', by rw [e64']; exact hF8, hk⟩
    have h1200 : n ≤ 1200 := hL.1
    obtain ⟨σ', τ', f1, f2, f3, f4, f5, f6⟩ := spy_loop (n + 1 - q) σ3 τ3 q e K (2 ^ t) 0 FU 4999 c3.1 hb3 ht3 (by have := ht3.1; have := ht3.2.1; omega) (by unfold FU; omega) (by omega) (by omega) (Nat.pow_lt_pow_right (by decide) (by omega)) hSC
    have hFr : Fr [25, 26, 29] σ σ' := (F3.mo (by simp)).tr (f4.mo (by simp))
    have h25 : gf σ' 25 3 = nI (k + 1) := by rw [(f4.1 25 (by decide)).1]; exact q25'
    have hsz := szO σ' hFr h25
    have hPGa : PG σ σ3 := (a4.tr b4).tr c4
    rw [nI_sh1 t (by omega), show (0 : Int32) = nI 0 from rfl] at hcl
    rw [← dd, nI_sh1 t (by omega), show (0 : Int32) ||| nI (2 ^ t) = nI (2 ^ t) from by rw [show (0 : Int32) = nI 0 from rfl, nI_or, Nat.zero_or], S_good, bd_mk, b2_t hb3.2.1, if_neg n10, f2] at hml
    have hOF : OF τ τ' := (((a7.of).tr b6.of).tr c6.of).tr f5
    refine ⟨σ', τ1, τ', hcl.trans f1, a2, hml, ?_, ?_, hFr.mo (by simp), hOF⟩
    · rcases f6 with ⟨h1, ⟨y, y1, y2, y3⟩, h3, h4, h5, h6⟩ | ⟨h1, h2⟩ | ⟨h1, h2⟩
      · have hO : ∀ j, j ≠ 8 → j ≠ 115 + k → gr τ' 64 j = gr τ 64 j := fun j j1 j2 => by rw [h5 j j1 j2, e64']
        have hy511 : 2 ^ m ≤ 512 := by
          calc 2 ^ m ≤ 2 ^ 9 := Nat.pow_le_pow_right (by decide) hm9
            _ = 512 := rfl
        refine Or.inl ⟨⟨f3, Or.inl h1⟩, hsz, ⟨by rw [hO 4 (by omega) (by omega)]; exact ⟨m, hm9, hm2⟩, by rw [hO 5 (by omega) (by omega)]; exact hsm.2.1, by rw [hO 6 (by omega) (by omega)]; exact hsm.2.2.1, by rw [hO 7 (by omega) (by omega)]; exact hsm.2.2.2.1, ⟨k + 1, by omega, h4⟩⟩, fun _ => ⟨?_, by rw [hO 10 (by omega) (by omega)]; exact h10⟩⟩
        refine ⟨hH.mv (fun j _ => by rw [(hFr.1 15 (by decide)).1]) (fun j _ => by rw [(hFr.1 16 (by decide)).2.1]) (fun j h1 h4 h5 h6 h7 h8 h9 => hO j (by omega) (by omega)), TV.mv (σ := σ) (F := gr τ 64) ⟨m, hm9, hm1, hm2, hmr⟩ (by rw [(hFr.1 17 (by decide)).1]) (fun j _ => by rw [(hFr.1 18 (by decide)).2.1]) (hO 4 (by omega) (by omega)) (fun j _ _ => hO j (by omega) (by omega)), hE.mv (by rw [(hFr.1 19 (by decide)).1]) (fun j _ => by rw [(hFr.1 20 (by decide)).2.1]) (hO 5 (by omega) (by omega)) (fun j _ _ => hO j (by omega) (by omega)), hA.mv (by rw [(hFr.1 21 (by decide)).1]) (fun j _ => by rw [(hFr.1 22 (by decide)).2.1]) (hO 6 (by omega) (by omega)) (fun j _ _ => hO j (by omega) (by omega)), hU.mv (by rw [(hFr.1 23 (by decide)).1]) (fun j _ => by rw [(hFr.1 24 (by decide)).2.1]) (hO 7 (by omega) (by omega)) (fun j _ _ => hO j (by omega) (by omega)), hY.ad hk1 hk (by decide) h25 (fun j hj => ?_) h4 (fun j _ _ => hO j (by omega) (by omega)) (fun c hc => ?_), ?_, ?_, ?_, CR.nil h10 hC (by rw [(hFr.1 27 (by decide)).1]) (hO 10 (by omega) (by omega))⟩
        · rw [h3 j (by omega), (F3.1 26 (by decide)).2.1]
        · obtain rfl : c = 0 := by omega
          show gr σ' 26 (k * 1 + 0) = gr τ' 64 (115 + 1 * k + 0) ∧ (0 : Int) ≤ (gr τ' 64 (115 + 1 * k + 0)).toInt ∧ (gr τ' 64 (115 + 1 * k + 0)).toInt ≤ 511
          rw [Nat.mul_one, Nat.one_mul, Nat.add_zero, Nat.add_zero, y2, y3, nI_toInt (by omega)]
          exact ⟨rfl, by omega, by omega⟩
        · intro q q1 q2 i hi
          rw [hO 5 (by omega) (by omega)] at q1
          rw [hO _ (by omega) (by omega), hO _ (by omega) (by omega)]
          exact hS1 q q1 q2 i hi
        · intro q q1 q2 i hi
          rw [hO 7 (by omega) (by omega)] at q1
          rw [hO _ (by omega) (by omega), hO _ (by omega) (by omega)]
          exact hS2 q q1 q2 i hi
        · intro q m' q1 q2 m1 m2 i hi
          rw [h4] at q1
          obtain rfl : k + 1 = q := (nI_eq (by omega) (by omega)).mp q1
          rw [hO 4 (by omega) (by omega), hm2] at m1
          obtain rfl : m = m' := (nI_eq (by omega) (by omega)).mp m1
          by_cases ei : i = k
          · subst ei
            rw [y3, nI_toInt (by omega)]
            exact_mod_cast y1
          · rw [hO _ (by omega) (by omega)]
            exact hS3 k m hF8 (by omega) hm2 hm9 i (by omega)
      · refine Or.inl ⟨⟨f3, Or.inr h1⟩, hsz, by rw [h2, e64']; exact hsm, fun o => absurd o h1.not⟩
      · exact Or.inr ⟨h1, hsz, by rw [h2, e64']; exact hsm⟩
    · rcases f6 with ⟨h1, h2, h3, h4, h5, h6⟩ | ⟨h1, h2⟩ | ⟨h1, h2⟩
      · exact Or.inl (hPGa.tr (fun _ => ⟨hb3.1, h6⟩))
      · exact Or.inl (fun o => absurd o h1.not)
      · exact Or.inr h1
  · have hx : ¬ (gf σ3 29 7 = 3 ∧ gf σ3 29 2 = 0) := fun z => hB3.not z.2
    have ex : itr g_X6_readSpy_39 (4999 + 1) ((1 : Int32) <<< (r &&& 31), 0, σ3) = some ((), sr σ3 26 k ((1 : Int32) <<< (r &&& 31))) := by
      rw [itr_succ]
      generalize itr g_X6_readSpy_39 4999 = R
      unfold g_X6_readSpy_39
      dsimp only
      rw [spy_set hk _ q25']
      by_cases a : (1200 : Int32) ≤ 0
      · rw [if_pos a]
      · rw [if_neg a]
        by_cases b : gf σ3 29 7 = 3
        · rw [if_pos b, if_neg (fun z => hx ⟨b, z⟩)]
        · rw [if_neg b]
    have hF : Fr [26] σ3 (sr σ3 26 k ((1 : Int32) <<< (r &&& 31))) := Fr.c2 (by simp)
    have hFr : Fr [25, 26, 29] σ (sr σ3 26 k ((1 : Int32) <<< (r &&& 31))) := (F3.mo (by simp)).tr (hF.mo (by simp))
    have hB4 := hB3.mv hF (by decide)
    refine ⟨_, τ1, τ3, hcl.trans ex, a2, ?_, Or.inl ⟨⟨c3.1.mv hF (by decide), Or.inr hB4⟩, szO _ hFr q25', by rw [e64']; exact hsm, fun o => absurd o hB4.not⟩, Or.inl (fun o => absurd o hB4.not), hFr.mo (by simp), (a7.of.tr b6.of).tr c6.of⟩
    rw [hml, S_good, bd_mk, b2_f hB3.notM, if_pos rfl]
/-- a 6th spy -/
theorem T_readSpy {σ τ : St} {n : Nat} (hk1 : gf σ 25 3 = nI 5) (hR : RP σ τ n) (hSZ : SZ σ 15) : ∃ σ' τ', f_X6_readSpy σ = some ((), σ') ∧ f_X12_errs (3 : Int32) τ = some ((), τ') ∧ RP σ' τ' n ∧ ¬ ok σ' ∧ SZ σ' 15 ∧ Fr RD σ σ' ∧ OM τ τ' := by
  obtain ⟨σ1, τ1, a1, a2, a3, a4, a5, a6⟩ := R_over tb25 hk1 hR
  obtain ⟨w1, d0, d1, d2, d3⟩ := T_word (z := 20) (by decide) a3 a4
  obtain ⟨r, σ3, c1, c2, c3, c4, -⟩ := T_num (0 : Int32) (gf w1 17 3 - 1) d1 d2
  have q25 : gf σ3 25 3 = nI (4 + 1) := by rw [(c4.1 25 (by decide)).1, (d3.1 25 (by decide)).1, (a5.1 25 (by decide)).1]; exact hk1
  have hx : ¬ (gf σ3 29 7 = 3 ∧ gf σ3 29 2 = 0) := fun z => c3.not z.2
  have ex : itr g_X6_readSpy_39 (4999 + 1) ((1 : Int32) <<< (r &&& 31), 0, σ3) = some ((), sr σ3 26 4 ((1 : Int32) <<< (r &&& 31))) := by
    rw [itr_succ]
    generalize itr g_X6_readSpy_39 4999 = R
    unfold g_X6_readSpy_39
    dsimp only
    rw [spy_set (by decide) _ q25]
    by_cases a : (1200 : Int32) ≤ 0
    · rw [if_pos a]
    · rw [if_neg a]
      by_cases b : gf σ3 29 7 = 3
      · rw [if_pos b, if_neg (fun z => hx ⟨b, z⟩)]
      · rw [if_neg b]
  have hF : Fr [26] σ3 (sr σ3 26 4 ((1 : Int32) <<< (r &&& 31))) := Fr.c2 (by simp)
  have hFr : Fr [26, 29] σ (sr σ3 26 4 ((1 : Int32) <<< (r &&& 31))) := (((a5.mo (by simp) : Fr [26, 29] σ σ1).tr (d3.mo (by simp))).tr (c4.mo (by simp))).tr (hF.mo (by simp))
  have hB4 := c3.mv hF (by decide)
  refine ⟨_, τ1, ?_, a2, ⟨c2.mv hF (by decide), Or.inr hB4⟩, hB4.not, hSZ.mv hFr (by decide) (by decide) (by decide) (by decide) (by decide) (by decide) (by decide), hFr.mo (by simp), a6⟩
  unfold f_X6_readSpy
  rw [a1, bd_mk, d0, bd_mk, c1, bd_mk, bnd_mk]
  exact ex
