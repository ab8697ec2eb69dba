/-! ===== values: wars drawn ===== -/
def nxA (z : Int64) : Int64 := (((1103515245 : Int64) * z) + (12345 : Int64)) - (((1103515245 : Int64) * z) + (12345 : Int64)) / (2147483648 : Int64) * (2147483648 : Int64)
def drL (z : Int64) : Int64 := (z / (65536 : Int64)) - (z / (65536 : Int64)) / (100 : Int64) * (100 : Int64)
theorem le0_lcmp {x y : Int64} : 0 ≤ lg_cmp x y ↔ y.toInt ≤ x.toInt := by
  have z0 : (0 : Int32).toInt = 0 := rfl
  have h := lcmp_lt (x := x) (y := y)
  rw [lt_toInt] at h
  rw [le_toInt]
  constructor
  · intro g
    rcases Int.lt_or_le x.toInt y.toInt with k | k
    · have := h.mpr k
      omega
    · exact k
  · intro g
    rcases Int.lt_or_le (lg_cmp x y).toInt (0 : Int32).toInt with k | k
    · have := h.mp k
      omega
    · omega
theorem drL_32 (z : Int64) : (drL z).toInt32.toInt = (drL z).toInt := by
  have h := i64_rem (z / 65536) 100
  have h1 := Int.natAbs_tmod (z / 65536).toInt (100 : Int64).toInt
  have h2 := Nat.mod_lt (z / 65536).toInt.natAbs (show 0 < (100 : Int64).toInt.natAbs by decide)
  have h3 : (100 : Int64).toInt.natAbs = 100 := by decide
  have e : (drL z).toInt = (z / 65536).toInt.tmod (100 : Int64).toInt := h
  rw [Int64.toInt_toInt32, e]
  apply Int.bmod_eq_of_le
  · omega
  · omega
theorem dcmp (z : Int64) (r : Int32) : r ≤ (drL z).toInt32 ↔ 0 ≤ lg_cmp (drL z) r.toInt64 := by
  rw [le0_lcmp, le_toInt, drL_32, Int32.toInt_toInt64]
def dzA (z : Int64) : Nat → Int64
  | 0 => z
  | i + 1 => nxA (dzA z i)
def daA (F : Nat → Int32) (z : Int64) : Nat → Int32
  | 0 => 0
  | i + 1 => daA F z i ||| (if F (13 + 6 * i + 3) ≤ (drL (dzA z (i + 1))).toInt32 then 0 else (1 : Int32) <<< (nI i &&& 31))
def drawV (F : Nat → Int32) (T : Nat) (z : Int64) : Int32 := if F 3 ≤ (drL (nxA z)).toInt32 then daA F (nxA z) T else -1
theorem VW.rain {s : St} {F : Nat → Int32} {M T S E A U Y L P N : Nat} (v : VW s F M T S E A U Y L P N) : gf s 1 4 = F 3 := by
  obtain ⟨l, m, a', p, r, d, e, y1, y2, y3, y4, y5, y6, y7, y8, u1, u2, u3, u4, u5, u6, u7, u8, u9, u10, -⟩ := v.1.1
  exact u9.trans u10.symm
theorem V_drawn {s : St} {F : Nat → Int32} {M T S E A U Y L P N : Nat} (v : VW s F M T S E A U Y L P N) (p : Int32) : f_X1_drawnDelays 1 p s = some (drawV F T p.toInt64, s) := by
  have hT := v.2.2.hT
  have hn : ∀ z (σ : St), f_X1_next z σ = some (nxA z, σ) := fun z σ => rfl
  have hd : ∀ z (σ : St), f_X1_draw z σ = some ((drL z).toInt32, σ) := fun z σ => rfl
  unfold f_X1_drawnDelays drawV
  rw [isW_lit (Or.inl rfl), gd_tt, hn, bd_mk, hd, bd_mk, isW_lit (Or.inl rfl), gd_tt, v.rain]
  by_cases c : F 3 ≤ (drL (nxA p.toInt64)).toInt32
  · rw [if_pos c, if_pos c]
    refine itr_cnt (fun i => (dzA (nxA p.toInt64) i, daA F (nxA p.toInt64) i, nI i, s)) T _ (fun i K hi => ?_) (fun K => ?_) T 0 FU (by omega) (by unfold FU; omega)
    · unfold g_X1_drawnDelays_25 f_X1_drawnDelays_68
      dsimp only
      rw [isW_lit (Or.inl rfl), gd_tt, show gf s (1 + 2) 3 = nI T from v.2.2.cT, if_neg (lt_ge hi (by omega)), hn, bd_mk, hd, bd_mk, isW_lit (Or.inl rfl), gd_tt, show f_X9_cell (1 + 2) (nI i) (3 : Int32) s = some (F (13 + 6 * i + 3), s) from V_c3 v (c := 3) hi (by omega), bd_mk, nI_1]
      show _ = K (nxA (dzA (nxA p.toInt64) i), daA F (nxA p.toInt64) i ||| (if F (13 + 6 * i + 3) ≤ (drL (nxA (dzA (nxA p.toInt64) i))).toInt32 then 0 else (1 : Int32) <<< (nI i &&& 31)), nI (i + 1), s)
      by_cases e : F (13 + 6 * i + 3) ≤ (drL (nxA (dzA (nxA p.toInt64) i))).toInt32
      · rw [if_pos e, if_pos e, or0]
        rfl
      · rw [if_neg e, if_neg e]
        rfl
    · unfold g_X1_drawnDelays_25
      dsimp only
      rw [isW_lit (Or.inl rfl), gd_tt, show gf s (1 + 2) 3 = nI T from v.2.2.cT, if_pos (le_rf T)]
  · rw [if_neg c, if_neg c]
theorem M_drawn {s : St} {F : Nat → Int32} {M T S E A U Y L P N : Nat} (v : VW s F M T S E A U Y L P N) (z : Int64) : f_X12_drawnDelays z s = some (drawV F T z, s) := by
  have hT := v.2.2.hT
  have h0 : f_X12_drawnDelays z s = if 0 ≤ lg_cmp (drL (nxA z)) (F 3).toInt64 then itr g_X12_drawnDelays_42 FU (nxA z, 0, 0, s) else some (-1, s) := by
    unfold f_X12_drawnDelays
    rw [bnd_mk, show inb (3 : Int32) (ln 59) = true from rfl, gd_tt, v.2.1]
    rfl
  rw [h0]
  unfold drawV
  by_cases c : F 3 ≤ (drL (nxA z)).toInt32
  · rw [if_pos ((dcmp _ _).mp c), if_pos c]
    refine itr_cnt (fun i => (dzA (nxA z) i, daA F (nxA z) i, nI i, s)) T _ (fun i K hi => ?_) (fun K => ?_) T 0 FU (by omega) (by unfold FU; omega)
    · have h1 : g_X12_drawnDelays_42 K (dzA (nxA z) i, daA F (nxA z) i, nI i, s) = if 0 ≤ lg_cmp (drL (nxA (dzA (nxA z) i))) (F (13 + 6 * i + 3)).toInt64 then f_X12_drawnDelays_98 K (nxA (dzA (nxA z) i)) (nI i) 0 (daA F (nxA z) i) s else f_X12_drawnDelays_98 K (nxA (dzA (nxA z) i)) (nI i) ((1 : Int32) <<< (nI i &&& 31)) (daA F (nxA z) i) s := by
        unfold g_X12_drawnDelays_42
        dsimp only
        rw [show inb (4 : Int32) (ln 59) = true from rfl, gd_tt, show gr s 59 (4 : Int32).toNatClampNeg = nI T from v.2.2.mT, if_neg (lt_ge hi (by omega)), bnd_mk, show f_X12_of (nI i) (3 : Int32) s = some (F (13 + 6 * i + 3), s) from M_of v (c := 3) (by omega) (by omega), bd_mk]
        rfl
      rw [h1]
      unfold f_X12_drawnDelays_98
      rw [nI_1]
      show _ = K (nxA (dzA (nxA z) i), daA F (nxA z) i ||| (if F (13 + 6 * i + 3) ≤ (drL (nxA (dzA (nxA z) i))).toInt32 then 0 else (1 : Int32) <<< (nI i &&& 31)), nI (i + 1), s)
      by_cases e : F (13 + 6 * i + 3) ≤ (drL (nxA (dzA (nxA z) i))).toInt32
      · rw [if_pos ((dcmp _ _).mp e), if_pos e]
        rfl
      · rw [if_neg (fun g => e ((dcmp _ _).mpr g)), if_neg e]
        rfl
    · unfold g_X12_drawnDelays_42
      dsimp only
      rw [show inb (4 : Int32) (ln 59) = true from rfl, gd_tt, show gr s 59 (4 : Int32).toNatClampNeg = nI T from v.2.2.mT, if_pos (le_rf T)]
  · rw [if_neg (fun g => c ((dcmp _ _).mpr g)), if_neg c]
theorem S_isSeed {s : St} {F : Nat → Int32} {M T S E A U Y L P N : Nat} (v : VW s F M T S E A U Y L P N) (p : Int32) : f_X11_isSeed p s = some (b2 (1 ≤ N ∧ 0 ≤ p.toInt ∧ p.toInt ≤ 2000000000), s) := by
  have z0 : (0 : Int32).toInt = 0 := rfl
  have z9 : (2000000000 : Int32).toInt = 2000000000 := rfl
  unfold f_X11_isSeed f_X11_isSeed_25 f_X11_isSeed_26
  rw [S_isTold v.2.2.hN v.2.2.cN, bd_mk, bz_0, bz_1, gd_tt, gd_tt]
  by_cases c0 : 1 ≤ N
  · rw [b2_t c0, if_neg n10]
    by_cases c : p < 0
    · rw [if_pos c, b2_f]
      rw [lt_toInt] at c
      omega
    · rw [if_neg c]
      rw [lt_toInt] at c
      by_cases c1 : (2000000000 : Int32) < p
      · rw [if_pos c1, b2_f]
        rw [lt_toInt] at c1
        omega
      · rw [if_neg c1, b2_t]
        rw [lt_toInt] at c1
        omega
  · rw [b2_f c0, if_pos rfl, b2_f (fun g => c0 g.1)]
theorem M_isSeed {s : St} {F : Nat → Int32} {M T S E A U Y L P N : Nat} (v : VW s F M T S E A U Y L P N) (p : Int32) : f_X12_isSeed p s = some (b2 (1 ≤ N ∧ 0 ≤ p.toInt ∧ p.toInt ≤ 2000000000), s) := by
  unfold f_X12_isSeed f_X12_isSeed_23 f_X12_isSeed_24
  rw [S_isWar v.2.2.hN v.2.2.mN, bd_mk]
  by_cases c0 : 1 ≤ N
  · rw [b2_t c0, if_neg n10, M_inB _ 0 2000000000 (a := 0) (b := 2000000000) rfl rfl, bd_mk]
    by_cases c : 0 ≤ p.toInt ∧ p.toInt ≤ 2000000000
    · rw [b2_t c, if_neg n10, bz_1, gd_tt, b2_t ⟨c0, c⟩]
    · rw [b2_f c, if_pos rfl, bz_0, gd_tt, b2_f (fun g => c g.2)]
  · rw [b2_f c0, if_pos rfl, bz_0, gd_tt, b2_f (fun g => c0 g.1)]
theorem D_drawn (a b : Int32) (σ : St) (hI : IV σ) : ∃ r s1 s2, f_X11_drawn a b σ = some (r, s1) ∧ f_X12_drawn a b s1 = some (r, s2) ∧ IV s2 := by
  obtain ⟨M, T, S, E, A, U, Y, L, P, N, v⟩ := hI.vw
  have hM := v.2.2.hM
  have z0 : (0 : Int32).toInt = 0 := rfl
  have z2 : (2 : Int32).toInt = 2 := rfl
  unfold f_X11_drawn f_X11_drawn_17 f_X11_drawn_57 f_X12_drawn f_X12_drawn_20 f_X12_drawn_51 f_X12_drawn_70
  rw [S_isSeed v, bd_mk]
  by_cases c : 1 ≤ N ∧ 0 ≤ a.toInt ∧ a.toInt ≤ 2000000000
  · rw [b2_t c, if_neg n10]
    by_cases c1 : 0 ≤ b.toInt ∧ b.toInt ≤ 2
    · rw [if_neg (by rw [lt_toInt]; omega), if_pos (show b ≤ 2 from by rw [le_toInt]; omega), V_drawn v, bd_mk]
      by_cases b0 : b = 0
      · refine ⟨_, σ, σ, by rw [if_pos b0], ?_, hI⟩
        rw [M_isSeed v, bd_mk, b2_t c, if_neg n10, M_inB _ 0 2 (a := 0) (b := 2) rfl rfl, bd_mk, b2_t c1, if_neg n10, M_drawn v, bd_mk, if_pos b0]
      · rw [if_neg b0]
        by_cases d1 : drawV (gr σ 59) T a.toInt64 = -1
        · by_cases b1 : b = 1
          · refine ⟨-1, σ, σ, by rw [if_pos b1, if_pos d1], ?_, hI⟩
            rw [M_isSeed v, bd_mk, b2_t c, if_neg n10, M_inB _ 0 2 (a := 0) (b := 2) rfl rfl, bd_mk, b2_t c1, if_neg n10, M_drawn v, bd_mk, if_neg b0, if_pos d1, if_pos b1]
          · refine ⟨0, σ, σ, by rw [if_neg b1, if_pos d1], ?_, hI⟩
            rw [M_isSeed v, bd_mk, b2_t c, if_neg n10, M_inB _ 0 2 (a := 0) (b := 2) rfl rfl, bd_mk, b2_t c1, if_neg n10, M_drawn v, bd_mk, if_neg b0, if_pos d1, if_neg b1]
        · by_cases b1 : b = 1
          · obtain ⟨r1, s1, e1, q1, f1⟩ := V_winnerBy v (drawV (gr σ 59) T a.toInt64)
            have v1 := v.fr f1 (by decide)
            obtain ⟨r2, s2, e2, q2, f2⟩ := M_winner v1 (drawV (gr σ 59) T a.toInt64)
            refine ⟨r1, s1, s2, by rw [if_pos b1, if_neg d1, e1, bd_mk], ?_, hI.f2 f1 f2⟩
            rw [M_isSeed v1, bd_mk, b2_t c, if_neg n10, M_inB _ 0 2 (a := 0) (b := 2) rfl rfl, bd_mk, b2_t c1, if_neg n10, M_drawn v1, bd_mk, if_neg b0, if_neg d1, if_pos b1, e2, bd_mk, q1, q2]
          · obtain ⟨r0, s1, e1, f1, g1⟩ := V_follow v (drawV (gr σ 59) T a.toInt64)
            have v1 := v.fr f1 (by decide)
            obtain ⟨r2, s2, e2, q2, f2, -⟩ := M_last v1 (drawV (gr σ 59) T a.toInt64)
            refine ⟨r2, s1, s2, ?_, ?_, hI.f2 f1 f2⟩
            · rw [if_neg b1, if_neg d1, e1, bd_mk, show gf s1 1 1 = nI M from v1.2.2.cM, S_behind hM, bd_mk, g1 M (by omega), q2]
            · rw [M_isSeed v1, bd_mk, b2_t c, if_neg n10, M_inB _ 0 2 (a := 0) (b := 2) rfl rfl, bd_mk, b2_t c1, if_neg n10, M_drawn v1, bd_mk, if_neg b0, if_neg d1, if_neg b1, e2, bd_mk]
    · refine ⟨-2, σ, σ, ?_, ?_, hI⟩
      · by_cases e : b < 0
        · rw [if_pos e]
        · rw [if_neg e, if_neg]
          rw [lt_toInt] at e
          rw [le_toInt]
          omega
      · rw [M_isSeed v, bd_mk, b2_t c, if_neg n10, M_inB _ 0 2 (a := 0) (b := 2) rfl rfl, bd_mk, b2_f c1, if_pos rfl]
  · refine ⟨-2, σ, σ, by rw [b2_f c, if_pos rfl], ?_, hI⟩
    rw [M_isSeed v, bd_mk, b2_f c, if_pos rfl]
def luA (F : Nat → Int32) (M E T L q : Nat) (p : Int32) : Nat → Int32
  | 0 => 0
  | i + 1 => luA F M E T L q p i + (if drawV F T (lN (q + i)) = -1 then 0 else if winA F M E T L (drawV F T (lN (q + i))) = p then 1 else 0)
theorem D_luck (a b c : Int32) (σ : St) (hI : IV σ) : ∃ r s1 s2, f_X11_luck a b c σ = some (r, s1) ∧ f_X12_luck a b c s1 = some (r, s2) ∧ IV s2 := by
  obtain ⟨M, T, S, E, A, U, Y, L, P, N, v⟩ := hI.vw
  have hb := v.2.2
  have z1 : (1 : Int32).toInt = 1 := rfl
  have z20 : (20 : Int32).toInt = 20 := rfl
  unfold f_X11_luck f_X11_luck_30 f_X12_luck f_X12_luck_28
  rw [S_isSeed v, bd_mk]
  by_cases c1 : 1 ≤ N ∧ 0 ≤ a.toInt ∧ a.toInt ≤ 2000000000
  · rw [b2_t c1, if_neg n10]
    by_cases c2 : 1 ≤ b.toInt ∧ b.toInt ≤ 20
    · rw [if_neg (by rw [lt_toInt]; omega), if_neg (show ¬ (20 : Int32) < b from by rw [lt_toInt]; omega), S_hasSide _ hb.hN hb.cN, bd_mk]
      by_cases c3 : 1 ≤ N ∧ (c = 0 ∨ c = 1)
      · rw [b2_t c3, if_neg n10]
        obtain ⟨q, hq, rfl⟩ := nI_ofT (x := a) (n := 2000000000) c1.2.1 c1.2.2
        obtain ⟨k, hk, rfl⟩ := nI_ofT (x := b) (n := 20) (by omega) c2.2
        have hC : Ok (fun r s' => r = luA (gr σ 59) M E T L q c k ∧ Fr [32] σ s') (itr g_X11_luck_39 FU (nI q, nI k, c, 0, 0, σ)) := by
          refine okC (fun (i : Nat) (y : Int32 × Int32 × Int32 × Int32 × Int32 × St) => y.1 = nI q ∧ y.2.1 = nI k ∧ y.2.2.1 = c ∧ y.2.2.2.1 = luA (gr σ 59) M E T L q c i ∧ y.2.2.2.2.1 = nI i ∧ Fr [32] σ y.2.2.2.2.2) k ?_ (i := 0) (by unfold FU; omega) (by omega) ⟨rfl, rfl, rfl, rfl, rfl, Fr.rf⟩
          rintro i ⟨y1, y2, y3, y4, y5, s1⟩ K hi ⟨e1, e2, e3, e4, e5, hf⟩ hK
          dsimp only at e1 e2 e3 e4 e5 hf
          subst e1 e2 e3 e4 e5
          have v1 := v.fr hf (by decide)
          unfold g_X11_luck_39 f_X11_luck_80
          dsimp only
          refine okI (fun g => okR ⟨?_, hf⟩) (fun g => ?_)
          · have : i = k := by
              rw [le_toInt, nI_toInt (by omega), nI_toInt (by omega)] at g
              omega
            rw [this]
          · replace g : i < k := cnt_le rfl (by omega) g hi
            rw [nI_add, V_drawn v1, bd_mk, nI_l (by omega), nI_1]
            have nx : luA (gr σ 59) M E T L q y3 (i + 1) = luA (gr σ 59) M E T L q y3 i + (if drawV (gr σ 59) T (lN (q + i)) = -1 then 0 else if winA (gr σ 59) M E T L (drawV (gr σ 59) T (lN (q + i))) = y3 then 1 else 0) := rfl
            refine okI (fun d => hK _ g ⟨rfl, rfl, rfl, ?_, rfl, hf⟩) (fun d => ?_)
            · rw [nx, if_pos d, Int32.add_zero]
            · obtain ⟨r1, s2, e1, q1, f1⟩ := V_winnerBy v1 (drawV (gr σ 59) T (lN (q + i)))
              rw [e1, bd_mk, q1]
              refine okI (fun w => hK _ g ⟨rfl, rfl, rfl, ?_, rfl, hf.tr f1⟩) (fun w => hK _ g ⟨rfl, rfl, rfl, ?_, rfl, hf.tr f1⟩)
              · rw [nx, if_neg d, if_pos w]
              · rw [nx, if_neg d, if_neg w, Int32.add_zero]
        obtain ⟨r1, s1, h1, q1, f1⟩ := hC
        have v1 := v.fr f1 (by decide)
        have hR : Ok (fun r s' => r = luA (gr σ 59) M E T L q c k ∧ Fr [65] s1 s') (itr g_X12_luck_37 FU (nI q, nI k, c, 0, 0, s1)) := by
          refine okC (fun (i : Nat) (y : Int32 × Int32 × Int32 × Int32 × Int32 × St) => y.1 = nI q ∧ y.2.1 = nI k ∧ y.2.2.1 = c ∧ y.2.2.2.1 = luA (gr σ 59) M E T L q c i ∧ y.2.2.2.2.1 = nI i ∧ Fr [65] s1 y.2.2.2.2.2) k ?_ (i := 0) (by unfold FU; omega) (by omega) ⟨rfl, rfl, rfl, rfl, rfl, Fr.rf⟩
          rintro i ⟨y1, y2, y3, y4, y5, s3⟩ K hi ⟨e1, e2, e3, e4, e5, hf⟩ hK
          dsimp only at e1 e2 e3 e4 e5 hf
          subst e1 e2 e3 e4 e5
          have v3 := v1.fr hf (by decide)
          unfold g_X12_luck_37 f_X12_luck_77 f_X12_luck_78
          dsimp only
          refine okI (fun g => okR ⟨?_, hf⟩) (fun g => ?_)
          · have : i = k := by
              rw [le_toInt, nI_toInt (by omega), nI_toInt (by omega)] at g
              omega
            rw [this]
          · replace g : i < k := cnt_le rfl (by omega) g hi
            rw [nI_l (by omega), nI_l (by omega), lN_add, M_drawn v3, bd_mk, nI_1]
            have nx : luA (gr σ 59) M E T L q y3 (i + 1) = luA (gr σ 59) M E T L q y3 i + (if drawV (gr σ 59) T (lN (q + i)) = -1 then 0 else if winA (gr σ 59) M E T L (drawV (gr σ 59) T (lN (q + i))) = y3 then 1 else 0) := rfl
            refine okI (fun d => hK _ g ⟨rfl, rfl, rfl, ?_, rfl, hf⟩) (fun d => ?_)
            · rw [nx, if_pos d]
            · obtain ⟨r2, s4, e1, q2, f2⟩ := M_winner v3 (drawV (gr σ 59) T (lN (q + i)))
              rw [e1, bd_mk, q2]
              refine okI (fun w => hK _ g ⟨rfl, rfl, rfl, ?_, rfl, hf.tr f2⟩) (fun w => hK _ g ⟨rfl, rfl, rfl, ?_, rfl, hf.tr f2⟩)
              · rw [nx, if_neg d, if_pos w]
              · rw [nx, if_neg d, if_neg w]
        obtain ⟨r2, s2, h2, q2, f2⟩ := hR
        refine ⟨r1, s1, s2, h1, ?_, hI.f2 f1 f2⟩
        rw [M_isSeed v1, bd_mk, b2_t c1, if_neg n10, M_inB _ 1 20 (a := 1) (b := 20) rfl rfl, bd_mk, b2_t c2, if_neg n10, S_isSide _ v1.2.2.hN v1.2.2.mN, bd_mk, b2_t c3, if_neg n10, q1, ← q2]
        exact h2
      · refine ⟨-2, σ, σ, by rw [b2_f c3, if_pos rfl], ?_, hI⟩
        rw [M_isSeed v, bd_mk, b2_t c1, if_neg n10, M_inB _ 1 20 (a := 1) (b := 20) rfl rfl, bd_mk, b2_t c2, if_neg n10, S_isSide _ hb.hN hb.mN, bd_mk, b2_f c3, if_pos rfl]
    · refine ⟨-2, σ, σ, ?_, ?_, hI⟩
      · by_cases e : b < (1 : Int32)
        · rw [if_pos e]
        · rw [if_neg e, if_pos]
          rw [lt_toInt] at e
          rw [lt_toInt]
          omega
      · rw [M_isSeed v, bd_mk, b2_t c1, if_neg n10, M_inB _ 1 20 (a := 1) (b := 20) rfl rfl, bd_mk, b2_f c2, if_pos rfl]
  · refine ⟨-2, σ, σ, by rw [b2_f c1, if_pos rfl], ?_, hI⟩
    rw [M_isSeed v, bd_mk, b2_f c1, if_pos rfl]
