/-! ===== values: the front ===== -/
theorem VW.fr {s s' : St} {F : Nat → Int32} {M T S E A U Y L P N : Nat} {l : List Nat} (v : VW s F M T S E A U Y L P N) (hf : Fr l s s') (hl : ∀ i ∈ l, 15 ≤ i ∧ i ≠ 59) : VW s' F M T S E A U Y L P N := by
  have hn : ∀ i, (i < 15 ∨ i = 59) → gf s' i = gf s i ∧ gr s' i = gr s i := fun i hi => by
    have := hf.1 i (fun hm => by have := hl i hm; omega)
    exact ⟨this.1, this.2.1⟩
  obtain ⟨h1, h2, a1, a2, a3, a4, a5, a6, a7, a8, a9, a10, b0, b1, b2', b3, b4, b5, b6, b7, b8, c1, c2, c3, c4, c5, c6, c7, c8, c9⟩ := v
  have g1 := (hn 1 (by omega)).1
  have g59 := (hn 59 (by omega)).2
  refine ⟨?_, by rw [g59]; exact h2, a1, a2, a3, a4, a5, a6, a7, a8, a9, a10, by rw [g1]; exact b0, by rw [g1]; exact b1, by rw [g1]; exact b2', by rw [g1]; exact b3, by rw [(hn 3 (by omega)).1]; exact b4, by rw [(hn 5 (by omega)).1]; exact b5, by rw [(hn 7 (by omega)).1]; exact b6, by rw [(hn 9 (by omega)).1]; exact b7, by rw [(hn 11 (by omega)).1]; exact b8, by rw [g59]; exact c1, by rw [g59]; exact c2, by rw [g59]; exact c3, by rw [g59]; exact c4, by rw [g59]; exact c5, by rw [g59]; exact c6, by rw [g59]; exact c7, by rw [g59]; exact c8, by rw [g59]; exact c9⟩
  refine WR.be (w := 1) (u := 1) h1 ⟨fun k _ => by rw [(hn 1 (by omega)).1], fun j _ => by rw [(hn (1 + 1) (by omega)).2], fun t ht => ?_⟩
  have ht' : t ≤ 12 := by omega
  exact ⟨by rw [(hn (1 + t) (by omega)).1], fun j _ => by rw [(hn (1 + t + 1) (by omega)).2]⟩
/-- the first that fits -/
def anyV (Q : Nat → Prop) [DecidablePred Q] : Nat → Nat → Int32
  | 0, _ => 0
  | c + 1, i => if Q i then 1 else anyV Q c (i + 1)
theorem itr_any {α : Type} {body : (α → Option (Int32 × St)) → α → Option (Int32 × St)} (X : Nat → α) (m : Nat) (s : St) (Q : Nat → Prop) [DecidablePred Q] (hs : ∀ i (K : α → Option (Int32 × St)), i < m → body K (X i) = if Q i then some (1, s) else K (X (i + 1))) (he : ∀ K : α → Option (Int32 × St), body K (X m) = some (0, s)) : ∀ (c i n : Nat), i + c = m → c < n → itr body n (X i) = some (anyV Q c i, s) := by
  intro c
  induction c with
  | zero =>
    intro i n hi hn
    obtain ⟨R, rfl⟩ : ∃ R, n = R + 1 := ⟨n - 1, by omega⟩
    obtain rfl : i = m := by omega
    rw [itr_succ, he]
    rfl
  | succ c ih =>
    intro i n hi hn
    obtain ⟨R, rfl⟩ : ∃ R, n = R + 1 := ⟨n - 1, by omega⟩
    rw [itr_succ, hs i _ (by omega)]
    show _ = some ((if Q i then 1 else anyV Q c (i + 1)), s)
    by_cases e : Q i
    · rw [if_pos e, if_pos e]
    · rw [if_neg e, if_neg e]
      exact ih (i + 1) R (by omega) (by omega)
def teaV (F : Nat → Int32) (E : Nat) (m : Int32) : Int32 := anyV (fun i => F (67 + 2 * i) ≤ m ∧ m ≤ F (67 + 2 * i + 1)) E 0
theorem M_tea {s : St} {F : Nat → Int32} {M T S E A U Y L P N : Nat} (v : VW s F M T S E A U Y L P N) (m : Int32) : f_X12_isTea m s = some (teaV F E m, s) := by
  have hE := v.2.2.hE
  unfold f_X12_isTea
  refine itr_any (fun i => (m, nI i, s)) E s (fun i => F (67 + 2 * i) ≤ m ∧ m ≤ F (67 + 2 * i + 1)) (fun i K hi => ?_) (fun K => ?_) E 0 FU (by omega) (by unfold FU; omega)
  · have e1 : inb ((67 : Int32) + (2 : Int32) * nI i) (ln 59) = true ∧ ((67 : Int32) + (2 : Int32) * nI i).toNatClampNeg = 67 + 2 * i := by
      simp only [zL67, zL2, nI_mul, nI_add]
      exact ⟨inb_ln (n := 240) rfl (by omega) (by omega), nI_clamp (by omega)⟩
    have e2 : inb ((67 : Int32) + (2 : Int32) * nI i + 1) (ln 59) = true ∧ ((67 : Int32) + (2 : Int32) * nI i + 1).toNatClampNeg = 67 + 2 * i + 1 := by
      simp only [zL67, zL2, nI_mul, nI_add, nI_1]
      exact ⟨inb_ln (n := 240) rfl (by omega) (by omega), nI_clamp (by omega)⟩
    unfold g_X12_isTea_2
    dsimp only
    rw [show inb (5 : Int32) (ln 59) = true from rfl, gd_tt, show gr s 59 (5 : Int32).toNatClampNeg = nI E from v.2.2.mE, if_neg (lt_ge hi (by omega)), e1.1, gd_tt, e2.1, gd_tt, e1.2, e2.2, v.2.1, S_in32, bd_mk, nI_1, bz_1, gd_tt]
    by_cases c : F (67 + 2 * i) ≤ m ∧ m ≤ F (67 + 2 * i + 1)
    · rw [if_pos c, b2_t (by rw [le_toInt, le_toInt] at c; exact c), if_neg n10]
    · rw [if_neg c, b2_f (by rw [le_toInt, le_toInt] at c; exact c), if_pos rfl]
      rfl
  · unfold g_X12_isTea_2
    dsimp only
    rw [show inb (5 : Int32) (ln 59) = true from rfl, gd_tt, show gr s 59 (5 : Int32).toNatClampNeg = nI E from v.2.2.mE, if_pos (le_rf E), bz_0, gd_tt]
theorem V_tea {s : St} {F : Nat → Int32} {M T S E A U Y L P N : Nat} (v : VW s F M T S E A U Y L P N) (m : Int32) : f_X10_isTea 1 m s = some (teaV F E m, s) := by
  obtain ⟨r, h1, h2⟩ := V_isTea v m
  rw [M_tea v] at h2
  rw [h1]
  cases h2
  rfl
def sgnI (x : Int32) : Int32 := if x ≤ 0 then (if 0 ≤ x then 0 else -1) else 1
/-- where the front stands -/
def frA (F : Nat → Int32) (E T : Nat) (x : Int32) : Nat → Int32
  | 0 => 0
  | i + 1 => frA F E T x i + sgnI (if teaV F E (nI i) = 0 then menA F 0 (nI i) x T - menA F 1 (nI i) x T else 0)
theorem S_sgn (x : Int32) (σ : St) : f_X2_signOf x σ = some (sgnI x, σ) := by
  unfold f_X2_signOf f_X2_signOf_17 sgnI
  by_cases c : x ≤ 0
  · rw [if_pos c, if_pos c]
    by_cases c1 : 0 ≤ x
    · rw [if_pos c1, if_pos c1]
    · rw [if_neg c1, if_neg c1]
  · rw [if_neg c, if_neg c]
theorem sgn0 : sgnI 0 = 0 := by decide
theorem V_follow {s : St} {F : Nat → Int32} {M T S E A U Y L P N : Nat} (v : VW s F M T S E A U Y L P N) (x : Int32) : Ok (fun _ s' => Fr [32] s s' ∧ ∀ j, j ≤ M → gr s' 32 j = frA F E T x j) (f_X2_follow x s) := by
  have hM := v.2.2.hM
  unfold f_X2_follow
  refine okD rfl ?_
  rw [bnd_mk]
  refine okC (fun (i : Nat) (y : Int32 × Int32 × Int32 × St) => y.1 = x ∧ y.2.1 = frA F E T x i ∧ y.2.2.1 = nI i ∧ Fr [32] s y.2.2.2 ∧ ∀ j, j ≤ i → gr y.2.2.2 32 j = frA F E T x j) M ?_ (i := 0) (by unfold FU; omega) (by omega) ⟨rfl, rfl, rfl, Fr.c2 (by simp), fun j hj => by
    obtain rfl : j = 0 := by omega
    show gr (sr s 32 0 0) 32 0 = 0
    rw [gr_sr_s, if_pos rfl]⟩
  rintro i ⟨y1, y2, y3, s1⟩ K hi ⟨e1, e2, e3, hf, hj⟩ hK
  dsimp only at e1 e2 e3 hf hj
  subst e1 e2 e3
  have v1 := v.fr hf (by decide)
  unfold g_X2_follow_11 f_X2_follow_69
  dsimp only
  rw [show gf s1 1 1 = nI M from v1.2.2.cM]
  refine okI (fun c => okR ⟨hf, ?_⟩) (fun c => ?_)
  · have : i = M := by
      rw [le_toInt, nI_toInt (by omega), nI_toInt (by omega)] at c
      omega
    rw [← this]
    exact hj
  · replace c : i < M := cnt_le rfl (by omega) c hi
    rw [if_neg (show ¬ (60 : Int32) ≤ nI i from nI_ge (b := 60) (a := i) (by omega) (by omega)), V_tea v1, bd_mk]
    have key : ∀ z, z = frA F E T y1 (i + 1) → Ok (fun _ s' => Fr [32] s s' ∧ ∀ j, j ≤ M → gr s' 32 j = frA F E T y1 j) (f_X2_follow_54 K y1 z (nI i) s1) := by
      intro z hz
      unfold f_X2_follow_54
      rw [nI_1]
      refine okD (inb_ln (n := 61) rfl (by omega) (by omega)) ?_
      rw [nI_clamp (by omega), bnd_mk, bnd_mk]
      refine hK _ c ⟨rfl, hz, rfl, hf.tr (Fr.c2 (by simp)), fun j hj' => ?_⟩
      show gr (sr s1 32 (i + 1) z) 32 j = _
      rw [gr_sr_s]
      by_cases e : j = i + 1
      · rw [if_pos e, e]; exact hz
      · rw [if_neg e]; exact hj j (by omega)
    refine okI (fun c1 => ?_) (fun c1 => ?_)
    · rw [V_lead v1, bd_mk, S_sgn, bd_mk, bnd_mk]
      refine key _ ?_
      show _ = frA F E T y1 i + sgnI (if teaV F E (nI i) = 0 then menA F 0 (nI i) y1 T - menA F 1 (nI i) y1 T else 0)
      rw [if_pos c1]
    · refine key _ ?_
      show _ = frA F E T y1 i + sgnI (if teaV F E (nI i) = 0 then menA F 0 (nI i) y1 T - menA F 1 (nI i) y1 T else 0)
      rw [if_neg c1, sgn0, Int32.add_zero]
theorem M_front {s : St} {F : Nat → Int32} {M T S E A U Y L P N : Nat} (v : VW s F M T S E A U Y L P N) {t : Nat} (x : Int32) (ht : t ≤ 60) : Ok (fun r s' => r = frA F E T x t ∧ Fr [65] s s' ∧ ∀ j, j ≤ t → gr s' 65 j = frA F E T x j) (f_X12_frontOf (nI t) x s) := by
  unfold f_X12_frontOf
  refine okD rfl ?_
  rw [bnd_mk]
  refine okC (fun (i : Nat) (y : Int32 × Int32 × Int32 × St) => y.1 = nI t ∧ y.2.1 = x ∧ y.2.2.1 = nI i ∧ Fr [65] s y.2.2.2 ∧ ∀ j, j ≤ i → gr y.2.2.2 65 j = frA F E T x j) t ?_ (i := 0) (by unfold FU; omega) (by omega) ⟨rfl, rfl, rfl, Fr.c2 (by simp), fun j hj => by
    obtain rfl : j = 0 := by omega
    show gr (sr s 65 0 0) 65 0 = 0
    rw [gr_sr_s, if_pos rfl]⟩
  rintro i ⟨y1, y2, y3, s1⟩ K hi ⟨e1, e2, e3, hf, hj⟩ hK
  dsimp only at e1 e2 e3 hf hj
  subst e1 e2 e3
  have v1 := v.fr hf (by decide)
  unfold g_X12_frontOf_9
  dsimp only
  refine okI (fun c => ?_) (fun c => ?_)
  · have : i = t := by
      rw [le_toInt, nI_toInt (by omega), nI_toInt (by omega)] at c
      omega
    refine okD (inb_ln (n := 61) rfl (by omega) (by omega)) ?_
    rw [nI_clamp (by omega)]
    exact okR ⟨hj t (by omega), hf, fun j h => hj j (by omega)⟩
  · replace c : i < t := cnt_le rfl (by omega) c hi
    have key : ∀ k0, sgnI k0 = sgnI (if teaV F E (nI i) = 0 then menA F 0 (nI i) y2 T - menA F 1 (nI i) y2 T else 0) → Ok (fun r s' => r = frA F E T y2 t ∧ Fr [65] s s' ∧ ∀ j, j ≤ t → gr s' 65 j = frA F E T y2 j) (f_X12_frontOf_41 K (nI t) y2 (nI i) k0 s1) := by
      intro k0 hk
      have key2 : ∀ a, a = sgnI k0 → Ok (fun r s' => r = frA F E T y2 t ∧ Fr [65] s s' ∧ ∀ j, j ≤ t → gr s' 65 j = frA F E T y2 j) (f_X12_frontOf_75 K (nI t) y2 (nI i) a (gr s1 65 i) (nI i + 1) s1) := by
        intro a ha
        unfold f_X12_frontOf_75
        rw [nI_1]
        refine okD (inb_ln (n := 61) rfl (by omega) (by omega)) ?_
        rw [nI_clamp (by omega), bnd_mk, bnd_mk]
        refine hK _ c ⟨rfl, rfl, rfl, hf.tr (Fr.c2 (by simp)), fun j hj' => ?_⟩
        show gr (sr s1 65 (i + 1) (gr s1 65 i + a)) 65 j = _
        rw [gr_sr_s]
        by_cases e : j = i + 1
        · rw [if_pos e, e, hj i (by omega), ha, hk]
          rfl
        · rw [if_neg e]; exact hj j (by omega)
      unfold f_X12_frontOf_41
      refine okD (inb_ln (n := 61) rfl (by omega) (by omega)) ?_
      rw [nI_clamp (by omega)]
      refine okI (fun c1 => okI (fun c2 => key2 _ ?_) (fun c2 => key2 _ ?_)) (fun c1 => key2 _ ?_)
      · unfold sgnI; rw [if_pos c1, if_pos c2]
      · unfold sgnI; rw [if_pos c1, if_neg c2]
      · unfold sgnI; rw [if_neg c1]
    rw [M_tea v1, bd_mk]
    refine okI (fun c1 => ?_) (fun c1 => ?_)
    · rw [M_men v1, bd_mk, M_men v1, bd_mk]
      exact key _ (by rw [if_pos c1])
    · exact key _ (by rw [if_neg c1])
theorem S_behind {σ : St} {i : Nat} (hi : i ≤ 60) : f_X2_frontBehind (nI i) σ = some (gr σ 32 i, σ) := by
  unfold f_X2_frontBehind f_X2_frontBehind_23
  rw [if_neg (nI_pos (by omega)), if_neg (show ¬ nI (ln 32) ≤ nI i from nI_ge (b := 61) (a := i) (by omega) (by omega)), inb_ln (n := 61) rfl (by omega) (by omega), gd_tt, nI_clamp (by omega)]
theorem IV.f2 {σ s1 s2 : St} (hI : IV σ) (h1 : Fr [32] σ s1) (h2 : Fr [65] s1 s2) : IV s2 := by
  have h := (h1.mo (l' := [32, 65]) (by simp)).tr (h2.mo (l' := [32, 65]) (by simp))
  exact hI.fr0 h (by decide) (fun c _ => by rw [(h.1 58 (by decide)).1])
theorem D_front (a b : Int32) (σ : St) (hI : IV σ) : ∃ r s1 s2, f_X11_front a b σ = some (r, s1) ∧ f_X12_front a b s1 = some (r, s2) ∧ IV s2 := by
  obtain ⟨M, T, S, E, A, U, Y, L, P, N, v⟩ := hI.vw
  have hM := v.2.2.hM
  have z0 : (0 : Int32).toInt = 0 := rfl
  have ref : ∀ s : St, VW s (gr σ 59) M T S E A U Y L P N → f_X12_front a b s = (if 1 ≤ N ∧ 0 ≤ b.toInt ∧ b.toInt < S then (if 0 ≤ a.toInt ∧ a.toInt ≤ M then (bd (f_X12_frontOf a b s) fun r s' => some (r, s')) else some (-1000, s)) else some (-1000, s)) := fun s v => by
    unfold f_X12_front f_X12_front_33 f_X12_front_36
    rw [S_areTrains v, bd_mk]
    by_cases c : 1 ≤ N ∧ 0 ≤ b.toInt ∧ b.toInt < S
    · rw [b2_t c, if_neg n10, if_pos c, show inb (0 : Int32) (ln 59) = true from rfl, gd_tt, M_inB _ 0 (gr s 59 (0 : Int32).toNatClampNeg).toInt64 (a := 0) (b := M) rfl (by rw [show gr s 59 (0 : Int32).toNatClampNeg = nI M from v.2.2.mM, Int32.toInt_toInt64, nI_toInt (by omega)]), bd_mk]
      by_cases c1 : 0 ≤ a.toInt ∧ a.toInt ≤ M
      · rw [b2_t c1, if_neg n10, if_pos c1]
      · rw [b2_f c1, if_pos rfl, if_neg c1]
    · rw [b2_f c, if_pos rfl, if_neg c]
  unfold f_X11_front f_X11_front_26
  rw [S_hasSet v, bd_mk, show gf σ 1 1 = nI M from v.2.2.cM]
  by_cases c : 1 ≤ N ∧ 0 ≤ b.toInt ∧ b.toInt < S
  · rw [b2_t c, if_neg n10]
    by_cases c1 : 0 ≤ a.toInt ∧ a.toInt ≤ M
    · obtain ⟨t, ht, rfl⟩ := nI_ofT (x := a) (n := 60) c1.1 (by omega)
      have ht' : t ≤ M := by
        have := c1.2
        rw [nI_toInt (by omega)] at this
        omega
      rw [if_neg (nI_pos (by omega)), if_pos (nI_le ht' (by omega))]
      obtain ⟨r0, s1, e1, f1, g1⟩ := V_follow v b
      obtain ⟨r, s2, e2, q, f2, -⟩ := M_front (v.fr f1 (by decide)) b ht
      refine ⟨r, s1, s2, ?_, ?_, hI.f2 f1 f2⟩
      · rw [e1, bd_mk, S_behind ht, bd_mk, g1 t ht', q]
      · rw [ref s1 (v.fr f1 (by decide)), if_pos c, if_pos c1, e2, bd_mk]
    · refine ⟨-1000, σ, σ, ?_, by rw [ref σ v, if_pos c, if_neg c1], hI⟩
      by_cases e : a < 0
      · rw [if_pos e]
      · rw [if_neg e, if_neg]
        rw [lt_toInt] at e
        rw [le_toInt, nI_toInt (by omega)]
        omega
  · exact ⟨-1000, σ, σ, by rw [b2_f c, if_pos rfl], by rw [ref σ v, if_neg c], hI⟩
/-- who wins -/
def winA (F : Nat → Int32) (M E T L : Nat) (x : Int32) : Int32 := if lateA F L T 0 x = lateA F L T 1 x then (if frA F E T x M ≤ 0 then (if 0 ≤ frA F E T x M then -1 else 1) else 0) else (if lateA F L T 0 x = 0 then 0 else 1)
theorem lat2_cases (F : Nat → Int32) (L T : Nat) (x : Int32) : (lateA F L T 0 x = 0 ∧ lateA F L T 1 x = 0 ∧ lat2 F L T x 2 = 0) ∨ (lateA F L T 0 x = 1 ∧ lateA F L T 1 x = 0 ∧ lat2 F L T x 2 = 1) ∨ (lateA F L T 0 x = 0 ∧ lateA F L T 1 x = 1 ∧ lat2 F L T x 2 = 2) ∨ (lateA F L T 0 x = 1 ∧ lateA F L T 1 x = 1 ∧ lat2 F L T x 2 = 3) := by
  have e : lat2 F L T x 2 = (if F (11 + 1) ≤ menA F (nI 1) (nI L) x T then (if F (11 + 0) ≤ menA F (nI 0) (nI L) x T then (0 : Int32) else 0 ||| ((1 : Int32) <<< (nI 0 &&& 31))) else (if F (11 + 0) ≤ menA F (nI 0) (nI L) x T then (0 : Int32) else 0 ||| ((1 : Int32) <<< (nI 0 &&& 31))) ||| ((1 : Int32) <<< (nI 1 &&& 31))) := rfl
  rw [e]
  unfold lateA
  by_cases c0 : F (11 + 0) ≤ menA F (nI 0) (nI L) x T
  · by_cases c1 : F (11 + 1) ≤ menA F (nI 1) (nI L) x T
    · exact Or.inl ⟨if_pos c0, if_pos c1, by rw [if_pos c1, if_pos c0]⟩
    · exact Or.inr (Or.inr (Or.inl ⟨if_pos c0, if_neg c1, by rw [if_neg c1, if_pos c0]; rfl⟩))
  · by_cases c1 : F (11 + 1) ≤ menA F (nI 1) (nI L) x T
    · exact Or.inr (Or.inl ⟨if_neg c0, if_pos c1, by rw [if_pos c1, if_neg c0]; rfl⟩)
    · exact Or.inr (Or.inr (Or.inr ⟨if_neg c0, if_neg c1, by rw [if_neg c1, if_neg c0]; rfl⟩))
theorem S_winner (F : Nat → Int32) (M E T L : Nat) (x : Int32) (σ : St) : f_X2_winner (lat2 F L T x 2) (frA F E T x M) σ = some (winA F M E T L x, σ) := by
  have hf : (if frA F E T x M ≤ 0 then if 0 ≤ frA F E T x M then f_X2_winner_49 (-1) σ else f_X2_winner_49 1 σ else f_X2_winner_49 0 σ) = some ((if frA F E T x M ≤ 0 then (if 0 ≤ frA F E T x M then -1 else 1) else 0), σ) := by
    unfold f_X2_winner_49
    by_cases c : frA F E T x M ≤ 0
    · rw [if_pos c, if_pos c]
      by_cases c1 : 0 ≤ frA F E T x M
      · rw [if_pos c1, if_pos c1]
      · rw [if_neg c1, if_neg c1]
    · rw [if_neg c, if_neg c]
  unfold f_X2_winner winA
  rcases lat2_cases F L T x with ⟨a, b, c⟩ | ⟨a, b, c⟩ | ⟨a, b, c⟩ | ⟨a, b, c⟩
  · rw [a, b, c, if_neg (by decide), if_neg (by decide), if_pos rfl]; exact hf
  · rw [a, b, c, if_pos rfl, if_neg (by decide), if_neg (by decide)]
  · rw [a, b, c, if_neg (by decide), if_pos rfl, if_neg (by decide), if_pos rfl]
  · rw [a, b, c, if_neg (by decide), if_neg (by decide), if_pos rfl]; exact hf
theorem V_winnerBy {s : St} {F : Nat → Int32} {M T S E A U Y L P N : Nat} (v : VW s F M T S E A U Y L P N) (x : Int32) : Ok (fun r s' => r = winA F M E T L x ∧ Fr [32] s s') (f_X2_winnerBy x s) := by
  have hM := v.2.2.hM
  obtain ⟨r0, s1, e1, f1, g1⟩ := V_follow v x
  have v1 := v.fr f1 (by decide)
  refine ⟨_, s1, ?_, rfl, f1⟩
  unfold f_X2_winnerBy
  rw [e1, bd_mk, V_lateSides v1, bd_mk, show gf s1 1 1 = nI M from v1.2.2.cM, S_behind hM, bd_mk, g1 M (by omega), S_winner, bd_mk]
theorem M_last {s : St} {F : Nat → Int32} {M T S E A U Y L P N : Nat} (v : VW s F M T S E A U Y L P N) (x : Int32) : Ok (fun r s' => r = frA F E T x M ∧ Fr [65] s s' ∧ ∀ j, j ≤ M → gr s' 65 j = frA F E T x j) (f_X12_lastFront x s) := by
  obtain ⟨r, s2, e2, q, f2, g2⟩ := M_front v x v.2.2.hM
  refine ⟨r, s2, ?_, q, f2, g2⟩
  unfold f_X12_lastFront
  rw [show inb (0 : Int32) (ln 59) = true from rfl, gd_tt, show gr s 59 (0 : Int32).toNatClampNeg = nI M from v.2.2.mM, e2, bd_mk]
theorem M_winner {s : St} {F : Nat → Int32} {M T S E A U Y L P N : Nat} (v : VW s F M T S E A U Y L P N) (x : Int32) : Ok (fun r s' => r = winA F M E T L x ∧ Fr [65] s s') (f_X12_winner x s) := by
  unfold f_X12_winner f_X12_winner_28 f_X12_winner_55
  rw [show f_X12_isLate (0 : Int32) x s = some (lateA F L T 0 x, s) from M_isLate v (i := 0) x (by omega), bd_mk, show f_X12_isLate (1 : Int32) x s = some (lateA F L T 1 x, s) from M_isLate v (i := 1) x (by omega), bd_mk]
  obtain ⟨r, s2, e2, q, f2, g2⟩ := M_last v x
  refine okI (fun c => ?_) (fun c => ?_)
  · rw [e2, bd_mk]
    refine ⟨winA F M E T L x, s2, ?_, rfl, f2⟩
    unfold winA
    rw [if_pos c, q]
    by_cases c1 : frA F E T x M ≤ 0
    · rw [if_pos c1, if_pos c1]
      by_cases c2 : 0 ≤ frA F E T x M
      · rw [if_pos c2, if_pos c2]
      · rw [if_neg c2, if_neg c2]
    · rw [if_neg c1, if_neg c1]
  · refine ⟨winA F M E T L x, s, ?_, rfl, Fr.rf⟩
    unfold winA
    rw [if_neg c]
    by_cases c1 : lateA F L T 0 x = 0
    · rw [if_pos c1, if_pos c1]
    · rw [if_neg c1, if_neg c1]
theorem D_wins (a : Int32) (σ : St) (hI : IV σ) : ∃ r s1 s2, f_X11_wins a σ = some (r, s1) ∧ f_X12_wins a s1 = some (r, s2) ∧ IV s2 := by
  obtain ⟨M, T, S, E, A, U, Y, L, P, N, v⟩ := hI.vw
  unfold f_X11_wins f_X11_wins_24 f_X12_wins f_X12_wins_18
  rw [S_hasSet v, bd_mk]
  by_cases c : 1 ≤ N ∧ 0 ≤ a.toInt ∧ a.toInt < S
  · obtain ⟨r1, s1, e1, q1, f1⟩ := V_winnerBy v a
    have v1 := v.fr f1 (by decide)
    obtain ⟨r2, s2, e2, q2, f2⟩ := M_winner v1 a
    refine ⟨r1, s1, s2, by rw [b2_t c, if_neg n10, e1, bd_mk], ?_, hI.f2 f1 f2⟩
    rw [S_areTrains v1, bd_mk, b2_t c, if_neg n10, e2, bd_mk, q1, q2]
  · refine ⟨-2, σ, σ, by rw [b2_f c, if_pos rfl], ?_, hI⟩
    rw [S_areTrains v, bd_mk, b2_f c, if_pos rfl]
/-- good for a side -/
def gooA (p x : Int32) : Int32 := if p = 0 then x else -x
theorem S_good2 (p x : Int32) (σ : St) : f_X2_good p x σ = some (gooA p x, σ) := by
  unfold f_X2_good f_X2_good_10 gooA
  by_cases c : p = 0
  · rw [if_pos c, if_pos c]
  · rw [if_neg c, if_neg c]
theorem S_goodBy (p x : Int32) (σ : St) : f_X12_goodBy p x σ = some (gooA p x, σ) := by
  unfold f_X12_goodBy f_X12_goodBy_10 gooA
  by_cases c : p = 0
  · rw [if_pos c, if_pos c]
  · rw [if_neg c, if_neg c]
def pkA (p : Int32) (f : Nat → Int32) : Nat → Nat
  | 0 => 0
  | i + 1 => if gooA p (f (i + 1)) ≤ gooA p (f (pkA p f i)) then pkA p f i else i + 1
theorem pkA_le (p : Int32) (f : Nat → Int32) : ∀ i, pkA p f i ≤ i := by
  intro i
  induction i with
  | zero => exact Nat.le_refl _
  | succ i ih =>
    show (if gooA p (f (i + 1)) ≤ gooA p (f (pkA p f i)) then pkA p f i else i + 1) ≤ i + 1
    split
    · omega
    · omega
theorem D_peak (a b : Int32) (σ : St) (hI : IV σ) : ∃ r s1 s2, f_X11_peak a b σ = some (r, s1) ∧ f_X12_peak a b s1 = some (r, s2) ∧ IV s2 := by
  obtain ⟨M, T, S, E, A, U, Y, L, P, N, v⟩ := hI.vw
  have hb := v.2.2
  have hM := v.2.2.hM
  unfold f_X11_peak f_X11_peak_22 f_X12_peak f_X12_peak_16
  rw [S_hasSide _ hb.hN hb.cN, bd_mk]
  by_cases c1 : 1 ≤ N ∧ (a = 0 ∨ a = 1)
  · rw [b2_t c1, if_neg n10, S_hasSet v, bd_mk]
    by_cases c3 : 1 ≤ N ∧ 0 ≤ b.toInt ∧ b.toInt < S
    · obtain ⟨r0, s1, e1, f1, g1⟩ := V_follow v b
      have v1 := v.fr f1 (by decide)
      obtain ⟨r2, s2, e2, q2, f2, g2⟩ := M_last v1 b
      have v2 := v1.fr f2 (by decide)
      refine ⟨nI (pkA a (frA (gr σ 59) E T b) M), s1, s2, ?_, ?_, hI.f2 f1 f2⟩
      · rw [b2_t c3, if_neg n10, e1, bd_mk]
        have key : f_X2_peakOf a s1 = some (nI (pkA a (frA (gr σ 59) E T b) M), s1) := by
          unfold f_X2_peakOf
          refine itr_cnt (fun i => (a, nI (pkA a (frA (gr σ 59) E T b) i), nI (i + 1), s1)) M _ (fun i K hi => ?_) (fun K => ?_) M 0 FU (by omega) (by unfold FU; omega)
          · have := pkA_le a (frA (gr σ 59) E T b) i
            unfold g_X2_peakOf_4 f_X2_peakOf_38
            dsimp only
            rw [show gf s1 1 1 = nI M from v1.2.2.cM, if_neg (nI_nlt (by omega) (by omega)), S_behind (by omega), bd_mk, S_good2, bd_mk, S_behind (by omega), bd_mk, S_good2, bd_mk, g1 _ (by omega), g1 _ (by omega), nI_1]
            show _ = K (a, nI (if gooA a (frA (gr σ 59) E T b (i + 1)) ≤ gooA a (frA (gr σ 59) E T b (pkA a (frA (gr σ 59) E T b) i)) then pkA a (frA (gr σ 59) E T b) i else i + 1), nI (i + 1 + 1), s1)
            by_cases e : gooA a (frA (gr σ 59) E T b (i + 1)) ≤ gooA a (frA (gr σ 59) E T b (pkA a (frA (gr σ 59) E T b) i))
            · rw [if_pos e, if_pos e]
              rfl
            · rw [if_neg e, if_neg e]
              rfl
          · unfold g_X2_peakOf_4
            dsimp only
            rw [show gf s1 1 1 = nI M from v1.2.2.cM, if_pos (nI_lt (by omega) (by omega))]
        rw [key, bd_mk]
      · rw [S_isSide _ hb.hN v1.2.2.mN, bd_mk, b2_t c1, if_neg n10, S_areTrains v1, bd_mk, b2_t c3, if_neg n10, e2, bd_mk]
        refine itr_cnt (fun i => (a, nI (pkA a (frA (gr σ 59) E T b) i), nI (i + 1), s2)) M _ (fun i K hi => ?_) (fun K => ?_) M 0 FU (by omega) (by unfold FU; omega)
        · have := pkA_le a (frA (gr σ 59) E T b) i
          unfold g_X12_peak_30 f_X12_peak_71
          dsimp only
          rw [show inb (0 : Int32) (ln 59) = true from rfl, gd_tt, show gr s2 59 (0 : Int32).toNatClampNeg = nI M from v2.2.2.mM, if_neg (nI_nlt (by omega) (by omega)), inb_ln (n := 61) rfl (by omega) (by omega), gd_tt, nI_clamp (by omega), S_goodBy, bd_mk, inb_ln (n := 61) rfl (by omega) (by omega), gd_tt, nI_clamp (by omega), S_goodBy, bd_mk, g2 _ (by omega), g2 _ (by omega), nI_1]
          show _ = K (a, nI (if gooA a (frA (gr σ 59) E T b (i + 1)) ≤ gooA a (frA (gr σ 59) E T b (pkA a (frA (gr σ 59) E T b) i)) then pkA a (frA (gr σ 59) E T b) i else i + 1), nI (i + 1 + 1), s2)
          by_cases e : gooA a (frA (gr σ 59) E T b (i + 1)) ≤ gooA a (frA (gr σ 59) E T b (pkA a (frA (gr σ 59) E T b) i))
          · rw [if_pos e, if_pos e]
            rfl
          · rw [if_neg e, if_neg e]
            rfl
        · unfold g_X12_peak_30
          dsimp only
          rw [show inb (0 : Int32) (ln 59) = true from rfl, gd_tt, show gr s2 59 (0 : Int32).toNatClampNeg = nI M from v2.2.2.mM, if_pos (nI_lt (by omega) (by omega))]
    · refine ⟨-2, σ, σ, by rw [b2_f c3, if_pos rfl], ?_, hI⟩
      rw [S_isSide _ hb.hN hb.mN, bd_mk, b2_t c1, if_neg n10, S_areTrains v, bd_mk, b2_f c3, if_pos rfl]
  · refine ⟨-2, σ, σ, by rw [b2_f c1, if_pos rfl], ?_, hI⟩
    rw [S_isSide _ hb.hN hb.mN, bd_mk, b2_f c1, if_pos rfl]
