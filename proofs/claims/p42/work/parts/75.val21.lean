/-! ===== values: pairs that rest ===== -/
theorem smN_z {f : Nat → Nat} : ∀ n, (∀ i, i < n → f i = 0) → smN f n = 0 := by
  intro n
  induction n with
  | zero => exact fun _ => rfl
  | succ n ih =>
    intro h
    show smN f n + f n = 0
    rw [ih (fun i hi => h i (by omega)), h n (by omega)]
theorem smN_one {f : Nat → Nat} {a : Nat} : ∀ n, a < n → (∀ i, i < n → i ≠ a → f i = 0) → smN f n = f a := by
  intro n
  induction n with
  | zero => exact fun h => absurd h (by omega)
  | succ n ih =>
    intro ha h
    show smN f n + f n = f a
    by_cases e : a = n
    · subst e
      rw [smN_z a (fun i hi => h i (by omega) (by omega)), Nat.zero_add]
    · rw [ih (by omega) (fun i hi => h i (by omega)), h n (by omega) (fun z => e z.symm)]
      rfl
theorem smN_plus (f g : Nat → Nat) : ∀ n, smN (fun i => f i + g i) n = smN f n + smN g n := by
  intro n
  induction n with
  | zero => rfl
  | succ n ih =>
    show smN (fun i => f i + g i) n + (f n + g n) = (smN f n + f n) + (smN g n + g n)
    omega
theorem smN_ex (f : Nat → Nat → Nat) (n : Nat) : ∀ m, smN (fun x => smN (fun y => f x y) n) m = smN (fun y => smN (fun x => f x y) m) n := by
  intro m
  induction m with
  | zero => exact (smN_z n (fun _ _ => rfl)).symm
  | succ m ih =>
    show smN (fun x => smN (fun y => f x y) n) m + smN (fun y => f m y) n = smN (fun y => smN (fun x => f x y) m + f m y) n
    rw [ih, smN_plus (fun y => smN (fun x => f x y) m) (fun y => f m y)]
theorem neg_t {x : Int32} (h : -1000 ≤ x.toInt ∧ x.toInt ≤ 1000) : (-x).toInt = -x.toInt := by
  rw [Int32.toInt_neg]
  apply Int.bmod_eq_of_le
  · omega
  · omega
theorem fr_1000 {s : St} {F : Nat → Int32} {M T S E A U Y L P N : Nat} (v : VW s F M T S E A U Y L P N) (i : Nat) : -1000 ≤ (frA F E T (nI i) M).toInt ∧ (frA F E T (nI i) M).toInt ≤ 1000 := by
  have hM := v.2.2.hM
  have := fr_b F E T (nI i) M (by omega)
  omega
/-- the class's worst of set y, and the reference's best of the other side -/
theorem ls_be {s : St} {F : Nat → Int32} {M T S E A U Y L P N : Nat} (v : VW s F M T S E A U Y L P N) {k k' y : Nat} (m : Int32) (hk : k < 2 ^ T) (hk' : k' < 2 ^ T) (ek : tofA F (nI 0) T = nI k) (ek' : tofA F (nI 1) T = nI k') (hy : y < S) (hb : buQ F T 1 m y) : (beA F M E T S 1 m y).toInt = -(miA (upQ F T m k y) (gfA F M E T (nI 0)) S).toInt := by
  have h5 := v.2.2.S512
  have hS := v.2.2.hS
  have hm := masks v (q := 0) (by omega) hk hk' ek ek'
  have hy0 : y &&& k = 0 := by
    have h1 := hb.1
    rw [ek', sub_hi (by omega) (by omega), mask_c hm (by omega)] at h1
    exact h1
  rw [← mi_mx (upQ F T m k y) (gfA F M E T (nI 0)) (gfA F M E T (nI 1)) (fun i => neg_t (fr_1000 v i)) S]
  congr 1
  refine mx_eq _ _ _ _ _ _ (fun x hx hQ => ?_) (fun i hi hQ => ?_)
  · have hx0 : hiN x k = 0 := by
      have h1 := hQ.1
      rw [show tofA F (nI (1 - 1)) T = nI k from ek] at h1
      exact (sub_hi (by omega) (by omega)).mp h1
    refine ⟨x ||| y, ?_, ⟨⟨?_, ?_⟩, or_hi hx0 hy0⟩, ?_⟩
    · rw [hS] at hx hy ⊢
      exact Nat.or_lt_two_pow hx hy
    · rw [or_lo hx0 hy0]
      exact hQ.2
    · rw [or_hi hx0 hy0]
      exact hb.2
    · show gfA F M E T (nI 1) (y ||| x) = _
      rw [Nat.or_comm]
  · refine ⟨i &&& k, lo_lt hi, ⟨?_, hQ.1.1⟩, ?_⟩
    · show (nI (i &&& k) &&& (tofA F (nI 0) T ^^^ (-1 : Int32))) = 0
      rw [ek]
      exact (sub_hi (Nat.lt_of_lt_of_le (lo_lt hi) (by omega)) (by omega)).mpr (lo_hi0 i k)
    · show gfA F M E T (nI 1) i = gfA F M E T (nI 1) (y ||| (i &&& k))
      rw [← hQ.2, Nat.or_comm, lo_or_hi]
abbrev reQ (F : Nat → Int32) (M E T S : Nat) (m : Int32) (x y : Nat) : Prop := buQ F T 1 m y ∧ frA F E T (nI (x ||| y)) M = beA F M E T S 0 m x ∧ -(frA F E T (nI (x ||| y)) M) = beA F M E T S 1 m y
def inN (F : Nat → Int32) (M E T S : Nat) (m : Int32) (x y : Nat) : Nat := if reQ F M E T S m x y then 1 else 0
def ouN (F : Nat → Int32) (M E T S : Nat) (m : Int32) (x : Nat) : Nat := if buQ F T 0 m x then smN (inN F M E T S m x) S else 0
abbrev crQ (F : Nat → Int32) (M E T S : Nat) (m : Int32) (k i : Nat) : Prop := bgQ F T m k i ∧ gfA F M E T (nI 0) i = mxA (loQ F T m k (i &&& k)) (gfA F M E T (nI 0)) S ∧ gfA F M E T (nI 0) i = miA (upQ F T m k (hiN i k)) (gfA F M E T (nI 0)) S
def crN (F : Nat → Int32) (M E T S : Nat) (m : Int32) (k i : Nat) : Nat := if crQ F M E T S m k i then 1 else 0
theorem cr_re {s : St} {F : Nat → Int32} {M T S E A U Y L P N : Nat} (v : VW s F M T S E A U Y L P N) {k k' i : Nat} (m : Int32) (hk : k < 2 ^ T) (hk' : k' < 2 ^ T) (ek : tofA F (nI 0) T = nI k) (ek' : tofA F (nI 1) T = nI k') (hi : i < S) : crQ F M E T S m k i ↔ (buQ F T 0 m (i &&& k) ∧ reQ F M E T S m (i &&& k) (hiN i k)) := by
  have h5 := v.2.2.S512
  have hS := v.2.2.hS
  have hm := masks v (q := 0) (by omega) hk hk' ek ek'
  have hl : i &&& k < S := lo_lt hi
  have hh : hiN i k < S := by
    have hi' := hi
    rw [hS] at hi' ⊢
    exact hi_lt hi'
  have s0 : (nI (i &&& k) &&& (tofA F (nI 0) T ^^^ (-1 : Int32))) = 0 := by
    rw [ek]
    exact (sub_hi (by omega) (by omega)).mpr (lo_hi0 i k)
  have s1 : (nI (hiN i k) &&& (tofA F (nI 1) T ^^^ (-1 : Int32))) = 0 := by
    rw [ek', sub_hi (by omega) (by omega), mask_c hm (by omega)]
    exact hi_lo0 i k
  have e1 : buQ F T 0 m (i &&& k) → (gfA F M E T (nI 0) i = mxA (loQ F T m k (i &&& k)) (gfA F M E T (nI 0)) S ↔ frA F E T (nI ((i &&& k) ||| hiN i k)) M = beA F M E T S 0 m (i &&& k)) := fun hb => by
    rw [bs_be v m (q := 0) (by omega) hk hk' ek ek' hl hb, lo_or_hi]
    exact Iff.rfl
  have e2 : buQ F T 1 m (hiN i k) → (gfA F M E T (nI 0) i = miA (upQ F T m k (hiN i k)) (gfA F M E T (nI 0)) S ↔ -(frA F E T (nI ((i &&& k) ||| hiN i k)) M) = beA F M E T S 1 m (hiN i k)) := fun hb => by
    have h1 := ls_be v m hk hk' ek ek' hh hb
    have h2 := neg_t (fr_1000 v i)
    rw [lo_or_hi]
    constructor
    · intro z
      apply Int32.toInt_inj.mp
      have z' : (frA F E T (nI i) M).toInt = (miA (upQ F T m k (hiN i k)) (gfA F M E T (nI 0)) S).toInt := congrArg Int32.toInt z
      rw [h1, h2, z']
    · intro z
      have z' := congrArg Int32.toInt z
      rw [h1, h2] at z'
      apply Int32.toInt_inj.mp
      show (frA F E T (nI i) M).toInt = _
      omega
  constructor
  · rintro ⟨⟨p1, p2⟩, c1, c2⟩
    exact ⟨⟨s0, p1⟩, ⟨s1, p2⟩, (e1 ⟨s0, p1⟩).mp c1, (e2 ⟨s1, p2⟩).mp c2⟩
  · rintro ⟨b0, b1, c1, c2⟩
    exact ⟨⟨b0.2, b1.2⟩, (e1 b0).mpr c1, (e2 b1).mpr c2⟩
theorem cr_ou {s : St} {F : Nat → Int32} {M T S E A U Y L P N : Nat} (v : VW s F M T S E A U Y L P N) {k k' : Nat} (m : Int32) (hk : k < 2 ^ T) (hk' : k' < 2 ^ T) (ek : tofA F (nI 0) T = nI k) (ek' : tofA F (nI 1) T = nI k') : smN (ouN F M E T S m) S = smN (crN F M E T S m k) S := by
  have h5 := v.2.2.S512
  have hS := v.2.2.hS
  have hm := masks v (q := 0) (by omega) hk hk' ek ek'
  have a1 : smN (ouN F M E T S m) S = smN (fun x => smN (fun y => smN (fun i => if x ||| y = i ∧ buQ F T 0 m x ∧ reQ F M E T S m x y then 1 else 0) S) S) S := by
    refine smN_congr S (fun x hx => ?_)
    show (if buQ F T 0 m x then smN (inN F M E T S m x) S else 0) = _
    by_cases c : buQ F T 0 m x
    · rw [if_pos c]
      refine smN_congr S (fun y hy => ?_)
      have ho : x ||| y < S := by
        have hx' := hx
        have hy' := hy
        rw [hS] at hx' hy' ⊢
        exact Nat.or_lt_two_pow hx' hy'
      rw [smN_one (f := fun i => if x ||| y = i ∧ buQ F T 0 m x ∧ reQ F M E T S m x y then 1 else 0) (a := x ||| y) S ho (fun i _ hne => if_neg (fun z => hne z.1.symm))]
      show (if reQ F M E T S m x y then 1 else 0) = (if x ||| y = x ||| y ∧ buQ F T 0 m x ∧ reQ F M E T S m x y then 1 else 0)
      by_cases d : reQ F M E T S m x y
      · rw [if_pos d, if_pos ⟨rfl, c, d⟩]
      · rw [if_neg d, if_neg (fun z => d z.2.2)]
    · rw [if_neg c]
      exact (smN_z S (fun y _ => smN_z S (fun i _ => if_neg (fun z => c z.2.1)))).symm
  have a2 : smN (fun x => smN (fun y => smN (fun i => if x ||| y = i ∧ buQ F T 0 m x ∧ reQ F M E T S m x y then 1 else 0) S) S) S = smN (fun x => smN (fun i => smN (fun y => if x ||| y = i ∧ buQ F T 0 m x ∧ reQ F M E T S m x y then 1 else 0) S) S) S :=
    smN_congr S (fun x _ => smN_ex (fun y i => if x ||| y = i ∧ buQ F T 0 m x ∧ reQ F M E T S m x y then 1 else 0) S S)
  have a3 : smN (fun x => smN (fun i => smN (fun y => if x ||| y = i ∧ buQ F T 0 m x ∧ reQ F M E T S m x y then 1 else 0) S) S) S = smN (fun i => smN (fun x => smN (fun y => if x ||| y = i ∧ buQ F T 0 m x ∧ reQ F M E T S m x y then 1 else 0) S) S) S :=
    smN_ex (fun x i => smN (fun y => if x ||| y = i ∧ buQ F T 0 m x ∧ reQ F M E T S m x y then 1 else 0) S) S S
  rw [a1, a2, a3]
  refine smN_congr S (fun i hi => ?_)
  have hl : i &&& k < S := lo_lt hi
  have hh : hiN i k < S := by
    have hi' := hi
    rw [hS] at hi' ⊢
    exact hi_lt hi'
  have sx : ∀ x, x < S → buQ F T 0 m x → hiN x k = 0 := fun x hx hb => by
    have h1 := hb.1
    rw [ek] at h1
    exact (sub_hi (by omega) (by omega)).mp h1
  have sy : ∀ y, y < S → buQ F T 1 m y → y &&& k = 0 := fun y hy hb => by
    have h1 := hb.1
    rw [ek', sub_hi (by omega) (by omega), mask_c hm (by omega)] at h1
    exact h1
  rw [smN_one (f := fun x => smN (fun y => if x ||| y = i ∧ buQ F T 0 m x ∧ reQ F M E T S m x y then 1 else 0) S) (a := i &&& k) S hl (fun x hx hne => smN_z S (fun y hy => if_neg (fun z => hne (by
    rw [← z.1]
    exact (or_lo (sx x hx z.2.1) (sy y hy z.2.2.1)).symm))))]
  show smN (fun y => if (i &&& k) ||| y = i ∧ buQ F T 0 m (i &&& k) ∧ reQ F M E T S m (i &&& k) y then 1 else 0) S = _
  rw [smN_one (f := fun y => if (i &&& k) ||| y = i ∧ buQ F T 0 m (i &&& k) ∧ reQ F M E T S m (i &&& k) y then 1 else 0) (a := hiN i k) S hh (fun y hy hne => if_neg (fun z => hne (by
    have h1 := or_hi (lo_hi0 i k) (sy y hy z.2.2.1)
    rw [z.1] at h1
    exact h1.symm)))]
  show (if (i &&& k) ||| hiN i k = i ∧ buQ F T 0 m (i &&& k) ∧ reQ F M E T S m (i &&& k) (hiN i k) then 1 else 0) = (if crQ F M E T S m k i then 1 else 0)
  have hc := cr_re v m hk hk' ek ek' hi
  by_cases d : crQ F M E T S m k i
  · rw [if_pos d, if_pos ⟨lo_or_hi i k, (hc.mp d).1, (hc.mp d).2⟩]
  · rw [if_neg d, if_neg (fun z => d (hc.mpr ⟨z.2.1, z.2.2⟩))]
theorem D_rests (b : Int32) (σ : St) (hI : JW σ) : ∃ r s1 s2, f_X11_rests b σ = some (r, s1) ∧ f_X12_rests b s1 = some (r, s2) := by
  obtain ⟨M, T, S, E, A, U, Y, L, P, N, v⟩ := hI.1.vw
  have hb := v.2.2
  have h5 := hb.S512
  have hS := hb.hS
  unfold f_X11_rests f_X11_rests_22 f_X12_rests f_X12_rests_14
  rw [S_isPurse v, bd_mk]
  by_cases c1 : (1 ≤ N ∧ ((0 : Int32) = 0 ∨ (0 : Int32) = 1)) ∧ 0 ≤ b.toInt ∧ b.toInt ≤ 999
  · obtain ⟨k, hk, ek⟩ := tof_nI (gr σ 59) (nI 0) T hb.hT
    obtain ⟨k', hk', ek'⟩ := tof_nI (gr σ 59) (nI 1) T hb.hT
    obtain ⟨r, s1, e1, f1, -, g34, -⟩ := V_reck v hI.2
    have v1 : VW s1 (gr σ 59) M T S E A U Y L P N := v.fr f1 (by decide)
    rw [(f1.1 59 (by decide)).2.1] at g34
    obtain ⟨r2, s2, e2, f2, g37, g41, g42⟩ := V_meet v1 (q := 0) b (by omega) ek g34
    have v2 : VW s2 (gr σ 59) M T S E A U Y L P N := v1.fr f2 (by decide)
    have g34' : ∀ x, x < S → gr s2 34 x = frA (gr σ 59) E T (nI x) M := fun x hx => by
      rw [(f2.1 34 (by decide)).2.1]
      exact g34 x hx
    obtain ⟨r3, s3, e3, f3, g67⟩ := M_fill v2
    have v3 : VW s3 (gr σ 59) M T S E A U Y L P N := v2.fr f3 (by decide)
    have hC : f_X3_countRests b σ = some (nI (smN (crN (gr σ 59) M E T S b k) S), s2) := by
      unfold f_X3_countRests
      rw [e1, bd_mk, show f_X3_meetAnswers (0 : Int32) b s1 = some (r2, s2) from e2, bd_mk, show f_X10_trainsOf 1 (0 : Int32) s2 = some (nI k, s2) from (V_tof v2 (nI 0)).trans (by rw [ek]), bd_mk]
      refine itr_cnt (fun i => (b, nI k, nI (smN (crN (gr σ 59) M E T S b k) i), nI i, s2)) S _ (fun i K hi => ?_) (fun K => ?_) S 0 FU (by omega) (by unfold FU; omega)
      · have hl : i &&& k < S := lo_lt hi
        have hh : hiN i k < S := by
          have hi' := hi
          rw [hS] at hi' ⊢
          exact hi_lt hi'
        have hg : f_X2_goodAtEnd (0 : Int32) (nI i) s2 = some (gfA (gr σ 59) M E T (nI 0) i, s2) := by
          have h := S_goodEnd (σ := s2) (nI 0) (show i < 512 by omega)
          rw [g34' i hi] at h
          exact h
        unfold g_X3_countRests_27 f_X3_countRests_95
        dsimp only
        rw [V_sets v2, bd_mk, if_neg (lt_ge hi (by omega)), hg, bd_mk, V_bgt v2 b hi (by omega) g37, bd_mk, nI_hi (by omega) (by omega), nI_and i k (by omega) (by omega), inb_ln (n := 512) rfl (show i &&& k < 512 by omega) (by omega), gd_tt, inb_ln (n := 512) rfl (show hiN i k < 512 by omega) (by omega), gd_tt, nI_clamp (show i &&& k < 2 ^ 31 by omega), nI_clamp (show hiN i k < 2 ^ 31 by omega), g41 _ hl, g42 _ hh, nI_1, nI_1]
        show _ = K (b, nI k, nI (smN (crN (gr σ 59) M E T S b k) i + (if crQ (gr σ 59) M E T S b k i then 1 else 0)), nI (i + 1), s2)
        by_cases d1 : bgQ (gr σ 59) T b k i
        · rw [b2_t d1, if_neg n10]
          by_cases d2 : gfA (gr σ 59) M E T (nI 0) i = mxA (loQ (gr σ 59) T b k (i &&& k)) (gfA (gr σ 59) M E T (nI 0)) S
          · rw [if_pos d2]
            by_cases d3 : gfA (gr σ 59) M E T (nI 0) i = miA (upQ (gr σ 59) T b k (hiN i k)) (gfA (gr σ 59) M E T (nI 0)) S
            · rw [if_pos d3, if_pos (show crQ (gr σ 59) M E T S b k i from ⟨d1, d2, d3⟩), bnd_mk, bnd_mk]
            · rw [if_neg d3, if_neg (show ¬ crQ (gr σ 59) M E T S b k i from fun z => d3 z.2.2), bnd_mk]
              rfl
          · rw [if_neg d2, if_neg (show ¬ crQ (gr σ 59) M E T S b k i from fun z => d2 z.2.1), bnd_mk]
            rfl
        · rw [b2_f d1, if_pos rfl, if_neg (show ¬ crQ (gr σ 59) M E T S b k i from fun z => d1 z.1), bnd_mk]
          rfl
      · unfold g_X3_countRests_27
        dsimp only
        rw [V_sets v2, bd_mk, if_pos (le_rf S)]
    have hB0 : ∀ i, f_X12_isBought (0 : Int32) (nI i) b s3 = some (b2 (buQ (gr σ 59) T 0 b i), s3) := fun i => M_bought v3 (q := 0) b
    have hB1 : ∀ i, f_X12_isBought (1 : Int32) (nI i) b s3 = some (b2 (buQ (gr σ 59) T 1 b i), s3) := fun i => M_bought v3 (q := 1) b
    have hG0 : ∀ x, x < S → f_X12_bestGood (0 : Int32) (nI x) b s3 = some (beA (gr σ 59) M E T S 0 b x, s3) := fun x hx => M_best v3 (q := 0) b (by omega) hx g67
    have hG1 : ∀ x, x < S → f_X12_bestGood (1 : Int32) (nI x) b s3 = some (beA (gr σ 59) M E T S 1 b x, s3) := fun x hx => M_best v3 (q := 1) b (by omega) hx g67
    have hM : itr g_X12_rests_25 FU (b, 0, 0, s3) = some (nI (smN (ouN (gr σ 59) M E T S b) S), s3) := by
      refine itr_cnt (fun i => (b, nI (smN (ouN (gr σ 59) M E T S b) i), nI i, s3)) S _ (fun x K hx => ?_) (fun K => ?_) S 0 FU (by omega) (by unfold FU; omega)
      · unfold g_X12_rests_25
        dsimp only
        rw [M_allT v3, bd_mk, if_neg (show ¬ nI (S - 1) < nI x from nI_nlt (by omega) (by omega)), hB0, bd_mk]
        show _ = K (b, nI (smN (ouN (gr σ 59) M E T S b) x + (if buQ (gr σ 59) T 0 b x then smN (inN (gr σ 59) M E T S b x) S else 0)), nI (x + 1), s3)
        by_cases c : buQ (gr σ 59) T 0 b x
        · rw [b2_t c, if_neg n10, if_pos c, hG0 x hx, bd_mk]
          refine itr_cnt (fun y => (b, nI (smN (ouN (gr σ 59) M E T S b) x + smN (inN (gr σ 59) M E T S b x) y), nI x, beA (gr σ 59) M E T S 0 b x, nI y, s3)) S _ (fun y K2 hy => ?_) (fun K2 => ?_) S 0 FU (by omega) (by unfold FU; omega)
          · have ho : x ||| y < S := by
              have hx' := hx
              have hy' := hy
              rw [hS] at hx' hy' ⊢
              exact Nat.or_lt_two_pow hx' hy'
            unfold g_X12_rests_58 f_X12_rests_116
            dsimp only
            rw [M_allT v3, bd_mk, if_neg (show ¬ nI (S - 1) < nI y from nI_nlt (by omega) (by omega)), hB1, bd_mk, nI_or, inb_ln (n := 512) rfl (show x ||| y < 512 by omega) (by omega), gd_tt, gd_tt, nI_clamp (by omega), g67 _ ho, hG1 y hy, bd_mk, nI_1, nI_1]
            show _ = K2 (b, nI (smN (ouN (gr σ 59) M E T S b) x + (smN (inN (gr σ 59) M E T S b x) y + (if reQ (gr σ 59) M E T S b x y then 1 else 0))), nI x, beA (gr σ 59) M E T S 0 b x, nI (y + 1), s3)
            by_cases d1 : buQ (gr σ 59) T 1 b y
            · rw [b2_t d1, if_neg n10]
              by_cases d2 : frA (gr σ 59) E T (nI (x ||| y)) M = beA (gr σ 59) M E T S 0 b x
              · rw [if_pos d2]
                by_cases d3 : -(frA (gr σ 59) E T (nI (x ||| y)) M) = beA (gr σ 59) M E T S 1 b y
                · rw [if_pos d3, if_pos (show reQ (gr σ 59) M E T S b x y from ⟨d1, d2, d3⟩), bnd_mk, bnd_mk]
                  rfl
                · rw [if_neg d3, if_neg (show ¬ reQ (gr σ 59) M E T S b x y from fun z => d3 z.2.2), bnd_mk]
                  rfl
              · rw [if_neg d2, if_neg (show ¬ reQ (gr σ 59) M E T S b x y from fun z => d2 z.2.1), bnd_mk]
                rfl
            · rw [b2_f d1, if_pos rfl, if_neg (show ¬ reQ (gr σ 59) M E T S b x y from fun z => d1 z.1), bnd_mk]
              rfl
          · unfold g_X12_rests_58 f_X12_rests_122
            dsimp only
            rw [M_allT v3, bd_mk, if_pos (nI_lt (by omega) (by omega)), bnd_mk, nI_1]
        · unfold f_X12_rests_122
          rw [b2_f c, if_pos rfl, if_neg c, bnd_mk, nI_1]
          rfl
      · unfold g_X12_rests_25
        dsimp only
        rw [M_allT v3, bd_mk, if_pos (nI_lt (by omega) (by omega))]
    refine ⟨_, s2, s3, by rw [b2_t c1, if_neg n10, hC, bd_mk], ?_⟩
    rw [S_isWar hb.hN v2.2.2.mN, bd_mk, b2_t c1.1.1, if_neg n10, S_isPrice, bd_mk, b2_t c1.2, if_neg n10, e3, bd_mk, hM, cr_ou v b hk hk' ek ek']
  · refine ⟨-2, σ, σ, by rw [b2_f c1, if_pos rfl], ?_⟩
    rw [S_isWar hb.hN hb.mN, bd_mk]
    by_cases c2 : 1 ≤ N
    · rw [b2_t c2, if_neg n10, S_isPrice, bd_mk, b2_f (fun z => c1 ⟨⟨c2, Or.inl rfl⟩, z⟩), if_pos rfl]
    · rw [b2_f c2, if_pos rfl]
