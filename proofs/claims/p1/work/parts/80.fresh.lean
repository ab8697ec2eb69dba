/-! ===== the first call on a fresh object ===== -/
theorem S_image (p : Int32) (σ : St) : f_X11_isImage p σ = some (b2 (0 ≤ p.toInt ∧ p.toInt ≤ 2), σ) := by
  unfold f_X11_isImage f_X11_isImage_13 f_X11_isImage_14
  rw [bz_0, bz_1, gd_tt, gd_tt]
  have z0 : (0 : Int32).toInt = 0 := rfl
  have z3 : (3 : Int32).toInt = 3 := rfl
  by_cases h1 : p < 0
  · rw [if_pos h1, b2_f]
    rw [lt_toInt] at h1
    omega
  · rw [if_neg h1]
    rw [lt_toInt] at h1
    by_cases h2 : (3 : Int32) ≤ p
    · rw [if_pos h2, b2_f]
      rw [le_toInt] at h2
      omega
    · rw [if_neg h2, b2_t]
      rw [le_toInt] at h2
      omega
theorem ex_of {o : Option St} (h : o.isSome = true) : ∃ s, o = some s := Option.isSome_iff_exists.mp h
theorem SL_0 : SL σ0 := by
  intro s hs
  rcases (show s = 0 ∨ s = 1 ∨ s = 2 ∨ s = 3 by omega) with rfl | rfl | rfl | rfl <;> exact Or.inl ⟨rfl, rfl⟩
theorem t_5 (a b c d e : Int32) : ∃ s, ls_5 a b c d e σ0 = some s := ⟨σ0, rfl⟩
theorem t_6 (a b c d e : Int32) : ∃ s, ls_6 a b c d e σ0 = some s := ⟨σ0, rfl⟩
theorem t_10 (a b c d e : Int32) : ∃ s, ls_10 a b c d e σ0 = some s := ⟨σ0, rfl⟩
theorem t_11 (a b c d e : Int32) : ∃ s, ls_11 a b c d e σ0 = some s := ⟨σ0, rfl⟩
theorem t_12 (a b c d e : Int32) : ∃ s, ls_12 a b c d e σ0 = some s := ⟨σ0, rfl⟩
theorem t_13 (a b c d e : Int32) : ∃ s, ls_13 a b c d e σ0 = some s := ⟨σ0, rfl⟩
theorem t_14 (a b c d e : Int32) : ∃ s, ls_14 a b c d e σ0 = some s := ⟨σ0, rfl⟩
theorem t_15 (a b c d e : Int32) : ∃ s, ls_15 a b c d e σ0 = some s := ⟨σ0, rfl⟩
theorem t_16 (a b c d e : Int32) : ∃ s, ls_16 a b c d e σ0 = some s := ⟨σ0, rfl⟩
theorem t_17 (a b c d e : Int32) : ∃ s, ls_17 a b c d e σ0 = some s := ⟨σ0, rfl⟩
theorem t_18 (a b c d e : Int32) : ∃ s, ls_18 a b c d e σ0 = some s := ⟨σ0, rfl⟩
theorem t_19 (a b c d e : Int32) : ∃ s, ls_19 a b c d e σ0 = some s := ⟨σ0, rfl⟩
theorem t_20 (a b c d e : Int32) : ∃ s, ls_20 a b c d e σ0 = some s := ⟨σ0, rfl⟩
theorem t_21 (a b c d e : Int32) : ∃ s, ls_21 a b c d e σ0 = some s := ⟨σ0, rfl⟩
theorem t_22 (a b c d e : Int32) : ∃ s, ls_22 a b c d e σ0 = some s := ⟨σ0, rfl⟩
theorem t_23 (a b c d e : Int32) : ∃ s, ls_23 a b c d e σ0 = some s := ⟨σ0, rfl⟩
theorem t_24 (a b c d e : Int32) : ∃ s, ls_24 a b c d e σ0 = some s := ⟨σ0, rfl⟩
theorem t_25 (a b c d e : Int32) : ∃ s, ls_25 a b c d e σ0 = some s := ⟨σ0, rfl⟩
theorem t_26 (a b c d e : Int32) : ∃ s, ls_26 a b c d e σ0 = some s := ⟨σ0, rfl⟩
theorem t_27 (a b c d e : Int32) : ∃ s, ls_27 a b c d e σ0 = some s := ⟨σ0, rfl⟩
theorem t_28 (a b c d e : Int32) : ∃ s, ls_28 a b c d e σ0 = some s := ⟨σ0, rfl⟩
theorem t_29 (a b c d e : Int32) : ∃ s, ls_29 a b c d e σ0 = some s := ⟨σ0, rfl⟩
theorem t_30 (a b c d e : Int32) : ∃ s, ls_30 a b c d e σ0 = some s := ⟨σ0, rfl⟩
theorem t_31 (a b c d e : Int32) : ∃ s, ls_31 a b c d e σ0 = some s := ⟨σ0, rfl⟩
theorem t_32 (a b c d e : Int32) : ∃ s, ls_32 a b c d e σ0 = some s := ⟨σ0, rfl⟩
theorem t_33 (a b c d e : Int32) : ∃ s, ls_33 a b c d e σ0 = some s := ⟨σ0, rfl⟩
theorem t_34 (a b c d e : Int32) : ∃ s, ls_34 a b c d e σ0 = some s := ⟨σ0, rfl⟩
theorem t_35 (a b c d e : Int32) : ∃ s, ls_35 a b c d e σ0 = some s := ⟨σ0, rfl⟩
theorem t_37 (a b c d e : Int32) : ∃ s, ls_37 a b c d e σ0 = some s := ⟨σ0, rfl⟩
theorem t_41 (a b c d e : Int32) : ∃ s, ls_41 a b c d e σ0 = some s := ⟨σ0, rfl⟩
theorem t_42 (a b c d e : Int32) : ∃ s, ls_42 a b c d e σ0 = some s := ⟨σ0, rfl⟩
theorem t_43 (a b c d e : Int32) : ∃ s, ls_43 a b c d e σ0 = some s := ⟨σ0, rfl⟩
theorem t_44 (a b c d e : Int32) : ∃ s, ls_44 a b c d e σ0 = some s := ⟨σ0, rfl⟩
theorem t_45 (a b c d e : Int32) : ∃ s, ls_45 a b c d e σ0 = some s := ⟨σ0, rfl⟩
theorem t_46 (a b c d e : Int32) : ∃ s, ls_46 a b c d e σ0 = some s := ⟨σ0, rfl⟩
theorem t_47 (a b c d e : Int32) : ∃ s, ls_47 a b c d e σ0 = some s := ⟨σ0, rfl⟩
theorem t_48 (a b c d e : Int32) : ∃ s, ls_48 a b c d e σ0 = some s := ⟨σ0, rfl⟩
theorem t_49 (a b c d e : Int32) : ∃ s, ls_49 a b c d e σ0 = some s := ⟨σ0, rfl⟩
theorem t_50 (a b c d e : Int32) : ∃ s, ls_50 a b c d e σ0 = some s := ⟨σ0, rfl⟩
theorem t_51 (a b c d e : Int32) : ∃ s, ls_51 a b c d e σ0 = some s := ⟨σ0, rfl⟩
theorem t_52 (a b c d e : Int32) : ∃ s, ls_52 a b c d e σ0 = some s := ⟨σ0, rfl⟩
theorem t_53 (a b c d e : Int32) : ∃ s, ls_53 a b c d e σ0 = some s := ⟨σ0, rfl⟩
theorem t_54 (a b c d e : Int32) : ∃ s, ls_54 a b c d e σ0 = some s := ⟨σ0, rfl⟩
theorem t_55 (a b c d e : Int32) : ∃ s, ls_55 a b c d e σ0 = some s := ⟨σ0, rfl⟩
theorem t_56 (a b c d e : Int32) : ∃ s, ls_56 a b c d e σ0 = some s := ⟨σ0, rfl⟩
theorem t_57 (a b c d e : Int32) : ∃ s, ls_57 a b c d e σ0 = some s := ⟨σ0, rfl⟩
theorem t_59 (a b c d e : Int32) : ∃ s, ls_59 a b c d e σ0 = some s := ⟨σ0, rfl⟩
theorem t_60 (a b c d e : Int32) : ∃ s, ls_60 a b c d e σ0 = some s := ⟨σ0, rfl⟩
theorem t_61 (a b c d e : Int32) : ∃ s, ls_61 a b c d e σ0 = some s := ⟨σ0, rfl⟩
theorem t_62 (a b c d e : Int32) : ∃ s, ls_62 a b c d e σ0 = some s := ⟨σ0, rfl⟩
theorem t_38 (a b c d e : Int32) : ∃ s, ls_38 a b c d e σ0 = some s := by
  obtain ⟨r, s1, s2, e1, e2, -⟩ := R_hold a b σ0
  refine ⟨s2, ?_⟩
  unfold ls_38
  rw [e1, bd_mk, e2, bd_mk, if_pos rfl]
theorem t_39 (a b c d e : Int32) : ∃ s, ls_39 a b c d e σ0 = some s := by
  obtain ⟨r, s1, s2, e1, e2, -⟩ := R_holds a b c σ0
  refine ⟨s2, ?_⟩
  unfold ls_39
  rw [e1, bd_mk, e2, bd_mk, if_pos rfl]
theorem t_40 (a b c d e : Int32) : ∃ s, ls_40 a b c d e σ0 = some s := by
  obtain ⟨r, s1, s2, e1, e2, -⟩ := R_reply a b c σ0
  refine ⟨s2, ?_⟩
  unfold ls_40
  rw [e1, bd_mk, e2, bd_mk, if_pos rfl]
theorem t_66 (a b c d e : Int32) : ∃ s, ls_66 a b c d e σ0 = some s := by
  obtain ⟨r, s1, s2, e1, e2, -⟩ := R_row a b c σ0 SL_0
  refine ⟨s2, ?_⟩
  unfold ls_66
  rw [e1, bd_mk, e2, bd_mk, if_pos rfl]
theorem t_67 (a b c d e : Int32) : ∃ s, ls_67 a b c d e σ0 = some s := by
  obtain ⟨r, s1, s2, e1, e2, -⟩ := R_write a b _ σ0 SL_0
  refine ⟨s2, ?_⟩
  unfold ls_67
  rw [e1, bd_mk, e2, bd_mk, if_pos rfl]
theorem t_68 (a b c d e : Int32) : ∃ s, ls_68 a b c d e σ0 = some s := by
  obtain ⟨r, s1, s2, e1, e2, -⟩ := R_paste a b c d e σ0 SL_0
  refine ⟨s2, ?_⟩
  unfold ls_68
  rw [e1, bd_mk, e2, bd_mk, if_pos rfl]
theorem TP_0 : TP σ0 := ⟨0, by omega, rfl, rfl, fun j hj => absurd hj (by omega)⟩
theorem t_0 (a b c d e : Int32) : ∃ s, ls_0 a b c d e σ0 = some s := by
  obtain ⟨r, s1, s2, e1, e2, -⟩ := R_feed a b c d e σ0 TP_0
  refine ⟨s2, ?_⟩
  unfold ls_0
  rw [e1, bd_mk, e2, bd_mk, if_pos rfl]
theorem t_1 (a b c d e : Int32) : ∃ s, ls_1 a b c d e σ0 = some s := by
  obtain ⟨r, s1, s2, e1, e2, -⟩ := R_end a σ0 TP_0
  refine ⟨s2, ?_⟩
  unfold ls_1
  rw [e1, bd_mk, e2, bd_mk, if_pos rfl]
theorem t_2 (a b c d e : Int32) : ∃ s, ls_2 a b c d e σ0 = some s := by
  refine ex_of ?_
  show (ls_2 0 0 0 0 0 σ0).isSome = true
  decide +kernel
theorem t_3 (a b c d e : Int32) : ∃ s, ls_3 a b c d e σ0 = some s := by
  unfold ls_3 f_X11_fault f_X12_fault f_X12_fault_24
  by_cases h : a = 0
  · subst h
    exact ⟨_, rfl⟩
  · by_cases h1 : a = 1
    · subst h1
      exact ⟨_, rfl⟩
    · rw [if_neg h, if_neg h1, bd_mk, if_neg h, if_neg h1]
      exact ⟨_, rfl⟩
theorem cell_0 (t : Nat) (p q : Int32) (h : isT σ0 t = true) (hs : gf σ0 t 3 = 0) : f_X9_cell t p q σ0 = some (-2, σ0) := by
  unfold f_X9_cell f_X9_cell_24
  rw [h, gd_tt, hs]
  by_cases h1 : p < 0
  · rw [if_pos h1]
  · rw [if_neg h1, if_pos (Int32.not_lt.mp h1)]
theorem in_0 (p : Int32) : ¬ ((0 : Int64).toInt ≤ p.toInt64.toInt ∧ p.toInt64.toInt ≤ ((0 : Int32) - 1).toInt64.toInt) := by
  rw [Int32.toInt_toInt64, Int32.toInt_toInt64]
  intro g
  have g1 : 0 ≤ p.toInt := g.1
  have g2 : p.toInt ≤ -1 := g.2
  omega
theorem isTrain_0 (p : Int32) : f_X12_isTrain p σ0 = some (0, σ0) := by
  unfold f_X12_isTrain
  rw [show inb (4 : Int32) (ln 59) = true from rfl, gd_tt, show gr σ0 59 (4 : Int32).toNatClampNeg = 0 from rfl, S_in, bd_mk, b2_f (in_0 p)]
  rfl
theorem t_4 (a b c d e : Int32) : ∃ s, ls_4 a b c d e σ0 = some s := by
  unfold ls_4 f_X11_train f_X12_train f_X12_train_29 f_X12_train_31
  rw [cell_0 3 a b rfl rfl, bd_mk, bd_mk, isTrain_0, bd_mk, if_pos rfl]
  exact ⟨_, rfl⟩
theorem t_7 (a b c d e : Int32) : ∃ s, ls_7 a b c d e σ0 = some s := by
  unfold ls_7 f_X11_cannon f_X12_cannon f_X12_cannon_47 f_X12_cannon_49
  rw [cell_0 7 a b rfl rfl, bd_mk, bd_mk, show inb (6 : Int32) (ln 59) = true from rfl, gd_tt, show gr σ0 59 (6 : Int32).toNatClampNeg = 0 from rfl, S_in, bd_mk, b2_f (in_0 a), if_pos rfl]
  exact ⟨_, rfl⟩
theorem t_8 (a b c d e : Int32) : ∃ s, ls_8 a b c d e σ0 = some s := by
  unfold ls_8 f_X11_rule f_X12_rule f_X12_rule_45 f_X12_rule_47 
  rw [cell_0 9 a b rfl rfl, bd_mk, bd_mk, show inb (7 : Int32) (ln 59) = true from rfl, gd_tt, show gr σ0 59 (7 : Int32).toNatClampNeg = 0 from rfl, S_in, bd_mk, b2_f (in_0 a), if_pos rfl]
  exact ⟨_, rfl⟩
theorem t_9 (a b c d e : Int32) : ∃ s, ls_9 a b c d e σ0 = some s := by
  unfold ls_9 f_X11_spy f_X12_spy f_X12_spy_33
  rw [cell_0 11 a 0 rfl rfl, bd_mk, bd_mk, show inb (8 : Int32) (ln 59) = true from rfl, gd_tt, show gr σ0 59 (8 : Int32).toNatClampNeg = 0 from rfl, S_in, bd_mk, b2_f (in_0 a), if_pos rfl]
  exact ⟨_, rfl⟩
theorem S_min (p : Int32) (σ : St) : f_X11_isMinute p σ = some (b2 (0 ≤ p.toInt ∧ p.toInt ≤ 99), σ) := by
  unfold f_X11_isMinute f_X11_isMinute_14 f_X11_isMinute_15
  rw [bz_0, bz_1, gd_tt, gd_tt]
  have z0 : (0 : Int32).toInt = 0 := rfl
  have z3 : (99 : Int32).toInt = 99 := rfl
  by_cases h1 : p < 0
  · rw [if_pos h1, b2_f]
    rw [lt_toInt] at h1
    omega
  · rw [if_neg h1]
    rw [lt_toInt] at h1
    by_cases h2 : (99 : Int32) < p
    · rw [if_pos h2, b2_f]
      rw [lt_toInt] at h2
      omega
    · rw [if_neg h2, b2_t]
      rw [lt_toInt] at h2
      omega
theorem t_36 (a b c d e : Int32) : ∃ s, ls_36 a b c d e σ0 = some s := by
  have e1 : f_X11_comes a b σ0 = some (-2, σ0) := by
    unfold f_X11_comes f_X11_comes_18
    rw [S_min, bd_mk]
    split <;> rfl
  have e2 : f_X12_comes a b σ0 = some (-2, σ0) := by
    unfold f_X12_comes f_X12_comes_15 f_X12_isAny
    rw [S_in, bd_mk, bz_b2, gd_tt, bd_mk]
    split <;> rfl
  unfold ls_36
  rw [e1, bd_mk, e2, bd_mk, if_pos rfl]
  exact ⟨_, rfl⟩
theorem t_58 (a b c d e : Int32) : ∃ s, ls_58 a b c d e σ0 = some s := by
  unfold ls_58 f_X12_tell f_X12_tell_53
  rw [show f_X11_tell a b c σ0 = some (-2, σ0) from rfl, bd_mk, isTrain_0, bd_mk, if_pos rfl, bd_mk, if_pos rfl]
  exact ⟨_, rfl⟩
theorem t_63 (a b c d e : Int32) : ∃ s, ls_63 a b c d e σ0 = some s := by
  by_cases h0 : a = 0
  · subst h0
    exact ex_of (by show (ls_63 0 0 0 0 0 σ0).isSome = true; decide +kernel)
  by_cases h1 : a = 1
  · subst h1
    exact ex_of (by show (ls_63 1 0 0 0 0 σ0).isSome = true; decide +kernel)
  by_cases h2 : a = 2
  · subst h2
    exact ex_of (by show (ls_63 2 0 0 0 0 σ0).isSome = true; decide +kernel)
  by_cases h3 : a = 3
  · subst h3
    exact ex_of (by show (ls_63 3 0 0 0 0 σ0).isSome = true; decide +kernel)
  by_cases h4 : a = 4
  · subst h4
    exact ex_of (by show (ls_63 4 0 0 0 0 σ0).isSome = true; decide +kernel)
  by_cases h5 : a = 5
  · subst h5
    exact ex_of (by show (ls_63 5 0 0 0 0 σ0).isSome = true; decide +kernel)
  by_cases h6 : a = 6
  · subst h6
    exact ex_of (by show (ls_63 6 0 0 0 0 σ0).isSome = true; decide +kernel)
  by_cases h7 : a = 7
  · subst h7
    exact ex_of (by show (ls_63 7 0 0 0 0 σ0).isSome = true; decide +kernel)
  by_cases h8 : a = 8
  · subst h8
    exact ex_of (by show (ls_63 8 0 0 0 0 σ0).isSome = true; decide +kernel)
  by_cases h9 : a = 9
  · subst h9
    exact ex_of (by show (ls_63 9 0 0 0 0 σ0).isSome = true; decide +kernel)
  by_cases h10 : a = 10
  · subst h10
    exact ex_of (by show (ls_63 10 0 0 0 0 σ0).isSome = true; decide +kernel)
  by_cases h11 : a = 11
  · subst h11
    exact ex_of (by show (ls_63 11 0 0 0 0 σ0).isSome = true; decide +kernel)
  by_cases h12 : a = 12
  · subst h12
    exact ex_of (by show (ls_63 12 0 0 0 0 σ0).isSome = true; decide +kernel)
  unfold ls_63 f_X11_count f_X12_count
  simp only [h0, h1, h2, h3, h4, h5, h6, h7, h8, h9, h10, h11, h12, if_false]
  exact ⟨_, rfl⟩
theorem t_64 (a b c d e : Int32) : ∃ s, ls_64 a b c d e σ0 = some s := by
  by_cases h : 0 ≤ a.toInt ∧ a.toInt ≤ 2
  · rcases nI_of2p h with rfl | rfl | rfl
    · exact ex_of (by show (ls_64 0 0 0 0 0 σ0).isSome = true; decide +kernel)
    · exact ex_of (by show (ls_64 1 0 0 0 0 σ0).isSome = true; decide +kernel)
    · exact ex_of (by show (ls_64 2 0 0 0 0 σ0).isSome = true; decide +kernel)
  · unfold ls_64 f_X11_image f_X12_image
    rw [S_image, bd_mk, b2_f h, if_pos rfl, bd_mk, S_in, bd_mk, b2_f (fun g => h ((e_in2 a).mp g)), if_pos rfl, bd_mk, if_pos rfl]
    exact ⟨_, rfl⟩
theorem t_65 (a b c d e : Int32) : ∃ s, ls_65 a b c d e σ0 = some s := by
  by_cases h : 0 ≤ a.toInt ∧ a.toInt ≤ 2
  · rcases nI_of2p h with rfl | rfl | rfl
    · exact ex_of (by show (ls_65 0 0 0 0 0 σ0).isSome = true; decide +kernel)
    · exact ex_of (by show (ls_65 1 0 0 0 0 σ0).isSome = true; decide +kernel)
    · exact ex_of (by show (ls_65 2 0 0 0 0 σ0).isSome = true; decide +kernel)
  · unfold ls_65 f_X11_back f_X12_back
    rw [S_image, bd_mk, b2_f h, if_pos rfl, bd_mk, S_in, bd_mk, b2_f (fun g => h ((e_in2 a).mp g)), if_pos rfl, bd_mk, if_pos rfl]
    exact ⟨_, rfl⟩
theorem fresh_all (k : Nat) (a b c d e : Int32) : ∃ s, lsL.getD k (fun _ _ _ _ _ σ => some σ) a b c d e σ0 = some s := by
  match k with
  | 0 => rw [show lsL.getD 0 (fun _ _ _ _ _ σ => some σ) = ls_0 from rfl]; exact t_0 a b c d e
  | 1 => rw [show lsL.getD 1 (fun _ _ _ _ _ σ => some σ) = ls_1 from rfl]; exact t_1 a b c d e
  | 2 => rw [show lsL.getD 2 (fun _ _ _ _ _ σ => some σ) = ls_2 from rfl]; exact t_2 a b c d e
  | 3 => rw [show lsL.getD 3 (fun _ _ _ _ _ σ => some σ) = ls_3 from rfl]; exact t_3 a b c d e
  | 4 => rw [show lsL.getD 4 (fun _ _ _ _ _ σ => some σ) = ls_4 from rfl]; exact t_4 a b c d e
  | 5 => rw [show lsL.getD 5 (fun _ _ _ _ _ σ => some σ) = ls_5 from rfl]; exact t_5 a b c d e
  | 6 => rw [show lsL.getD 6 (fun _ _ _ _ _ σ => some σ) = ls_6 from rfl]; exact t_6 a b c d e
  | 7 => rw [show lsL.getD 7 (fun _ _ _ _ _ σ => some σ) = ls_7 from rfl]; exact t_7 a b c d e
  | 8 => rw [show lsL.getD 8 (fun _ _ _ _ _ σ => some σ) = ls_8 from rfl]; exact t_8 a b c d e
  | 9 => rw [show lsL.getD 9 (fun _ _ _ _ _ σ => some σ) = ls_9 from rfl]; exact t_9 a b c d e
  | 10 => rw [show lsL.getD 10 (fun _ _ _ _ _ σ => some σ) = ls_10 from rfl]; exact t_10 a b c d e
  | 11 => rw [show lsL.getD 11 (fun _ _ _ _ _ σ => some σ) = ls_11 from rfl]; exact t_11 a b c d e
  | 12 => rw [show lsL.getD 12 (fun _ _ _ _ _ σ => some σ) = ls_12 from rfl]; exact t_12 a b c d e
  | 13 => rw [show lsL.getD 13 (fun _ _ _ _ _ σ => some σ) = ls_13 from rfl]; exact t_13 a b c d e
  | 14 => rw [show lsL.getD 14 (fun _ _ _ _ _ σ => some σ) = ls_14 from rfl]; exact t_14 a b c d e
  | 15 => rw [show lsL.getD 15 (fun _ _ _ _ _ σ => some σ) = ls_15 from rfl]; exact t_15 a b c d e
  | 16 => rw [show lsL.getD 16 (fun _ _ _ _ _ σ => some σ) = ls_16 from rfl]; exact t_16 a b c d e
  | 17 => rw [show lsL.getD 17 (fun _ _ _ _ _ σ => some σ) = ls_17 from rfl]; exact t_17 a b c d e
  | 18 => rw [show lsL.getD 18 (fun _ _ _ _ _ σ => some σ) = ls_18 from rfl]; exact t_18 a b c d e
  | 19 => rw [show lsL.getD 19 (fun _ _ _ _ _ σ => some σ) = ls_19 from rfl]; exact t_19 a b c d e
  | 20 => rw [show lsL.getD 20 (fun _ _ _ _ _ σ => some σ) = ls_20 from rfl]; exact t_20 a b c d e
  | 21 => rw [show lsL.getD 21 (fun _ _ _ _ _ σ => some σ) = ls_21 from rfl]; exact t_21 a b c d e
  | 22 => rw [show lsL.getD 22 (fun _ _ _ _ _ σ => some σ) = ls_22 from rfl]; exact t_22 a b c d e
  | 23 => rw [show lsL.getD 23 (fun _ _ _ _ _ σ => some σ) = ls_23 from rfl]; exact t_23 a b c d e
  | 24 => rw [show lsL.getD 24 (fun _ _ _ _ _ σ => some σ) = ls_24 from rfl]; exact t_24 a b c d e
  | 25 => rw [show lsL.getD 25 (fun _ _ _ _ _ σ => some σ) = ls_25 from rfl]; exact t_25 a b c d e
  | 26 => rw [show lsL.getD 26 (fun _ _ _ _ _ σ => some σ) = ls_26 from rfl]; exact t_26 a b c d e
  | 27 => rw [show lsL.getD 27 (fun _ _ _ _ _ σ => some σ) = ls_27 from rfl]; exact t_27 a b c d e
  | 28 => rw [show lsL.getD 28 (fun _ _ _ _ _ σ => some σ) = ls_28 from rfl]; exact t_28 a b c d e
  | 29 => rw [show lsL.getD 29 (fun _ _ _ _ _ σ => some σ) = ls_29 from rfl]; exact t_29 a b c d e
  | 30 => rw [show lsL.getD 30 (fun _ _ _ _ _ σ => some σ) = ls_30 from rfl]; exact t_30 a b c d e
  | 31 => rw [show lsL.getD 31 (fun _ _ _ _ _ σ => some σ) = ls_31 from rfl]; exact t_31 a b c d e
  | 32 => rw [show lsL.getD 32 (fun _ _ _ _ _ σ => some σ) = ls_32 from rfl]; exact t_32 a b c d e
  | 33 => rw [show lsL.getD 33 (fun _ _ _ _ _ σ => some σ) = ls_33 from rfl]; exact t_33 a b c d e
  | 34 => rw [show lsL.getD 34 (fun _ _ _ _ _ σ => some σ) = ls_34 from rfl]; exact t_34 a b c d e
  | 35 => rw [show lsL.getD 35 (fun _ _ _ _ _ σ => some σ) = ls_35 from rfl]; exact t_35 a b c d e
  | 36 => rw [show lsL.getD 36 (fun _ _ _ _ _ σ => some σ) = ls_36 from rfl]; exact t_36 a b c d e
  | 37 => rw [show lsL.getD 37 (fun _ _ _ _ _ σ => some σ) = ls_37 from rfl]; exact t_37 a b c d e
  | 38 => rw [show lsL.getD 38 (fun _ _ _ _ _ σ => some σ) = ls_38 from rfl]; exact t_38 a b c d e
  | 39 => rw [show lsL.getD 39 (fun _ _ _ _ _ σ => some σ) = ls_39 from rfl]; exact t_39 a b c d e
  | 40 => rw [show lsL.getD 40 (fun _ _ _ _ _ σ => some σ) = ls_40 from rfl]; exact t_40 a b c d e
  | 41 => rw [show lsL.getD 41 (fun _ _ _ _ _ σ => some σ) = ls_41 from rfl]; exact t_41 a b c d e
  | 42 => rw [show lsL.getD 42 (fun _ _ _ _ _ σ => some σ) = ls_42 from rfl]; exact t_42 a b c d e
  | 43 => rw [show lsL.getD 43 (fun _ _ _ _ _ σ => some σ) = ls_43 from rfl]; exact t_43 a b c d e
  | 44 => rw [show lsL.getD 44 (fun _ _ _ _ _ σ => some σ) = ls_44 from rfl]; exact t_44 a b c d e
  | 45 => rw [show lsL.getD 45 (fun _ _ _ _ _ σ => some σ) = ls_45 from rfl]; exact t_45 a b c d e
  | 46 => rw [show lsL.getD 46 (fun _ _ _ _ _ σ => some σ) = ls_46 from rfl]; exact t_46 a b c d e
  | 47 => rw [show lsL.getD 47 (fun _ _ _ _ _ σ => some σ) = ls_47 from rfl]; exact t_47 a b c d e
  | 48 => rw [show lsL.getD 48 (fun _ _ _ _ _ σ => some σ) = ls_48 from rfl]; exact t_48 a b c d e
  | 49 => rw [show lsL.getD 49 (fun _ _ _ _ _ σ => some σ) = ls_49 from rfl]; exact t_49 a b c d e
  | 50 => rw [show lsL.getD 50 (fun _ _ _ _ _ σ => some σ) = ls_50 from rfl]; exact t_50 a b c d e
  | 51 => rw [show lsL.getD 51 (fun _ _ _ _ _ σ => some σ) = ls_51 from rfl]; exact t_51 a b c d e
  | 52 => rw [show lsL.getD 52 (fun _ _ _ _ _ σ => some σ) = ls_52 from rfl]; exact t_52 a b c d e
  | 53 => rw [show lsL.getD 53 (fun _ _ _ _ _ σ => some σ) = ls_53 from rfl]; exact t_53 a b c d e
  | 54 => rw [show lsL.getD 54 (fun _ _ _ _ _ σ => some σ) = ls_54 from rfl]; exact t_54 a b c d e
  | 55 => rw [show lsL.getD 55 (fun _ _ _ _ _ σ => some σ) = ls_55 from rfl]; exact t_55 a b c d e
  | 56 => rw [show lsL.getD 56 (fun _ _ _ _ _ σ => some σ) = ls_56 from rfl]; exact t_56 a b c d e
  | 57 => rw [show lsL.getD 57 (fun _ _ _ _ _ σ => some σ) = ls_57 from rfl]; exact t_57 a b c d e
  | 58 => rw [show lsL.getD 58 (fun _ _ _ _ _ σ => some σ) = ls_58 from rfl]; exact t_58 a b c d e
  | 59 => rw [show lsL.getD 59 (fun _ _ _ _ _ σ => some σ) = ls_59 from rfl]; exact t_59 a b c d e
  | 60 => rw [show lsL.getD 60 (fun _ _ _ _ _ σ => some σ) = ls_60 from rfl]; exact t_60 a b c d e
  | 61 => rw [show lsL.getD 61 (fun _ _ _ _ _ σ => some σ) = ls_61 from rfl]; exact t_61 a b c d e
  | 62 => rw [show lsL.getD 62 (fun _ _ _ _ _ σ => some σ) = ls_62 from rfl]; exact t_62 a b c d e
  | 63 => rw [show lsL.getD 63 (fun _ _ _ _ _ σ => some σ) = ls_63 from rfl]; exact t_63 a b c d e
  | 64 => rw [show lsL.getD 64 (fun _ _ _ _ _ σ => some σ) = ls_64 from rfl]; exact t_64 a b c d e
  | 65 => rw [show lsL.getD 65 (fun _ _ _ _ _ σ => some σ) = ls_65 from rfl]; exact t_65 a b c d e
  | 66 => rw [show lsL.getD 66 (fun _ _ _ _ _ σ => some σ) = ls_66 from rfl]; exact t_66 a b c d e
  | 67 => rw [show lsL.getD 67 (fun _ _ _ _ _ σ => some σ) = ls_67 from rfl]; exact t_67 a b c d e
  | 68 => rw [show lsL.getD 68 (fun _ _ _ _ _ σ => some σ) = ls_68 from rfl]; exact t_68 a b c d e
  | k + 69 =>
    have hl : lsL.length ≤ k + 69 := Nat.le_add_left 69 k
    rw [List.getD_eq_getElem?_getD, List.getElem?_eq_none hl]
    exact ⟨_, rfl⟩
/-- YOUR PART of p1: a script of at most 6 ints holds one call at most, on fresh objects -/
theorem whole_start {p : Program} {e : Env} {s : State} {m : MethodId} {below : List Frame} {meth : Method} {c : Code} (l : Launch) {b L : Nat} {xs : Nat → Int32} (hL : L ≤ 6) (C0 : lw_At p s m meth c b L xs) : W p l e room_1 s m #[Value.ref b] below meth c s.heap [] 0 0 (lw_Z below #[Value.ref b] s) (entryFrame m ([Value.ref b] : List Value).toArray 4) := by
  refine start_of l (by omega) C0 (fun i σ => i = 0 → σ = σ0) (fun i σ h hi => ?_) (fun i σ h hi => ?_) (fun _ => rfl)
  · obtain rfl : i = 0 := by omega
    rw [h rfl]
    exact ⟨fun k b q => (by cases q), Nat.zero_le _⟩
  · obtain rfl : i = 0 := by omega
    rw [h rfl]
    obtain ⟨s', h'⟩ := fresh_all (xs 0 &&& 127).toNatClampNeg (xs (0 + 1)) (xs (0 + 2)) (xs (0 + 3)) (xs (0 + 4)) (xs (0 + 5))
    exact ⟨s', h', fun q => absurd q (by omega)⟩
