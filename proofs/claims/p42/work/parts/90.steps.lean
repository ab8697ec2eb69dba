/-! ===== the law's steps ===== -/
theorem L_0 (a b c d e : Int32) (σ : St) (hI : JW σ) : ∃ σ', ls_0 a b c d e σ = some σ' ∧ JW σ' := by
  obtain ⟨r, s1, s2, h1, h2, h3⟩ := E_feed a b c d e σ hI
  exact ⟨s2, by unfold ls_0; rw [h1, bd_mk, h2, bd_mk], h3⟩
theorem L_1 (a b c d e : Int32) (σ : St) (hI : JW σ) : ∃ σ', ls_1 a b c d e σ = some σ' ∧ JW σ' := by
  obtain ⟨r, s1, s2, h1, h2, h3⟩ := E_end a σ hI
  exact ⟨s2, by unfold ls_1; rw [h1, bd_mk, h2, bd_mk], h3⟩
theorem L_2 (a b c d e : Int32) (σ : St) (hI : JW σ) : ∃ σ', ls_2 a b c d e σ = some σ' ∧ JW σ' := by
  obtain ⟨r, s1, s2, h1, h2, h3⟩ := E_war σ hI
  exact ⟨s2, by unfold ls_2; rw [h1, bd_mk, h2, bd_mk], h3⟩
theorem L_3 (a b c d e : Int32) (σ : St) (hI : JW σ) : ∃ σ', ls_3 a b c d e σ = some σ' ∧ JW σ' := by
  obtain ⟨r, s1, s2, h1, h2, h3⟩ := E_fault a σ hI
  exact ⟨s2, by unfold ls_3; rw [h1, bd_mk, h2, bd_mk], h3⟩
theorem L_4 (a b c d e : Int32) (σ : St) (hI : JW σ) : ∃ σ', ls_4 a b c d e σ = some σ' ∧ JW σ' := by
  obtain ⟨r1, s1, r2, s2, h1, h2, h3⟩ := W_train a b σ hI
  exact ⟨s2, by unfold ls_4; rw [h1, bd_mk, h2, bd_mk], h3⟩
theorem L_5 (a b c d e : Int32) (σ : St) (hI : JW σ) : ∃ σ', ls_5 a b c d e σ = some σ' ∧ JW σ' := by
  obtain ⟨r1, s1, r2, s2, h1, h2, h3⟩ := W_need a σ hI
  exact ⟨s2, by unfold ls_5; rw [h1, bd_mk, h2, bd_mk], h3⟩
theorem L_6 (a b c d e : Int32) (σ : St) (hI : JW σ) : ∃ σ', ls_6 a b c d e σ = some σ' ∧ JW σ' := by
  obtain ⟨r1, s1, r2, s2, h1, h2, h3⟩ := W_tea a σ hI
  exact ⟨s2, by unfold ls_6; rw [h1, bd_mk, h2, bd_mk], h3⟩
theorem L_7 (a b c d e : Int32) (σ : St) (hI : JW σ) : ∃ σ', ls_7 a b c d e σ = some σ' ∧ JW σ' := by
  obtain ⟨r1, s1, r2, s2, h1, h2, h3⟩ := W_cannon a b σ hI
  exact ⟨s2, by unfold ls_7; rw [h1, bd_mk, h2, bd_mk], h3⟩
theorem L_8 (a b c d e : Int32) (σ : St) (hI : JW σ) : ∃ σ', ls_8 a b c d e σ = some σ' ∧ JW σ' := by
  obtain ⟨r1, s1, r2, s2, h1, h2, h3⟩ := W_rule a b σ hI
  exact ⟨s2, by unfold ls_8; rw [h1, bd_mk, h2, bd_mk], h3⟩
theorem L_9 (a b c d e : Int32) (σ : St) (hI : JW σ) : ∃ σ', ls_9 a b c d e σ = some σ' ∧ JW σ' := by
  obtain ⟨r1, s1, r2, s2, h1, h2, h3⟩ := W_spy a σ hI
  exact ⟨s2, by unfold ls_9; rw [h1, bd_mk, h2, bd_mk], h3⟩
theorem L_10 (a b c d e : Int32) (σ : St) (hI : JW σ) : ∃ σ', ls_10 a b c d e σ = some σ' ∧ JW σ' := by
  obtain ⟨r1, s1, r2, s2, h1, h2, h3⟩ := W_men a b c σ hI
  exact ⟨s2, by unfold ls_10; rw [h1, bd_mk, h2, bd_mk], h3⟩
theorem L_11 (a b c d e : Int32) (σ : St) (hI : JW σ) : ∃ σ', ls_11 a b c d e σ = some σ' ∧ JW σ' := by
  obtain ⟨r1, s1, r2, s2, h1, h2, h3⟩ := W_front a b σ hI
  exact ⟨s2, by unfold ls_11; rw [h1, bd_mk, h2, bd_mk], h3⟩
theorem L_12 (a b c d e : Int32) (σ : St) (hI : JW σ) : ∃ σ', ls_12 a b c d e σ = some σ' ∧ JW σ' := by
  obtain ⟨r1, s1, r2, s2, h1, h2, h3⟩ := W_late a σ hI
  exact ⟨s2, by unfold ls_12; rw [h1, bd_mk, h2, bd_mk], h3⟩
theorem L_13 (a b c d e : Int32) (σ : St) (hI : JW σ) : ∃ σ', ls_13 a b c d e σ = some σ' ∧ JW σ' := by
  obtain ⟨r1, s1, r2, s2, h1, h2, h3⟩ := W_wins a σ hI
  exact ⟨s2, by unfold ls_13; rw [h1, bd_mk, h2, bd_mk], h3⟩
theorem L_14 (a b c d e : Int32) (σ : St) (hI : JW σ) : ∃ σ', ls_14 a b c d e σ = some σ' ∧ JW σ' := by
  obtain ⟨r1, s1, r2, s2, h1, h2, h3⟩ := W_peak a b σ hI
  exact ⟨s2, by unfold ls_14; rw [h1, bd_mk, h2, bd_mk], h3⟩
theorem L_15 (a b c d e : Int32) (σ : St) (hI : JW σ) : ∃ σ', ls_15 a b c d e σ = some σ' ∧ JW σ' := by
  obtain ⟨r1, s1, r2, s2, h1, h2, h3⟩ := W_swings a σ hI
  exact ⟨s2, by unfold ls_15; rw [h1, bd_mk, h2, bd_mk], h3⟩
theorem L_16 (a b c d e : Int32) (σ : St) (hI : JW σ) : ∃ σ', ls_16 a b c d e σ = some σ' ∧ JW σ' := by
  obtain ⟨r1, s1, r2, s2, h1, h2, h3⟩ := W_worst a σ hI
  exact ⟨s2, by unfold ls_16; rw [h1, bd_mk, h2, bd_mk], h3⟩
theorem L_17 (a b c d e : Int32) (σ : St) (hI : JW σ) : ∃ σ', ls_17 a b c d e σ = some σ' ∧ JW σ' := by
  obtain ⟨r1, s1, r2, s2, h1, h2, h3⟩ := W_by a σ hI
  exact ⟨s2, by unfold ls_17; rw [h1, bd_mk, h2, bd_mk], h3⟩
theorem L_18 (a b c d e : Int32) (σ : St) (hI : JW σ) : ∃ σ', ls_18 a b c d e σ = some σ' ∧ JW σ' := by
  obtain ⟨r1, s1, r2, s2, h1, h2, h3⟩ := W_ways a σ hI
  exact ⟨s2, by unfold ls_18; rw [h1, bd_mk, h2, bd_mk], h3⟩
theorem L_19 (a b c d e : Int32) (σ : St) (hI : JW σ) : ∃ σ', ls_19 a b c d e σ = some σ' ∧ JW σ' := by
  obtain ⟨r1, s1, r2, s2, h1, h2, h3⟩ := W_idle σ hI
  exact ⟨s2, by unfold ls_19; rw [h1, bd_mk, h2, bd_mk], h3⟩
theorem L_20 (a b c d e : Int32) (σ : St) (hI : JW σ) : ∃ σ', ls_20 a b c d e σ = some σ' ∧ JW σ' := by
  obtain ⟨r1, s1, r2, s2, h1, h2, h3⟩ := W_enough a b σ hI
  exact ⟨s2, by unfold ls_20; rw [h1, bd_mk, h2, bd_mk], h3⟩
theorem L_21 (a b c d e : Int32) (σ : St) (hI : JW σ) : ∃ σ', ls_21 a b c d e σ = some σ' ∧ JW σ' := by
  obtain ⟨r1, s1, r2, s2, h1, h2, h3⟩ := W_chance a b σ hI
  exact ⟨s2, by unfold ls_21; rw [h1, bd_mk, h2, bd_mk], h3⟩
theorem L_22 (a b c d e : Int32) (σ : St) (hI : JW σ) : ∃ σ', ls_22 a b c d e σ = some σ' ∧ JW σ' := by
  obtain ⟨r1, s1, r2, s2, h1, h2, h3⟩ := W_send a σ hI
  exact ⟨s2, by unfold ls_22; rw [h1, bd_mk, h2, bd_mk], h3⟩
theorem L_23 (a b c d e : Int32) (σ : St) (hI : JW σ) : ∃ σ', ls_23 a b c d e σ = some σ' ∧ JW σ' := by
  obtain ⟨r1, s1, r2, s2, h1, h2, h3⟩ := W_sent a σ hI
  exact ⟨s2, by unfold ls_23; rw [h1, bd_mk, h2, bd_mk], h3⟩
theorem L_24 (a b c d e : Int32) (σ : St) (hI : JW σ) : ∃ σ', ls_24 a b c d e σ = some σ' ∧ JW σ' := by
  obtain ⟨r1, s1, r2, s2, h1, h2, h3⟩ := W_fewest a σ hI
  exact ⟨s2, by unfold ls_24; rw [h1, bd_mk, h2, bd_mk], h3⟩
theorem L_25 (a b c d e : Int32) (σ : St) (hI : JW σ) : ∃ σ', ls_25 a b c d e σ = some σ' ∧ JW σ' := by
  obtain ⟨r1, s1, r2, s2, h1, h2, h3⟩ := W_risk a b σ hI
  exact ⟨s2, by unfold ls_25; rw [h1, bd_mk, h2, bd_mk], h3⟩
theorem L_26 (a b c d e : Int32) (σ : St) (hI : JW σ) : ∃ σ', ls_26 a b c d e σ = some σ' ∧ JW σ' := by
  obtain ⟨r1, s1, r2, s2, h1, h2, h3⟩ := W_risked a b σ hI
  exact ⟨s2, by unfold ls_26; rw [h1, bd_mk, h2, bd_mk], h3⟩
theorem L_27 (a b c d e : Int32) (σ : St) (hI : JW σ) : ∃ σ', ls_27 a b c d e σ = some σ' ∧ JW σ' := by
  obtain ⟨r1, s1, r2, s2, h1, h2, h3⟩ := W_bribe a σ hI
  exact ⟨s2, by unfold ls_27; rw [h1, bd_mk, h2, bd_mk], h3⟩
theorem L_28 (a b c d e : Int32) (σ : St) (hI : JW σ) : ∃ σ', ls_28 a b c d e σ = some σ' ∧ JW σ' := by
  obtain ⟨r1, s1, r2, s2, h1, h2, h3⟩ := W_bribed a σ hI
  exact ⟨s2, by unfold ls_28; rw [h1, bd_mk, h2, bd_mk], h3⟩
theorem L_29 (a b c d e : Int32) (σ : St) (hI : JW σ) : ∃ σ', ls_29 a b c d e σ = some σ' ∧ JW σ' := by
  obtain ⟨r1, s1, r2, s2, h1, h2, h3⟩ := W_guard a σ hI
  exact ⟨s2, by unfold ls_29; rw [h1, bd_mk, h2, bd_mk], h3⟩
theorem L_30 (a b c d e : Int32) (σ : St) (hI : JW σ) : ∃ σ', ls_30 a b c d e σ = some σ' ∧ JW σ' := by
  obtain ⟨r1, s1, r2, s2, h1, h2, h3⟩ := W_guarded a σ hI
  exact ⟨s2, by unfold ls_30; rw [h1, bd_mk, h2, bd_mk], h3⟩
theorem L_31 (a b c d e : Int32) (σ : St) (hI : JW σ) : ∃ σ', ls_31 a b c d e σ = some σ' ∧ JW σ' := by
  obtain ⟨r1, s1, r2, s2, h1, h2, h3⟩ := W_spoil a b σ hI
  exact ⟨s2, by unfold ls_31; rw [h1, bd_mk, h2, bd_mk], h3⟩
theorem L_32 (a b c d e : Int32) (σ : St) (hI : JW σ) : ∃ σ', ls_32 a b c d e σ = some σ' ∧ JW σ' := by
  obtain ⟨r1, s1, r2, s2, h1, h2, h3⟩ := W_spoils a b σ hI
  exact ⟨s2, by unfold ls_32; rw [h1, bd_mk, h2, bd_mk], h3⟩
theorem L_33 (a b c d e : Int32) (σ : St) (hI : JW σ) : ∃ σ', ls_33 a b c d e σ = some σ' ∧ JW σ' := by
  obtain ⟨r1, s1, r2, s2, h1, h2, h3⟩ := W_answer a b σ hI
  exact ⟨s2, by unfold ls_33; rw [h1, bd_mk, h2, bd_mk], h3⟩
theorem L_34 (a b c d e : Int32) (σ : St) (hI : JW σ) : ∃ σ', ls_34 a b c d e σ = some σ' ∧ JW σ' := by
  obtain ⟨r1, s1, r2, s2, h1, h2, h3⟩ := W_rests a σ hI
  exact ⟨s2, by unfold ls_34; rw [h1, bd_mk, h2, bd_mk], h3⟩
theorem L_35 (a b c d e : Int32) (σ : St) (hI : JW σ) : ∃ σ', ls_35 a b c d e σ = some σ' ∧ JW σ' := by
  obtain ⟨r1, s1, r2, s2, h1, h2, h3⟩ := W_since a b σ hI
  exact ⟨s2, by unfold ls_35; rw [h1, bd_mk, h2, bd_mk], h3⟩
theorem L_36 (a b c d e : Int32) (σ : St) (hI : JW σ) : ∃ σ', ls_36 a b c d e σ = some σ' ∧ JW σ' := by
  obtain ⟨r1, s1, r2, s2, h1, h2, h3⟩ := W_comes a b σ hI
  exact ⟨s2, by unfold ls_36; rw [h1, bd_mk, h2, bd_mk], h3⟩
theorem L_37 (a b c d e : Int32) (σ : St) (hI : JW σ) : ∃ σ', ls_37 a b c d e σ = some σ' ∧ JW σ' := by
  obtain ⟨r1, s1, r2, s2, h1, h2, h3⟩ := W_even a σ hI
  exact ⟨s2, by unfold ls_37; rw [h1, bd_mk, h2, bd_mk], h3⟩
theorem L_38 (a b c d e : Int32) (σ : St) (hI : JW σ) : ∃ σ', ls_38 a b c d e σ = some σ' ∧ JW σ' := by
  obtain ⟨r, s1, s2, h1, h2, h3⟩ := E_hold a b σ hI
  exact ⟨s2, by unfold ls_38; rw [h1, bd_mk, h2, bd_mk], h3⟩
theorem L_39 (a b c d e : Int32) (σ : St) (hI : JW σ) : ∃ σ', ls_39 a b c d e σ = some σ' ∧ JW σ' := by
  obtain ⟨r, s1, s2, h1, h2, h3⟩ := E_holds a b c σ hI
  exact ⟨s2, by unfold ls_39; rw [h1, bd_mk, h2, bd_mk], h3⟩
theorem L_40 (a b c d e : Int32) (σ : St) (hI : JW σ) : ∃ σ', ls_40 a b c d e σ = some σ' ∧ JW σ' := by
  obtain ⟨r, s1, s2, h1, h2, h3⟩ := E_reply a b c σ hI
  exact ⟨s2, by unfold ls_40; rw [h1, bd_mk, h2, bd_mk, if_pos rfl], h3⟩
theorem L_41 (a b c d e : Int32) (σ : St) (hI : JW σ) : ∃ σ', ls_41 a b c d e σ = some σ' ∧ JW σ' := by
  obtain ⟨r1, s1, r2, s2, h1, h2, h3⟩ := W_readings a σ hI
  exact ⟨s2, by unfold ls_41; rw [h1, bd_mk, h2, bd_mk], h3⟩
theorem L_42 (a b c d e : Int32) (σ : St) (hI : JW σ) : ∃ σ', ls_42 a b c d e σ = some σ' ∧ JW σ' := by
  obtain ⟨r1, s1, r2, s2, h1, h2, h3⟩ := W_loopholes σ hI
  exact ⟨s2, by unfold ls_42; rw [h1, bd_mk, h2, bd_mk], h3⟩
theorem L_43 (a b c d e : Int32) (σ : St) (hI : JW σ) : ∃ σ', ls_43 a b c d e σ = some σ' ∧ JW σ' := by
  obtain ⟨r1, s1, r2, s2, h1, h2, h3⟩ := W_close a σ hI
  exact ⟨s2, by unfold ls_43; rw [h1, bd_mk, h2, bd_mk], h3⟩
theorem L_44 (a b c d e : Int32) (σ : St) (hI : JW σ) : ∃ σ', ls_44 a b c d e σ = some σ' ∧ JW σ' := by
  obtain ⟨r1, s1, r2, s2, h1, h2, h3⟩ := W_closed a σ hI
  exact ⟨s2, by unfold ls_44; rw [h1, bd_mk, h2, bd_mk], h3⟩
theorem L_45 (a b c d e : Int32) (σ : St) (hI : JW σ) : ∃ σ', ls_45 a b c d e σ = some σ' ∧ JW σ' := by
  obtain ⟨r1, s1, r2, s2, h1, h2, h3⟩ := W_signs σ hI
  exact ⟨s2, by unfold ls_45; rw [h1, bd_mk, h2, bd_mk], h3⟩
theorem L_46 (a b c d e : Int32) (σ : St) (hI : JW σ) : ∃ σ', ls_46 a b c d e σ = some σ' ∧ JW σ' := by
  obtain ⟨r1, s1, r2, s2, h1, h2, h3⟩ := W_treaties a σ hI
  exact ⟨s2, by unfold ls_46; rw [h1, bd_mk, h2, bd_mk], h3⟩
theorem L_47 (a b c d e : Int32) (σ : St) (hI : JW σ) : ∃ σ', ls_47 a b c d e σ = some σ' ∧ JW σ' := by
  obtain ⟨r1, s1, r2, s2, h1, h2, h3⟩ := W_price a b σ hI
  exact ⟨s2, by unfold ls_47; rw [h1, bd_mk, h2, bd_mk], h3⟩
theorem L_48 (a b c d e : Int32) (σ : St) (hI : JW σ) : ∃ σ', ls_48 a b c d e σ = some σ' ∧ JW σ' := by
  obtain ⟨r1, s1, r2, s2, h1, h2, h3⟩ := W_spies a σ hI
  exact ⟨s2, by unfold ls_48; rw [h1, bd_mk, h2, bd_mk], h3⟩
theorem L_49 (a b c d e : Int32) (σ : St) (hI : JW σ) : ∃ σ', ls_49 a b c d e σ = some σ' ∧ JW σ' := by
  obtain ⟨r1, s1, r2, s2, h1, h2, h3⟩ := W_watch a σ hI
  exact ⟨s2, by unfold ls_49; rw [h1, bd_mk, h2, bd_mk], h3⟩
theorem L_50 (a b c d e : Int32) (σ : St) (hI : JW σ) : ∃ σ', ls_50 a b c d e σ = some σ' ∧ JW σ' := by
  obtain ⟨r1, s1, r2, s2, h1, h2, h3⟩ := W_leaves a σ hI
  exact ⟨s2, by unfold ls_50; rw [h1, bd_mk, h2, bd_mk], h3⟩
theorem L_51 (a b c d e : Int32) (σ : St) (hI : JW σ) : ∃ σ', ls_51 a b c d e σ = some σ' ∧ JW σ' := by
  obtain ⟨r1, s1, r2, s2, h1, h2, h3⟩ := W_known a b σ hI
  exact ⟨s2, by unfold ls_51; rw [h1, bd_mk, h2, bd_mk], h3⟩
theorem L_52 (a b c d e : Int32) (σ : St) (hI : JW σ) : ∃ σ', ls_52 a b c d e σ = some σ' ∧ JW σ' := by
  obtain ⟨r1, s1, r2, s2, h1, h2, h3⟩ := W_grant σ hI
  exact ⟨s2, by unfold ls_52; rw [h1, bd_mk, h2, bd_mk], h3⟩
theorem L_53 (a b c d e : Int32) (σ : St) (hI : JW σ) : ∃ σ', ls_53 a b c d e σ = some σ' ∧ JW σ' := by
  obtain ⟨r1, s1, r2, s2, h1, h2, h3⟩ := W_granted σ hI
  exact ⟨s2, by unfold ls_53; rw [h1, bd_mk, h2, bd_mk], h3⟩
theorem L_54 (a b c d e : Int32) (σ : St) (hI : JW σ) : ∃ σ', ls_54 a b c d e σ = some σ' ∧ JW σ' := by
  obtain ⟨r1, s1, r2, s2, h1, h2, h3⟩ := W_halves σ hI
  exact ⟨s2, by unfold ls_54; rw [h1, bd_mk, h2, bd_mk], h3⟩
theorem L_55 (a b c d e : Int32) (σ : St) (hI : JW σ) : ∃ σ', ls_55 a b c d e σ = some σ' ∧ JW σ' := by
  obtain ⟨r1, s1, r2, s2, h1, h2, h3⟩ := W_halved σ hI
  exact ⟨s2, by unfold ls_55; rw [h1, bd_mk, h2, bd_mk], h3⟩
theorem L_56 (a b c d e : Int32) (σ : St) (hI : JW σ) : ∃ σ', ls_56 a b c d e σ = some σ' ∧ JW σ' := by
  obtain ⟨r1, s1, r2, s2, h1, h2, h3⟩ := W_dry a b c σ hI
  exact ⟨s2, by unfold ls_56; rw [h1, bd_mk, h2, bd_mk], h3⟩
theorem L_57 (a b c d e : Int32) (σ : St) (hI : JW σ) : ∃ σ', ls_57 a b c d e σ = some σ' ∧ JW σ' := by
  obtain ⟨r1, s1, r2, s2, h1, h2, h3⟩ := W_insist a σ hI
  exact ⟨s2, by unfold ls_57; rw [h1, bd_mk, h2, bd_mk], h3⟩
theorem L_58 (a b c d e : Int32) (σ : St) (hI : JW σ) : ∃ σ', ls_58 a b c d e σ = some σ' ∧ JW σ' := by
  obtain ⟨r, s1, s2, h1, h2, h3⟩ := E_tell a b c σ hI
  exact ⟨s2, by unfold ls_58; rw [h1, bd_mk, h2, bd_mk], h3⟩
theorem L_59 (a b c d e : Int32) (σ : St) (hI : JW σ) : ∃ σ', ls_59 a b c d e σ = some σ' ∧ JW σ' := by
  obtain ⟨r, s1, s2, h1, h2, h3⟩ := E_needs a b σ hI
  exact ⟨s2, by unfold ls_59; rw [h1, bd_mk, h2, bd_mk], h3⟩
theorem L_60 (a b c d e : Int32) (σ : St) (hI : JW σ) : ∃ σ', ls_60 a b c d e σ = some σ' ∧ JW σ' := by
  obtain ⟨r, s1, s2, h1, h2, h3⟩ := E_undo σ hI
  exact ⟨s2, by unfold ls_60; rw [h1, bd_mk, h2, bd_mk], h3⟩
theorem L_61 (a b c d e : Int32) (σ : St) (hI : JW σ) : ∃ σ', ls_61 a b c d e σ = some σ' ∧ JW σ' := by
  obtain ⟨r1, s1, r2, s2, h1, h2, h3⟩ := W_drawn a b σ hI
  exact ⟨s2, by unfold ls_61; rw [h1, bd_mk, h2, bd_mk], h3⟩
theorem L_62 (a b c d e : Int32) (σ : St) (hI : JW σ) : ∃ σ', ls_62 a b c d e σ = some σ' ∧ JW σ' := by
  obtain ⟨r1, s1, r2, s2, h1, h2, h3⟩ := W_luck a b c σ hI
  exact ⟨s2, by unfold ls_62; rw [h1, bd_mk, h2, bd_mk], h3⟩
theorem L_63 (a b c d e : Int32) (σ : St) (hI : JW σ) : ∃ σ', ls_63 a b c d e σ = some σ' ∧ JW σ' := by
  obtain ⟨r1, s1, r2, s2, h1, h2, h3⟩ := W_count a σ hI
  exact ⟨s2, by unfold ls_63; rw [h1, bd_mk, h2, bd_mk], h3⟩
theorem L_64 (a b c d e : Int32) (σ : St) (hI : JW σ) : ∃ σ', ls_64 a b c d e σ = some σ' ∧ JW σ' := by
  obtain ⟨r, s1, s2, h1, h2, h3⟩ := E_image a σ hI
  exact ⟨s2, by unfold ls_64; rw [h1, bd_mk, h2, bd_mk], h3⟩
theorem L_65 (a b c d e : Int32) (σ : St) (hI : JW σ) : ∃ σ', ls_65 a b c d e σ = some σ' ∧ JW σ' := by
  obtain ⟨r, s1, s2, h1, h2, h3⟩ := E_back a σ hI
  exact ⟨s2, by unfold ls_65; rw [h1, bd_mk, h2, bd_mk], h3⟩
theorem L_66 (a b c d e : Int32) (σ : St) (hI : JW σ) : ∃ σ', ls_66 a b c d e σ = some σ' ∧ JW σ' := by
  obtain ⟨r, s1, s2, h1, h2, h3⟩ := E_row a b c σ hI
  exact ⟨s2, by unfold ls_66; rw [h1, bd_mk, h2, bd_mk], h3⟩
theorem L_67 (a b c d e : Int32) (σ : St) (hI : JW σ) : ∃ σ', ls_67 a b c d e σ = some σ' ∧ JW σ' := by
  obtain ⟨r, s1, s2, h1, h2, h3⟩ := E_write a b ((c.toInt64 <<< ((32 : Int32).toInt64 &&& 63)) ||| (d.toInt64 &&& (4294967295 : Int64))) σ hI
  exact ⟨s2, by unfold ls_67; rw [h1, bd_mk, h2, bd_mk], h3⟩
theorem L_68 (a b c d e : Int32) (σ : St) (hI : JW σ) : ∃ σ', ls_68 a b c d e σ = some σ' ∧ JW σ' := by
  obtain ⟨r, s1, s2, h1, h2, h3⟩ := E_paste a b c d e σ hI
  exact ⟨s2, by unfold ls_68; rw [h1, bd_mk, h2, bd_mk], h3⟩
theorem step_all (k : Nat) (a b c d e : Int32) (σ : St) (hI : JW σ) : ∃ s, lsL.getD k (fun _ _ _ _ _ σ => some σ) a b c d e σ = some s ∧ JW s := by
  match k with
  | 0 => rw [show lsL.getD 0 (fun _ _ _ _ _ σ => some σ) = ls_0 from rfl]; exact L_0 a b c d e σ hI
  | 1 => rw [show lsL.getD 1 (fun _ _ _ _ _ σ => some σ) = ls_1 from rfl]; exact L_1 a b c d e σ hI
  | 2 => rw [show lsL.getD 2 (fun _ _ _ _ _ σ => some σ) = ls_2 from rfl]; exact L_2 a b c d e σ hI
  | 3 => rw [show lsL.getD 3 (fun _ _ _ _ _ σ => some σ) = ls_3 from rfl]; exact L_3 a b c d e σ hI
  | 4 => rw [show lsL.getD 4 (fun _ _ _ _ _ σ => some σ) = ls_4 from rfl]; exact L_4 a b c d e σ hI
  | 5 => rw [show lsL.getD 5 (fun _ _ _ _ _ σ => some σ) = ls_5 from rfl]; exact L_5 a b c d e σ hI
  | 6 => rw [show lsL.getD 6 (fun _ _ _ _ _ σ => some σ) = ls_6 from rfl]; exact L_6 a b c d e σ hI
  | 7 => rw [show lsL.getD 7 (fun _ _ _ _ _ σ => some σ) = ls_7 from rfl]; exact L_7 a b c d e σ hI
  | 8 => rw [show lsL.getD 8 (fun _ _ _ _ _ σ => some σ) = ls_8 from rfl]; exact L_8 a b c d e σ hI
  | 9 => rw [show lsL.getD 9 (fun _ _ _ _ _ σ => some σ) = ls_9 from rfl]; exact L_9 a b c d e σ hI
  | 10 => rw [show lsL.getD 10 (fun _ _ _ _ _ σ => some σ) = ls_10 from rfl]; exact L_10 a b c d e σ hI
  | 11 => rw [show lsL.getD 11 (fun _ _ _ _ _ σ => some σ) = ls_11 from rfl]; exact L_11 a b c d e σ hI
  | 12 => rw [show lsL.getD 12 (fun _ _ _ _ _ σ => some σ) = ls_12 from rfl]; exact L_12 a b c d e σ hI
  | 13 => rw [show lsL.getD 13 (fun _ _ _ _ _ σ => some σ) = ls_13 from rfl]; exact L_13 a b c d e σ hI
  | 14 => rw [show lsL.getD 14 (fun _ _ _ _ _ σ => some σ) = ls_14 from rfl]; exact L_14 a b c d e σ hI
  | 15 => rw [show lsL.getD 15 (fun _ _ _ _ _ σ => some σ) = ls_15 from rfl]; exact L_15 a b c d e σ hI
  | 16 => rw [show lsL.getD 16 (fun _ _ _ _ _ σ => some σ) = ls_16 from rfl]; exact L_16 a b c d e σ hI
  | 17 => rw [show lsL.getD 17 (fun _ _ _ _ _ σ => some σ) = ls_17 from rfl]; exact L_17 a b c d e σ hI
  | 18 => rw [show lsL.getD 18 (fun _ _ _ _ _ σ => some σ) = ls_18 from rfl]; exact L_18 a b c d e σ hI
  | 19 => rw [show lsL.getD 19 (fun _ _ _ _ _ σ => some σ) = ls_19 from rfl]; exact L_19 a b c d e σ hI
  | 20 => rw [show lsL.getD 20 (fun _ _ _ _ _ σ => some σ) = ls_20 from rfl]; exact L_20 a b c d e σ hI
  | 21 => rw [show lsL.getD 21 (fun _ _ _ _ _ σ => some σ) = ls_21 from rfl]; exact L_21 a b c d e σ hI
  | 22 => rw [show lsL.getD 22 (fun _ _ _ _ _ σ => some σ) = ls_22 from rfl]; exact L_22 a b c d e σ hI
  | 23 => rw [show lsL.getD 23 (fun _ _ _ _ _ σ => some σ) = ls_23 from rfl]; exact L_23 a b c d e σ hI
  | 24 => rw [show lsL.getD 24 (fun _ _ _ _ _ σ => some σ) = ls_24 from rfl]; exact L_24 a b c d e σ hI
  | 25 => rw [show lsL.getD 25 (fun _ _ _ _ _ σ => some σ) = ls_25 from rfl]; exact L_25 a b c d e σ hI
  | 26 => rw [show lsL.getD 26 (fun _ _ _ _ _ σ => some σ) = ls_26 from rfl]; exact L_26 a b c d e σ hI
  | 27 => rw [show lsL.getD 27 (fun _ _ _ _ _ σ => some σ) = ls_27 from rfl]; exact L_27 a b c d e σ hI
  | 28 => rw [show lsL.getD 28 (fun _ _ _ _ _ σ => some σ) = ls_28 from rfl]; exact L_28 a b c d e σ hI
  | 29 => rw [show lsL.getD 29 (fun _ _ _ _ _ σ => some σ) = ls_29 from rfl]; exact L_29 a b c d e σ hI
  | 30 => rw [show lsL.getD 30 (fun _ _ _ _ _ σ => some σ) = ls_30 from rfl]; exact L_30 a b c d e σ hI
  | 31 => rw [show lsL.getD 31 (fun _ _ _ _ _ σ => some σ) = ls_31 from rfl]; exact L_31 a b c d e σ hI
  | 32 => rw [show lsL.getD 32 (fun _ _ _ _ _ σ => some σ) = ls_32 from rfl]; exact L_32 a b c d e σ hI
  | 33 => rw [show lsL.getD 33 (fun _ _ _ _ _ σ => some σ) = ls_33 from rfl]; exact L_33 a b c d e σ hI
  | 34 => rw [show lsL.getD 34 (fun _ _ _ _ _ σ => some σ) = ls_34 from rfl]; exact L_34 a b c d e σ hI
  | 35 => rw [show lsL.getD 35 (fun _ _ _ _ _ σ => some σ) = ls_35 from rfl]; exact L_35 a b c d e σ hI
  | 36 => rw [show lsL.getD 36 (fun _ _ _ _ _ σ => some σ) = ls_36 from rfl]; exact L_36 a b c d e σ hI
  | 37 => rw [show lsL.getD 37 (fun _ _ _ _ _ σ => some σ) = ls_37 from rfl]; exact L_37 a b c d e σ hI
  | 38 => rw [show lsL.getD 38 (fun _ _ _ _ _ σ => some σ) = ls_38 from rfl]; exact L_38 a b c d e σ hI
  | 39 => rw [show lsL.getD 39 (fun _ _ _ _ _ σ => some σ) = ls_39 from rfl]; exact L_39 a b c d e σ hI
  | 40 => rw [show lsL.getD 40 (fun _ _ _ _ _ σ => some σ) = ls_40 from rfl]; exact L_40 a b c d e σ hI
  | 41 => rw [show lsL.getD 41 (fun _ _ _ _ _ σ => some σ) = ls_41 from rfl]; exact L_41 a b c d e σ hI
  | 42 => rw [show lsL.getD 42 (fun _ _ _ _ _ σ => some σ) = ls_42 from rfl]; exact L_42 a b c d e σ hI
  | 43 => rw [show lsL.getD 43 (fun _ _ _ _ _ σ => some σ) = ls_43 from rfl]; exact L_43 a b c d e σ hI
  | 44 => rw [show lsL.getD 44 (fun _ _ _ _ _ σ => some σ) = ls_44 from rfl]; exact L_44 a b c d e σ hI
  | 45 => rw [show lsL.getD 45 (fun _ _ _ _ _ σ => some σ) = ls_45 from rfl]; exact L_45 a b c d e σ hI
  | 46 => rw [show lsL.getD 46 (fun _ _ _ _ _ σ => some σ) = ls_46 from rfl]; exact L_46 a b c d e σ hI
  | 47 => rw [show lsL.getD 47 (fun _ _ _ _ _ σ => some σ) = ls_47 from rfl]; exact L_47 a b c d e σ hI
  | 48 => rw [show lsL.getD 48 (fun _ _ _ _ _ σ => some σ) = ls_48 from rfl]; exact L_48 a b c d e σ hI
  | 49 => rw [show lsL.getD 49 (fun _ _ _ _ _ σ => some σ) = ls_49 from rfl]; exact L_49 a b c d e σ hI
  | 50 => rw [show lsL.getD 50 (fun _ _ _ _ _ σ => some σ) = ls_50 from rfl]; exact L_50 a b c d e σ hI
  | 51 => rw [show lsL.getD 51 (fun _ _ _ _ _ σ => some σ) = ls_51 from rfl]; exact L_51 a b c d e σ hI
  | 52 => rw [show lsL.getD 52 (fun _ _ _ _ _ σ => some σ) = ls_52 from rfl]; exact L_52 a b c d e σ hI
  | 53 => rw [show lsL.getD 53 (fun _ _ _ _ _ σ => some σ) = ls_53 from rfl]; exact L_53 a b c d e σ hI
  | 54 => rw [show lsL.getD 54 (fun _ _ _ _ _ σ => some σ) = ls_54 from rfl]; exact L_54 a b c d e σ hI
  | 55 => rw [show lsL.getD 55 (fun _ _ _ _ _ σ => some σ) = ls_55 from rfl]; exact L_55 a b c d e σ hI
  | 56 => rw [show lsL.getD 56 (fun _ _ _ _ _ σ => some σ) = ls_56 from rfl]; exact L_56 a b c d e σ hI
  | 57 => rw [show lsL.getD 57 (fun _ _ _ _ _ σ => some σ) = ls_57 from rfl]; exact L_57 a b c d e σ hI
  | 58 => rw [show lsL.getD 58 (fun _ _ _ _ _ σ => some σ) = ls_58 from rfl]; exact L_58 a b c d e σ hI
  | 59 => rw [show lsL.getD 59 (fun _ _ _ _ _ σ => some σ) = ls_59 from rfl]; exact L_59 a b c d e σ hI
  | 60 => rw [show lsL.getD 60 (fun _ _ _ _ _ σ => some σ) = ls_60 from rfl]; exact L_60 a b c d e σ hI
  | 61 => rw [show lsL.getD 61 (fun _ _ _ _ _ σ => some σ) = ls_61 from rfl]; exact L_61 a b c d e σ hI
  | 62 => rw [show lsL.getD 62 (fun _ _ _ _ _ σ => some σ) = ls_62 from rfl]; exact L_62 a b c d e σ hI
  | 63 => rw [show lsL.getD 63 (fun _ _ _ _ _ σ => some σ) = ls_63 from rfl]; exact L_63 a b c d e σ hI
  | 64 => rw [show lsL.getD 64 (fun _ _ _ _ _ σ => some σ) = ls_64 from rfl]; exact L_64 a b c d e σ hI
  | 65 => rw [show lsL.getD 65 (fun _ _ _ _ _ σ => some σ) = ls_65 from rfl]; exact L_65 a b c d e σ hI
  | 66 => rw [show lsL.getD 66 (fun _ _ _ _ _ σ => some σ) = ls_66 from rfl]; exact L_66 a b c d e σ hI
  | 67 => rw [show lsL.getD 67 (fun _ _ _ _ _ σ => some σ) = ls_67 from rfl]; exact L_67 a b c d e σ hI
  | 68 => rw [show lsL.getD 68 (fun _ _ _ _ _ σ => some σ) = ls_68 from rfl]; exact L_68 a b c d e σ hI
  | k + 69 =>
    have hl : lsL.length ≤ k + 69 := Nat.le_add_left 69 k
    rw [List.getD_eq_getElem?_getD, List.getElem?_eq_none hl]
    exact ⟨_, rfl, hI⟩
theorem SL_0 : SL σ0 := by
  intro s hs
  rcases (show s = 0 ∨ s = 1 ∨ s = 2 ∨ s = 3 by omega) with rfl | rfl | rfl | rfl <;> exact Or.inl ⟨rfl, rfl⟩
theorem JW_0 : JW σ0 := by
  refine ⟨⟨⟨0, by omega, rfl, rfl, fun j hj => absurd hj (by omega), fun j hj => absurd hj (by omega)⟩, SL_0, ⟨rfl, rfl⟩, fun k b q => (by cases q), ⟨?_, fun _ => rfl⟩, fun k hk => Or.inl ⟨rfl, rfl⟩, fun k k' b q => (by cases q), rfl⟩, Or.inl rfl⟩
  have h15 : WR σ0 15 (gr σ0 59) := WR.zero (fun k hk => rfl) (fun j hj => rfl) (fun t ht => by rcases ht with rfl | rfl | rfl | rfl | rfl | rfl <;> rfl) (fun j hj => rfl)
  exact h15.be ⟨fun k _ => rfl, fun j _ => rfl, fun t ht => by rcases ht with rfl | rfl | rfl | rfl | rfl | rfl <;> exact ⟨rfl, fun j _ => rfl⟩⟩
/-- YOUR PART: from a state with JW every call's step is one, and keeps it -/
theorem whole_start {p : Program} {e : Env} {s : State} {m : MethodId} {below : List Frame} {meth : Method} {c : Code} (l : Launch) {b L : Nat} {xs : Nat → Int32} (hL : L ≤ 3072) (C0 : lw_At p s m meth c b L xs) : W p l e room_1 s m #[Value.ref b] below meth c s.heap [] 0 0 (lw_Z below #[Value.ref b] s) (entryFrame m ([Value.ref b] : List Value).toArray 4) := by
  refine start_of l hL C0 (fun _ σ => JW σ) (fun i σ h hi => ⟨h.1.2.2.2.1, Nat.le_trans h.1.n3 (by decide)⟩) (fun i σ h hi => ?_) JW_0
  exact step_all (xs i &&& 127).toNatClampNeg (xs (i + 1)) (xs (i + 2)) (xs (i + 3)) (xs (i + 4)) (xs (i + 5)) σ h
