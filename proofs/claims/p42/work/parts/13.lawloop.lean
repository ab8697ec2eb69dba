/-! ===== what a call does; the loop ===== -/
def ls_0 (a b c d e : Int32) (σ : St) : Option St := bd (f_X11_feed a b c d e σ) fun r1 s1 => bd (f_X12_feed a b c d e s1) fun r2 s2 => some s2
def ls_1 (a b c d e : Int32) (σ : St) : Option St := bd (f_X11_end a σ) fun r1 s1 => bd (f_X12_end a s1) fun r2 s2 => some s2
def ls_2 (a b c d e : Int32) (σ : St) : Option St := bd (f_X11_war  σ) fun r1 s1 => bd (f_X12_war  s1) fun r2 s2 => some s2
def ls_3 (a b c d e : Int32) (σ : St) : Option St := bd (f_X11_fault a σ) fun r1 s1 => bd (f_X12_fault a s1) fun r2 s2 => some s2
def ls_4 (a b c d e : Int32) (σ : St) : Option St := bd (f_X11_train a b σ) fun r1 s1 => bd (f_X12_train a b s1) fun r2 s2 => some s2
def ls_5 (a b c d e : Int32) (σ : St) : Option St := bd (f_X11_need a σ) fun r1 s1 => bd (f_X12_need a s1) fun r2 s2 => some s2
def ls_6 (a b c d e : Int32) (σ : St) : Option St := bd (f_X11_tea a σ) fun r1 s1 => bd (f_X12_tea a s1) fun r2 s2 => some s2
def ls_7 (a b c d e : Int32) (σ : St) : Option St := bd (f_X11_cannon a b σ) fun r1 s1 => bd (f_X12_cannon a b s1) fun r2 s2 => some s2
def ls_8 (a b c d e : Int32) (σ : St) : Option St := bd (f_X11_rule a b σ) fun r1 s1 => bd (f_X12_rule a b s1) fun r2 s2 => some s2
def ls_9 (a b c d e : Int32) (σ : St) : Option St := bd (f_X11_spy a σ) fun r1 s1 => bd (f_X12_spy a s1) fun r2 s2 => some s2
def ls_10 (a b c d e : Int32) (σ : St) : Option St := bd (f_X11_men a b c σ) fun r1 s1 => bd (f_X12_men a b c s1) fun r2 s2 => some s2
def ls_11 (a b c d e : Int32) (σ : St) : Option St := bd (f_X11_front a b σ) fun r1 s1 => bd (f_X12_front a b s1) fun r2 s2 => some s2
def ls_12 (a b c d e : Int32) (σ : St) : Option St := bd (f_X11_late a σ) fun r1 s1 => bd (f_X12_late a s1) fun r2 s2 => some s2
def ls_13 (a b c d e : Int32) (σ : St) : Option St := bd (f_X11_wins a σ) fun r1 s1 => bd (f_X12_wins a s1) fun r2 s2 => some s2
def ls_14 (a b c d e : Int32) (σ : St) : Option St := bd (f_X11_peak a b σ) fun r1 s1 => bd (f_X12_peak a b s1) fun r2 s2 => some s2
def ls_15 (a b c d e : Int32) (σ : St) : Option St := bd (f_X11_swings a σ) fun r1 s1 => bd (f_X12_swings a s1) fun r2 s2 => some s2
def ls_16 (a b c d e : Int32) (σ : St) : Option St := bd (f_X11_worst a σ) fun r1 s1 => bd (f_X12_worst a s1) fun r2 s2 => some s2
def ls_17 (a b c d e : Int32) (σ : St) : Option St := bd (f_X11_by a σ) fun r1 s1 => bd (f_X12_by a s1) fun r2 s2 => some s2
def ls_18 (a b c d e : Int32) (σ : St) : Option St := bd (f_X11_ways a σ) fun r1 s1 => bd (f_X12_ways a s1) fun r2 s2 => some s2
def ls_19 (a b c d e : Int32) (σ : St) : Option St := bd (f_X11_idle  σ) fun r1 s1 => bd (f_X12_idle  s1) fun r2 s2 => some s2
def ls_20 (a b c d e : Int32) (σ : St) : Option St := bd (f_X11_enough a b σ) fun r1 s1 => bd (f_X12_enough a b s1) fun r2 s2 => some s2
def ls_21 (a b c d e : Int32) (σ : St) : Option St := bd (f_X11_chance a b σ) fun r1 s1 => bd (f_X12_chance a b s1) fun r2 s2 => some s2
def ls_22 (a b c d e : Int32) (σ : St) : Option St := bd (f_X11_send a σ) fun r1 s1 => bd (f_X12_send a s1) fun r2 s2 => some s2
def ls_23 (a b c d e : Int32) (σ : St) : Option St := bd (f_X11_sent a σ) fun r1 s1 => bd (f_X12_sent a s1) fun r2 s2 => some s2
def ls_24 (a b c d e : Int32) (σ : St) : Option St := bd (f_X11_fewest a σ) fun r1 s1 => bd (f_X12_fewest a s1) fun r2 s2 => some s2
def ls_25 (a b c d e : Int32) (σ : St) : Option St := bd (f_X11_risk a b σ) fun r1 s1 => bd (f_X12_risk a b s1) fun r2 s2 => some s2
def ls_26 (a b c d e : Int32) (σ : St) : Option St := bd (f_X11_risked a b σ) fun r1 s1 => bd (f_X12_risked a b s1) fun r2 s2 => some s2
def ls_27 (a b c d e : Int32) (σ : St) : Option St := bd (f_X11_bribe a σ) fun r1 s1 => bd (f_X12_bribe a s1) fun r2 s2 => some s2
def ls_28 (a b c d e : Int32) (σ : St) : Option St := bd (f_X11_bribed a σ) fun r1 s1 => bd (f_X12_bribed a s1) fun r2 s2 => some s2
def ls_29 (a b c d e : Int32) (σ : St) : Option St := bd (f_X11_guard a σ) fun r1 s1 => bd (f_X12_guard a s1) fun r2 s2 => some s2
def ls_30 (a b c d e : Int32) (σ : St) : Option St := bd (f_X11_guarded a σ) fun r1 s1 => bd (f_X12_guarded a s1) fun r2 s2 => some s2
def ls_31 (a b c d e : Int32) (σ : St) : Option St := bd (f_X11_spoil a b σ) fun r1 s1 => bd (f_X12_spoil a b s1) fun r2 s2 => some s2
def ls_32 (a b c d e : Int32) (σ : St) : Option St := bd (f_X11_spoils a b σ) fun r1 s1 => bd (f_X12_spoils a b s1) fun r2 s2 => some s2
def ls_33 (a b c d e : Int32) (σ : St) : Option St := bd (f_X11_answer a b σ) fun r1 s1 => bd (f_X12_answer a b s1) fun r2 s2 => some s2
def ls_34 (a b c d e : Int32) (σ : St) : Option St := bd (f_X11_rests a σ) fun r1 s1 => bd (f_X12_rests a s1) fun r2 s2 => some s2
def ls_35 (a b c d e : Int32) (σ : St) : Option St := bd (f_X11_since a b σ) fun r1 s1 => bd (f_X12_since a b s1) fun r2 s2 => some s2
def ls_36 (a b c d e : Int32) (σ : St) : Option St := bd (f_X11_comes a b σ) fun r1 s1 => bd (f_X12_comes a b s1) fun r2 s2 => some s2
def ls_37 (a b c d e : Int32) (σ : St) : Option St := bd (f_X11_even a σ) fun r1 s1 => bd (f_X12_even a s1) fun r2 s2 => some s2
def ls_38 (a b c d e : Int32) (σ : St) : Option St := bd (f_X11_hold a b σ) fun r1 s1 => bd (f_X12_hold a b s1) fun r2 s2 => some s2
def ls_39 (a b c d e : Int32) (σ : St) : Option St := bd (f_X11_holds a b c σ) fun r1 s1 => bd (f_X12_holds a b c s1) fun r2 s2 => some s2
def ls_40 (a b c d e : Int32) (σ : St) : Option St := bd (f_X11_reply a b c σ) fun r1 s1 => bd (f_X12_reply a b c s1) fun r2 s2 => if r1 = r2 then some s2 else none
def ls_41 (a b c d e : Int32) (σ : St) : Option St := bd (f_X11_readings a σ) fun r1 s1 => bd (f_X12_readings a s1) fun r2 s2 => some s2
def ls_42 (a b c d e : Int32) (σ : St) : Option St := bd (f_X11_loopholes  σ) fun r1 s1 => bd (f_X12_loopholes  s1) fun r2 s2 => some s2
def ls_43 (a b c d e : Int32) (σ : St) : Option St := bd (f_X11_close a σ) fun r1 s1 => bd (f_X12_close a s1) fun r2 s2 => some s2
def ls_44 (a b c d e : Int32) (σ : St) : Option St := bd (f_X11_closed a σ) fun r1 s1 => bd (f_X12_closed a s1) fun r2 s2 => some s2
def ls_45 (a b c d e : Int32) (σ : St) : Option St := bd (f_X11_signs  σ) fun r1 s1 => bd (f_X12_signs  s1) fun r2 s2 => some s2
def ls_46 (a b c d e : Int32) (σ : St) : Option St := bd (f_X11_treaties a σ) fun r1 s1 => bd (f_X12_treaties a s1) fun r2 s2 => some s2
def ls_47 (a b c d e : Int32) (σ : St) : Option St := bd (f_X11_price a b σ) fun r1 s1 => bd (f_X12_price a b s1) fun r2 s2 => some s2
def ls_48 (a b c d e : Int32) (σ : St) : Option St := bd (f_X11_spies a σ) fun r1 s1 => bd (f_X12_spies a s1) fun r2 s2 => some s2
def ls_49 (a b c d e : Int32) (σ : St) : Option St := bd (f_X11_watch a σ) fun r1 s1 => bd (f_X12_watch a s1) fun r2 s2 => some s2
def ls_50 (a b c d e : Int32) (σ : St) : Option St := bd (f_X11_leaves a σ) fun r1 s1 => bd (f_X12_leaves a s1) fun r2 s2 => some s2
def ls_51 (a b c d e : Int32) (σ : St) : Option St := bd (f_X11_known a b σ) fun r1 s1 => bd (f_X12_known a b s1) fun r2 s2 => some s2
def ls_52 (a b c d e : Int32) (σ : St) : Option St := bd (f_X11_grant  σ) fun r1 s1 => bd (f_X12_grant  s1) fun r2 s2 => some s2
def ls_53 (a b c d e : Int32) (σ : St) : Option St := bd (f_X11_granted  σ) fun r1 s1 => bd (f_X12_granted  s1) fun r2 s2 => some s2
def ls_54 (a b c d e : Int32) (σ : St) : Option St := bd (f_X11_halves  σ) fun r1 s1 => bd (f_X12_halves  s1) fun r2 s2 => some s2
def ls_55 (a b c d e : Int32) (σ : St) : Option St := bd (f_X11_halved  σ) fun r1 s1 => bd (f_X12_halved  s1) fun r2 s2 => some s2
def ls_56 (a b c d e : Int32) (σ : St) : Option St := bd (f_X11_dry a b c σ) fun r1 s1 => bd (f_X12_dry a b c s1) fun r2 s2 => some s2
def ls_57 (a b c d e : Int32) (σ : St) : Option St := bd (f_X11_insist a σ) fun r1 s1 => bd (f_X12_insist a s1) fun r2 s2 => some s2
def ls_58 (a b c d e : Int32) (σ : St) : Option St := bd (f_X11_tell a b c σ) fun r1 s1 => bd (f_X12_tell a b c s1) fun r2 s2 => some s2
def ls_59 (a b c d e : Int32) (σ : St) : Option St := bd (f_X11_needs a b σ) fun r1 s1 => bd (f_X12_needs_ a b s1) fun r2 s2 => some s2
def ls_60 (a b c d e : Int32) (σ : St) : Option St := bd (f_X11_undo  σ) fun r1 s1 => bd (f_X12_undo  s1) fun r2 s2 => some s2
def ls_61 (a b c d e : Int32) (σ : St) : Option St := bd (f_X11_drawn a b σ) fun r1 s1 => bd (f_X12_drawn a b s1) fun r2 s2 => some s2
def ls_62 (a b c d e : Int32) (σ : St) : Option St := bd (f_X11_luck a b c σ) fun r1 s1 => bd (f_X12_luck a b c s1) fun r2 s2 => some s2
def ls_63 (a b c d e : Int32) (σ : St) : Option St := bd (f_X11_count a σ) fun r1 s1 => bd (f_X12_count a s1) fun r2 s2 => some s2
def ls_64 (a b c d e : Int32) (σ : St) : Option St := bd (f_X11_image a σ) fun r1 s1 => bd (f_X12_image a s1) fun r2 s2 => some s2
def ls_65 (a b c d e : Int32) (σ : St) : Option St := bd (f_X11_back a σ) fun r1 s1 => bd (f_X12_back a s1) fun r2 s2 => some s2
def ls_66 (a b c d e : Int32) (σ : St) : Option St := bd (f_X11_row a b c σ) fun r1 s1 => bd (f_X12_row a b c s1) fun r2 s2 => some s2
def ls_67 (a b c d e : Int32) (σ : St) : Option St := bd (f_X11_write a b ((c.toInt64 <<< ((32 : Int32).toInt64 &&& 63)) ||| (d.toInt64 &&& (4294967295 : Int64))) σ) fun r1 s1 => bd (f_X12_write a b ((c.toInt64 <<< ((32 : Int32).toInt64 &&& 63)) ||| (d.toInt64 &&& (4294967295 : Int64))) s1) fun r2 s2 => some s2
def ls_68 (a b c d e : Int32) (σ : St) : Option St := bd (f_X11_paste a b c d e σ) fun r1 s1 => bd (f_X12_paste a b c d e s1) fun r2 s2 => some s2
def lsL : List (Int32 → Int32 → Int32 → Int32 → Int32 → St → Option St) := [ls_0, ls_1, ls_2, ls_3, ls_4, ls_5, ls_6, ls_7, ls_8, ls_9, ls_10, ls_11, ls_12, ls_13, ls_14, ls_15, ls_16, ls_17, ls_18, ls_19, ls_20, ls_21, ls_22, ls_23, ls_24, ls_25, ls_26, ls_27, ls_28, ls_29, ls_30, ls_31, ls_32, ls_33, ls_34, ls_35, ls_36, ls_37, ls_38, ls_39, ls_40, ls_41, ls_42, ls_43, ls_44, ls_45, ls_46, ls_47, ls_48, ls_49, ls_50, ls_51, ls_52, ls_53, ls_54, ls_55, ls_56, ls_57, ls_58, ls_59, ls_60, ls_61, ls_62, ls_63, ls_64, ls_65, ls_66, ls_67, ls_68]
def lstep (o a b c d e : Int32) (σ : St) : Option St := lsL.getD (o &&& 127).toNatClampNeg (fun _ _ _ _ _ σ => some σ) a b c d e σ
theorem bd_some {α β : Type} {o : Option (α × St)} {k : α → St → Option β} {x : β} (h : bd o k = some x) : ∃ r s, o = some (r, s) ∧ k r s = some x := by
  cases o with
  | none => cases h
  | some q => exact ⟨q.1, q.2, rfl, h⟩
theorem eq_some {α : Type} {c : Prop} {dc : Decidable c} {x y : α} (h : (@ite _ c dc (some x) none) = some y) : c ∧ x = y := by
  split at h
  · rename_i q
    cases h
    exact ⟨q, rfl⟩
  · cases h
theorem and127 (a : Int32) : 0 ≤ (a &&& 127).toInt := by
  have e : (a &&& 127).toInt = (a.toBitVec &&& 127#32).toInt := rfl
  rw [e]
  apply BitVec.toInt_nonneg_of_msb_false
  rw [BitVec.msb_and]
  have : (127#32).msb = false := by decide
  rw [this, Bool.and_false]
/-- what the law's context is -/
def LG (Γ : CX) (b L : Nat) (z : Nat → Int32) : Prop := SCR Γ b L z ∧ (∀ q : Nat, xA Γ q → (xs Γ).heap.size ≤ q) ∧ xQ Γ = lw_Z (xb Γ) #[Value.ref b] (xs Γ) ∧ xa Γ = #[Value.ref b]
set_option maxHeartbeats 8000000 in
theorem law_switch {Γ : CX} {b L i : Nat} {z : Nat → Int32} {σ σ' : St} (G : LG Γ b L z) (hi : i + 6 ≤ L) (hL : L < 2 ^ 31) (hM : MI σ) (hn : gn σ ≤ 60) (hR2 : xk Γ + 14 ≤ room_1.cells ∧ xn Γ + 325 ≤ room_1.slots) (hs : lstep (z i) (z (i + 1)) (z (i + 2)) (z (i + 3)) (z (i + 4)) (z (i + 5)) σ = some σ')
    (h : ∀ Γ' : CX, LG Γ' b L z → xk Γ' ≤ xk Γ + 14 ∧ xn Γ' ≤ xn Γ + 325 → WW Γ' cL_law 4 RL ret room_1 σ' 2281 [(0, .ref b), (1, .ref (xd Γ' 0)), (2, .ref (xd Γ' 58)), (3, .int (nI i))] []) : WW Γ cL_law 4 RL ret room_1 σ 33 [(0, .ref b), (1, .ref (xd Γ 0)), (2, .ref (xd Γ 58)), (3, .int (nI i))] [.int (z i &&& 127)] := by
  have h0 := h Γ G ⟨Nat.le_add_right _ _, Nat.le_add_right _ _⟩
  have hx := and127 (z i)
  unfold lstep at hs
  generalize z i &&& 127 = x at hs hx ⊢
  by_cases q0 : x = (0 : Int32)
  · rw [q0] at hs
    replace hs : ls_0 (z (i + 1)) (z (i + 2)) (z (i + 3)) (z (i + 4)) (z (i + 5)) σ = some σ' := hs
    unfold ls_0 at hs
    obtain ⟨r1, s1, h1, hs⟩ := bd_some hs
    obtain ⟨r2, s2, h2, hs⟩ := bd_some hs
    cases hs
    refine w_tsw (0 : Int32) q0 (tgt := 324) dL_law_33 (by decide) (by decide) rfl (by decide) ?_
    exact g_law_0 G.1 hi hL h1 h2 h0
  by_cases q1 : x = (1 : Int32)
  · rw [q1] at hs
    replace hs : ls_1 (z (i + 1)) (z (i + 2)) (z (i + 3)) (z (i + 4)) (z (i + 5)) σ = some σ' := hs
    unfold ls_1 at hs
    obtain ⟨r1, s1, h1, hs⟩ := bd_some hs
    obtain ⟨r2, s2, h2, hs⟩ := bd_some hs
    cases hs
    refine w_tsw (1 : Int32) q1 (tgt := 387) dL_law_33 (by decide) (by decide) rfl (by decide) ?_
    exact g_law_1 G.1 hi hL h1 h2 h0
  by_cases q2 : x = (2 : Int32)
  · rw [q2] at hs
    replace hs : ls_2 (z (i + 1)) (z (i + 2)) (z (i + 3)) (z (i + 4)) (z (i + 5)) σ = some σ' := hs
    unfold ls_2 at hs
    obtain ⟨r1, s1, h1, hs⟩ := bd_some hs
    obtain ⟨r2, s2, h2, hs⟩ := bd_some hs
    cases hs
    refine w_tsw (2 : Int32) q2 (tgt := 410) dL_law_33 (by decide) (by decide) rfl (by decide) ?_
    exact g_law_2 G.1 hi hL h1 h2 h0
  by_cases q3 : x = (3 : Int32)
  · rw [q3] at hs
    replace hs : ls_3 (z (i + 1)) (z (i + 2)) (z (i + 3)) (z (i + 4)) (z (i + 5)) σ = some σ' := hs
    unfold ls_3 at hs
    obtain ⟨r1, s1, h1, hs⟩ := bd_some hs
    obtain ⟨r2, s2, h2, hs⟩ := bd_some hs
    cases hs
    refine w_tsw (3 : Int32) q3 (tgt := 423) dL_law_33 (by decide) (by decide) rfl (by decide) ?_
    exact g_law_3 G.1 hi hL h1 h2 h0
  by_cases q4 : x = (4 : Int32)
  · rw [q4] at hs
    replace hs : ls_4 (z (i + 1)) (z (i + 2)) (z (i + 3)) (z (i + 4)) (z (i + 5)) σ = some σ' := hs
    unfold ls_4 at hs
    obtain ⟨r1, s1, h1, hs⟩ := bd_some hs
    obtain ⟨r2, s2, h2, hs⟩ := bd_some hs
    cases hs
    refine w_tsw (4 : Int32) q4 (tgt := 446) dL_law_33 (by decide) (by decide) rfl (by decide) ?_
    exact g_law_4 G.1 hi hL h1 h2 h0
  by_cases q5 : x = (5 : Int32)
  · rw [q5] at hs
    replace hs : ls_5 (z (i + 1)) (z (i + 2)) (z (i + 3)) (z (i + 4)) (z (i + 5)) σ = some σ' := hs
    unfold ls_5 at hs
    obtain ⟨r1, s1, h1, hs⟩ := bd_some hs
    obtain ⟨r2, s2, h2, hs⟩ := bd_some hs
    cases hs
    refine w_tsw (5 : Int32) q5 (tgt := 479) dL_law_33 (by decide) (by decide) rfl (by decide) ?_
    exact g_law_5 G.1 hi hL h1 h2 h0
  by_cases q6 : x = (6 : Int32)
  · rw [q6] at hs
    replace hs : ls_6 (z (i + 1)) (z (i + 2)) (z (i + 3)) (z (i + 4)) (z (i + 5)) σ = some σ' := hs
    unfold ls_6 at hs
    obtain ⟨r1, s1, h1, hs⟩ := bd_some hs
    obtain ⟨r2, s2, h2, hs⟩ := bd_some hs
    cases hs
    refine w_tsw (6 : Int32) q6 (tgt := 502) dL_law_33 (by decide) (by decide) rfl (by decide) ?_
    exact g_law_6 G.1 hi hL h1 h2 h0
  by_cases q7 : x = (7 : Int32)
  · rw [q7] at hs
    replace hs : ls_7 (z (i + 1)) (z (i + 2)) (z (i + 3)) (z (i + 4)) (z (i + 5)) σ = some σ' := hs
    unfold ls_7 at hs
    obtain ⟨r1, s1, h1, hs⟩ := bd_some hs
    obtain ⟨r2, s2, h2, hs⟩ := bd_some hs
    cases hs
    refine w_tsw (7 : Int32) q7 (tgt := 525) dL_law_33 (by decide) (by decide) rfl (by decide) ?_
    exact g_law_7 G.1 hi hL h1 h2 h0
  by_cases q8 : x = (8 : Int32)
  · rw [q8] at hs
    replace hs : ls_8 (z (i + 1)) (z (i + 2)) (z (i + 3)) (z (i + 4)) (z (i + 5)) σ = some σ' := hs
    unfold ls_8 at hs
    obtain ⟨r1, s1, h1, hs⟩ := bd_some hs
    obtain ⟨r2, s2, h2, hs⟩ := bd_some hs
    cases hs
    refine w_tsw (8 : Int32) q8 (tgt := 558) dL_law_33 (by decide) (by decide) rfl (by decide) ?_
    exact g_law_8 G.1 hi hL h1 h2 h0
  by_cases q9 : x = (9 : Int32)
  · rw [q9] at hs
    replace hs : ls_9 (z (i + 1)) (z (i + 2)) (z (i + 3)) (z (i + 4)) (z (i + 5)) σ = some σ' := hs
    unfold ls_9 at hs
    obtain ⟨r1, s1, h1, hs⟩ := bd_some hs
    obtain ⟨r2, s2, h2, hs⟩ := bd_some hs
    cases hs
    refine w_tsw (9 : Int32) q9 (tgt := 591) dL_law_33 (by decide) (by decide) rfl (by decide) ?_
    exact g_law_9 G.1 hi hL h1 h2 h0
  by_cases q10 : x = (10 : Int32)
  · rw [q10] at hs
    replace hs : ls_10 (z (i + 1)) (z (i + 2)) (z (i + 3)) (z (i + 4)) (z (i + 5)) σ = some σ' := hs
    unfold ls_10 at hs
    obtain ⟨r1, s1, h1, hs⟩ := bd_some hs
    obtain ⟨r2, s2, h2, hs⟩ := bd_some hs
    cases hs
    refine w_tsw (10 : Int32) q10 (tgt := 614) dL_law_33 (by decide) (by decide) rfl (by decide) ?_
    exact g_law_10 G.1 hi hL h1 h2 h0
  by_cases q11 : x = (11 : Int32)
  · rw [q11] at hs
    replace hs : ls_11 (z (i + 1)) (z (i + 2)) (z (i + 3)) (z (i + 4)) (z (i + 5)) σ = some σ' := hs
    unfold ls_11 at hs
    obtain ⟨r1, s1, h1, hs⟩ := bd_some hs
    obtain ⟨r2, s2, h2, hs⟩ := bd_some hs
    cases hs
    refine w_tsw (11 : Int32) q11 (tgt := 657) dL_law_33 (by decide) (by decide) rfl (by decide) ?_
    exact g_law_11 G.1 hi hL h1 h2 h0
  by_cases q12 : x = (12 : Int32)
  · rw [q12] at hs
    replace hs : ls_12 (z (i + 1)) (z (i + 2)) (z (i + 3)) (z (i + 4)) (z (i + 5)) σ = some σ' := hs
    unfold ls_12 at hs
    obtain ⟨r1, s1, h1, hs⟩ := bd_some hs
    obtain ⟨r2, s2, h2, hs⟩ := bd_some hs
    cases hs
    refine w_tsw (12 : Int32) q12 (tgt := 690) dL_law_33 (by decide) (by decide) rfl (by decide) ?_
    exact g_law_12 G.1 hi hL h1 h2 h0
  by_cases q13 : x = (13 : Int32)
  · rw [q13] at hs
    replace hs : ls_13 (z (i + 1)) (z (i + 2)) (z (i + 3)) (z (i + 4)) (z (i + 5)) σ = some σ' := hs
    unfold ls_13 at hs
    obtain ⟨r1, s1, h1, hs⟩ := bd_some hs
    obtain ⟨r2, s2, h2, hs⟩ := bd_some hs
    cases hs
    refine w_tsw (13 : Int32) q13 (tgt := 713) dL_law_33 (by decide) (by decide) rfl (by decide) ?_
    exact g_law_13 G.1 hi hL h1 h2 h0
  by_cases q14 : x = (14 : Int32)
  · rw [q14] at hs
    replace hs : ls_14 (z (i + 1)) (z (i + 2)) (z (i + 3)) (z (i + 4)) (z (i + 5)) σ = some σ' := hs
    unfold ls_14 at hs
    obtain ⟨r1, s1, h1, hs⟩ := bd_some hs
    obtain ⟨r2, s2, h2, hs⟩ := bd_some hs
    cases hs
    refine w_tsw (14 : Int32) q14 (tgt := 736) dL_law_33 (by decide) (by decide) rfl (by decide) ?_
    exact g_law_14 G.1 hi hL h1 h2 h0
  by_cases q15 : x = (15 : Int32)
  · rw [q15] at hs
    replace hs : ls_15 (z (i + 1)) (z (i + 2)) (z (i + 3)) (z (i + 4)) (z (i + 5)) σ = some σ' := hs
    unfold ls_15 at hs
    obtain ⟨r1, s1, h1, hs⟩ := bd_some hs
    obtain ⟨r2, s2, h2, hs⟩ := bd_some hs
    cases hs
    refine w_tsw (15 : Int32) q15 (tgt := 769) dL_law_33 (by decide) (by decide) rfl (by decide) ?_
    exact g_law_15 G.1 hi hL h1 h2 h0
  by_cases q16 : x = (16 : Int32)
  · rw [q16] at hs
    replace hs : ls_16 (z (i + 1)) (z (i + 2)) (z (i + 3)) (z (i + 4)) (z (i + 5)) σ = some σ' := hs
    unfold ls_16 at hs
    obtain ⟨r1, s1, h1, hs⟩ := bd_some hs
    obtain ⟨r2, s2, h2, hs⟩ := bd_some hs
    cases hs
    refine w_tsw (16 : Int32) q16 (tgt := 792) dL_law_33 (by decide) (by decide) rfl (by decide) ?_
    exact g_law_16 G.1 hi hL h1 h2 h0
  by_cases q17 : x = (17 : Int32)
  · rw [q17] at hs
    replace hs : ls_17 (z (i + 1)) (z (i + 2)) (z (i + 3)) (z (i + 4)) (z (i + 5)) σ = some σ' := hs
    unfold ls_17 at hs
    obtain ⟨r1, s1, h1, hs⟩ := bd_some hs
    obtain ⟨r2, s2, h2, hs⟩ := bd_some hs
    cases hs
    refine w_tsw (17 : Int32) q17 (tgt := 815) dL_law_33 (by decide) (by decide) rfl (by decide) ?_
    exact g_law_17 G.1 hi hL h1 h2 h0
  by_cases q18 : x = (18 : Int32)
  · rw [q18] at hs
    replace hs : ls_18 (z (i + 1)) (z (i + 2)) (z (i + 3)) (z (i + 4)) (z (i + 5)) σ = some σ' := hs
    unfold ls_18 at hs
    obtain ⟨r1, s1, h1, hs⟩ := bd_some hs
    obtain ⟨r2, s2, h2, hs⟩ := bd_some hs
    cases hs
    refine w_tsw (18 : Int32) q18 (tgt := 838) dL_law_33 (by decide) (by decide) rfl (by decide) ?_
    exact g_law_18 G.1 hi hL h1 h2 h0
  by_cases q19 : x = (19 : Int32)
  · rw [q19] at hs
    replace hs : ls_19 (z (i + 1)) (z (i + 2)) (z (i + 3)) (z (i + 4)) (z (i + 5)) σ = some σ' := hs
    unfold ls_19 at hs
    obtain ⟨r1, s1, h1, hs⟩ := bd_some hs
    obtain ⟨r2, s2, h2, hs⟩ := bd_some hs
    cases hs
    refine w_tsw (19 : Int32) q19 (tgt := 861) dL_law_33 (by decide) (by decide) rfl (by decide) ?_
    exact g_law_19 G.1 hi hL h1 h2 h0
  by_cases q20 : x = (20 : Int32)
  · rw [q20] at hs
    replace hs : ls_20 (z (i + 1)) (z (i + 2)) (z (i + 3)) (z (i + 4)) (z (i + 5)) σ = some σ' := hs
    unfold ls_20 at hs
    obtain ⟨r1, s1, h1, hs⟩ := bd_some hs
    obtain ⟨r2, s2, h2, hs⟩ := bd_some hs
    cases hs
    refine w_tsw (20 : Int32) q20 (tgt := 874) dL_law_33 (by decide) (by decide) rfl (by decide) ?_
    exact g_law_20 G.1 hi hL h1 h2 h0
  by_cases q21 : x = (21 : Int32)
  · rw [q21] at hs
    replace hs : ls_21 (z (i + 1)) (z (i + 2)) (z (i + 3)) (z (i + 4)) (z (i + 5)) σ = some σ' := hs
    unfold ls_21 at hs
    obtain ⟨r1, s1, h1, hs⟩ := bd_some hs
    obtain ⟨r2, s2, h2, hs⟩ := bd_some hs
    cases hs
    refine w_tsw (21 : Int32) q21 (tgt := 907) dL_law_33 (by decide) (by decide) rfl (by decide) ?_
    exact g_law_21 G.1 hi hL h1 h2 h0
  by_cases q22 : x = (22 : Int32)
  · rw [q22] at hs
    replace hs : ls_22 (z (i + 1)) (z (i + 2)) (z (i + 3)) (z (i + 4)) (z (i + 5)) σ = some σ' := hs
    unfold ls_22 at hs
    obtain ⟨r1, s1, h1, hs⟩ := bd_some hs
    obtain ⟨r2, s2, h2, hs⟩ := bd_some hs
    cases hs
    refine w_tsw (22 : Int32) q22 (tgt := 940) dL_law_33 (by decide) (by decide) rfl (by decide) ?_
    exact g_law_22 G.1 hi hL h1 h2 h0
  by_cases q23 : x = (23 : Int32)
  · rw [q23] at hs
    replace hs : ls_23 (z (i + 1)) (z (i + 2)) (z (i + 3)) (z (i + 4)) (z (i + 5)) σ = some σ' := hs
    unfold ls_23 at hs
    obtain ⟨r1, s1, h1, hs⟩ := bd_some hs
    obtain ⟨r2, s2, h2, hs⟩ := bd_some hs
    cases hs
    refine w_tsw (23 : Int32) q23 (tgt := 963) dL_law_33 (by decide) (by decide) rfl (by decide) ?_
    exact g_law_23 G.1 hi hL h1 h2 h0
  by_cases q24 : x = (24 : Int32)
  · rw [q24] at hs
    replace hs : ls_24 (z (i + 1)) (z (i + 2)) (z (i + 3)) (z (i + 4)) (z (i + 5)) σ = some σ' := hs
    unfold ls_24 at hs
    obtain ⟨r1, s1, h1, hs⟩ := bd_some hs
    obtain ⟨r2, s2, h2, hs⟩ := bd_some hs
    cases hs
    refine w_tsw (24 : Int32) q24 (tgt := 986) dL_law_33 (by decide) (by decide) rfl (by decide) ?_
    exact g_law_24 G.1 hi hL h1 h2 h0
  by_cases q25 : x = (25 : Int32)
  · rw [q25] at hs
    replace hs : ls_25 (z (i + 1)) (z (i + 2)) (z (i + 3)) (z (i + 4)) (z (i + 5)) σ = some σ' := hs
    unfold ls_25 at hs
    obtain ⟨r1, s1, h1, hs⟩ := bd_some hs
    obtain ⟨r2, s2, h2, hs⟩ := bd_some hs
    cases hs
    refine w_tsw (25 : Int32) q25 (tgt := 1009) dL_law_33 (by decide) (by decide) rfl (by decide) ?_
    exact g_law_25 G.1 hi hL h1 h2 h0
  by_cases q26 : x = (26 : Int32)
  · rw [q26] at hs
    replace hs : ls_26 (z (i + 1)) (z (i + 2)) (z (i + 3)) (z (i + 4)) (z (i + 5)) σ = some σ' := hs
    unfold ls_26 at hs
    obtain ⟨r1, s1, h1, hs⟩ := bd_some hs
    obtain ⟨r2, s2, h2, hs⟩ := bd_some hs
    cases hs
    refine w_tsw (26 : Int32) q26 (tgt := 1042) dL_law_33 (by decide) (by decide) rfl (by decide) ?_
    exact g_law_26 G.1 hi hL h1 h2 h0
  by_cases q27 : x = (27 : Int32)
  · rw [q27] at hs
    replace hs : ls_27 (z (i + 1)) (z (i + 2)) (z (i + 3)) (z (i + 4)) (z (i + 5)) σ = some σ' := hs
    unfold ls_27 at hs
    obtain ⟨r1, s1, h1, hs⟩ := bd_some hs
    obtain ⟨r2, s2, h2, hs⟩ := bd_some hs
    cases hs
    refine w_tsw (27 : Int32) q27 (tgt := 1075) dL_law_33 (by decide) (by decide) rfl (by decide) ?_
    exact g_law_27 G.1 hi hL h1 h2 h0
  by_cases q28 : x = (28 : Int32)
  · rw [q28] at hs
    replace hs : ls_28 (z (i + 1)) (z (i + 2)) (z (i + 3)) (z (i + 4)) (z (i + 5)) σ = some σ' := hs
    unfold ls_28 at hs
    obtain ⟨r1, s1, h1, hs⟩ := bd_some hs
    obtain ⟨r2, s2, h2, hs⟩ := bd_some hs
    cases hs
    refine w_tsw (28 : Int32) q28 (tgt := 1098) dL_law_33 (by decide) (by decide) rfl (by decide) ?_
    exact g_law_28 G.1 hi hL h1 h2 h0
  by_cases q29 : x = (29 : Int32)
  · rw [q29] at hs
    replace hs : ls_29 (z (i + 1)) (z (i + 2)) (z (i + 3)) (z (i + 4)) (z (i + 5)) σ = some σ' := hs
    unfold ls_29 at hs
    obtain ⟨r1, s1, h1, hs⟩ := bd_some hs
    obtain ⟨r2, s2, h2, hs⟩ := bd_some hs
    cases hs
    refine w_tsw (29 : Int32) q29 (tgt := 1121) dL_law_33 (by decide) (by decide) rfl (by decide) ?_
    exact g_law_29 G.1 hi hL h1 h2 h0
  by_cases q30 : x = (30 : Int32)
  · rw [q30] at hs
    replace hs : ls_30 (z (i + 1)) (z (i + 2)) (z (i + 3)) (z (i + 4)) (z (i + 5)) σ = some σ' := hs
    unfold ls_30 at hs
    obtain ⟨r1, s1, h1, hs⟩ := bd_some hs
    obtain ⟨r2, s2, h2, hs⟩ := bd_some hs
    cases hs
    refine w_tsw (30 : Int32) q30 (tgt := 1144) dL_law_33 (by decide) (by decide) rfl (by decide) ?_
    exact g_law_30 G.1 hi hL h1 h2 h0
  by_cases q31 : x = (31 : Int32)
  · rw [q31] at hs
    replace hs : ls_31 (z (i + 1)) (z (i + 2)) (z (i + 3)) (z (i + 4)) (z (i + 5)) σ = some σ' := hs
    unfold ls_31 at hs
    obtain ⟨r1, s1, h1, hs⟩ := bd_some hs
    obtain ⟨r2, s2, h2, hs⟩ := bd_some hs
    cases hs
    refine w_tsw (31 : Int32) q31 (tgt := 1167) dL_law_33 (by decide) (by decide) rfl (by decide) ?_
    exact g_law_31 G.1 hi hL h1 h2 h0
  by_cases q32 : x = (32 : Int32)
  · rw [q32] at hs
    replace hs : ls_32 (z (i + 1)) (z (i + 2)) (z (i + 3)) (z (i + 4)) (z (i + 5)) σ = some σ' := hs
    unfold ls_32 at hs
    obtain ⟨r1, s1, h1, hs⟩ := bd_some hs
    obtain ⟨r2, s2, h2, hs⟩ := bd_some hs
    cases hs
    refine w_tsw (32 : Int32) q32 (tgt := 1200) dL_law_33 (by decide) (by decide) rfl (by decide) ?_
    exact g_law_32 G.1 hi hL h1 h2 h0
  by_cases q33 : x = (33 : Int32)
  · rw [q33] at hs
    replace hs : ls_33 (z (i + 1)) (z (i + 2)) (z (i + 3)) (z (i + 4)) (z (i + 5)) σ = some σ' := hs
    unfold ls_33 at hs
    obtain ⟨r1, s1, h1, hs⟩ := bd_some hs
    obtain ⟨r2, s2, h2, hs⟩ := bd_some hs
    cases hs
    refine w_tsw (33 : Int32) q33 (tgt := 1233) dL_law_33 (by decide) (by decide) rfl (by decide) ?_
    exact g_law_33 G.1 hi hL h1 h2 h0
  by_cases q34 : x = (34 : Int32)
  · rw [q34] at hs
    replace hs : ls_34 (z (i + 1)) (z (i + 2)) (z (i + 3)) (z (i + 4)) (z (i + 5)) σ = some σ' := hs
    unfold ls_34 at hs
    obtain ⟨r1, s1, h1, hs⟩ := bd_some hs
    obtain ⟨r2, s2, h2, hs⟩ := bd_some hs
    cases hs
    refine w_tsw (34 : Int32) q34 (tgt := 1266) dL_law_33 (by decide) (by decide) rfl (by decide) ?_
    exact g_law_34 G.1 hi hL h1 h2 h0
  by_cases q35 : x = (35 : Int32)
  · rw [q35] at hs
    replace hs : ls_35 (z (i + 1)) (z (i + 2)) (z (i + 3)) (z (i + 4)) (z (i + 5)) σ = some σ' := hs
    unfold ls_35 at hs
    obtain ⟨r1, s1, h1, hs⟩ := bd_some hs
    obtain ⟨r2, s2, h2, hs⟩ := bd_some hs
    cases hs
    refine w_tsw (35 : Int32) q35 (tgt := 1289) dL_law_33 (by decide) (by decide) rfl (by decide) ?_
    exact g_law_35 G.1 hi hL h1 h2 h0
  by_cases q36 : x = (36 : Int32)
  · rw [q36] at hs
    replace hs : ls_36 (z (i + 1)) (z (i + 2)) (z (i + 3)) (z (i + 4)) (z (i + 5)) σ = some σ' := hs
    unfold ls_36 at hs
    obtain ⟨r1, s1, h1, hs⟩ := bd_some hs
    obtain ⟨r2, s2, h2, hs⟩ := bd_some hs
    cases hs
    refine w_tsw (36 : Int32) q36 (tgt := 1322) dL_law_33 (by decide) (by decide) rfl (by decide) ?_
    exact g_law_36 G.1 hi hL h1 h2 h0
  by_cases q37 : x = (37 : Int32)
  · rw [q37] at hs
    replace hs : ls_37 (z (i + 1)) (z (i + 2)) (z (i + 3)) (z (i + 4)) (z (i + 5)) σ = some σ' := hs
    unfold ls_37 at hs
    obtain ⟨r1, s1, h1, hs⟩ := bd_some hs
    obtain ⟨r2, s2, h2, hs⟩ := bd_some hs
    cases hs
    refine w_tsw (37 : Int32) q37 (tgt := 1355) dL_law_33 (by decide) (by decide) rfl (by decide) ?_
    exact g_law_37 G.1 hi hL h1 h2 h0
  by_cases q38 : x = (38 : Int32)
  · rw [q38] at hs
    replace hs : ls_38 (z (i + 1)) (z (i + 2)) (z (i + 3)) (z (i + 4)) (z (i + 5)) σ = some σ' := hs
    unfold ls_38 at hs
    obtain ⟨r1, s1, h1, hs⟩ := bd_some hs
    obtain ⟨r2, s2, h2, hs⟩ := bd_some hs
    cases hs
    refine w_tsw (38 : Int32) q38 (tgt := 1378) dL_law_33 (by decide) (by decide) rfl (by decide) ?_
    exact g_law_38 G.1 hi hL h1 h2 h0
  by_cases q39 : x = (39 : Int32)
  · rw [q39] at hs
    replace hs : ls_39 (z (i + 1)) (z (i + 2)) (z (i + 3)) (z (i + 4)) (z (i + 5)) σ = some σ' := hs
    unfold ls_39 at hs
    obtain ⟨r1, s1, h1, hs⟩ := bd_some hs
    obtain ⟨r2, s2, h2, hs⟩ := bd_some hs
    cases hs
    refine w_tsw (39 : Int32) q39 (tgt := 1411) dL_law_33 (by decide) (by decide) rfl (by decide) ?_
    exact g_law_39 G.1 hi hL h1 h2 h0
  by_cases q40 : x = (40 : Int32)
  · rw [q40] at hs
    replace hs : ls_40 (z (i + 1)) (z (i + 2)) (z (i + 3)) (z (i + 4)) (z (i + 5)) σ = some σ' := hs
    unfold ls_40 at hs
    obtain ⟨r1, s1, h1, hs⟩ := bd_some hs
    obtain ⟨r2, s2, h2, hs⟩ := bd_some hs
    obtain ⟨he, rfl⟩ := eq_some hs
    refine w_tsw (40 : Int32) q40 (tgt := 1454) dL_law_33 (by decide) (by decide) rfl (by decide) ?_
    exact g_law_40 G.1 hi hL h1 h2 he h0
  by_cases q41 : x = (41 : Int32)
  · rw [q41] at hs
    replace hs : ls_41 (z (i + 1)) (z (i + 2)) (z (i + 3)) (z (i + 4)) (z (i + 5)) σ = some σ' := hs
    unfold ls_41 at hs
    obtain ⟨r1, s1, h1, hs⟩ := bd_some hs
    obtain ⟨r2, s2, h2, hs⟩ := bd_some hs
    cases hs
    refine w_tsw (41 : Int32) q41 (tgt := 1497) dL_law_33 (by decide) (by decide) rfl (by decide) ?_
    exact g_law_41 G.1 hi hL h1 h2 h0
  by_cases q42 : x = (42 : Int32)
  · rw [q42] at hs
    replace hs : ls_42 (z (i + 1)) (z (i + 2)) (z (i + 3)) (z (i + 4)) (z (i + 5)) σ = some σ' := hs
    unfold ls_42 at hs
    obtain ⟨r1, s1, h1, hs⟩ := bd_some hs
    obtain ⟨r2, s2, h2, hs⟩ := bd_some hs
    cases hs
    refine w_tsw (42 : Int32) q42 (tgt := 1520) dL_law_33 (by decide) (by decide) rfl (by decide) ?_
    exact g_law_42 G.1 hi hL h1 h2 h0
  by_cases q43 : x = (43 : Int32)
  · rw [q43] at hs
    replace hs : ls_43 (z (i + 1)) (z (i + 2)) (z (i + 3)) (z (i + 4)) (z (i + 5)) σ = some σ' := hs
    unfold ls_43 at hs
    obtain ⟨r1, s1, h1, hs⟩ := bd_some hs
    obtain ⟨r2, s2, h2, hs⟩ := bd_some hs
    cases hs
    refine w_tsw (43 : Int32) q43 (tgt := 1533) dL_law_33 (by decide) (by decide) rfl (by decide) ?_
    exact g_law_43 G.1 hi hL h1 h2 h0
  by_cases q44 : x = (44 : Int32)
  · rw [q44] at hs
    replace hs : ls_44 (z (i + 1)) (z (i + 2)) (z (i + 3)) (z (i + 4)) (z (i + 5)) σ = some σ' := hs
    unfold ls_44 at hs
    obtain ⟨r1, s1, h1, hs⟩ := bd_some hs
    obtain ⟨r2, s2, h2, hs⟩ := bd_some hs
    cases hs
    refine w_tsw (44 : Int32) q44 (tgt := 1556) dL_law_33 (by decide) (by decide) rfl (by decide) ?_
    exact g_law_44 G.1 hi hL h1 h2 h0
  by_cases q45 : x = (45 : Int32)
  · rw [q45] at hs
    replace hs : ls_45 (z (i + 1)) (z (i + 2)) (z (i + 3)) (z (i + 4)) (z (i + 5)) σ = some σ' := hs
    unfold ls_45 at hs
    obtain ⟨r1, s1, h1, hs⟩ := bd_some hs
    obtain ⟨r2, s2, h2, hs⟩ := bd_some hs
    cases hs
    refine w_tsw (45 : Int32) q45 (tgt := 1579) dL_law_33 (by decide) (by decide) rfl (by decide) ?_
    exact g_law_45 G.1 hi hL h1 h2 h0
  by_cases q46 : x = (46 : Int32)
  · rw [q46] at hs
    replace hs : ls_46 (z (i + 1)) (z (i + 2)) (z (i + 3)) (z (i + 4)) (z (i + 5)) σ = some σ' := hs
    unfold ls_46 at hs
    obtain ⟨r1, s1, h1, hs⟩ := bd_some hs
    obtain ⟨r2, s2, h2, hs⟩ := bd_some hs
    cases hs
    refine w_tsw (46 : Int32) q46 (tgt := 1592) dL_law_33 (by decide) (by decide) rfl (by decide) ?_
    exact g_law_46 G.1 hi hL h1 h2 h0
  by_cases q47 : x = (47 : Int32)
  · rw [q47] at hs
    replace hs : ls_47 (z (i + 1)) (z (i + 2)) (z (i + 3)) (z (i + 4)) (z (i + 5)) σ = some σ' := hs
    unfold ls_47 at hs
    obtain ⟨r1, s1, h1, hs⟩ := bd_some hs
    obtain ⟨r2, s2, h2, hs⟩ := bd_some hs
    cases hs
    refine w_tsw (47 : Int32) q47 (tgt := 1615) dL_law_33 (by decide) (by decide) rfl (by decide) ?_
    exact g_law_47 G.1 hi hL h1 h2 h0
  by_cases q48 : x = (48 : Int32)
  · rw [q48] at hs
    replace hs : ls_48 (z (i + 1)) (z (i + 2)) (z (i + 3)) (z (i + 4)) (z (i + 5)) σ = some σ' := hs
    unfold ls_48 at hs
    obtain ⟨r1, s1, h1, hs⟩ := bd_some hs
    obtain ⟨r2, s2, h2, hs⟩ := bd_some hs
    cases hs
    refine w_tsw (48 : Int32) q48 (tgt := 1648) dL_law_33 (by decide) (by decide) rfl (by decide) ?_
    exact g_law_48 G.1 hi hL h1 h2 h0
  by_cases q49 : x = (49 : Int32)
  · rw [q49] at hs
    replace hs : ls_49 (z (i + 1)) (z (i + 2)) (z (i + 3)) (z (i + 4)) (z (i + 5)) σ = some σ' := hs
    unfold ls_49 at hs
    obtain ⟨r1, s1, h1, hs⟩ := bd_some hs
    obtain ⟨r2, s2, h2, hs⟩ := bd_some hs
    cases hs
    refine w_tsw (49 : Int32) q49 (tgt := 1671) dL_law_33 (by decide) (by decide) rfl (by decide) ?_
    exact g_law_49 G.1 hi hL h1 h2 h0
  by_cases q50 : x = (50 : Int32)
  · rw [q50] at hs
    replace hs : ls_50 (z (i + 1)) (z (i + 2)) (z (i + 3)) (z (i + 4)) (z (i + 5)) σ = some σ' := hs
    unfold ls_50 at hs
    obtain ⟨r1, s1, h1, hs⟩ := bd_some hs
    obtain ⟨r2, s2, h2, hs⟩ := bd_some hs
    cases hs
    refine w_tsw (50 : Int32) q50 (tgt := 1694) dL_law_33 (by decide) (by decide) rfl (by decide) ?_
    exact g_law_50 G.1 hi hL h1 h2 h0
  by_cases q51 : x = (51 : Int32)
  · rw [q51] at hs
    replace hs : ls_51 (z (i + 1)) (z (i + 2)) (z (i + 3)) (z (i + 4)) (z (i + 5)) σ = some σ' := hs
    unfold ls_51 at hs
    obtain ⟨r1, s1, h1, hs⟩ := bd_some hs
    obtain ⟨r2, s2, h2, hs⟩ := bd_some hs
    cases hs
    refine w_tsw (51 : Int32) q51 (tgt := 1717) dL_law_33 (by decide) (by decide) rfl (by decide) ?_
    exact g_law_51 G.1 hi hL h1 h2 h0
  by_cases q52 : x = (52 : Int32)
  · rw [q52] at hs
    replace hs : ls_52 (z (i + 1)) (z (i + 2)) (z (i + 3)) (z (i + 4)) (z (i + 5)) σ = some σ' := hs
    unfold ls_52 at hs
    obtain ⟨r1, s1, h1, hs⟩ := bd_some hs
    obtain ⟨r2, s2, h2, hs⟩ := bd_some hs
    cases hs
    refine w_tsw (52 : Int32) q52 (tgt := 1750) dL_law_33 (by decide) (by decide) rfl (by decide) ?_
    exact g_law_52 G.1 hi hL h1 h2 h0
  by_cases q53 : x = (53 : Int32)
  · rw [q53] at hs
    replace hs : ls_53 (z (i + 1)) (z (i + 2)) (z (i + 3)) (z (i + 4)) (z (i + 5)) σ = some σ' := hs
    unfold ls_53 at hs
    obtain ⟨r1, s1, h1, hs⟩ := bd_some hs
    obtain ⟨r2, s2, h2, hs⟩ := bd_some hs
    cases hs
    refine w_tsw (53 : Int32) q53 (tgt := 1763) dL_law_33 (by decide) (by decide) rfl (by decide) ?_
    exact g_law_53 G.1 hi hL h1 h2 h0
  by_cases q54 : x = (54 : Int32)
  · rw [q54] at hs
    replace hs : ls_54 (z (i + 1)) (z (i + 2)) (z (i + 3)) (z (i + 4)) (z (i + 5)) σ = some σ' := hs
    unfold ls_54 at hs
    obtain ⟨r1, s1, h1, hs⟩ := bd_some hs
    obtain ⟨r2, s2, h2, hs⟩ := bd_some hs
    cases hs
    refine w_tsw (54 : Int32) q54 (tgt := 1776) dL_law_33 (by decide) (by decide) rfl (by decide) ?_
    exact g_law_54 G.1 hi hL h1 h2 h0
  by_cases q55 : x = (55 : Int32)
  · rw [q55] at hs
    replace hs : ls_55 (z (i + 1)) (z (i + 2)) (z (i + 3)) (z (i + 4)) (z (i + 5)) σ = some σ' := hs
    unfold ls_55 at hs
    obtain ⟨r1, s1, h1, hs⟩ := bd_some hs
    obtain ⟨r2, s2, h2, hs⟩ := bd_some hs
    cases hs
    refine w_tsw (55 : Int32) q55 (tgt := 1789) dL_law_33 (by decide) (by decide) rfl (by decide) ?_
    exact g_law_55 G.1 hi hL h1 h2 h0
  by_cases q56 : x = (56 : Int32)
  · rw [q56] at hs
    replace hs : ls_56 (z (i + 1)) (z (i + 2)) (z (i + 3)) (z (i + 4)) (z (i + 5)) σ = some σ' := hs
    unfold ls_56 at hs
    obtain ⟨r1, s1, h1, hs⟩ := bd_some hs
    obtain ⟨r2, s2, h2, hs⟩ := bd_some hs
    cases hs
    refine w_tsw (56 : Int32) q56 (tgt := 1802) dL_law_33 (by decide) (by decide) rfl (by decide) ?_
    exact g_law_56 G.1 hi hL h1 h2 h0
  by_cases q57 : x = (57 : Int32)
  · rw [q57] at hs
    replace hs : ls_57 (z (i + 1)) (z (i + 2)) (z (i + 3)) (z (i + 4)) (z (i + 5)) σ = some σ' := hs
    unfold ls_57 at hs
    obtain ⟨r1, s1, h1, hs⟩ := bd_some hs
    obtain ⟨r2, s2, h2, hs⟩ := bd_some hs
    cases hs
    refine w_tsw (57 : Int32) q57 (tgt := 1845) dL_law_33 (by decide) (by decide) rfl (by decide) ?_
    exact g_law_57 G.1 hi hL h1 h2 h0
  by_cases q58 : x = (58 : Int32)
  · rw [q58] at hs
    replace hs : ls_58 (z (i + 1)) (z (i + 2)) (z (i + 3)) (z (i + 4)) (z (i + 5)) σ = some σ' := hs
    unfold ls_58 at hs
    obtain ⟨r1, s1, h1, hs⟩ := bd_some hs
    obtain ⟨r2, s2, h2, hs⟩ := bd_some hs
    cases hs
    refine w_tsw (58 : Int32) q58 (tgt := 1868) dL_law_33 (by decide) (by decide) rfl (by decide) ?_
    exact g_law_58 G.1 hi hL h1 h2 h0
  by_cases q59 : x = (59 : Int32)
  · rw [q59] at hs
    replace hs : ls_59 (z (i + 1)) (z (i + 2)) (z (i + 3)) (z (i + 4)) (z (i + 5)) σ = some σ' := hs
    unfold ls_59 at hs
    obtain ⟨r1, s1, h1, hs⟩ := bd_some hs
    obtain ⟨r2, s2, h2, hs⟩ := bd_some hs
    cases hs
    refine w_tsw (59 : Int32) q59 (tgt := 1911) dL_law_33 (by decide) (by decide) rfl (by decide) ?_
    exact g_law_59 G.1 hi hL h1 h2 h0
  by_cases q60 : x = (60 : Int32)
  · rw [q60] at hs
    replace hs : ls_60 (z (i + 1)) (z (i + 2)) (z (i + 3)) (z (i + 4)) (z (i + 5)) σ = some σ' := hs
    unfold ls_60 at hs
    obtain ⟨r1, s1, h1, hs⟩ := bd_some hs
    obtain ⟨r2, s2, h2, hs⟩ := bd_some hs
    cases hs
    refine w_tsw (60 : Int32) q60 (tgt := 1944) dL_law_33 (by decide) (by decide) rfl (by decide) ?_
    exact g_law_60 G.1 hi hL h1 h2 h0
  by_cases q61 : x = (61 : Int32)
  · rw [q61] at hs
    replace hs : ls_61 (z (i + 1)) (z (i + 2)) (z (i + 3)) (z (i + 4)) (z (i + 5)) σ = some σ' := hs
    unfold ls_61 at hs
    obtain ⟨r1, s1, h1, hs⟩ := bd_some hs
    obtain ⟨r2, s2, h2, hs⟩ := bd_some hs
    cases hs
    refine w_tsw (61 : Int32) q61 (tgt := 1957) dL_law_33 (by decide) (by decide) rfl (by decide) ?_
    exact g_law_61 G.1 hi hL h1 h2 h0
  by_cases q62 : x = (62 : Int32)
  · rw [q62] at hs
    replace hs : ls_62 (z (i + 1)) (z (i + 2)) (z (i + 3)) (z (i + 4)) (z (i + 5)) σ = some σ' := hs
    unfold ls_62 at hs
    obtain ⟨r1, s1, h1, hs⟩ := bd_some hs
    obtain ⟨r2, s2, h2, hs⟩ := bd_some hs
    cases hs
    refine w_tsw (62 : Int32) q62 (tgt := 1990) dL_law_33 (by decide) (by decide) rfl (by decide) ?_
    exact g_law_62 G.1 hi hL h1 h2 h0
  by_cases q63 : x = (63 : Int32)
  · rw [q63] at hs
    replace hs : ls_63 (z (i + 1)) (z (i + 2)) (z (i + 3)) (z (i + 4)) (z (i + 5)) σ = some σ' := hs
    unfold ls_63 at hs
    obtain ⟨r1, s1, h1, hs⟩ := bd_some hs
    obtain ⟨r2, s2, h2, hs⟩ := bd_some hs
    cases hs
    refine w_tsw (63 : Int32) q63 (tgt := 2033) dL_law_33 (by decide) (by decide) rfl (by decide) ?_
    exact g_law_63 G.1 hi hL h1 h2 h0
  by_cases q64 : x = (64 : Int32)
  · rw [q64] at hs
    replace hs : ls_64 (z (i + 1)) (z (i + 2)) (z (i + 3)) (z (i + 4)) (z (i + 5)) σ = some σ' := hs
    unfold ls_64 at hs
    obtain ⟨r1, s1, h1, hs⟩ := bd_some hs
    obtain ⟨r2, s2, h2, hs⟩ := bd_some hs
    cases hs
    refine w_tsw (64 : Int32) q64 (tgt := 2056) dL_law_33 (by decide) (by decide) rfl (by decide) ?_
    exact g_law_64 G.1 hi hL hM hn hR2 h1 h2 (fun ad' had => h (bump (setAd Γ ad') 14 325) G ⟨Nat.le_refl _, Nat.le_refl _⟩)
  by_cases q65 : x = (65 : Int32)
  · rw [q65] at hs
    replace hs : ls_65 (z (i + 1)) (z (i + 2)) (z (i + 3)) (z (i + 4)) (z (i + 5)) σ = some σ' := hs
    unfold ls_65 at hs
    obtain ⟨r1, s1, h1, hs⟩ := bd_some hs
    obtain ⟨r2, s2, h2, hs⟩ := bd_some hs
    cases hs
    refine w_tsw (65 : Int32) q65 (tgt := 2079) dL_law_33 (by decide) (by decide) rfl (by decide) ?_
    exact g_law_65 G.1 hi hL h1 h2 h0
  by_cases q66 : x = (66 : Int32)
  · rw [q66] at hs
    replace hs : ls_66 (z (i + 1)) (z (i + 2)) (z (i + 3)) (z (i + 4)) (z (i + 5)) σ = some σ' := hs
    unfold ls_66 at hs
    obtain ⟨r1, s1, h1, hs⟩ := bd_some hs
    obtain ⟨r2, s2, h2, hs⟩ := bd_some hs
    cases hs
    refine w_tsw (66 : Int32) q66 (tgt := 2102) dL_law_33 (by decide) (by decide) rfl (by decide) ?_
    exact g_law_66 G.1 hi hL h1 h2 h0
  by_cases q67 : x = (67 : Int32)
  · rw [q67] at hs
    replace hs : ls_67 (z (i + 1)) (z (i + 2)) (z (i + 3)) (z (i + 4)) (z (i + 5)) σ = some σ' := hs
    unfold ls_67 at hs
    obtain ⟨r1, s1, h1, hs⟩ := bd_some hs
    obtain ⟨r2, s2, h2, hs⟩ := bd_some hs
    cases hs
    refine w_tsw (67 : Int32) q67 (tgt := 2145) dL_law_33 (by decide) (by decide) rfl (by decide) ?_
    exact g_law_67 G.1 hi hL h1 h2 h0
  by_cases q68 : x = (68 : Int32)
  · rw [q68] at hs
    replace hs : ls_68 (z (i + 1)) (z (i + 2)) (z (i + 3)) (z (i + 4)) (z (i + 5)) σ = some σ' := hs
    unfold ls_68 at hs
    obtain ⟨r1, s1, h1, hs⟩ := bd_some hs
    obtain ⟨r2, s2, h2, hs⟩ := bd_some hs
    cases hs
    refine w_tsw (68 : Int32) q68 (tgt := 2218) dL_law_33 (by decide) (by decide) rfl (by decide) ?_
    exact g_law_68 G.1 hi hL h1 h2 h0
  have hd : lsL.getD x.toNatClampNeg (fun _ _ _ _ _ σ => some σ) = (fun _ _ _ _ _ σ => some σ) := by
    have hl : lsL.length ≤ x.toNatClampNeg := by
      show 69 ≤ x.toInt.toNat
      have z0 := i32_ne q0 (z := 0) rfl
      have z1 := i32_ne q1 (z := 1) rfl
      have z2 := i32_ne q2 (z := 2) rfl
      have z3 := i32_ne q3 (z := 3) rfl
      have z4 := i32_ne q4 (z := 4) rfl
      have z5 := i32_ne q5 (z := 5) rfl
      have z6 := i32_ne q6 (z := 6) rfl
      have z7 := i32_ne q7 (z := 7) rfl
      have z8 := i32_ne q8 (z := 8) rfl
      have z9 := i32_ne q9 (z := 9) rfl
      have z10 := i32_ne q10 (z := 10) rfl
      have z11 := i32_ne q11 (z := 11) rfl
      have z12 := i32_ne q12 (z := 12) rfl
      have z13 := i32_ne q13 (z := 13) rfl
      have z14 := i32_ne q14 (z := 14) rfl
      have z15 := i32_ne q15 (z := 15) rfl
      have z16 := i32_ne q16 (z := 16) rfl
      have z17 := i32_ne q17 (z := 17) rfl
      have z18 := i32_ne q18 (z := 18) rfl
      have z19 := i32_ne q19 (z := 19) rfl
      have z20 := i32_ne q20 (z := 20) rfl
      have z21 := i32_ne q21 (z := 21) rfl
      have z22 := i32_ne q22 (z := 22) rfl
      have z23 := i32_ne q23 (z := 23) rfl
      have z24 := i32_ne q24 (z := 24) rfl
      have z25 := i32_ne q25 (z := 25) rfl
      have z26 := i32_ne q26 (z := 26) rfl
      have z27 := i32_ne q27 (z := 27) rfl
      have z28 := i32_ne q28 (z := 28) rfl
      have z29 := i32_ne q29 (z := 29) rfl
      have z30 := i32_ne q30 (z := 30) rfl
      have z31 := i32_ne q31 (z := 31) rfl
      have z32 := i32_ne q32 (z := 32) rfl
      have z33 := i32_ne q33 (z := 33) rfl
      have z34 := i32_ne q34 (z := 34) rfl
      have z35 := i32_ne q35 (z := 35) rfl
      have z36 := i32_ne q36 (z := 36) rfl
      have z37 := i32_ne q37 (z := 37) rfl
      have z38 := i32_ne q38 (z := 38) rfl
      have z39 := i32_ne q39 (z := 39) rfl
      have z40 := i32_ne q40 (z := 40) rfl
      have z41 := i32_ne q41 (z := 41) rfl
      have z42 := i32_ne q42 (z := 42) rfl
      have z43 := i32_ne q43 (z := 43) rfl
      have z44 := i32_ne q44 (z := 44) rfl
      have z45 := i32_ne q45 (z := 45) rfl
      have z46 := i32_ne q46 (z := 46) rfl
      have z47 := i32_ne q47 (z := 47) rfl
      have z48 := i32_ne q48 (z := 48) rfl
      have z49 := i32_ne q49 (z := 49) rfl
      have z50 := i32_ne q50 (z := 50) rfl
      have z51 := i32_ne q51 (z := 51) rfl
      have z52 := i32_ne q52 (z := 52) rfl
      have z53 := i32_ne q53 (z := 53) rfl
      have z54 := i32_ne q54 (z := 54) rfl
      have z55 := i32_ne q55 (z := 55) rfl
      have z56 := i32_ne q56 (z := 56) rfl
      have z57 := i32_ne q57 (z := 57) rfl
      have z58 := i32_ne q58 (z := 58) rfl
      have z59 := i32_ne q59 (z := 59) rfl
      have z60 := i32_ne q60 (z := 60) rfl
      have z61 := i32_ne q61 (z := 61) rfl
      have z62 := i32_ne q62 (z := 62) rfl
      have z63 := i32_ne q63 (z := 63) rfl
      have z64 := i32_ne q64 (z := 64) rfl
      have z65 := i32_ne q65 (z := 65) rfl
      have z66 := i32_ne q66 (z := 66) rfl
      have z67 := i32_ne q67 (z := 67) rfl
      have z68 := i32_ne q68 (z := 68) rfl
      omega
    rw [List.getD_eq_getElem?_getD, List.getElem?_eq_none hl]
    rfl
  refine w_tableOut (tgt := 2281) dL_law_33 (by have z0 := i32_ne q0 (z := 0) rfl; have z1 := i32_ne q1 (z := 1) rfl; have z2 := i32_ne q2 (z := 2) rfl; have z3 := i32_ne q3 (z := 3) rfl; have z4 := i32_ne q4 (z := 4) rfl; have z5 := i32_ne q5 (z := 5) rfl; have z6 := i32_ne q6 (z := 6) rfl; have z7 := i32_ne q7 (z := 7) rfl; have z8 := i32_ne q8 (z := 8) rfl; have z9 := i32_ne q9 (z := 9) rfl; have z10 := i32_ne q10 (z := 10) rfl; have z11 := i32_ne q11 (z := 11) rfl; have z12 := i32_ne q12 (z := 12) rfl; have z13 := i32_ne q13 (z := 13) rfl; have z14 := i32_ne q14 (z := 14) rfl; have z15 := i32_ne q15 (z := 15) rfl; have z16 := i32_ne q16 (z := 16) rfl; have z17 := i32_ne q17 (z := 17) rfl; have z18 := i32_ne q18 (z := 18) rfl; have z19 := i32_ne q19 (z := 19) rfl; have z20 := i32_ne q20 (z := 20) rfl; have z21 := i32_ne q21 (z := 21) rfl; have z22 := i32_ne q22 (z := 22) rfl; have z23 := i32_ne q23 (z := 23) rfl; have z24 := i32_ne q24 (z := 24) rfl; have z25 := i32_ne q25 (z := 25) rfl; have z26 := i32_ne q26 (z := 26) rfl; have z27 := i32_ne q27 (z := 27) rfl; have z28 := i32_ne q28 (z := 28) rfl; have z29 := i32_ne q29 (z := 29) rfl; have z30 := i32_ne q30 (z := 30) rfl; have z31 := i32_ne q31 (z := 31) rfl; have z32 := i32_ne q32 (z := 32) rfl; have z33 := i32_ne q33 (z := 33) rfl; have z34 := i32_ne q34 (z := 34) rfl; have z35 := i32_ne q35 (z := 35) rfl; have z36 := i32_ne q36 (z := 36) rfl; have z37 := i32_ne q37 (z := 37) rfl; have z38 := i32_ne q38 (z := 38) rfl; have z39 := i32_ne q39 (z := 39) rfl; have z40 := i32_ne q40 (z := 40) rfl; have z41 := i32_ne q41 (z := 41) rfl; have z42 := i32_ne q42 (z := 42) rfl; have z43 := i32_ne q43 (z := 43) rfl; have z44 := i32_ne q44 (z := 44) rfl; have z45 := i32_ne q45 (z := 45) rfl; have z46 := i32_ne q46 (z := 46) rfl; have z47 := i32_ne q47 (z := 47) rfl; have z48 := i32_ne q48 (z := 48) rfl; have z49 := i32_ne q49 (z := 49) rfl; have z50 := i32_ne q50 (z := 50) rfl; have z51 := i32_ne q51 (z := 51) rfl; have z52 := i32_ne q52 (z := 52) rfl; have z53 := i32_ne q53 (z := 53) rfl; have z54 := i32_ne q54 (z := 54) rfl; have z55 := i32_ne q55 (z := 55) rfl; have z56 := i32_ne q56 (z := 56) rfl; have z57 := i32_ne q57 (z := 57) rfl; have z58 := i32_ne q58 (z := 58) rfl; have z59 := i32_ne q59 (z := 59) rfl; have z60 := i32_ne q60 (z := 60) rfl; have z61 := i32_ne q61 (z := 61) rfl; have z62 := i32_ne q62 (z := 62) rfl; have z63 := i32_ne q63 (z := 63) rfl; have z64 := i32_ne q64 (z := 64) rfl; have z65 := i32_ne q65 (z := 65) rfl; have z66 := i32_ne q66 (z := 66) rfl; have z67 := i32_ne q67 (z := 67) rfl; have z68 := i32_ne q68 (z := 68) rfl; omega) (by decide) ?_
  rw [hd] at hs
  cases hs
  exact h0
theorem law_end {Γ : CX} {b L : Nat} {z : Nat → Int32} {σ : St} {lv : List (Nat × Value)} (G : LG Γ b L z) (hk : xk Γ ≤ 600000 ∧ xn Γ ≤ 7302250) : WW Γ cL_law 4 RL ret room_1 σ 2287 lv [] := by
  refine w_iconst (1 : Int32) dL_law_2287 ic_iconst_1 rfl ?_
  intro X H locs ls hP hD hS hl
  obtain ⟨hx, hb, hml, hown, -, -, hlk, -, -, -, hr, hRm, -⟩ := X
  refine va_forget (fun q hq => G.2.1 _ (hS.2.2 q hq)) ?_
  refine W.widen (k := 600000) (n := 7302250) hk.1 hk.2 ?_
  rw [G.2.2.1, G.2.2.2, hRm]
  exact lw_ret hx hb hr hlk dL_law_2288
/-- the loop: from a state with the invariant, call by call -/
theorem law_loop {b L : Nat} {z : Nat → Int32} (hL : L ≤ 3072) (Inv : Nat → St → Prop) (hI : ∀ i σ, Inv i σ → i + 6 ≤ L → MI σ ∧ gn σ ≤ 60) (hs : ∀ i σ, Inv i σ → i + 6 ≤ L → ∃ σ', lstep (z i) (z (i + 1)) (z (i + 2)) (z (i + 3)) (z (i + 4)) (z (i + 5)) σ = some σ' ∧ Inv (i + 6) σ') :
    ∀ (n i : Nat) (σ : St) (Γ : CX), L ≤ i + n → i ≤ L + 6 → LG Γ b L z → xk Γ ≤ 100 + 14 * i → xn Γ ≤ 20000 + 325 * i → Inv i σ → WW Γ cL_law 4 RL ret room_1 σ 18 [(0, .ref b), (1, .ref (xd Γ 0)), (2, .ref (xd Γ 58)), (3, .int (nI i))] [] := by
  intro n
  induction n with
  | zero =>
    intro i σ Γ h1 h2 G hk hn hv
    refine w_iload_n 3 dL_law_18 rfl rfl rfl ?_
    refine w_aload_n 0 dL_law_19 rfl rfl rfl ?_
    refine s_len G.1 dL_law_20 rfl ?_
    refine w_bipush (6 : Int32) dL_law_21 ic_bipush_6 rfl ?_
    refine w_isub dL_law_23 rfl ?_
    refine w_icmp_gt (tgt := 2287) dL_law_24 (by decide) rfl (fun _ => ?_) (fun q => ?_)
    · exact law_end G ⟨by omega, by omega⟩
    · exact absurd ((law_gt (by omega) (by omega)).mpr (by omega)) q
  | succ n ih =>
    intro i σ Γ h1 h2 G hk hn hv
    refine w_iload_n 3 dL_law_18 rfl rfl rfl ?_
    refine w_aload_n 0 dL_law_19 rfl rfl rfl ?_
    refine s_len G.1 dL_law_20 rfl ?_
    refine w_bipush (6 : Int32) dL_law_21 ic_bipush_6 rfl ?_
    refine w_isub dL_law_23 rfl ?_
    refine w_icmp_gt (tgt := 2287) dL_law_24 (by decide) rfl (fun _ => ?_) (fun q => ?_)
    · exact law_end G ⟨by omega, by omega⟩
    · have hlt : i + 6 ≤ L := by
        rcases Nat.lt_or_ge L (i + 6) with g | g
        · exact absurd ((law_gt (by omega) (by omega)).mpr g) q
        · exact g
      obtain ⟨σ', e, hv'⟩ := hs i σ hv hlt
      obtain ⟨hM, hg⟩ := hI i σ hv hlt
      refine w_aload_n 0 dL_law_27 rfl rfl rfl ?_
      refine w_iload_n 3 dL_law_28 rfl rfl rfl ?_
      refine s_ld G.1 (vp_in_nI (by omega) (by omega)) dL_law_29 rfl ?_
      rw [nI_clamp (by omega)]
      refine w_bipush (127 : Int32) dL_law_30 ic_bipush_127 rfl ?_
      refine w_iand dL_law_32 rfl ?_
      refine law_switch G hlt (by omega) hM hg ⟨show _ ≤ 600000 by omega, show _ ≤ 7302250 by omega⟩ e (fun Γ' G' hb => ?_)
      refine w_iinc 3 (nI (i + 6)) [(3, .int (nI (i + 6))), (0, .ref b), (1, .ref (xd Γ' 0)), (2, .ref (xd Γ' 58))] dL_law_2281 rfl (by rw [← nI_add]; rfl) (by decide) rfl rfl ?_
      refine w_goto (tgt := 18) dL_law_2284 (by decide) ?_
      exact w_sub [1, 2, 3, 0] rfl (ih (i + 6) σ' Γ' (by omega) (by omega) G' (by omega) (by omega) hv')
