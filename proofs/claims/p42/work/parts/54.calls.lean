/-! ===== every call: an end, and what holds between calls ===== -/
theorem D_feed (a b c d e : Int32) (σ : St) (hI : IV σ) : ∃ r s1 s2, f_X11_feed a b c d e σ = some (r, s1) ∧ f_X12_feed a b c d e s1 = some (r, s2) ∧ IV s2 := by
  obtain ⟨r, s1, s2, h1, h2, hT, hf, h29, h58⟩ := R_feed a b c d e σ hI.1
  refine ⟨r, s1, s2, h1, h2, hI.fr hf (by decide) hT (hI.2.1.fr hf (by decide) (by decide) (by decide) (by decide) (by decide)) ?_⟩
  have := hI.2.2.1
  unfold FE at *
  rw [h29 2 (by omega), h29 3 (by omega), h58 12 (by omega), h58 13 (by omega)]
  exact this
theorem D_end (a : Int32) (σ : St) (hI : IV σ) : ∃ r s1 s2, f_X11_end a σ = some (r, s1) ∧ f_X12_end a s1 = some (r, s2) ∧ IV s2 := by
  obtain ⟨r, s1, s2, h1, h2, hT, hf, h29, h58⟩ := R_end a σ hI.1
  refine ⟨r, s1, s2, h1, h2, hI.fr hf (by decide) hT (hI.2.1.fr hf (by decide) (by decide) (by decide) (by decide) (by decide)) ?_⟩
  have := hI.2.2.1
  unfold FE at *
  rw [h29 2 (by omega), h29 3 (by omega), h58 12 (by omega), h58 13 (by omega)]
  exact this
theorem D_war (σ : St) (hI : IV σ) : ∃ r s1 s2, f_X11_war σ = some (r, s1) ∧ f_X12_war s1 = some (r, s2) ∧ IV s2 := by
  obtain ⟨r, s1, s2, h1, h2, hT, hF, -, hc⟩ := R_war σ hI.1
  refine ⟨r, s1, s2, h1, h2, ?_⟩
  rcases hc with hf | ⟨hW, hf, -, -, -, h0⟩
  · exact hI.fr hf (by decide) hT (hI.2.1.fr hf (by decide) (by decide) (by decide) (by decide) (by decide)) hF
  · exact hI.ch hf (by decide) hT (hI.2.1.fr hf (by decide) (by decide) (by decide) (by decide) (by decide)) hF ⟨hW, h0⟩
theorem D_fault (a : Int32) (σ : St) (hI : IV σ) : ∃ r s1 s2, f_X11_fault a σ = some (r, s1) ∧ f_X12_fault a s1 = some (r, s2) ∧ IV s2 := by
  obtain ⟨r, h1, h2⟩ := R_fault a σ hI.2.2.1
  exact ⟨r, σ, σ, h1, h2, hI⟩
theorem D_hold (a b : Int32) (σ : St) (hI : IV σ) : ∃ r s1 s2, f_X11_hold a b σ = some (r, s1) ∧ f_X12_hold a b s1 = some (r, s2) ∧ IV s2 := by
  obtain ⟨r, s1, s2, h1, h2, hf⟩ := R_hold a b σ
  exact ⟨r, s1, s2, h1, h2, hI.fr0 hf (by decide) (fun c _ => by rw [(hf.1 58 (by decide)).1])⟩
theorem D_holds (a b c : Int32) (σ : St) (hI : IV σ) : ∃ r s1 s2, f_X11_holds a b c σ = some (r, s1) ∧ f_X12_holds a b c s1 = some (r, s2) ∧ IV s2 := by
  obtain ⟨r, s1, s2, h1, h2, hf⟩ := R_holds a b c σ
  exact ⟨r, s1, s2, h1, h2, hI.fr0 hf (by decide) (fun c _ => by rw [(hf.1 58 (by decide)).1])⟩
theorem D_reply (a b c : Int32) (σ : St) (hI : IV σ) : ∃ r s1 s2, f_X11_reply a b c σ = some (r, s1) ∧ f_X12_reply a b c s1 = some (r, s2) ∧ IV s2 := by
  obtain ⟨r, s1, s2, h1, h2, hf⟩ := R_reply a b c σ
  exact ⟨r, s1, s2, h1, h2, hI.fr0 hf (by decide) (fun c _ => by rw [(hf.1 58 (by decide)).1])⟩
theorem D_row (a b c : Int32) (σ : St) (hI : IV σ) : ∃ r s1 s2, f_X11_row a b c σ = some (r, s1) ∧ f_X12_row a b c s1 = some (r, s2) ∧ IV s2 := by
  obtain ⟨r, s1, s2, h1, h2, hS, hf⟩ := R_row a b c σ hI.2.1
  exact ⟨r, s1, s2, h1, h2, hI.fr hf (by decide) (hI.1.fr hf (by decide) (by rw [(hf.1 58 (by decide)).1])) hS (hI.2.2.1.fr hf (by decide) (by rw [(hf.1 58 (by decide)).1]) (by rw [(hf.1 58 (by decide)).1]))⟩
theorem D_write (a b : Int32) (c : Int64) (σ : St) (hI : IV σ) : ∃ r s1 s2, f_X11_write a b c σ = some (r, s1) ∧ f_X12_write a b c s1 = some (r, s2) ∧ IV s2 := by
  obtain ⟨r, s1, s2, h1, h2, hS, hf⟩ := R_write a b c σ hI.2.1
  exact ⟨r, s1, s2, h1, h2, hI.fr hf (by decide) (hI.1.fr hf (by decide) (by rw [(hf.1 58 (by decide)).1])) hS (hI.2.2.1.fr hf (by decide) (by rw [(hf.1 58 (by decide)).1]) (by rw [(hf.1 58 (by decide)).1]))⟩
theorem D_paste (a b c d e : Int32) (σ : St) (hI : IV σ) : ∃ r s1 s2, f_X11_paste a b c d e σ = some (r, s1) ∧ f_X12_paste a b c d e s1 = some (r, s2) ∧ IV s2 := by
  obtain ⟨r, s1, s2, h1, h2, hS, hf⟩ := R_paste a b c d e σ hI.2.1
  exact ⟨r, s1, s2, h1, h2, hI.fr hf (by decide) (hI.1.fr hf (by decide) (by rw [(hf.1 58 (by decide)).1])) hS (hI.2.2.1.fr hf (by decide) (by rw [(hf.1 58 (by decide)).1]) (by rw [(hf.1 58 (by decide)).1]))⟩
theorem D_tell (a b c : Int32) (σ : St) (hI : IV σ) : ∃ r s1 s2, f_X11_tell a b c σ = some (r, s1) ∧ f_X12_tell a b c s1 = some (r, s2) ∧ IV s2 := by
  obtain ⟨r, s1, s2, h1, h2, h3, -⟩ := R_tell a b c σ hI
  exact ⟨r, s1, s2, h1, h2, h3⟩
theorem D_needs (a b : Int32) (σ : St) (hI : IV σ) : ∃ r s1 s2, f_X11_needs a b σ = some (r, s1) ∧ f_X12_needs_ a b s1 = some (r, s2) ∧ IV s2 := by
  obtain ⟨r, s1, s2, h1, h2, h3, -⟩ := R_needs a b σ hI
  exact ⟨r, s1, s2, h1, h2, h3⟩
theorem D_undo (σ : St) (hI : IV σ) : ∃ r s1 s2, f_X11_undo σ = some (r, s1) ∧ f_X12_undo s1 = some (r, s2) ∧ IV s2 := by
  obtain ⟨r, s1, s2, h1, h2, h3, -⟩ := R_undo σ hI
  exact ⟨r, s1, s2, h1, h2, h3⟩
theorem D_image (a : Int32) (σ : St) (hI : IV σ) : ∃ r s1 s2, f_X11_image a σ = some (r, s1) ∧ f_X12_image a s1 = some (r, s2) ∧ IV s2 := by
  obtain ⟨r, s1, s2, h1, h2, h3, -⟩ := R_image a σ hI
  exact ⟨r, s1, s2, h1, h2, h3⟩
theorem D_back (a : Int32) (σ : St) (hI : IV σ) : ∃ r s1 s2, f_X11_back a σ = some (r, s1) ∧ f_X12_back a s1 = some (r, s2) ∧ IV s2 := by
  obtain ⟨r, s1, s2, h1, h2, h3, -⟩ := R_back a σ hI
  exact ⟨r, s1, s2, h1, h2, h3⟩
theorem Q_train (a b : Int32) (σ : St) (hI : IV σ) : ∃ r1 s1 r2 s2, f_X11_train a b σ = some (r1, s1) ∧ f_X12_train a b s1 = some (r2, s2) ∧ IV s2 := by
  refine Q_pair (fc := fun s => f_X11_train a b s) (fr := fun s => f_X12_train a b s) hI ?_ ?_
  · intro Z M T S E A U Y L P N q hr s h
    exact T_X11_train q h
  · intro Z σ0 M T S E A U Y L P N q s h
    exact T_X12_train q h
theorem Q_need (a : Int32) (σ : St) (hI : IV σ) : ∃ r1 s1 r2 s2, f_X11_need a σ = some (r1, s1) ∧ f_X12_need a s1 = some (r2, s2) ∧ IV s2 := by
  refine Q_pair (fc := fun s => f_X11_need a s) (fr := fun s => f_X12_need a s) hI ?_ ?_
  · intro Z M T S E A U Y L P N q hr s h
    exact T_X11_need q h
  · intro Z σ0 M T S E A U Y L P N q s h
    exact T_X12_need q h
theorem Q_tea (a : Int32) (σ : St) (hI : IV σ) : ∃ r1 s1 r2 s2, f_X11_tea a σ = some (r1, s1) ∧ f_X12_tea a s1 = some (r2, s2) ∧ IV s2 := by
  refine Q_pair (fc := fun s => f_X11_tea a s) (fr := fun s => f_X12_tea a s) hI ?_ ?_
  · intro Z M T S E A U Y L P N q hr s h
    exact T_X11_tea q h
  · intro Z σ0 M T S E A U Y L P N q s h
    exact T_X12_tea q h
theorem Q_cannon (a b : Int32) (σ : St) (hI : IV σ) : ∃ r1 s1 r2 s2, f_X11_cannon a b σ = some (r1, s1) ∧ f_X12_cannon a b s1 = some (r2, s2) ∧ IV s2 := by
  refine Q_pair (fc := fun s => f_X11_cannon a b s) (fr := fun s => f_X12_cannon a b s) hI ?_ ?_
  · intro Z M T S E A U Y L P N q hr s h
    exact T_X11_cannon q h
  · intro Z σ0 M T S E A U Y L P N q s h
    exact T_X12_cannon q h
theorem Q_rule (a b : Int32) (σ : St) (hI : IV σ) : ∃ r1 s1 r2 s2, f_X11_rule a b σ = some (r1, s1) ∧ f_X12_rule a b s1 = some (r2, s2) ∧ IV s2 := by
  refine Q_pair (fc := fun s => f_X11_rule a b s) (fr := fun s => f_X12_rule a b s) hI ?_ ?_
  · intro Z M T S E A U Y L P N q hr s h
    exact T_X11_rule q h
  · intro Z σ0 M T S E A U Y L P N q s h
    exact T_X12_rule q h
theorem Q_spy (a : Int32) (σ : St) (hI : IV σ) : ∃ r1 s1 r2 s2, f_X11_spy a σ = some (r1, s1) ∧ f_X12_spy a s1 = some (r2, s2) ∧ IV s2 := by
  refine Q_pair (fc := fun s => f_X11_spy a s) (fr := fun s => f_X12_spy a s) hI ?_ ?_
  · intro Z M T S E A U Y L P N q hr s h
    exact T_X11_spy q h
  · intro Z σ0 M T S E A U Y L P N q s h
    exact T_X12_spy q h
theorem Q_men (a b c : Int32) (σ : St) (hI : IV σ) : ∃ r1 s1 r2 s2, f_X11_men a b c σ = some (r1, s1) ∧ f_X12_men a b c s1 = some (r2, s2) ∧ IV s2 := by
  refine Q_pair (fc := fun s => f_X11_men a b c s) (fr := fun s => f_X12_men a b c s) hI ?_ ?_
  · intro Z M T S E A U Y L P N q hr s h
    exact T_X11_men q h
  · intro Z σ0 M T S E A U Y L P N q s h
    exact T_X12_men q h
theorem Q_front (a b : Int32) (σ : St) (hI : IV σ) : ∃ r1 s1 r2 s2, f_X11_front a b σ = some (r1, s1) ∧ f_X12_front a b s1 = some (r2, s2) ∧ IV s2 := by
  refine Q_pair (fc := fun s => f_X11_front a b s) (fr := fun s => f_X12_front a b s) hI ?_ ?_
  · intro Z M T S E A U Y L P N q hr s h
    exact T_X11_front q h
  · intro Z σ0 M T S E A U Y L P N q s h
    exact T_X12_front q h
theorem Q_late (a : Int32) (σ : St) (hI : IV σ) : ∃ r1 s1 r2 s2, f_X11_late a σ = some (r1, s1) ∧ f_X12_late a s1 = some (r2, s2) ∧ IV s2 := by
  refine Q_pair (fc := fun s => f_X11_late a s) (fr := fun s => f_X12_late a s) hI ?_ ?_
  · intro Z M T S E A U Y L P N q hr s h
    exact T_X11_late q h
  · intro Z σ0 M T S E A U Y L P N q s h
    exact T_X12_late q h
theorem Q_wins (a : Int32) (σ : St) (hI : IV σ) : ∃ r1 s1 r2 s2, f_X11_wins a σ = some (r1, s1) ∧ f_X12_wins a s1 = some (r2, s2) ∧ IV s2 := by
  refine Q_pair (fc := fun s => f_X11_wins a s) (fr := fun s => f_X12_wins a s) hI ?_ ?_
  · intro Z M T S E A U Y L P N q hr s h
    exact T_X11_wins q h
  · intro Z σ0 M T S E A U Y L P N q s h
    exact T_X12_wins q h
theorem Q_peak (a b : Int32) (σ : St) (hI : IV σ) : ∃ r1 s1 r2 s2, f_X11_peak a b σ = some (r1, s1) ∧ f_X12_peak a b s1 = some (r2, s2) ∧ IV s2 := by
  refine Q_pair (fc := fun s => f_X11_peak a b s) (fr := fun s => f_X12_peak a b s) hI ?_ ?_
  · intro Z M T S E A U Y L P N q hr s h
    exact T_X11_peak q h
  · intro Z σ0 M T S E A U Y L P N q s h
    exact T_X12_peak q h
theorem Q_swings (a : Int32) (σ : St) (hI : IV σ) : ∃ r1 s1 r2 s2, f_X11_swings a σ = some (r1, s1) ∧ f_X12_swings a s1 = some (r2, s2) ∧ IV s2 := by
  refine Q_pair (fc := fun s => f_X11_swings a s) (fr := fun s => f_X12_swings a s) hI ?_ ?_
  · intro Z M T S E A U Y L P N q hr s h
    exact T_X11_swings q h
  · intro Z σ0 M T S E A U Y L P N q s h
    exact T_X12_swings q h
theorem Q_worst (a : Int32) (σ : St) (hI : IV σ) : ∃ r1 s1 r2 s2, f_X11_worst a σ = some (r1, s1) ∧ f_X12_worst a s1 = some (r2, s2) ∧ IV s2 := by
  refine Q_pair (fc := fun s => f_X11_worst a s) (fr := fun s => f_X12_worst a s) hI ?_ ?_
  · intro Z M T S E A U Y L P N q hr s h
    exact T_X11_worst q hr h
  · intro Z σ0 M T S E A U Y L P N q s h
    exact T_X12_worst q h
theorem Q_by (a : Int32) (σ : St) (hI : IV σ) : ∃ r1 s1 r2 s2, f_X11_by a σ = some (r1, s1) ∧ f_X12_by a s1 = some (r2, s2) ∧ IV s2 := by
  refine Q_pair (fc := fun s => f_X11_by a s) (fr := fun s => f_X12_by a s) hI ?_ ?_
  · intro Z M T S E A U Y L P N q hr s h
    exact T_X11_by q hr h
  · intro Z σ0 M T S E A U Y L P N q s h
    exact T_X12_by q h
theorem Q_ways (a : Int32) (σ : St) (hI : IV σ) : ∃ r1 s1 r2 s2, f_X11_ways a σ = some (r1, s1) ∧ f_X12_ways a s1 = some (r2, s2) ∧ IV s2 := by
  refine Q_pair (fc := fun s => f_X11_ways a s) (fr := fun s => f_X12_ways a s) hI ?_ ?_
  · intro Z M T S E A U Y L P N q hr s h
    exact T_X11_ways q hr h
  · intro Z σ0 M T S E A U Y L P N q s h
    exact T_X12_ways q h
theorem Q_idle (σ : St) (hI : IV σ) : ∃ r1 s1 r2 s2, f_X11_idle σ = some (r1, s1) ∧ f_X12_idle s1 = some (r2, s2) ∧ IV s2 := by
  refine Q_pair (fc := fun s => f_X11_idle s) (fr := fun s => f_X12_idle s) hI ?_ ?_
  · intro Z M T S E A U Y L P N q hr s h
    exact T_X11_idle q hr h
  · intro Z σ0 M T S E A U Y L P N q s h
    exact T_X12_idle q h
theorem Q_enough (a b : Int32) (σ : St) (hI : IV σ) : ∃ r1 s1 r2 s2, f_X11_enough a b σ = some (r1, s1) ∧ f_X12_enough a b s1 = some (r2, s2) ∧ IV s2 := by
  refine Q_pair (fc := fun s => f_X11_enough a b s) (fr := fun s => f_X12_enough a b s) hI ?_ ?_
  · intro Z M T S E A U Y L P N q hr s h
    exact T_X11_enough q h
  · intro Z σ0 M T S E A U Y L P N q s h
    exact T_X12_enough q h
theorem Q_chance (a b : Int32) (σ : St) (hI : IV σ) : ∃ r1 s1 r2 s2, f_X11_chance a b σ = some (r1, s1) ∧ f_X12_chance a b s1 = some (r2, s2) ∧ IV s2 := by
  refine Q_pair (fc := fun s => f_X11_chance a b s) (fr := fun s => f_X12_chance a b s) hI ?_ ?_
  · intro Z M T S E A U Y L P N q hr s h
    exact T_X11_chance q hr h
  · intro Z σ0 M T S E A U Y L P N q s h
    exact T_X12_chance q h
theorem Q_send (a : Int32) (σ : St) (hI : IV σ) : ∃ r1 s1 r2 s2, f_X11_send a σ = some (r1, s1) ∧ f_X12_send a s1 = some (r2, s2) ∧ IV s2 := by
  refine Q_pair (fc := fun s => f_X11_send a s) (fr := fun s => f_X12_send a s) hI ?_ ?_
  · intro Z M T S E A U Y L P N q hr s h
    exact T_X11_send q h
  · intro Z σ0 M T S E A U Y L P N q s h
    exact T_X12_send q h
theorem Q_sent (a : Int32) (σ : St) (hI : IV σ) : ∃ r1 s1 r2 s2, f_X11_sent a σ = some (r1, s1) ∧ f_X12_sent a s1 = some (r2, s2) ∧ IV s2 := by
  refine Q_pair (fc := fun s => f_X11_sent a s) (fr := fun s => f_X12_sent a s) hI ?_ ?_
  · intro Z M T S E A U Y L P N q hr s h
    exact T_X11_sent q h
  · intro Z σ0 M T S E A U Y L P N q s h
    exact T_X12_sent q h
theorem Q_fewest (a : Int32) (σ : St) (hI : IV σ) : ∃ r1 s1 r2 s2, f_X11_fewest a σ = some (r1, s1) ∧ f_X12_fewest a s1 = some (r2, s2) ∧ IV s2 := by
  refine Q_pair (fc := fun s => f_X11_fewest a s) (fr := fun s => f_X12_fewest a s) hI ?_ ?_
  · intro Z M T S E A U Y L P N q hr s h
    exact T_X11_fewest q h
  · intro Z σ0 M T S E A U Y L P N q s h
    exact T_X12_fewest q h
theorem Q_risk (a b : Int32) (σ : St) (hI : IV σ) : ∃ r1 s1 r2 s2, f_X11_risk a b σ = some (r1, s1) ∧ f_X12_risk a b s1 = some (r2, s2) ∧ IV s2 := by
  refine Q_pair (fc := fun s => f_X11_risk a b s) (fr := fun s => f_X12_risk a b s) hI ?_ ?_
  · intro Z M T S E A U Y L P N q hr s h
    exact T_X11_risk q h
  · intro Z σ0 M T S E A U Y L P N q s h
    exact T_X12_risk q h
theorem Q_risked (a b : Int32) (σ : St) (hI : IV σ) : ∃ r1 s1 r2 s2, f_X11_risked a b σ = some (r1, s1) ∧ f_X12_risked a b s1 = some (r2, s2) ∧ IV s2 := by
  refine Q_pair (fc := fun s => f_X11_risked a b s) (fr := fun s => f_X12_risked a b s) hI ?_ ?_
  · intro Z M T S E A U Y L P N q hr s h
    exact T_X11_risked q h
  · intro Z σ0 M T S E A U Y L P N q s h
    exact T_X12_risked q h
theorem Q_bribe (a : Int32) (σ : St) (hI : IV σ) : ∃ r1 s1 r2 s2, f_X11_bribe a σ = some (r1, s1) ∧ f_X12_bribe a s1 = some (r2, s2) ∧ IV s2 := by
  refine Q_pair (fc := fun s => f_X11_bribe a s) (fr := fun s => f_X12_bribe a s) hI ?_ ?_
  · intro Z M T S E A U Y L P N q hr s h
    exact T_X11_bribe q h
  · intro Z σ0 M T S E A U Y L P N q s h
    exact T_X12_bribe q h
theorem Q_bribed (a : Int32) (σ : St) (hI : IV σ) : ∃ r1 s1 r2 s2, f_X11_bribed a σ = some (r1, s1) ∧ f_X12_bribed a s1 = some (r2, s2) ∧ IV s2 := by
  refine Q_pair (fc := fun s => f_X11_bribed a s) (fr := fun s => f_X12_bribed a s) hI ?_ ?_
  · intro Z M T S E A U Y L P N q hr s h
    exact T_X11_bribed q h
  · intro Z σ0 M T S E A U Y L P N q s h
    exact T_X12_bribed q h
theorem Q_guard (a : Int32) (σ : St) (hI : IV σ) : ∃ r1 s1 r2 s2, f_X11_guard a σ = some (r1, s1) ∧ f_X12_guard a s1 = some (r2, s2) ∧ IV s2 := by
  refine Q_pair (fc := fun s => f_X11_guard a s) (fr := fun s => f_X12_guard a s) hI ?_ ?_
  · intro Z M T S E A U Y L P N q hr s h
    exact T_X11_guard q h
  · intro Z σ0 M T S E A U Y L P N q s h
    exact T_X12_guard q h
theorem Q_guarded (a : Int32) (σ : St) (hI : IV σ) : ∃ r1 s1 r2 s2, f_X11_guarded a σ = some (r1, s1) ∧ f_X12_guarded a s1 = some (r2, s2) ∧ IV s2 := by
  refine Q_pair (fc := fun s => f_X11_guarded a s) (fr := fun s => f_X12_guarded a s) hI ?_ ?_
  · intro Z M T S E A U Y L P N q hr s h
    exact T_X11_guarded q h
  · intro Z σ0 M T S E A U Y L P N q s h
    exact T_X12_guarded q h
theorem Q_spoil (a b : Int32) (σ : St) (hI : IV σ) : ∃ r1 s1 r2 s2, f_X11_spoil a b σ = some (r1, s1) ∧ f_X12_spoil a b s1 = some (r2, s2) ∧ IV s2 := by
  refine Q_pair (fc := fun s => f_X11_spoil a b s) (fr := fun s => f_X12_spoil a b s) hI ?_ ?_
  · intro Z M T S E A U Y L P N q hr s h
    exact T_X11_spoil q hr h
  · intro Z σ0 M T S E A U Y L P N q s h
    exact T_X12_spoil q h
theorem Q_spoils (a b : Int32) (σ : St) (hI : IV σ) : ∃ r1 s1 r2 s2, f_X11_spoils a b σ = some (r1, s1) ∧ f_X12_spoils a b s1 = some (r2, s2) ∧ IV s2 := by
  refine Q_pair (fc := fun s => f_X11_spoils a b s) (fr := fun s => f_X12_spoils a b s) hI ?_ ?_
  · intro Z M T S E A U Y L P N q hr s h
    exact T_X11_spoils q hr h
  · intro Z σ0 M T S E A U Y L P N q s h
    exact T_X12_spoils q h
theorem Q_answer (a b : Int32) (σ : St) (hI : IV σ) : ∃ r1 s1 r2 s2, f_X11_answer a b σ = some (r1, s1) ∧ f_X12_answer a b s1 = some (r2, s2) ∧ IV s2 := by
  refine Q_pair (fc := fun s => f_X11_answer a b s) (fr := fun s => f_X12_answer a b s) hI ?_ ?_
  · intro Z M T S E A U Y L P N q hr s h
    exact T_X11_answer q hr h
  · intro Z σ0 M T S E A U Y L P N q s h
    exact T_X12_answer q h
theorem Q_rests (a : Int32) (σ : St) (hI : IV σ) : ∃ r1 s1 r2 s2, f_X11_rests a σ = some (r1, s1) ∧ f_X12_rests a s1 = some (r2, s2) ∧ IV s2 := by
  refine Q_pair (fc := fun s => f_X11_rests a s) (fr := fun s => f_X12_rests a s) hI ?_ ?_
  · intro Z M T S E A U Y L P N q hr s h
    exact T_X11_rests q hr h
  · intro Z σ0 M T S E A U Y L P N q s h
    exact T_X12_rests q h
theorem Q_since (a b : Int32) (σ : St) (hI : IV σ) : ∃ r1 s1 r2 s2, f_X11_since a b σ = some (r1, s1) ∧ f_X12_since a b s1 = some (r2, s2) ∧ IV s2 := by
  refine Q_pair (fc := fun s => f_X11_since a b s) (fr := fun s => f_X12_since a b s) hI ?_ ?_
  · intro Z M T S E A U Y L P N q hr s h
    exact T_X11_since q h
  · intro Z σ0 M T S E A U Y L P N q s h
    exact T_X12_since q h
theorem Q_comes (a b : Int32) (σ : St) (hI : IV σ) : ∃ r1 s1 r2 s2, f_X11_comes a b σ = some (r1, s1) ∧ f_X12_comes a b s1 = some (r2, s2) ∧ IV s2 := by
  refine Q_pair (fc := fun s => f_X11_comes a b s) (fr := fun s => f_X12_comes a b s) hI ?_ ?_
  · intro Z M T S E A U Y L P N q hr s h
    exact T_X11_comes q h
  · intro Z σ0 M T S E A U Y L P N q s h
    exact T_X12_comes q h
theorem Q_even (a : Int32) (σ : St) (hI : IV σ) : ∃ r1 s1 r2 s2, f_X11_even a σ = some (r1, s1) ∧ f_X12_even a s1 = some (r2, s2) ∧ IV s2 := by
  refine Q_pair (fc := fun s => f_X11_even a s) (fr := fun s => f_X12_even a s) hI ?_ ?_
  · intro Z M T S E A U Y L P N q hr s h
    exact T_X11_even q h
  · intro Z σ0 M T S E A U Y L P N q s h
    exact T_X12_even q h
theorem Q_readings (a : Int32) (σ : St) (hI : IV σ) : ∃ r1 s1 r2 s2, f_X11_readings a σ = some (r1, s1) ∧ f_X12_readings a s1 = some (r2, s2) ∧ IV s2 := by
  refine Q_pair (fc := fun s => f_X11_readings a s) (fr := fun s => f_X12_readings a s) hI ?_ ?_
  · intro Z M T S E A U Y L P N q hr s h
    exact T_X11_readings q h
  · intro Z σ0 M T S E A U Y L P N q s h
    exact T_X12_readings q h
theorem Q_loopholes (σ : St) (hI : IV σ) : ∃ r1 s1 r2 s2, f_X11_loopholes σ = some (r1, s1) ∧ f_X12_loopholes s1 = some (r2, s2) ∧ IV s2 := by
  refine Q_pair (fc := fun s => f_X11_loopholes s) (fr := fun s => f_X12_loopholes s) hI ?_ ?_
  · intro Z M T S E A U Y L P N q hr s h
    exact T_X11_loopholes q h
  · intro Z σ0 M T S E A U Y L P N q s h
    exact T_X12_loopholes q h
theorem Q_close (a : Int32) (σ : St) (hI : IV σ) : ∃ r1 s1 r2 s2, f_X11_close a σ = some (r1, s1) ∧ f_X12_close a s1 = some (r2, s2) ∧ IV s2 := by
  refine Q_pair (fc := fun s => f_X11_close a s) (fr := fun s => f_X12_close a s) hI ?_ ?_
  · intro Z M T S E A U Y L P N q hr s h
    exact T_X11_close q h
  · intro Z σ0 M T S E A U Y L P N q s h
    exact T_X12_close q h
theorem Q_closed (a : Int32) (σ : St) (hI : IV σ) : ∃ r1 s1 r2 s2, f_X11_closed a σ = some (r1, s1) ∧ f_X12_closed a s1 = some (r2, s2) ∧ IV s2 := by
  refine Q_pair (fc := fun s => f_X11_closed a s) (fr := fun s => f_X12_closed a s) hI ?_ ?_
  · intro Z M T S E A U Y L P N q hr s h
    exact T_X11_closed q h
  · intro Z σ0 M T S E A U Y L P N q s h
    exact T_X12_closed q h
theorem Q_signs (σ : St) (hI : IV σ) : ∃ r1 s1 r2 s2, f_X11_signs σ = some (r1, s1) ∧ f_X12_signs s1 = some (r2, s2) ∧ IV s2 := by
  refine Q_pair (fc := fun s => f_X11_signs s) (fr := fun s => f_X12_signs s) hI ?_ ?_
  · intro Z M T S E A U Y L P N q hr s h
    exact T_X11_signs q h
  · intro Z σ0 M T S E A U Y L P N q s h
    exact T_X12_signs q h
theorem Q_treaties (a : Int32) (σ : St) (hI : IV σ) : ∃ r1 s1 r2 s2, f_X11_treaties a σ = some (r1, s1) ∧ f_X12_treaties a s1 = some (r2, s2) ∧ IV s2 := by
  refine Q_pair (fc := fun s => f_X11_treaties a s) (fr := fun s => f_X12_treaties a s) hI ?_ ?_
  · intro Z M T S E A U Y L P N q hr s h
    exact T_X11_treaties q h
  · intro Z σ0 M T S E A U Y L P N q s h
    exact T_X12_treaties q h
theorem Q_price (a b : Int32) (σ : St) (hI : IV σ) : ∃ r1 s1 r2 s2, f_X11_price a b σ = some (r1, s1) ∧ f_X12_price a b s1 = some (r2, s2) ∧ IV s2 := by
  refine Q_pair (fc := fun s => f_X11_price a b s) (fr := fun s => f_X12_price a b s) hI ?_ ?_
  · intro Z M T S E A U Y L P N q hr s h
    exact T_X11_price q h
  · intro Z σ0 M T S E A U Y L P N q s h
    exact T_X12_price q h
theorem Q_spies (a : Int32) (σ : St) (hI : IV σ) : ∃ r1 s1 r2 s2, f_X11_spies a σ = some (r1, s1) ∧ f_X12_spies a s1 = some (r2, s2) ∧ IV s2 := by
  refine Q_pair (fc := fun s => f_X11_spies a s) (fr := fun s => f_X12_spies a s) hI ?_ ?_
  · intro Z M T S E A U Y L P N q hr s h
    exact T_X11_spies q h
  · intro Z σ0 M T S E A U Y L P N q s h
    exact T_X12_spies q h
theorem Q_watch (a : Int32) (σ : St) (hI : IV σ) : ∃ r1 s1 r2 s2, f_X11_watch a σ = some (r1, s1) ∧ f_X12_watch a s1 = some (r2, s2) ∧ IV s2 := by
  refine Q_pair (fc := fun s => f_X11_watch a s) (fr := fun s => f_X12_watch a s) hI ?_ ?_
  · intro Z M T S E A U Y L P N q hr s h
    exact T_X11_watch q h
  · intro Z σ0 M T S E A U Y L P N q s h
    exact T_X12_watch q h
theorem Q_leaves (a : Int32) (σ : St) (hI : IV σ) : ∃ r1 s1 r2 s2, f_X11_leaves a σ = some (r1, s1) ∧ f_X12_leaves a s1 = some (r2, s2) ∧ IV s2 := by
  refine Q_pair (fc := fun s => f_X11_leaves a s) (fr := fun s => f_X12_leaves a s) hI ?_ ?_
  · intro Z M T S E A U Y L P N q hr s h
    exact T_X11_leaves q h
  · intro Z σ0 M T S E A U Y L P N q s h
    exact T_X12_leaves q h
theorem Q_known (a b : Int32) (σ : St) (hI : IV σ) : ∃ r1 s1 r2 s2, f_X11_known a b σ = some (r1, s1) ∧ f_X12_known a b s1 = some (r2, s2) ∧ IV s2 := by
  refine Q_pair (fc := fun s => f_X11_known a b s) (fr := fun s => f_X12_known a b s) hI ?_ ?_
  · intro Z M T S E A U Y L P N q hr s h
    exact T_X11_known q h
  · intro Z σ0 M T S E A U Y L P N q s h
    exact T_X12_known q h
theorem Q_grant (σ : St) (hI : IV σ) : ∃ r1 s1 r2 s2, f_X11_grant σ = some (r1, s1) ∧ f_X12_grant s1 = some (r2, s2) ∧ IV s2 := by
  refine Q_pair (fc := fun s => f_X11_grant s) (fr := fun s => f_X12_grant s) hI ?_ ?_
  · intro Z M T S E A U Y L P N q hr s h
    exact T_X11_grant q h
  · intro Z σ0 M T S E A U Y L P N q s h
    exact T_X12_grant q h
theorem Q_granted (σ : St) (hI : IV σ) : ∃ r1 s1 r2 s2, f_X11_granted σ = some (r1, s1) ∧ f_X12_granted s1 = some (r2, s2) ∧ IV s2 := by
  refine Q_pair (fc := fun s => f_X11_granted s) (fr := fun s => f_X12_granted s) hI ?_ ?_
  · intro Z M T S E A U Y L P N q hr s h
    exact T_X11_granted q h
  · intro Z σ0 M T S E A U Y L P N q s h
    exact T_X12_granted q h
theorem Q_halves (σ : St) (hI : IV σ) : ∃ r1 s1 r2 s2, f_X11_halves σ = some (r1, s1) ∧ f_X12_halves s1 = some (r2, s2) ∧ IV s2 := by
  refine Q_pair (fc := fun s => f_X11_halves s) (fr := fun s => f_X12_halves s) hI ?_ ?_
  · intro Z M T S E A U Y L P N q hr s h
    exact T_X11_halves q h
  · intro Z σ0 M T S E A U Y L P N q s h
    exact T_X12_halves q h
theorem Q_halved (σ : St) (hI : IV σ) : ∃ r1 s1 r2 s2, f_X11_halved σ = some (r1, s1) ∧ f_X12_halved s1 = some (r2, s2) ∧ IV s2 := by
  refine Q_pair (fc := fun s => f_X11_halved s) (fr := fun s => f_X12_halved s) hI ?_ ?_
  · intro Z M T S E A U Y L P N q hr s h
    exact T_X11_halved q h
  · intro Z σ0 M T S E A U Y L P N q s h
    exact T_X12_halved q h
theorem Q_dry (a b c : Int32) (σ : St) (hI : IV σ) : ∃ r1 s1 r2 s2, f_X11_dry a b c σ = some (r1, s1) ∧ f_X12_dry a b c s1 = some (r2, s2) ∧ IV s2 := by
  refine Q_pair (fc := fun s => f_X11_dry a b c s) (fr := fun s => f_X12_dry a b c s) hI ?_ ?_
  · intro Z M T S E A U Y L P N q hr s h
    exact T_X11_dry q h
  · intro Z σ0 M T S E A U Y L P N q s h
    exact T_X12_dry q h
theorem Q_insist (a : Int32) (σ : St) (hI : IV σ) : ∃ r1 s1 r2 s2, f_X11_insist a σ = some (r1, s1) ∧ f_X12_insist a s1 = some (r2, s2) ∧ IV s2 := by
  refine Q_pair (fc := fun s => f_X11_insist a s) (fr := fun s => f_X12_insist a s) hI ?_ ?_
  · intro Z M T S E A U Y L P N q hr s h
    exact T_X11_insist q h
  · intro Z σ0 M T S E A U Y L P N q s h
    exact T_X12_insist q h
theorem Q_drawn (a b : Int32) (σ : St) (hI : IV σ) : ∃ r1 s1 r2 s2, f_X11_drawn a b σ = some (r1, s1) ∧ f_X12_drawn a b s1 = some (r2, s2) ∧ IV s2 := by
  refine Q_pair (fc := fun s => f_X11_drawn a b s) (fr := fun s => f_X12_drawn a b s) hI ?_ ?_
  · intro Z M T S E A U Y L P N q hr s h
    exact T_X11_drawn q h
  · intro Z σ0 M T S E A U Y L P N q s h
    exact T_X12_drawn q h
theorem Q_luck (a b c : Int32) (σ : St) (hI : IV σ) : ∃ r1 s1 r2 s2, f_X11_luck a b c σ = some (r1, s1) ∧ f_X12_luck a b c s1 = some (r2, s2) ∧ IV s2 := by
  refine Q_pair (fc := fun s => f_X11_luck a b c s) (fr := fun s => f_X12_luck a b c s) hI ?_ ?_
  · intro Z M T S E A U Y L P N q hr s h
    exact T_X11_luck q h
  · intro Z σ0 M T S E A U Y L P N q s h
    exact T_X12_luck q h
theorem Q_count (a : Int32) (σ : St) (hI : IV σ) : ∃ r1 s1 r2 s2, f_X11_count a σ = some (r1, s1) ∧ f_X12_count a s1 = some (r2, s2) ∧ IV s2 := by
  refine Q_pair (fc := fun s => f_X11_count a s) (fr := fun s => f_X12_count a s) hI ?_ ?_
  · intro Z M T S E A U Y L P N q hr s h
    exact T_X11_count q h
  · intro Z σ0 M T S E A U Y L P N q s h
    exact T_X12_count q h
