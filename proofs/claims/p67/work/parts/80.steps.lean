/-! ===== every call keeps what holds between calls, the memo too ===== -/
theorem VW.kp {s s' : St} {F : Nat → Int32} {M T S E A U Y L P N : Nat} (v : VW s F M T S E A U Y L P N) (hn : ∀ i, (i < 15 ∨ i = 59) → gf s' i = gf s i ∧ gr s' i = gr s i) : VW s' F M T S E A U Y L P N := by
  obtain ⟨h1, h2, a1, a2, a3, a4, a5, a6, a7, a8, a9, a10, b0, b1, b2', b3, b4, b5, b6, b7, b8, c1, c2, c3, c4, c5, c6, c7, c8, c9⟩ := v
  have g1 := (hn 1 (by omega)).1
  have g59 := (hn 59 (by omega)).2
  refine ⟨?_, by rw [g59]; exact h2, a1, a2, a3, a4, a5, a6, a7, a8, a9, a10, by rw [g1]; exact b0, by rw [g1]; exact b1, by rw [g1]; exact b2', by rw [g1]; exact b3, by rw [(hn 3 (by omega)).1]; exact b4, by rw [(hn 5 (by omega)).1]; exact b5, by rw [(hn 7 (by omega)).1]; exact b6, by rw [(hn 9 (by omega)).1]; exact b7, by rw [(hn 11 (by omega)).1]; exact b8, by rw [g59]; exact c1, by rw [g59]; exact c2, by rw [g59]; exact c3, by rw [g59]; exact c4, by rw [g59]; exact c5, by rw [g59]; exact c6, by rw [g59]; exact c7, by rw [g59]; exact c8, by rw [g59]; exact c9⟩
  refine WR.be (w := 1) (u := 1) h1 ⟨fun k _ => by rw [(hn 1 (by omega)).1], fun j _ => by rw [(hn (1 + 1) (by omega)).2], fun t ht => ?_⟩
  have ht' : t ≤ 12 := by omega
  exact ⟨by rw [(hn (1 + t) (by omega)).1], fun j _ => by rw [(hn (1 + t + 1) (by omega)).2]⟩
theorem ME.kp {σ σ' : St} (h : ME σ) (hk : ∀ i, i < 75 → i ≠ 60 → i ≠ 61 → gf σ' i = gf σ i ∧ gr σ' i = gr σ i) : ME σ' := by
  have e59 := (hk 59 (by omega) (by omega) (by omega)).2
  rcases h with h | ⟨M, T, S, E, A, U, Y, L, P, N, v, h1, h2⟩
  · exact Or.inl (by rw [(hk 31 (by omega) (by omega) (by omega)).1]; exact h)
  · refine Or.inr ⟨M, T, S, E, A, U, Y, L, P, N, ?_, ?_, ?_⟩
    · rw [e59]
      exact v.kp (fun i hi => hk i (by omega) (by omega) (by omega))
    · intro x hx
      rw [(hk 34 (by omega) (by omega) (by omega)).2, e59]
      exact h1 x hx
    · intro x hx
      rw [(hk 35 (by omega) (by omega) (by omega)).2, e59]
      exact h2 x hx
theorem E_feed (a b c d e : Int32) (σ : St) (hI : JW σ) : ∃ r s1 s2, f_X11_feed a b c d e σ = some (r, s1) ∧ f_X12_feed a b c d e s1 = some (r, s2) ∧ JW s2 := by
  obtain ⟨r, s1, s2, h1, h2, hT, hf, -⟩ := R_feed a b c d e σ hI.1.1
  obtain ⟨_, _, _, g1, g2, h3⟩ := D_feed a b c d e σ hI.1
  rw [h1] at g1
  cases g1
  rw [h2] at g2
  cases g2
  exact ⟨r, s1, s2, h1, h2, h3, hI.2.fr hf (by decide)⟩
theorem E_end (a : Int32) (σ : St) (hI : JW σ) : ∃ r s1 s2, f_X11_end a σ = some (r, s1) ∧ f_X12_end a s1 = some (r, s2) ∧ JW s2 := by
  obtain ⟨r, s1, s2, h1, h2, hT, hf, -⟩ := R_end a σ hI.1.1
  obtain ⟨_, _, _, g1, g2, h3⟩ := D_end a σ hI.1
  rw [h1] at g1
  cases g1
  rw [h2] at g2
  cases g2
  exact ⟨r, s1, s2, h1, h2, h3, hI.2.fr hf (by decide)⟩
theorem E_war (σ : St) (hI : JW σ) : ∃ r s1 s2, f_X11_war σ = some (r, s1) ∧ f_X12_war s1 = some (r, s2) ∧ JW s2 := by
  obtain ⟨r, s1, s2, h1, h2, -, -, -, hc⟩ := R_war σ hI.1.1
  obtain ⟨_, _, _, g1, g2, h3⟩ := D_war σ hI.1
  rw [h1] at g1
  cases g1
  rw [h2] at g2
  cases g2
  refine ⟨r, s1, s2, h1, h2, h3, ?_⟩
  rcases hc with hf | ⟨-, -, -, h5, -⟩
  · exact hI.2.fr hf (by decide)
  · exact Or.inl h5
theorem E_fault (a : Int32) (σ : St) (hI : JW σ) : ∃ r s1 s2, f_X11_fault a σ = some (r, s1) ∧ f_X12_fault a s1 = some (r, s2) ∧ JW s2 := by
  obtain ⟨r, h1, h2⟩ := R_fault a σ hI.1.2.2.1
  exact ⟨r, σ, σ, h1, h2, hI⟩
theorem E_hold (a b : Int32) (σ : St) (hI : JW σ) : ∃ r s1 s2, f_X11_hold a b σ = some (r, s1) ∧ f_X12_hold a b s1 = some (r, s2) ∧ JW s2 := by
  obtain ⟨r, s1, s2, h1, h2, hf⟩ := R_hold a b σ
  exact ⟨r, s1, s2, h1, h2, hI.1.fr0 hf (by decide) (fun c _ => by rw [(hf.1 58 (by decide)).1]), hI.2.fr hf (by decide)⟩
theorem E_holds (a b c : Int32) (σ : St) (hI : JW σ) : ∃ r s1 s2, f_X11_holds a b c σ = some (r, s1) ∧ f_X12_holds a b c s1 = some (r, s2) ∧ JW s2 := by
  obtain ⟨r, s1, s2, h1, h2, hf⟩ := R_holds a b c σ
  exact ⟨r, s1, s2, h1, h2, hI.1.fr0 hf (by decide) (fun c _ => by rw [(hf.1 58 (by decide)).1]), hI.2.fr hf (by decide)⟩
theorem E_reply (a b c : Int32) (σ : St) (hI : JW σ) : ∃ r s1 s2, f_X11_reply a b c σ = some (r, s1) ∧ f_X12_reply a b c s1 = some (r, s2) ∧ JW s2 := by
  obtain ⟨r, s1, s2, h1, h2, hf⟩ := R_reply a b c σ
  exact ⟨r, s1, s2, h1, h2, hI.1.fr0 hf (by decide) (fun c _ => by rw [(hf.1 58 (by decide)).1]), hI.2.fr hf (by decide)⟩
theorem E_row (a b c : Int32) (σ : St) (hI : JW σ) : ∃ r s1 s2, f_X11_row a b c σ = some (r, s1) ∧ f_X12_row a b c s1 = some (r, s2) ∧ JW s2 := by
  obtain ⟨r, s1, s2, h1, h2, hS, hf⟩ := R_row a b c σ hI.1.2.1
  obtain ⟨_, _, _, g1, g2, h3⟩ := D_row a b c σ hI.1
  rw [h1] at g1
  cases g1
  rw [h2] at g2
  cases g2
  exact ⟨r, s1, s2, h1, h2, h3, hI.2.fr hf (by decide)⟩
theorem E_write (a b : Int32) (c : Int64) (σ : St) (hI : JW σ) : ∃ r s1 s2, f_X11_write a b c σ = some (r, s1) ∧ f_X12_write a b c s1 = some (r, s2) ∧ JW s2 := by
  obtain ⟨r, s1, s2, h1, h2, hS, hf⟩ := R_write a b c σ hI.1.2.1
  obtain ⟨_, _, _, g1, g2, h3⟩ := D_write a b c σ hI.1
  rw [h1] at g1
  cases g1
  rw [h2] at g2
  cases g2
  exact ⟨r, s1, s2, h1, h2, h3, hI.2.fr hf (by decide)⟩
theorem E_paste (a b c d e : Int32) (σ : St) (hI : JW σ) : ∃ r s1 s2, f_X11_paste a b c d e σ = some (r, s1) ∧ f_X12_paste a b c d e s1 = some (r, s2) ∧ JW s2 := by
  obtain ⟨r, s1, s2, h1, h2, hS, hf⟩ := R_paste a b c d e σ hI.1.2.1
  obtain ⟨_, _, _, g1, g2, h3⟩ := D_paste a b c d e σ hI.1
  rw [h1] at g1
  cases g1
  rw [h2] at g2
  cases g2
  exact ⟨r, s1, s2, h1, h2, h3, hI.2.fr hf (by decide)⟩
theorem E_tell (a b c : Int32) (σ : St) (hI : JW σ) : ∃ r s1 s2, f_X11_tell a b c σ = some (r, s1) ∧ f_X12_tell a b c s1 = some (r, s2) ∧ JW s2 := by
  obtain ⟨r, s1, s2, h1, h2, h3, h4⟩ := R_tell a b c σ hI.1
  refine ⟨r, s1, s2, h1, h2, h3, ?_⟩
  rcases h4 with rfl | h4
  · exact hI.2
  · exact Or.inl h4
theorem E_needs (a b : Int32) (σ : St) (hI : JW σ) : ∃ r s1 s2, f_X11_needs a b σ = some (r, s1) ∧ f_X12_needs_ a b s1 = some (r, s2) ∧ JW s2 := by
  obtain ⟨r, s1, s2, h1, h2, h3, h4⟩ := R_needs a b σ hI.1
  refine ⟨r, s1, s2, h1, h2, h3, ?_⟩
  rcases h4 with rfl | h4
  · exact hI.2
  · exact Or.inl h4
theorem E_undo (σ : St) (hI : JW σ) : ∃ r s1 s2, f_X11_undo σ = some (r, s1) ∧ f_X12_undo s1 = some (r, s2) ∧ JW s2 := by
  obtain ⟨r, s1, s2, h1, h2, h3, h4⟩ := R_undo σ hI.1
  refine ⟨r, s1, s2, h1, h2, h3, ?_⟩
  rcases h4 with rfl | h4
  · exact hI.2
  · exact Or.inl h4
theorem E_back (a : Int32) (σ : St) (hI : JW σ) : ∃ r s1 s2, f_X11_back a σ = some (r, s1) ∧ f_X12_back a s1 = some (r, s2) ∧ JW s2 := by
  obtain ⟨r, s1, s2, h1, h2, h3, h4⟩ := R_back a σ hI.1
  refine ⟨r, s1, s2, h1, h2, h3, ?_⟩
  rcases h4 with rfl | h4
  · exact hI.2
  · exact Or.inl h4
theorem E_image (a : Int32) (σ : St) (hI : JW σ) : ∃ r s1 s2, f_X11_image a σ = some (r, s1) ∧ f_X12_image a s1 = some (r, s2) ∧ JW s2 := by
  obtain ⟨r, s1, s2, h1, h2, h3, h4⟩ := R_image a σ hI.1
  exact ⟨r, s1, s2, h1, h2, h3, hI.2.kp h4⟩
theorem W_train (a b : Int32) (σ : St) (hI : JW σ) : ∃ r1 s1 r2 s2, f_X11_train a b σ = some (r1, s1) ∧ f_X12_train a b s1 = some (r2, s2) ∧ JW s2 := by
  refine Q_memo (fc := fun s => f_X11_train a b s) (fr := fun s => f_X12_train a b s) hI ?_ ?_
  · intro Z M T S E A U Y L P N q hr s h
    exact T_X11_train q h
  · intro Z σ0 M T S E A U Y L P N q s h
    exact T_X12_train q h
theorem W_need (a : Int32) (σ : St) (hI : JW σ) : ∃ r1 s1 r2 s2, f_X11_need a σ = some (r1, s1) ∧ f_X12_need a s1 = some (r2, s2) ∧ JW s2 := by
  refine Q_memo (fc := fun s => f_X11_need a s) (fr := fun s => f_X12_need a s) hI ?_ ?_
  · intro Z M T S E A U Y L P N q hr s h
    exact T_X11_need q h
  · intro Z σ0 M T S E A U Y L P N q s h
    exact T_X12_need q h
theorem W_tea (a : Int32) (σ : St) (hI : JW σ) : ∃ r1 s1 r2 s2, f_X11_tea a σ = some (r1, s1) ∧ f_X12_tea a s1 = some (r2, s2) ∧ JW s2 := by
  refine Q_memo (fc := fun s => f_X11_tea a s) (fr := fun s => f_X12_tea a s) hI ?_ ?_
  · intro Z M T S E A U Y L P N q hr s h
    exact T_X11_tea q h
  · intro Z σ0 M T S E A U Y L P N q s h
    exact T_X12_tea q h
theorem W_cannon (a b : Int32) (σ : St) (hI : JW σ) : ∃ r1 s1 r2 s2, f_X11_cannon a b σ = some (r1, s1) ∧ f_X12_cannon a b s1 = some (r2, s2) ∧ JW s2 := by
  refine Q_memo (fc := fun s => f_X11_cannon a b s) (fr := fun s => f_X12_cannon a b s) hI ?_ ?_
  · intro Z M T S E A U Y L P N q hr s h
    exact T_X11_cannon q h
  · intro Z σ0 M T S E A U Y L P N q s h
    exact T_X12_cannon q h
theorem W_rule (a b : Int32) (σ : St) (hI : JW σ) : ∃ r1 s1 r2 s2, f_X11_rule a b σ = some (r1, s1) ∧ f_X12_rule a b s1 = some (r2, s2) ∧ JW s2 := by
  refine Q_memo (fc := fun s => f_X11_rule a b s) (fr := fun s => f_X12_rule a b s) hI ?_ ?_
  · intro Z M T S E A U Y L P N q hr s h
    exact T_X11_rule q h
  · intro Z σ0 M T S E A U Y L P N q s h
    exact T_X12_rule q h
theorem W_spy (a : Int32) (σ : St) (hI : JW σ) : ∃ r1 s1 r2 s2, f_X11_spy a σ = some (r1, s1) ∧ f_X12_spy a s1 = some (r2, s2) ∧ JW s2 := by
  refine Q_memo (fc := fun s => f_X11_spy a s) (fr := fun s => f_X12_spy a s) hI ?_ ?_
  · intro Z M T S E A U Y L P N q hr s h
    exact T_X11_spy q h
  · intro Z σ0 M T S E A U Y L P N q s h
    exact T_X12_spy q h
theorem W_men (a b c : Int32) (σ : St) (hI : JW σ) : ∃ r1 s1 r2 s2, f_X11_men a b c σ = some (r1, s1) ∧ f_X12_men a b c s1 = some (r2, s2) ∧ JW s2 := by
  refine Q_memo (fc := fun s => f_X11_men a b c s) (fr := fun s => f_X12_men a b c s) hI ?_ ?_
  · intro Z M T S E A U Y L P N q hr s h
    exact T_X11_men q h
  · intro Z σ0 M T S E A U Y L P N q s h
    exact T_X12_men q h
theorem W_front (a b : Int32) (σ : St) (hI : JW σ) : ∃ r1 s1 r2 s2, f_X11_front a b σ = some (r1, s1) ∧ f_X12_front a b s1 = some (r2, s2) ∧ JW s2 := by
  refine Q_memo (fc := fun s => f_X11_front a b s) (fr := fun s => f_X12_front a b s) hI ?_ ?_
  · intro Z M T S E A U Y L P N q hr s h
    exact T_X11_front q h
  · intro Z σ0 M T S E A U Y L P N q s h
    exact T_X12_front q h
theorem W_late (a : Int32) (σ : St) (hI : JW σ) : ∃ r1 s1 r2 s2, f_X11_late a σ = some (r1, s1) ∧ f_X12_late a s1 = some (r2, s2) ∧ JW s2 := by
  refine Q_memo (fc := fun s => f_X11_late a s) (fr := fun s => f_X12_late a s) hI ?_ ?_
  · intro Z M T S E A U Y L P N q hr s h
    exact T_X11_late q h
  · intro Z σ0 M T S E A U Y L P N q s h
    exact T_X12_late q h
theorem W_wins (a : Int32) (σ : St) (hI : JW σ) : ∃ r1 s1 r2 s2, f_X11_wins a σ = some (r1, s1) ∧ f_X12_wins a s1 = some (r2, s2) ∧ JW s2 := by
  refine Q_memo (fc := fun s => f_X11_wins a s) (fr := fun s => f_X12_wins a s) hI ?_ ?_
  · intro Z M T S E A U Y L P N q hr s h
    exact T_X11_wins q h
  · intro Z σ0 M T S E A U Y L P N q s h
    exact T_X12_wins q h
theorem W_peak (a b : Int32) (σ : St) (hI : JW σ) : ∃ r1 s1 r2 s2, f_X11_peak a b σ = some (r1, s1) ∧ f_X12_peak a b s1 = some (r2, s2) ∧ JW s2 := by
  refine Q_memo (fc := fun s => f_X11_peak a b s) (fr := fun s => f_X12_peak a b s) hI ?_ ?_
  · intro Z M T S E A U Y L P N q hr s h
    exact T_X11_peak q h
  · intro Z σ0 M T S E A U Y L P N q s h
    exact T_X12_peak q h
theorem W_swings (a : Int32) (σ : St) (hI : JW σ) : ∃ r1 s1 r2 s2, f_X11_swings a σ = some (r1, s1) ∧ f_X12_swings a s1 = some (r2, s2) ∧ JW s2 := by
  refine Q_memo (fc := fun s => f_X11_swings a s) (fr := fun s => f_X12_swings a s) hI ?_ ?_
  · intro Z M T S E A U Y L P N q hr s h
    exact T_X11_swings q h
  · intro Z σ0 M T S E A U Y L P N q s h
    exact T_X12_swings q h
theorem W_worst (a : Int32) (σ : St) (hI : JW σ) : ∃ r1 s1 r2 s2, f_X11_worst a σ = some (r1, s1) ∧ f_X12_worst a s1 = some (r2, s2) ∧ JW s2 := by
  refine Q_memo (fc := fun s => f_X11_worst a s) (fr := fun s => f_X12_worst a s) hI ?_ ?_
  · intro Z M T S E A U Y L P N q hr s h
    exact T_X11_worst q hr h
  · intro Z σ0 M T S E A U Y L P N q s h
    exact T_X12_worst q h
theorem W_by (a : Int32) (σ : St) (hI : JW σ) : ∃ r1 s1 r2 s2, f_X11_by a σ = some (r1, s1) ∧ f_X12_by a s1 = some (r2, s2) ∧ JW s2 := by
  refine Q_memo (fc := fun s => f_X11_by a s) (fr := fun s => f_X12_by a s) hI ?_ ?_
  · intro Z M T S E A U Y L P N q hr s h
    exact T_X11_by q hr h
  · intro Z σ0 M T S E A U Y L P N q s h
    exact T_X12_by q h
theorem W_ways (a : Int32) (σ : St) (hI : JW σ) : ∃ r1 s1 r2 s2, f_X11_ways a σ = some (r1, s1) ∧ f_X12_ways a s1 = some (r2, s2) ∧ JW s2 := by
  refine Q_memo (fc := fun s => f_X11_ways a s) (fr := fun s => f_X12_ways a s) hI ?_ ?_
  · intro Z M T S E A U Y L P N q hr s h
    exact T_X11_ways q hr h
  · intro Z σ0 M T S E A U Y L P N q s h
    exact T_X12_ways q h
theorem W_idle (σ : St) (hI : JW σ) : ∃ r1 s1 r2 s2, f_X11_idle σ = some (r1, s1) ∧ f_X12_idle s1 = some (r2, s2) ∧ JW s2 := by
  refine Q_memo (fc := fun s => f_X11_idle s) (fr := fun s => f_X12_idle s) hI ?_ ?_
  · intro Z M T S E A U Y L P N q hr s h
    exact T_X11_idle q hr h
  · intro Z σ0 M T S E A U Y L P N q s h
    exact T_X12_idle q h
theorem W_enough (a b : Int32) (σ : St) (hI : JW σ) : ∃ r1 s1 r2 s2, f_X11_enough a b σ = some (r1, s1) ∧ f_X12_enough a b s1 = some (r2, s2) ∧ JW s2 := by
  refine Q_memo (fc := fun s => f_X11_enough a b s) (fr := fun s => f_X12_enough a b s) hI ?_ ?_
  · intro Z M T S E A U Y L P N q hr s h
    exact T_X11_enough q h
  · intro Z σ0 M T S E A U Y L P N q s h
    exact T_X12_enough q h
theorem W_chance (a b : Int32) (σ : St) (hI : JW σ) : ∃ r1 s1 r2 s2, f_X11_chance a b σ = some (r1, s1) ∧ f_X12_chance a b s1 = some (r2, s2) ∧ JW s2 := by
  refine Q_memo (fc := fun s => f_X11_chance a b s) (fr := fun s => f_X12_chance a b s) hI ?_ ?_
  · intro Z M T S E A U Y L P N q hr s h
    exact T_X11_chance q hr h
  · intro Z σ0 M T S E A U Y L P N q s h
    exact T_X12_chance q h
theorem W_send (a : Int32) (σ : St) (hI : JW σ) : ∃ r1 s1 r2 s2, f_X11_send a σ = some (r1, s1) ∧ f_X12_send a s1 = some (r2, s2) ∧ JW s2 := by
  refine Q_memo (fc := fun s => f_X11_send a s) (fr := fun s => f_X12_send a s) hI ?_ ?_
  · intro Z M T S E A U Y L P N q hr s h
    exact T_X11_send q h
  · intro Z σ0 M T S E A U Y L P N q s h
    exact T_X12_send q h
theorem W_sent (a : Int32) (σ : St) (hI : JW σ) : ∃ r1 s1 r2 s2, f_X11_sent a σ = some (r1, s1) ∧ f_X12_sent a s1 = some (r2, s2) ∧ JW s2 := by
  refine Q_memo (fc := fun s => f_X11_sent a s) (fr := fun s => f_X12_sent a s) hI ?_ ?_
  · intro Z M T S E A U Y L P N q hr s h
    exact T_X11_sent q h
  · intro Z σ0 M T S E A U Y L P N q s h
    exact T_X12_sent q h
theorem W_fewest (a : Int32) (σ : St) (hI : JW σ) : ∃ r1 s1 r2 s2, f_X11_fewest a σ = some (r1, s1) ∧ f_X12_fewest a s1 = some (r2, s2) ∧ JW s2 := by
  refine Q_memo (fc := fun s => f_X11_fewest a s) (fr := fun s => f_X12_fewest a s) hI ?_ ?_
  · intro Z M T S E A U Y L P N q hr s h
    exact T_X11_fewest q h
  · intro Z σ0 M T S E A U Y L P N q s h
    exact T_X12_fewest q h
theorem W_risk (a b : Int32) (σ : St) (hI : JW σ) : ∃ r1 s1 r2 s2, f_X11_risk a b σ = some (r1, s1) ∧ f_X12_risk a b s1 = some (r2, s2) ∧ JW s2 := by
  refine Q_memo (fc := fun s => f_X11_risk a b s) (fr := fun s => f_X12_risk a b s) hI ?_ ?_
  · intro Z M T S E A U Y L P N q hr s h
    exact T_X11_risk q h
  · intro Z σ0 M T S E A U Y L P N q s h
    exact T_X12_risk q h
theorem W_risked (a b : Int32) (σ : St) (hI : JW σ) : ∃ r1 s1 r2 s2, f_X11_risked a b σ = some (r1, s1) ∧ f_X12_risked a b s1 = some (r2, s2) ∧ JW s2 := by
  refine Q_memo (fc := fun s => f_X11_risked a b s) (fr := fun s => f_X12_risked a b s) hI ?_ ?_
  · intro Z M T S E A U Y L P N q hr s h
    exact T_X11_risked q h
  · intro Z σ0 M T S E A U Y L P N q s h
    exact T_X12_risked q h
theorem W_bribe (a : Int32) (σ : St) (hI : JW σ) : ∃ r1 s1 r2 s2, f_X11_bribe a σ = some (r1, s1) ∧ f_X12_bribe a s1 = some (r2, s2) ∧ JW s2 := by
  refine Q_memo (fc := fun s => f_X11_bribe a s) (fr := fun s => f_X12_bribe a s) hI ?_ ?_
  · intro Z M T S E A U Y L P N q hr s h
    exact T_X11_bribe q h
  · intro Z σ0 M T S E A U Y L P N q s h
    exact T_X12_bribe q h
theorem W_bribed (a : Int32) (σ : St) (hI : JW σ) : ∃ r1 s1 r2 s2, f_X11_bribed a σ = some (r1, s1) ∧ f_X12_bribed a s1 = some (r2, s2) ∧ JW s2 := by
  refine Q_memo (fc := fun s => f_X11_bribed a s) (fr := fun s => f_X12_bribed a s) hI ?_ ?_
  · intro Z M T S E A U Y L P N q hr s h
    exact T_X11_bribed q h
  · intro Z σ0 M T S E A U Y L P N q s h
    exact T_X12_bribed q h
theorem W_guard (a : Int32) (σ : St) (hI : JW σ) : ∃ r1 s1 r2 s2, f_X11_guard a σ = some (r1, s1) ∧ f_X12_guard a s1 = some (r2, s2) ∧ JW s2 := by
  refine Q_memo (fc := fun s => f_X11_guard a s) (fr := fun s => f_X12_guard a s) hI ?_ ?_
  · intro Z M T S E A U Y L P N q hr s h
    exact T_X11_guard q h
  · intro Z σ0 M T S E A U Y L P N q s h
    exact T_X12_guard q h
theorem W_guarded (a : Int32) (σ : St) (hI : JW σ) : ∃ r1 s1 r2 s2, f_X11_guarded a σ = some (r1, s1) ∧ f_X12_guarded a s1 = some (r2, s2) ∧ JW s2 := by
  refine Q_memo (fc := fun s => f_X11_guarded a s) (fr := fun s => f_X12_guarded a s) hI ?_ ?_
  · intro Z M T S E A U Y L P N q hr s h
    exact T_X11_guarded q h
  · intro Z σ0 M T S E A U Y L P N q s h
    exact T_X12_guarded q h
theorem W_spoil (a b : Int32) (σ : St) (hI : JW σ) : ∃ r1 s1 r2 s2, f_X11_spoil a b σ = some (r1, s1) ∧ f_X12_spoil a b s1 = some (r2, s2) ∧ JW s2 := by
  refine Q_memo (fc := fun s => f_X11_spoil a b s) (fr := fun s => f_X12_spoil a b s) hI ?_ ?_
  · intro Z M T S E A U Y L P N q hr s h
    exact T_X11_spoil q hr h
  · intro Z σ0 M T S E A U Y L P N q s h
    exact T_X12_spoil q h
theorem W_spoils (a b : Int32) (σ : St) (hI : JW σ) : ∃ r1 s1 r2 s2, f_X11_spoils a b σ = some (r1, s1) ∧ f_X12_spoils a b s1 = some (r2, s2) ∧ JW s2 := by
  refine Q_memo (fc := fun s => f_X11_spoils a b s) (fr := fun s => f_X12_spoils a b s) hI ?_ ?_
  · intro Z M T S E A U Y L P N q hr s h
    exact T_X11_spoils q hr h
  · intro Z σ0 M T S E A U Y L P N q s h
    exact T_X12_spoils q h
theorem W_answer (a b : Int32) (σ : St) (hI : JW σ) : ∃ r1 s1 r2 s2, f_X11_answer a b σ = some (r1, s1) ∧ f_X12_answer a b s1 = some (r2, s2) ∧ JW s2 := by
  refine Q_memo (fc := fun s => f_X11_answer a b s) (fr := fun s => f_X12_answer a b s) hI ?_ ?_
  · intro Z M T S E A U Y L P N q hr s h
    exact T_X11_answer q hr h
  · intro Z σ0 M T S E A U Y L P N q s h
    exact T_X12_answer q h
theorem W_rests (a : Int32) (σ : St) (hI : JW σ) : ∃ r1 s1 r2 s2, f_X11_rests a σ = some (r1, s1) ∧ f_X12_rests a s1 = some (r2, s2) ∧ JW s2 := by
  refine Q_memo (fc := fun s => f_X11_rests a s) (fr := fun s => f_X12_rests a s) hI ?_ ?_
  · intro Z M T S E A U Y L P N q hr s h
    exact T_X11_rests q hr h
  · intro Z σ0 M T S E A U Y L P N q s h
    exact T_X12_rests q h
theorem W_since (a b : Int32) (σ : St) (hI : JW σ) : ∃ r1 s1 r2 s2, f_X11_since a b σ = some (r1, s1) ∧ f_X12_since a b s1 = some (r2, s2) ∧ JW s2 := by
  refine Q_memo (fc := fun s => f_X11_since a b s) (fr := fun s => f_X12_since a b s) hI ?_ ?_
  · intro Z M T S E A U Y L P N q hr s h
    exact T_X11_since q h
  · intro Z σ0 M T S E A U Y L P N q s h
    exact T_X12_since q h
theorem W_comes (a b : Int32) (σ : St) (hI : JW σ) : ∃ r1 s1 r2 s2, f_X11_comes a b σ = some (r1, s1) ∧ f_X12_comes a b s1 = some (r2, s2) ∧ JW s2 := by
  refine Q_memo (fc := fun s => f_X11_comes a b s) (fr := fun s => f_X12_comes a b s) hI ?_ ?_
  · intro Z M T S E A U Y L P N q hr s h
    exact T_X11_comes q h
  · intro Z σ0 M T S E A U Y L P N q s h
    exact T_X12_comes q h
theorem W_even (a : Int32) (σ : St) (hI : JW σ) : ∃ r1 s1 r2 s2, f_X11_even a σ = some (r1, s1) ∧ f_X12_even a s1 = some (r2, s2) ∧ JW s2 := by
  refine Q_memo (fc := fun s => f_X11_even a s) (fr := fun s => f_X12_even a s) hI ?_ ?_
  · intro Z M T S E A U Y L P N q hr s h
    exact T_X11_even q h
  · intro Z σ0 M T S E A U Y L P N q s h
    exact T_X12_even q h
theorem W_readings (a : Int32) (σ : St) (hI : JW σ) : ∃ r1 s1 r2 s2, f_X11_readings a σ = some (r1, s1) ∧ f_X12_readings a s1 = some (r2, s2) ∧ JW s2 := by
  refine Q_memo (fc := fun s => f_X11_readings a s) (fr := fun s => f_X12_readings a s) hI ?_ ?_
  · intro Z M T S E A U Y L P N q hr s h
    exact T_X11_readings q h
  · intro Z σ0 M T S E A U Y L P N q s h
    exact T_X12_readings q h
theorem W_loopholes (σ : St) (hI : JW σ) : ∃ r1 s1 r2 s2, f_X11_loopholes σ = some (r1, s1) ∧ f_X12_loopholes s1 = some (r2, s2) ∧ JW s2 := by
  refine Q_memo (fc := fun s => f_X11_loopholes s) (fr := fun s => f_X12_loopholes s) hI ?_ ?_
  · intro Z M T S E A U Y L P N q hr s h
    exact T_X11_loopholes q h
  · intro Z σ0 M T S E A U Y L P N q s h
    exact T_X12_loopholes q h
theorem W_close (a : Int32) (σ : St) (hI : JW σ) : ∃ r1 s1 r2 s2, f_X11_close a σ = some (r1, s1) ∧ f_X12_close a s1 = some (r2, s2) ∧ JW s2 := by
  refine Q_memo (fc := fun s => f_X11_close a s) (fr := fun s => f_X12_close a s) hI ?_ ?_
  · intro Z M T S E A U Y L P N q hr s h
    exact T_X11_close q h
  · intro Z σ0 M T S E A U Y L P N q s h
    exact T_X12_close q h
theorem W_closed (a : Int32) (σ : St) (hI : JW σ) : ∃ r1 s1 r2 s2, f_X11_closed a σ = some (r1, s1) ∧ f_X12_closed a s1 = some (r2, s2) ∧ JW s2 := by
  refine Q_memo (fc := fun s => f_X11_closed a s) (fr := fun s => f_X12_closed a s) hI ?_ ?_
  · intro Z M T S E A U Y L P N q hr s h
    exact T_X11_closed q h
  · intro Z σ0 M T S E A U Y L P N q s h
    exact T_X12_closed q h
theorem W_signs (σ : St) (hI : JW σ) : ∃ r1 s1 r2 s2, f_X11_signs σ = some (r1, s1) ∧ f_X12_signs s1 = some (r2, s2) ∧ JW s2 := by
  refine Q_memo (fc := fun s => f_X11_signs s) (fr := fun s => f_X12_signs s) hI ?_ ?_
  · intro Z M T S E A U Y L P N q hr s h
    exact T_X11_signs q h
  · intro Z σ0 M T S E A U Y L P N q s h
    exact T_X12_signs q h
theorem W_treaties (a : Int32) (σ : St) (hI : JW σ) : ∃ r1 s1 r2 s2, f_X11_treaties a σ = some (r1, s1) ∧ f_X12_treaties a s1 = some (r2, s2) ∧ JW s2 := by
  refine Q_memo (fc := fun s => f_X11_treaties a s) (fr := fun s => f_X12_treaties a s) hI ?_ ?_
  · intro Z M T S E A U Y L P N q hr s h
    exact T_X11_treaties q h
  · intro Z σ0 M T S E A U Y L P N q s h
    exact T_X12_treaties q h
theorem W_price (a b : Int32) (σ : St) (hI : JW σ) : ∃ r1 s1 r2 s2, f_X11_price a b σ = some (r1, s1) ∧ f_X12_price a b s1 = some (r2, s2) ∧ JW s2 := by
  refine Q_memo (fc := fun s => f_X11_price a b s) (fr := fun s => f_X12_price a b s) hI ?_ ?_
  · intro Z M T S E A U Y L P N q hr s h
    exact T_X11_price q h
  · intro Z σ0 M T S E A U Y L P N q s h
    exact T_X12_price q h
theorem W_spies (a : Int32) (σ : St) (hI : JW σ) : ∃ r1 s1 r2 s2, f_X11_spies a σ = some (r1, s1) ∧ f_X12_spies a s1 = some (r2, s2) ∧ JW s2 := by
  refine Q_memo (fc := fun s => f_X11_spies a s) (fr := fun s => f_X12_spies a s) hI ?_ ?_
  · intro Z M T S E A U Y L P N q hr s h
    exact T_X11_spies q h
  · intro Z σ0 M T S E A U Y L P N q s h
    exact T_X12_spies q h
theorem W_watch (a : Int32) (σ : St) (hI : JW σ) : ∃ r1 s1 r2 s2, f_X11_watch a σ = some (r1, s1) ∧ f_X12_watch a s1 = some (r2, s2) ∧ JW s2 := by
  refine Q_memo (fc := fun s => f_X11_watch a s) (fr := fun s => f_X12_watch a s) hI ?_ ?_
  · intro Z M T S E A U Y L P N q hr s h
    exact T_X11_watch q h
  · intro Z σ0 M T S E A U Y L P N q s h
    exact T_X12_watch q h
theorem W_leaves (a : Int32) (σ : St) (hI : JW σ) : ∃ r1 s1 r2 s2, f_X11_leaves a σ = some (r1, s1) ∧ f_X12_leaves a s1 = some (r2, s2) ∧ JW s2 := by
  refine Q_memo (fc := fun s => f_X11_leaves a s) (fr := fun s => f_X12_leaves a s) hI ?_ ?_
  · intro Z M T S E A U Y L P N q hr s h
    exact T_X11_leaves q h
  · intro Z σ0 M T S E A U Y L P N q s h
    exact T_X12_leaves q h
theorem W_known (a b : Int32) (σ : St) (hI : JW σ) : ∃ r1 s1 r2 s2, f_X11_known a b σ = some (r1, s1) ∧ f_X12_known a b s1 = some (r2, s2) ∧ JW s2 := by
  refine Q_memo (fc := fun s => f_X11_known a b s) (fr := fun s => f_X12_known a b s) hI ?_ ?_
  · intro Z M T S E A U Y L P N q hr s h
    exact T_X11_known q h
  · intro Z σ0 M T S E A U Y L P N q s h
    exact T_X12_known q h
theorem W_grant (σ : St) (hI : JW σ) : ∃ r1 s1 r2 s2, f_X11_grant σ = some (r1, s1) ∧ f_X12_grant s1 = some (r2, s2) ∧ JW s2 := by
  refine Q_memo (fc := fun s => f_X11_grant s) (fr := fun s => f_X12_grant s) hI ?_ ?_
  · intro Z M T S E A U Y L P N q hr s h
    exact T_X11_grant q h
  · intro Z σ0 M T S E A U Y L P N q s h
    exact T_X12_grant q h
theorem W_granted (σ : St) (hI : JW σ) : ∃ r1 s1 r2 s2, f_X11_granted σ = some (r1, s1) ∧ f_X12_granted s1 = some (r2, s2) ∧ JW s2 := by
  refine Q_memo (fc := fun s => f_X11_granted s) (fr := fun s => f_X12_granted s) hI ?_ ?_
  · intro Z M T S E A U Y L P N q hr s h
    exact T_X11_granted q h
  · intro Z σ0 M T S E A U Y L P N q s h
    exact T_X12_granted q h
theorem W_halves (σ : St) (hI : JW σ) : ∃ r1 s1 r2 s2, f_X11_halves σ = some (r1, s1) ∧ f_X12_halves s1 = some (r2, s2) ∧ JW s2 := by
  refine Q_memo (fc := fun s => f_X11_halves s) (fr := fun s => f_X12_halves s) hI ?_ ?_
  · intro Z M T S E A U Y L P N q hr s h
    exact T_X11_halves q h
  · intro Z σ0 M T S E A U Y L P N q s h
    exact T_X12_halves q h
theorem W_halved (σ : St) (hI : JW σ) : ∃ r1 s1 r2 s2, f_X11_halved σ = some (r1, s1) ∧ f_X12_halved s1 = some (r2, s2) ∧ JW s2 := by
  refine Q_memo (fc := fun s => f_X11_halved s) (fr := fun s => f_X12_halved s) hI ?_ ?_
  · intro Z M T S E A U Y L P N q hr s h
    exact T_X11_halved q h
  · intro Z σ0 M T S E A U Y L P N q s h
    exact T_X12_halved q h
theorem W_dry (a b c : Int32) (σ : St) (hI : JW σ) : ∃ r1 s1 r2 s2, f_X11_dry a b c σ = some (r1, s1) ∧ f_X12_dry a b c s1 = some (r2, s2) ∧ JW s2 := by
  refine Q_memo (fc := fun s => f_X11_dry a b c s) (fr := fun s => f_X12_dry a b c s) hI ?_ ?_
  · intro Z M T S E A U Y L P N q hr s h
    exact T_X11_dry q h
  · intro Z σ0 M T S E A U Y L P N q s h
    exact T_X12_dry q h
theorem W_insist (a : Int32) (σ : St) (hI : JW σ) : ∃ r1 s1 r2 s2, f_X11_insist a σ = some (r1, s1) ∧ f_X12_insist a s1 = some (r2, s2) ∧ JW s2 := by
  refine Q_memo (fc := fun s => f_X11_insist a s) (fr := fun s => f_X12_insist a s) hI ?_ ?_
  · intro Z M T S E A U Y L P N q hr s h
    exact T_X11_insist q h
  · intro Z σ0 M T S E A U Y L P N q s h
    exact T_X12_insist q h
theorem W_drawn (a b : Int32) (σ : St) (hI : JW σ) : ∃ r1 s1 r2 s2, f_X11_drawn a b σ = some (r1, s1) ∧ f_X12_drawn a b s1 = some (r2, s2) ∧ JW s2 := by
  refine Q_memo (fc := fun s => f_X11_drawn a b s) (fr := fun s => f_X12_drawn a b s) hI ?_ ?_
  · intro Z M T S E A U Y L P N q hr s h
    exact T_X11_drawn q h
  · intro Z σ0 M T S E A U Y L P N q s h
    exact T_X12_drawn q h
theorem W_luck (a b c : Int32) (σ : St) (hI : JW σ) : ∃ r1 s1 r2 s2, f_X11_luck a b c σ = some (r1, s1) ∧ f_X12_luck a b c s1 = some (r2, s2) ∧ JW s2 := by
  refine Q_memo (fc := fun s => f_X11_luck a b c s) (fr := fun s => f_X12_luck a b c s) hI ?_ ?_
  · intro Z M T S E A U Y L P N q hr s h
    exact T_X11_luck q h
  · intro Z σ0 M T S E A U Y L P N q s h
    exact T_X12_luck q h
theorem W_count (a : Int32) (σ : St) (hI : JW σ) : ∃ r1 s1 r2 s2, f_X11_count a σ = some (r1, s1) ∧ f_X12_count a s1 = some (r2, s2) ∧ JW s2 := by
  refine Q_memo (fc := fun s => f_X11_count a s) (fr := fun s => f_X12_count a s) hI ?_ ?_
  · intro Z M T S E A U Y L P N q hr s h
    exact T_X11_count q h
  · intro Z σ0 M T S E A U Y L P N q s h
    exact T_X12_count q h
/-! ===== the law's steps ===== -/
theorem L_0 (a b c d e : Int32) (σ : St) (hI : JW σ) : ∃ σ', ls_0 a b c d e σ = some σ' ∧ JW σ' := by
  obtain ⟨r, s1, s2, h1, h2, h3⟩ := E_feed a b c d e σ hI
  exact ⟨s2, by unfold ls_0; rw [h1, bd_mk, h2, bd_mk], h3⟩
theorem L_1 (a b c d e : Int32) (σ : St) (hI : JW σ) : ∃ σ', ls_1 a b c d e σ = some σ' ∧ JW σ' := by
  obtain ⟨r, s1, s2, h1, h2, h3⟩ := E_end a σ hI
  exact ⟨s2, by unfold ls_1; rw [h1, bd_mk, h2, bd_mk], h3⟩
theorem L_2 (a b c d e : Int32) (σ : St) (hI : JW σ) : ∃ σ', ls_2 a b c d e σ = some σ' ∧ JW σ' := by
  obtain ⟨r, s1, s2, h1, h2, h3⟩ := E_war σ hI
  exact ⟨s2, by unfold ls_2; rw [h1, bd_mk, h2, bd_mk], h3⟩
theorem L_3 (a b c d e : Int32) (σ : St) (hI : JW σ) : ∃ σ', ls_3 a b c d e σ = some σ' ∧ JW σ' := by
  obtain ⟨r, s1, s2, h1, h2, h3⟩ := E_fault a σ hI
  exact ⟨s2, by unfold ls_3; rw [h1, bd_mk, h2, bd_mk], h3⟩
theorem L_4 (a b c d e : Int32) (σ : St) (hI : JW σ) : ∃ σ', ls_4 a b c d e σ = some σ' ∧ JW σ' := by
  obtain ⟨r1, s1, r2, s2, h1, h2, h3⟩ := W_train a b σ hI
  exact ⟨s2, by unfold ls_4; rw [h1, bd_mk, h2, bd_mk], h3⟩
theorem L_5 (a b c d e : Int32) (σ : St) (hI : JW σ) : ∃ σ', ls_5 a b c d e σ = some σ' ∧ JW σ' := by
  obtain ⟨r1, s1, r2, s2, h1, h2, h3⟩ := W_need a σ hI
  exact ⟨s2, by unfold ls_5; rw [h1, bd_mk, h2, bd_mk], h3⟩
theorem L_6 (a b c d e : Int32) (σ : St) (hI : JW σ) : ∃ σ', ls_6 a b c d e σ = some σ' ∧ JW σ' := by
  obtain ⟨r1, s1, r2, s2, h1, h2, h3⟩ := W_tea a σ hI
  exact ⟨s2, by unfold ls_6; rw [h1, bd_mk, h2, bd_mk], h3⟩
theorem L_7 (a b c d e : Int32) (σ : St) (hI : JW σ) : ∃ σ', ls_7 a b c d e σ = some σ' ∧ JW σ' := by
  obtain ⟨r1, s1, r2, s2, h1, h2, h3⟩ := W_cannon a b σ hI
  exact ⟨s2, by unfold ls_7; rw [h1, bd_mk, h2, bd_mk], h3⟩
theorem L_8 (a b c d e : Int32) (σ : St) (hI : JW σ) : ∃ σ', ls_8 a b c d e σ = some σ' ∧ JW σ' := by
  obtain ⟨r1, s1, r2, s2, h1, h2, h3⟩ := W_rule a b σ hI
  exact ⟨s2, by unfold ls_8; rw [h1, bd_mk, h2, bd_mk], h3⟩
theorem L_9 (a b c d e : Int32) (σ : St) (hI : JW σ) : ∃ σ', ls_9 a b c d e σ = some σ' ∧ JW σ' := by
  obtain ⟨r1, s1, r2, s2, h1, h2, h3⟩ := W_spy a σ hI
  exact ⟨s2, by unfold ls_9; rw [h1, bd_mk, h2, bd_mk], h3⟩
theorem L_10 (a b c d e : Int32) (σ : St) (hI : JW σ) : ∃ σ', ls_10 a b c d e σ = some σ' ∧ JW σ' := by
  obtain ⟨r1, s1, r2, s2, h1, h2, h3⟩ := W_men a b c σ hI
  exact ⟨s2, by unfold ls_10; rw [h1, bd_mk, h2, bd_mk], h3⟩
theorem L_11 (a b c d e : Int32) (σ : St) (hI : JW σ) : ∃ σ', ls_11 a b c d e σ = some σ' ∧ JW σ' := by
  obtain ⟨r1, s1, r2, s2, h1, h2, h3⟩ := W_front a b σ hI
  exact ⟨s2, by unfold ls_11; rw [h1, bd_mk, h2, bd_mk], h3⟩
theorem L_12 (a b c d e : Int32) (σ : St) (hI : JW σ) : ∃ σ', ls_12 a b c d e σ = some σ' ∧ JW σ' := by
  obtain ⟨r1, s1, r2, s2, h1, h2, h3⟩ := W_late a σ hI
  exact ⟨s2, by unfold ls_12; rw [h1, bd_mk, h2, bd_mk], h3⟩
theorem L_13 (a b c d e : Int32) (σ : St) (hI : JW σ) : ∃ σ', ls_13 a b c d e σ = some σ' ∧ JW σ' := by
  obtain ⟨r1, s1, r2, s2, h1, h2, h3⟩ := W_wins a σ hI
  exact ⟨s2, by unfold ls_13; rw [h1, bd_mk, h2, bd_mk], h3⟩
theorem L_14 (a b c d e : Int32) (σ : St) (hI : JW σ) : ∃ σ', ls_14 a b c d e σ = some σ' ∧ JW σ' := by
  obtain ⟨r1, s1, r2, s2, h1, h2, h3⟩ := W_peak a b σ hI
  exact ⟨s2, by unfold ls_14; rw [h1, bd_mk, h2, bd_mk], h3⟩
theorem L_15 (a b c d e : Int32) (σ : St) (hI : JW σ) : ∃ σ', ls_15 a b c d e σ = some σ' ∧ JW σ' := by
  obtain ⟨r1, s1, r2, s2, h1, h2, h3⟩ := W_swings a σ hI
  exact ⟨s2, by unfold ls_15; rw [h1, bd_mk, h2, bd_mk], h3⟩
theorem L_16 (a b c d e : Int32) (σ : St) (hI : JW σ) : ∃ σ', ls_16 a b c d e σ = some σ' ∧ JW σ' := by
  obtain ⟨r1, s1, r2, s2, h1, h2, h3⟩ := W_worst a σ hI
  exact ⟨s2, by unfold ls_16; rw [h1, bd_mk, h2, bd_mk], h3⟩
theorem L_17 (a b c d e : Int32) (σ : St) (hI : JW σ) : ∃ σ', ls_17 a b c d e σ = some σ' ∧ JW σ' := by
  obtain ⟨r1, s1, r2, s2, h1, h2, h3⟩ := W_by a σ hI
  exact ⟨s2, by unfold ls_17; rw [h1, bd_mk, h2, bd_mk], h3⟩
theorem L_18 (a b c d e : Int32) (σ : St) (hI : JW σ) : ∃ σ', ls_18 a b c d e σ = some σ' ∧ JW σ' := by
  obtain ⟨r1, s1, r2, s2, h1, h2, h3⟩ := W_ways a σ hI
  exact ⟨s2, by unfold ls_18; rw [h1, bd_mk, h2, bd_mk], h3⟩
theorem L_19 (a b c d e : Int32) (σ : St) (hI : JW σ) : ∃ σ', ls_19 a b c d e σ = some σ' ∧ JW σ' := by
  obtain ⟨r1, s1, r2, s2, h1, h2, h3⟩ := W_idle σ hI
  exact ⟨s2, by unfold ls_19; rw [h1, bd_mk, h2, bd_mk], h3⟩
theorem L_20 (a b c d e : Int32) (σ : St) (hI : JW σ) : ∃ σ', ls_20 a b c d e σ = some σ' ∧ JW σ' := by
  obtain ⟨r1, s1, r2, s2, h1, h2, h3⟩ := W_enough a b σ hI
  exact ⟨s2, by unfold ls_20; rw [h1, bd_mk, h2, bd_mk], h3⟩
theorem L_21 (a b c d e : Int32) (σ : St) (hI : JW σ) : ∃ σ', ls_21 a b c d e σ = some σ' ∧ JW σ' := by
  obtain ⟨r1, s1, r2, s2, h1, h2, h3⟩ := W_chance a b σ hI
  exact ⟨s2, by unfold ls_21; rw [h1, bd_mk, h2, bd_mk], h3⟩
theorem L_22 (a b c d e : Int32) (σ : St) (hI : JW σ) : ∃ σ', ls_22 a b c d e σ = some σ' ∧ JW σ' := by
  obtain ⟨r1, s1, r2, s2, h1, h2, h3⟩ := W_send a σ hI
  exact ⟨s2, by unfold ls_22; rw [h1, bd_mk, h2, bd_mk], h3⟩
theorem L_23 (a b c d e : Int32) (σ : St) (hI : JW σ) : ∃ σ', ls_23 a b c d e σ = some σ' ∧ JW σ' := by
  obtain ⟨r1, s1, r2, s2, h1, h2, h3⟩ := W_sent a σ hI
  exact ⟨s2, by unfold ls_23; rw [h1, bd_mk, h2, bd_mk], h3⟩
theorem L_24 (a b c d e : Int32) (σ : St) (hI : JW σ) : ∃ σ', ls_24 a b c d e σ = some σ' ∧ JW σ' := by
  obtain ⟨r1, s1, r2, s2, h1, h2, h3⟩ := W_fewest a σ hI
  exact ⟨s2, by unfold ls_24; rw [h1, bd_mk, h2, bd_mk], h3⟩
theorem L_25 (a b c d e : Int32) (σ : St) (hI : JW σ) : ∃ σ', ls_25 a b c d e σ = some σ' ∧ JW σ' := by
  obtain ⟨r1, s1, r2, s2, h1, h2, h3⟩ := W_risk a b σ hI
  exact ⟨s2, by unfold ls_25; rw [h1, bd_mk, h2, bd_mk], h3⟩
theorem L_26 (a b c d e : Int32) (σ : St) (hI : JW σ) : ∃ σ', ls_26 a b c d e σ = some σ' ∧ JW σ' := by
  obtain ⟨r1, s1, r2, s2, h1, h2, h3⟩ := W_risked a b σ hI
  exact ⟨s2, by unfold ls_26; rw [h1, bd_mk, h2, bd_mk], h3⟩
theorem L_27 (a b c d e : Int32) (σ : St) (hI : JW σ) : ∃ σ', ls_27 a b c d e σ = some σ' ∧ JW σ' := by
  obtain ⟨r1, s1, r2, s2, h1, h2, h3⟩ := W_bribe a σ hI
  exact ⟨s2, by unfold ls_27; rw [h1, bd_mk, h2, bd_mk], h3⟩
theorem L_28 (a b c d e : Int32) (σ : St) (hI : JW σ) : ∃ σ', ls_28 a b c d e σ = some σ' ∧ JW σ' := by
  obtain ⟨r1, s1, r2, s2, h1, h2, h3⟩ := W_bribed a σ hI
  exact ⟨s2, by unfold ls_28; rw [h1, bd_mk, h2, bd_mk], h3⟩
theorem L_29 (a b c d e : Int32) (σ : St) (hI : JW σ) : ∃ σ', ls_29 a b c d e σ = some σ' ∧ JW σ' := by
  obtain ⟨r1, s1, r2, s2, h1, h2, h3⟩ := W_guard a σ hI
  exact ⟨s2, by unfold ls_29; rw [h1, bd_mk, h2, bd_mk], h3⟩
theorem L_30 (a b c d e : Int32) (σ : St) (hI : JW σ) : ∃ σ', ls_30 a b c d e σ = some σ' ∧ JW σ' := by
  obtain ⟨r1, s1, r2, s2, h1, h2, h3⟩ := W_guarded a σ hI
  exact ⟨s2, by unfold ls_30; rw [h1, bd_mk, h2, bd_mk], h3⟩
theorem L_31 (a b c d e : Int32) (σ : St) (hI : JW σ) : ∃ σ', ls_31 a b c d e σ = some σ' ∧ JW σ' := by
  obtain ⟨r1, s1, r2, s2, h1, h2, h3⟩ := W_spoil a b σ hI
  exact ⟨s2, by unfold ls_31; rw [h1, bd_mk, h2, bd_mk], h3⟩
theorem L_32 (a b c d e : Int32) (σ : St) (hI : JW σ) : ∃ σ', ls_32 a b c d e σ = some σ' ∧ JW σ' := by
  obtain ⟨r1, s1, r2, s2, h1, h2, h3⟩ := W_spoils a b σ hI
  exact ⟨s2, by unfold ls_32; rw [h1, bd_mk, h2, bd_mk], h3⟩
theorem L_33 (a b c d e : Int32) (σ : St) (hI : JW σ) : ∃ σ', ls_33 a b c d e σ = some σ' ∧ JW σ' := by
  obtain ⟨r1, s1, r2, s2, h1, h2, h3⟩ := W_answer a b σ hI
  exact ⟨s2, by unfold ls_33; rw [h1, bd_mk, h2, bd_mk], h3⟩
theorem L_34 (a b c d e : Int32) (σ : St) (hI : JW σ) : ∃ σ', ls_34 a b c d e σ = some σ' ∧ JW σ' := by
  obtain ⟨r1, s1, r2, s2, h1, h2, h3⟩ := W_rests a σ hI
  exact ⟨s2, by unfold ls_34; rw [h1, bd_mk, h2, bd_mk], h3⟩
theorem L_35 (a b c d e : Int32) (σ : St) (hI : JW σ) : ∃ σ', ls_35 a b c d e σ = some σ' ∧ JW σ' := by
  obtain ⟨r1, s1, r2, s2, h1, h2, h3⟩ := W_since a b σ hI
  exact ⟨s2, by unfold ls_35; rw [h1, bd_mk, h2, bd_mk], h3⟩
theorem L_36 (a b c d e : Int32) (σ : St) (hI : JW σ) : ∃ σ', ls_36 a b c d e σ = some σ' ∧ JW σ' := by
  obtain ⟨r1, s1, r2, s2, h1, h2, h3⟩ := W_comes a b σ hI
  exact ⟨s2, by unfold ls_36; rw [h1, bd_mk, h2, bd_mk], h3⟩
theorem L_37 (a b c d e : Int32) (σ : St) (hI : JW σ) : ∃ σ', ls_37 a b c d e σ = some σ' ∧ JW σ' := by
  obtain ⟨r1, s1, r2, s2, h1, h2, h3⟩ := W_even a σ hI
  exact ⟨s2, by unfold ls_37; rw [h1, bd_mk, h2, bd_mk], h3⟩
theorem L_38 (a b c d e : Int32) (σ : St) (hI : JW σ) : ∃ σ', ls_38 a b c d e σ = some σ' ∧ JW σ' := by
  obtain ⟨r, s1, s2, h1, h2, h3⟩ := E_hold a b σ hI
  exact ⟨s2, by unfold ls_38; rw [h1, bd_mk, h2, bd_mk], h3⟩
theorem L_39 (a b c d e : Int32) (σ : St) (hI : JW σ) : ∃ σ', ls_39 a b c d e σ = some σ' ∧ JW σ' := by
  obtain ⟨r, s1, s2, h1, h2, h3⟩ := E_holds a b c σ hI
  exact ⟨s2, by unfold ls_39; rw [h1, bd_mk, h2, bd_mk], h3⟩
theorem L_40 (a b c d e : Int32) (σ : St) (hI : JW σ) : ∃ σ', ls_40 a b c d e σ = some σ' ∧ JW σ' := by
  obtain ⟨r, s1, s2, h1, h2, h3⟩ := E_reply a b c σ hI
  exact ⟨s2, by unfold ls_40; rw [h1, bd_mk, h2, bd_mk], h3⟩
theorem L_41 (a b c d e : Int32) (σ : St) (hI : JW σ) : ∃ σ', ls_41 a b c d e σ = some σ' ∧ JW σ' := by
  obtain ⟨r1, s1, r2, s2, h1, h2, h3⟩ := W_readings a σ hI
  exact ⟨s2, by unfold ls_41; rw [h1, bd_mk, h2, bd_mk], h3⟩
theorem L_42 (a b c d e : Int32) (σ : St) (hI : JW σ) : ∃ σ', ls_42 a b c d e σ = some σ' ∧ JW σ' := by
  obtain ⟨r1, s1, r2, s2, h1, h2, h3⟩ := W_loopholes σ hI
  exact ⟨s2, by unfold ls_42; rw [h1, bd_mk, h2, bd_mk], h3⟩
theorem L_43 (a b c d e : Int32) (σ : St) (hI : JW σ) : ∃ σ', ls_43 a b c d e σ = some σ' ∧ JW σ' := by
  obtain ⟨r1, s1, r2, s2, h1, h2, h3⟩ := W_close a σ hI
  exact ⟨s2, by unfold ls_43; rw [h1, bd_mk, h2, bd_mk], h3⟩
theorem L_44 (a b c d e : Int32) (σ : St) (hI : JW σ) : ∃ σ', ls_44 a b c d e σ = some σ' ∧ JW σ' := by
  obtain ⟨r1, s1, r2, s2, h1, h2, h3⟩ := W_closed a σ hI
  exact ⟨s2, by unfold ls_44; rw [h1, bd_mk, h2, bd_mk], h3⟩
theorem L_45 (a b c d e : Int32) (σ : St) (hI : JW σ) : ∃ σ', ls_45 a b c d e σ = some σ' ∧ JW σ' := by
  obtain ⟨r1, s1, r2, s2, h1, h2, h3⟩ := W_signs σ hI
  exact ⟨s2, by unfold ls_45; rw [h1, bd_mk, h2, bd_mk], h3⟩
theorem L_46 (a b c d e : Int32) (σ : St) (hI : JW σ) : ∃ σ', ls_46 a b c d e σ = some σ' ∧ JW σ' := by
  obtain ⟨r1, s1, r2, s2, h1, h2, h3⟩ := W_treaties a σ hI
  exact ⟨s2, by unfold ls_46; rw [h1, bd_mk, h2, bd_mk], h3⟩
theorem L_47 (a b c d e : Int32) (σ : St) (hI : JW σ) : ∃ σ', ls_47 a b c d e σ = some σ' ∧ JW σ' := by
  obtain ⟨r1, s1, r2, s2, h1, h2, h3⟩ := W_price a b σ hI
  exact ⟨s2, by unfold ls_47; rw [h1, bd_mk, h2, bd_mk], h3⟩
theorem L_48 (a b c d e : Int32) (σ : St) (hI : JW σ) : ∃ σ', ls_48 a b c d e σ = some σ' ∧ JW σ' := by
  obtain ⟨r1, s1, r2, s2, h1, h2, h3⟩ := W_spies a σ hI
  exact ⟨s2, by unfold ls_48; rw [h1, bd_mk, h2, bd_mk], h3⟩
theorem L_49 (a b c d e : Int32) (σ : St) (hI : JW σ) : ∃ σ', ls_49 a b c d e σ = some σ' ∧ JW σ' := by
  obtain ⟨r1, s1, r2, s2, h1, h2, h3⟩ := W_watch a σ hI
  exact ⟨s2, by unfold ls_49; rw [h1, bd_mk, h2, bd_mk], h3⟩
theorem L_50 (a b c d e : Int32) (σ : St) (hI : JW σ) : ∃ σ', ls_50 a b c d e σ = some σ' ∧ JW σ' := by
  obtain ⟨r1, s1, r2, s2, h1, h2, h3⟩ := W_leaves a σ hI
  exact ⟨s2, by unfold ls_50; rw [h1, bd_mk, h2, bd_mk], h3⟩
theorem L_51 (a b c d e : Int32) (σ : St) (hI : JW σ) : ∃ σ', ls_51 a b c d e σ = some σ' ∧ JW σ' := by
  obtain ⟨r1, s1, r2, s2, h1, h2, h3⟩ := W_known a b σ hI
  exact ⟨s2, by unfold ls_51; rw [h1, bd_mk, h2, bd_mk], h3⟩
theorem L_52 (a b c d e : Int32) (σ : St) (hI : JW σ) : ∃ σ', ls_52 a b c d e σ = some σ' ∧ JW σ' := by
  obtain ⟨r1, s1, r2, s2, h1, h2, h3⟩ := W_grant σ hI
  exact ⟨s2, by unfold ls_52; rw [h1, bd_mk, h2, bd_mk], h3⟩
theorem L_53 (a b c d e : Int32) (σ : St) (hI : JW σ) : ∃ σ', ls_53 a b c d e σ = some σ' ∧ JW σ' := by
  obtain ⟨r1, s1, r2, s2, h1, h2, h3⟩ := W_granted σ hI
  exact ⟨s2, by unfold ls_53; rw [h1, bd_mk, h2, bd_mk], h3⟩
theorem L_54 (a b c d e : Int32) (σ : St) (hI : JW σ) : ∃ σ', ls_54 a b c d e σ = some σ' ∧ JW σ' := by
  obtain ⟨r1, s1, r2, s2, h1, h2, h3⟩ := W_halves σ hI
  exact ⟨s2, by unfold ls_54; rw [h1, bd_mk, h2, bd_mk], h3⟩
theorem L_55 (a b c d e : Int32) (σ : St) (hI : JW σ) : ∃ σ', ls_55 a b c d e σ = some σ' ∧ JW σ' := by
  obtain ⟨r1, s1, r2, s2, h1, h2, h3⟩ := W_halved σ hI
  exact ⟨s2, by unfold ls_55; rw [h1, bd_mk, h2, bd_mk], h3⟩
theorem L_56 (a b c d e : Int32) (σ : St) (hI : JW σ) : ∃ σ', ls_56 a b c d e σ = some σ' ∧ JW σ' := by
  obtain ⟨r1, s1, r2, s2, h1, h2, h3⟩ := W_dry a b c σ hI
  exact ⟨s2, by unfold ls_56; rw [h1, bd_mk, h2, bd_mk], h3⟩
theorem L_57 (a b c d e : Int32) (σ : St) (hI : JW σ) : ∃ σ', ls_57 a b c d e σ = some σ' ∧ JW σ' := by
  obtain ⟨r1, s1, r2, s2, h1, h2, h3⟩ := W_insist a σ hI
  exact ⟨s2, by unfold ls_57; rw [h1, bd_mk, h2, bd_mk], h3⟩
theorem L_58 (a b c d e : Int32) (σ : St) (hI : JW σ) : ∃ σ', ls_58 a b c d e σ = some σ' ∧ JW σ' := by
  obtain ⟨r, s1, s2, h1, h2, h3⟩ := E_tell a b c σ hI
  exact ⟨s2, by unfold ls_58; rw [h1, bd_mk, h2, bd_mk], h3⟩
theorem L_59 (a b c d e : Int32) (σ : St) (hI : JW σ) : ∃ σ', ls_59 a b c d e σ = some σ' ∧ JW σ' := by
  obtain ⟨r, s1, s2, h1, h2, h3⟩ := E_needs a b σ hI
  exact ⟨s2, by unfold ls_59; rw [h1, bd_mk, h2, bd_mk], h3⟩
theorem L_60 (a b c d e : Int32) (σ : St) (hI : JW σ) : ∃ σ', ls_60 a b c d e σ = some σ' ∧ JW σ' := by
  obtain ⟨r, s1, s2, h1, h2, h3⟩ := E_undo σ hI
  exact ⟨s2, by unfold ls_60; rw [h1, bd_mk, h2, bd_mk], h3⟩
theorem L_61 (a b c d e : Int32) (σ : St) (hI : JW σ) : ∃ σ', ls_61 a b c d e σ = some σ' ∧ JW σ' := by
  obtain ⟨r1, s1, r2, s2, h1, h2, h3⟩ := W_drawn a b σ hI
  exact ⟨s2, by unfold ls_61; rw [h1, bd_mk, h2, bd_mk], h3⟩
theorem L_62 (a b c d e : Int32) (σ : St) (hI : JW σ) : ∃ σ', ls_62 a b c d e σ = some σ' ∧ JW σ' := by
  obtain ⟨r1, s1, r2, s2, h1, h2, h3⟩ := W_luck a b c σ hI
  exact ⟨s2, by unfold ls_62; rw [h1, bd_mk, h2, bd_mk], h3⟩
theorem L_63 (a b c d e : Int32) (σ : St) (hI : JW σ) : ∃ σ', ls_63 a b c d e σ = some σ' ∧ JW σ' := by
  obtain ⟨r1, s1, r2, s2, h1, h2, h3⟩ := W_count a σ hI
  exact ⟨s2, by unfold ls_63; rw [h1, bd_mk, h2, bd_mk], h3⟩
theorem L_64 (a b c d e : Int32) (σ : St) (hI : JW σ) : ∃ σ', ls_64 a b c d e σ = some σ' ∧ JW σ' := by
  obtain ⟨r, s1, s2, h1, h2, h3⟩ := E_image a σ hI
  exact ⟨s2, by unfold ls_64; rw [h1, bd_mk, h2, bd_mk], h3⟩
theorem L_65 (a b c d e : Int32) (σ : St) (hI : JW σ) : ∃ σ', ls_65 a b c d e σ = some σ' ∧ JW σ' := by
  obtain ⟨r, s1, s2, h1, h2, h3⟩ := E_back a σ hI
  exact ⟨s2, by unfold ls_65; rw [h1, bd_mk, h2, bd_mk, if_pos rfl], h3⟩
theorem L_66 (a b c d e : Int32) (σ : St) (hI : JW σ) : ∃ σ', ls_66 a b c d e σ = some σ' ∧ JW σ' := by
  obtain ⟨r, s1, s2, h1, h2, h3⟩ := E_row a b c σ hI
  exact ⟨s2, by unfold ls_66; rw [h1, bd_mk, h2, bd_mk], h3⟩
theorem L_67 (a b c d e : Int32) (σ : St) (hI : JW σ) : ∃ σ', ls_67 a b c d e σ = some σ' ∧ JW σ' := by
  obtain ⟨r, s1, s2, h1, h2, h3⟩ := E_write a b ((c.toInt64 <<< ((32 : Int32).toInt64 &&& 63)) ||| (d.toInt64 &&& (4294967295 : Int64))) σ hI
  exact ⟨s2, by unfold ls_67; rw [h1, bd_mk, h2, bd_mk], h3⟩
theorem L_68 (a b c d e : Int32) (σ : St) (hI : JW σ) : ∃ σ', ls_68 a b c d e σ = some σ' ∧ JW σ' := by
  obtain ⟨r, s1, s2, h1, h2, h3⟩ := E_paste a b c d e σ hI
  exact ⟨s2, by unfold ls_68; rw [h1, bd_mk, h2, bd_mk], h3⟩
theorem step_all (k : Nat) (a b c d e : Int32) (σ : St) (hI : JW σ) : ∃ s, lsL.getD k (fun _ _ _ _ _ σ => some σ) a b c d e σ = some s ∧ JW s := by
  match k with
  | 0 => rw [show lsL.getD 0 (fun _ _ _ _ _ σ => some σ) = ls_0 from rfl]; exact L_0 a b c d e σ hI
  | 1 => rw [show lsL.getD 1 (fun _ _ _ _ _ σ => some σ) = ls_1 from rfl]; exact L_1 a b c d e σ hI
  | 2 => rw [show lsL.getD 2 (fun _ _ _ _ _ σ => some σ) = ls_2 from rfl]; exact L_2 a b c d e σ hI
  | 3 => rw [show lsL.getD 3 (fun _ _ _ _ _ σ => some σ) = ls_3 from rfl]; exact L_3 a b c d e σ hI
  | 4 => rw [show lsL.getD 4 (fun _ _ _ _ _ σ => some σ) = ls_4 from rfl]; exact L_4 a b c d e σ hI
  | 5 => rw [show lsL.getD 5 (fun _ _ _ _ _ σ => some σ) = ls_5 from rfl]; exact L_5 a b c d e σ hI
  | 6 => rw [show lsL.getD 6 (fun _ _ _ _ _ σ => some σ) = ls_6 from rfl]; exact L_6 a b c d e σ hI
  | 7 => rw [show lsL.getD 7 (fun _ _ _ _ _ σ => some σ) = ls_7 from rfl]; exact L_7 a b c d e σ hI
  | 8 => rw [show lsL.getD 8 (fun _ _ _ _ _ σ => some σ) = ls_8 from rfl]; exact L_8 a b c d e σ hI
  | 9 => rw [show lsL.getD 9 (fun _ _ _ _ _ σ => some σ) = ls_9 from rfl]; exact L_9 a b c d e σ hI
  | 10 => rw [show lsL.getD 10 (fun _ _ _ _ _ σ => some σ) = ls_10 from rfl]; exact L_10 a b c d e σ hI
  | 11 => rw [show lsL.getD 11 (fun _ _ _ _ _ σ => some σ) = ls_11 from rfl]; exact L_11 a b c d e σ hI
  | 12 => rw [show lsL.getD 12 (fun _ _ _ _ _ σ => some σ) = ls_12 from rfl]; exact L_12 a b c d e σ hI
  | 13 => rw [show lsL.getD 13 (fun _ _ _ _ _ σ => some σ) = ls_13 from rfl]; exact L_13 a b c d e σ hI
  | 14 => rw [show lsL.getD 14 (fun _ _ _ _ _ σ => some σ) = ls_14 from rfl]; exact L_14 a b c d e σ hI
  | 15 => rw [show lsL.getD 15 (fun _ _ _ _ _ σ => some σ) = ls_15 from rfl]; exact L_15 a b c d e σ hI
  | 16 => rw [show lsL.getD 16 (fun _ _ _ _ _ σ => some σ) = ls_16 from rfl]; exact L_16 a b c d e σ hI
  | 17 => rw [show lsL.getD 17 (fun _ _ _ _ _ σ => some σ) = ls_17 from rfl]; exact L_17 a b c d e σ hI
  | 18 => rw [show lsL.getD 18 (fun _ _ _ _ _ σ => some σ) = ls_18 from rfl]; exact L_18 a b c d e σ hI
  | 19 => rw [show lsL.getD 19 (fun _ _ _ _ _ σ => some σ) = ls_19 from rfl]; exact L_19 a b c d e σ hI
  | 20 => rw [show lsL.getD 20 (fun _ _ _ _ _ σ => some σ) = ls_20 from rfl]; exact L_20 a b c d e σ hI
  | 21 => rw [show lsL.getD 21 (fun _ _ _ _ _ σ => some σ) = ls_21 from rfl]; exact L_21 a b c d e σ hI
  | 22 => rw [show lsL.getD 22 (fun _ _ _ _ _ σ => some σ) = ls_22 from rfl]; exact L_22 a b c d e σ hI
  | 23 => rw [show lsL.getD 23 (fun _ _ _ _ _ σ => some σ) = ls_23 from rfl]; exact L_23 a b c d e σ hI
  | 24 => rw [show lsL.getD 24 (fun _ _ _ _ _ σ => some σ) = ls_24 from rfl]; exact L_24 a b c d e σ hI
  | 25 => rw [show lsL.getD 25 (fun _ _ _ _ _ σ => some σ) = ls_25 from rfl]; exact L_25 a b c d e σ hI
  | 26 => rw [show lsL.getD 26 (fun _ _ _ _ _ σ => some σ) = ls_26 from rfl]; exact L_26 a b c d e σ hI
  | 27 => rw [show lsL.getD 27 (fun _ _ _ _ _ σ => some σ) = ls_27 from rfl]; exact L_27 a b c d e σ hI
  | 28 => rw [show lsL.getD 28 (fun _ _ _ _ _ σ => some σ) = ls_28 from rfl]; exact L_28 a b c d e σ hI
  | 29 => rw [show lsL.getD 29 (fun _ _ _ _ _ σ => some σ) = ls_29 from rfl]; exact L_29 a b c d e σ hI
  | 30 => rw [show lsL.getD 30 (fun _ _ _ _ _ σ => some σ) = ls_30 from rfl]; exact L_30 a b c d e σ hI
  | 31 => rw [show lsL.getD 31 (fun _ _ _ _ _ σ => some σ) = ls_31 from rfl]; exact L_31 a b c d e σ hI
  | 32 => rw [show lsL.getD 32 (fun _ _ _ _ _ σ => some σ) = ls_32 from rfl]; exact L_32 a b c d e σ hI
  | 33 => rw [show lsL.getD 33 (fun _ _ _ _ _ σ => some σ) = ls_33 from rfl]; exact L_33 a b c d e σ hI
  | 34 => rw [show lsL.getD 34 (fun _ _ _ _ _ σ => some σ) = ls_34 from rfl]; exact L_34 a b c d e σ hI
  | 35 => rw [show lsL.getD 35 (fun _ _ _ _ _ σ => some σ) = ls_35 from rfl]; exact L_35 a b c d e σ hI
  | 36 => rw [show lsL.getD 36 (fun _ _ _ _ _ σ => some σ) = ls_36 from rfl]; exact L_36 a b c d e σ hI
  | 37 => rw [show lsL.getD 37 (fun _ _ _ _ _ σ => some σ) = ls_37 from rfl]; exact L_37 a b c d e σ hI
  | 38 => rw [show lsL.getD 38 (fun _ _ _ _ _ σ => some σ) = ls_38 from rfl]; exact L_38 a b c d e σ hI
  | 39 => rw [show lsL.getD 39 (fun _ _ _ _ _ σ => some σ) = ls_39 from rfl]; exact L_39 a b c d e σ hI
  | 40 => rw [show lsL.getD 40 (fun _ _ _ _ _ σ => some σ) = ls_40 from rfl]; exact L_40 a b c d e σ hI
  | 41 => rw [show lsL.getD 41 (fun _ _ _ _ _ σ => some σ) = ls_41 from rfl]; exact L_41 a b c d e σ hI
  | 42 => rw [show lsL.getD 42 (fun _ _ _ _ _ σ => some σ) = ls_42 from rfl]; exact L_42 a b c d e σ hI
  | 43 => rw [show lsL.getD 43 (fun _ _ _ _ _ σ => some σ) = ls_43 from rfl]; exact L_43 a b c d e σ hI
  | 44 => rw [show lsL.getD 44 (fun _ _ _ _ _ σ => some σ) = ls_44 from rfl]; exact L_44 a b c d e σ hI
  | 45 => rw [show lsL.getD 45 (fun _ _ _ _ _ σ => some σ) = ls_45 from rfl]; exact L_45 a b c d e σ hI
  | 46 => rw [show lsL.getD 46 (fun _ _ _ _ _ σ => some σ) = ls_46 from rfl]; exact L_46 a b c d e σ hI
  | 47 => rw [show lsL.getD 47 (fun _ _ _ _ _ σ => some σ) = ls_47 from rfl]; exact L_47 a b c d e σ hI
  | 48 => rw [show lsL.getD 48 (fun _ _ _ _ _ σ => some σ) = ls_48 from rfl]; exact L_48 a b c d e σ hI
  | 49 => rw [show lsL.getD 49 (fun _ _ _ _ _ σ => some σ) = ls_49 from rfl]; exact L_49 a b c d e σ hI
  | 50 => rw [show lsL.getD 50 (fun _ _ _ _ _ σ => some σ) = ls_50 from rfl]; exact L_50 a b c d e σ hI
  | 51 => rw [show lsL.getD 51 (fun _ _ _ _ _ σ => some σ) = ls_51 from rfl]; exact L_51 a b c d e σ hI
  | 52 => rw [show lsL.getD 52 (fun _ _ _ _ _ σ => some σ) = ls_52 from rfl]; exact L_52 a b c d e σ hI
  | 53 => rw [show lsL.getD 53 (fun _ _ _ _ _ σ => some σ) = ls_53 from rfl]; exact L_53 a b c d e σ hI
  | 54 => rw [show lsL.getD 54 (fun _ _ _ _ _ σ => some σ) = ls_54 from rfl]; exact L_54 a b c d e σ hI
  | 55 => rw [show lsL.getD 55 (fun _ _ _ _ _ σ => some σ) = ls_55 from rfl]; exact L_55 a b c d e σ hI
  | 56 => rw [show lsL.getD 56 (fun _ _ _ _ _ σ => some σ) = ls_56 from rfl]; exact L_56 a b c d e σ hI
  | 57 => rw [show lsL.getD 57 (fun _ _ _ _ _ σ => some σ) = ls_57 from rfl]; exact L_57 a b c d e σ hI
  | 58 => rw [show lsL.getD 58 (fun _ _ _ _ _ σ => some σ) = ls_58 from rfl]; exact L_58 a b c d e σ hI
  | 59 => rw [show lsL.getD 59 (fun _ _ _ _ _ σ => some σ) = ls_59 from rfl]; exact L_59 a b c d e σ hI
  | 60 => rw [show lsL.getD 60 (fun _ _ _ _ _ σ => some σ) = ls_60 from rfl]; exact L_60 a b c d e σ hI
  | 61 => rw [show lsL.getD 61 (fun _ _ _ _ _ σ => some σ) = ls_61 from rfl]; exact L_61 a b c d e σ hI
  | 62 => rw [show lsL.getD 62 (fun _ _ _ _ _ σ => some σ) = ls_62 from rfl]; exact L_62 a b c d e σ hI
  | 63 => rw [show lsL.getD 63 (fun _ _ _ _ _ σ => some σ) = ls_63 from rfl]; exact L_63 a b c d e σ hI
  | 64 => rw [show lsL.getD 64 (fun _ _ _ _ _ σ => some σ) = ls_64 from rfl]; exact L_64 a b c d e σ hI
  | 65 => rw [show lsL.getD 65 (fun _ _ _ _ _ σ => some σ) = ls_65 from rfl]; exact L_65 a b c d e σ hI
  | 66 => rw [show lsL.getD 66 (fun _ _ _ _ _ σ => some σ) = ls_66 from rfl]; exact L_66 a b c d e σ hI
  | 67 => rw [show lsL.getD 67 (fun _ _ _ _ _ σ => some σ) = ls_67 from rfl]; exact L_67 a b c d e σ hI
  | 68 => rw [show lsL.getD 68 (fun _ _ _ _ _ σ => some σ) = ls_68 from rfl]; exact L_68 a b c d e σ hI
  | k + 69 =>
    have hl : lsL.length ≤ k + 69 := Nat.le_add_left 69 k
    rw [List.getD_eq_getElem?_getD, List.getElem?_eq_none hl]
    exact ⟨_, rfl, hI⟩
theorem SL_0 : SL σ0 := by
  intro s hs
  rcases (show s = 0 ∨ s = 1 ∨ s = 2 ∨ s = 3 by omega) with rfl | rfl | rfl | rfl <;> exact Or.inl ⟨rfl, rfl⟩
theorem JW_0 : JW σ0 := by
  refine ⟨⟨⟨0, by omega, rfl, rfl, fun j hj => absurd hj (by omega), fun j hj => absurd hj (by omega)⟩, SL_0, ⟨rfl, rfl⟩, fun k b q => (by cases q), ⟨?_, fun _ => rfl⟩, fun k hk => Or.inl ⟨rfl, rfl⟩, fun k k' b q => (by cases q), rfl⟩, Or.inl rfl⟩
  have h15 : WR σ0 15 (gr σ0 59) := WR.zero (fun k hk => rfl) (fun j hj => rfl) (fun t ht => by rcases ht with rfl | rfl | rfl | rfl | rfl | rfl <;> rfl) (fun j hj => rfl)
  exact h15.be ⟨fun k _ => rfl, fun j _ => rfl, fun t ht => by rcases ht with rfl | rfl | rfl | rfl | rfl | rfl <;> exact ⟨rfl, fun j _ => rfl⟩⟩
/-- YOUR PART: from a state with JW every call's step is one, and keeps it -/
theorem whole_start {p : Program} {e : Env} {s : State} {m : MethodId} {below : List Frame} {meth : Method} {c : Code} (l : Launch) {b L : Nat} {xs : Nat → Int32} (hL : L ≤ 3072) (C0 : lw_At p s m meth c b L xs) : W p l e room_1 s m #[Value.ref b] below meth c s.heap [] 0 0 (lw_Z below #[Value.ref b] s) (entryFrame m ([Value.ref b] : List Value).toArray 4) := by
  refine start_of l hL C0 (fun _ σ => JW σ) (fun i σ h hi => ⟨h.1.2.2.2.1, Nat.le_trans h.1.n3 (by decide)⟩) (fun i σ h hi => ?_) JW_0
  exact step_all (xs i &&& 127).toNatClampNeg (xs (i + 1)) (xs (i + 2)) (xs (i + 3)) (xs (i + 4)) (xs (i + 5)) σ h
