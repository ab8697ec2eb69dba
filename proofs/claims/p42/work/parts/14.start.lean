/-! ===== the start ===== -/
def sI : List Nat := [55, 64, 69, 79, 84, 89, 98, 103, 111, 116, 120, 138, 140, 142, 144, 146, 148, 161, 163, 165, 170]
def fi0 : Nat → Nat → Int32 := fun i k => if i = 29 then (if k = 3 then -1 else 0) else if i = 58 then (if k = 13 then -1 else 0) else 0
def fr0 : Nat → Nat → Int32 := fun i => if i = 71 then upd (upd (upd (upd dfI (0 : Int32).toNatClampNeg (-1)) (1 : Int32).toNatClampNeg (-1)) (2 : Int32).toNatClampNeg (-1)) (3 : Int32).toNatClampNeg (-1) else dfI
def σ0 : St := (fi0, fr0, fun _ => dfJ, fun _ => none, 0)
def adS (ad0 : Nat → Nat) (q0 : Nat) (u : Nat → Nat) (q58 : Nat) (v : Nat → Nat) : Nat → Nat := fun i => if i = 0 then q0 else if i < 58 then u (i - 1) else if i = 58 then q58 else if i < 75 then v (i - 59) else ad0 i
theorem known {s : State} {args : Array Value} (hl : ∀ w ∈ lw_tbl, w.before args s = true) : ∃ (D : va_G) (cy : Nat → ClassId), va_K D vwCl (tyK cy) s := by
  have hts : ∀ w ∈ TB, w.before args s = true := fun w hw => hl w (List.mem_filter.mp hw).1
  obtain ⟨c0, i0, k0⟩ := u_known (C := RX0) (T := TX0) (N := 2) (n := 2) hts inT_X0 (hts _ is_X0.1)
  obtain ⟨c2, i2, k2⟩ := u_known (C := RX2) (T := TX2) (N := 6) (n := 6) hts inT_X2 (hts _ is_X2.1)
  obtain ⟨c3, i3, k3⟩ := u_known (C := RX3) (T := TX3) (N := 8) (n := 8) hts inT_X3 (hts _ is_X3.1)
  obtain ⟨c4, i4, k4⟩ := u_known (C := RX4) (T := TX4) (N := 1) (n := 1) hts inT_X4 (hts _ is_X4.1)
  obtain ⟨c5, i5, k5⟩ := u_known (C := RX5) (T := TX5) (N := 5) (n := 5) hts inT_X5 (hts _ is_X5.1)
  obtain ⟨c6, i6, k6⟩ := u_known (C := RX6) (T := TX6) (N := 9) (n := 9) hts inT_X6 (hts _ is_X6.1)
  obtain ⟨c7, i7, k7⟩ := u_known (C := RX7) (T := TX7) (N := 4) (n := 4) hts inT_X7 (hts _ is_X7.1)
  obtain ⟨c8, i8, k8⟩ := u_known (C := RX8) (T := TX8) (N := 1) (n := 1) hts inT_X8 (hts _ is_X8.1)
  obtain ⟨c9, i9, k9⟩ := u_known (C := RX9) (T := TX9) (N := 4) (n := 4) hts inT_X9 (hts _ is_X9.1)
  obtain ⟨c10, i10, k10⟩ := u_known (C := RX10) (T := TX10) (N := 12) (n := 12) hts inT_X10 (hts _ is_X10.1)
  obtain ⟨c11, i11, k11⟩ := u_known (C := RX11) (T := TX11) (N := 11) (n := 11) hts inT_X11 (hts _ is_X11.1)
  obtain ⟨c12, i12, k12⟩ := u_known (C := RX12) (T := TX12) (N := 32) (n := 32) hts inT_X12 (hts _ is_X12.1)
  obtain ⟨cB, kB, pB, aB1, aB2, aB3⟩ := Cond.arrayClass_spec (hts _ ac_byte)
  obtain ⟨cI, kI, pI, aI1, aI2, aI3⟩ := Cond.arrayClass_spec (hts _ ac_int)
  obtain ⟨cJ, kJ, pJ, aJ1, aJ2, aJ3⟩ := Cond.arrayClass_spec (hts _ ac_long)
  obtain ⟨cZ, kZ, pZ, aZ1, aZ2, aZ3⟩ := Cond.arrayClass_spec (hts _ ac_boolean)
  obtain ⟨comp, cO, kO, o1, o2, o3, o4, o5⟩ := Cond.arrayOver_spec (hl (Cond.arrayOver (.object RX10)) (by decide +kernel))
  refine ⟨(fun k => [c0, c2, c3, c4, c5, c6, c7, c8, c9, c10, c11, c12].getD k c0, fun k => [i0, i2, i3, i4, i5, i6, i7, i8, i9, i10, i11, i12].getD k i0), fun k => if k = 12 then cB else if k = 13 then cI else if k = 14 then cJ else if k = 15 then cZ else cO, fun k q hq => ?_, fun k q hq => ?_⟩
  · match k, hq with
    | 0, hq => cases hq; exact k0
    | 1, hq => cases hq; exact k2
    | 2, hq => cases hq; exact k3
    | 3, hq => cases hq; exact k4
    | 4, hq => cases hq; exact k5
    | 5, hq => cases hq; exact k6
    | 6, hq => cases hq; exact k7
    | 7, hq => cases hq; exact k8
    | 8, hq => cases hq; exact k9
    | 9, hq => cases hq; exact k10
    | 10, hq => cases hq; exact k11
    | 11, hq => cases hq; exact k12
    | k + 12, hq => simp [vwCl] at hq
  · match k, hq with
    | 0, hq => cases hq; exact ⟨fun n z => ⟨fun k h => (by cases h), kB, aB2, pB, aB3⟩, aB1⟩
    | 1, hq => cases hq; exact ⟨fun n z => ⟨fun k h => (by cases h), kI, aI2, pI, aI3⟩, aI1⟩
    | 2, hq => cases hq; exact ⟨fun n z => ⟨fun k h => (by cases h), kJ, aJ2, pJ, aJ3⟩, aJ1⟩
    | 3, hq => cases hq; exact ⟨fun n z => ⟨fun k h => (by cases h), kZ, aZ2, pZ, aZ3⟩, aZ1⟩
    | 4, hq => cases hq; exact ⟨fun n z => ⟨fun k h => (by cases h), kO, o3, comp, o4⟩, kO, comp, o3, o4, o1, o5⟩
    | k + 5, hq => simp [tyK] at hq
/-- the premises, flat -/
def PF : List Cond := flatC (Jvm.Cond.and given_1 narrow_1)
theorem pf_ex : ∀ k, k < 21 → Cond.exactly (Term.string RX6 (sI.getD k 0)) "java/lang/String" ∈ PF := by decide +kernel
theorem pf_co : ∀ k, k < 21 → Cond.eq (.field (Term.string RX6 (sI.getD k 0)) "java/lang/String" "coder" "B") (.int 0) ∈ PF := by decide +kernel
theorem pf_ar : ∀ k, k < 21 → Cond.arrayOf (.field (Term.string RX6 (sI.getD k 0)) "java/lang/String" "value" "[B") .byte ∈ PF := by decide +kernel
theorem pf_le : ∀ k, k < 21 → Cond.eq (.length (.field (Term.string RX6 (sI.getD k 0)) "java/lang/String" "value" "[B")) (.int (Int32.ofNat (sLen.getD k 0))) ∈ PF := by decide +kernel
theorem pf_el : ∀ k, k < 21 → ∀ j, j < sLen.getD k 0 → Cond.eq (.elem (.field (Term.string RX6 (sI.getD k 0)) "java/lang/String" "value" "[B") (.int (Int32.ofNat j))) (.int ((sByt.getD k []).getD j 0)) ∈ PF := by decide +kernel
theorem pf_eq : ∀ q ∈ sTab, (q.1 = RX6 ∧ q.2.1 = sI.getD q.2.2.2 0) ∨ Cond.eq (Term.string RX6 (sI.getD q.2.2.2 0)) (Term.string q.1 q.2.1) ∈ PF := by decide +kernel
theorem pf_sr : ∀ q ∈ sTab, Cond.stringRef q.1 q.2.1 q.2.2.1 ∈ lw_tbl := by decide +kernel
theorem pf_21 : ∀ q ∈ sTab, q.2.2.2 < 21 := by decide +kernel
theorem pf_inj : ∀ i, i < 21 → ∀ j, j < 21 → sLen.getD i 0 = sLen.getD j 0 → (∀ t, t < sLen.getD i 0 → (sByt.getD i []).getD t 0 = (sByt.getD j []).getD t 0) → i = j := by decide +kernel
theorem pf_l31 : ∀ k, k < 21 → sLen.getD k 0 < 2 ^ 31 := by decide +kernel
theorem one_S {s : State} {b : Nat} {A : Nat → Prop} (hA : ∀ a : Nat, a < s.heap.size → ¬ A a) (hs : ∀ c ∈ PF, c.before #[Value.ref b] s = true) {k : Nat} (hk : k < 21) :
    ∃ q : Nat × Nat, (va_O "java/lang/String" q.1 A s s.heap ∧ va_OF "java/lang/String" "coder" "B" (.int 0) q.1 A s s.heap ∧ va_OF "java/lang/String" "value" "[B" (.ref q.2) q.1 A s s.heap ∧ va_T .byte q.2 (sLen.getD k 0) (fun j => .int ((sByt.getD k []).getD j 0)) A s s.heap) ∧ (Term.string RX6 (sI.getD k 0)).eval #[Value.ref b] s none [] s = some (.ref q.1) := by
  obtain ⟨adK, adV, h1, h2⟩ := vk_Sof (args := #[Value.ref b]) (s := s) (N := 1) (tm := fun _ => Term.string RX6 (sI.getD k 0)) (len := [sLen.getD k 0]) (byt := [sByt.getD k []]) (A := A)
    (fun i hi => by obtain rfl : i = 0 := by omega
                    exact pf_l31 k hk)
    (fun _ _ => hs _ (pf_ex k hk)) (fun _ _ => hs _ (pf_co k hk)) (fun _ _ => hs _ (pf_ar k hk))
    (fun i hi => by obtain rfl : i = 0 := by omega
                    exact hs _ (pf_le k hk))
    (fun i hi j hj => by obtain rfl : i = 0 := by omega
                         exact hs _ (pf_el k hk j hj))
    (fun i j hi hj hne => absurd (by omega) hne) hA
  exact ⟨(adK 0, adV 0), h1.1 0 (by omega), h2 0 (by omega)⟩
theorem of_same {o n d : String} {v w : Value} {t : Nat} {A : Nat → Prop} {U : State} {H : Heap} (h : va_OF o n d v t A U H) (g : va_OF o n d w t A U H) : v = w := by
  obtain ⟨cf, k, i, f, cell, h1, -, h3, -, h5, -⟩ := h
  obtain ⟨cf', k', i', f', cell', g1, -, g3, -, g5, -⟩ := g
  rw [h1] at g1
  cases g1
  rw [h3] at g3
  cases g3
  rw [h5] at g5
  exact Option.some.inj g5
theorem t_same {ty : FieldType} {t N M : Nat} {f g : Nat → Int32} {A : Nat → Prop} {U : State} {H : Heap} (hN : N < 2 ^ 31) (hM : M < 2 ^ 31) (h : va_T ty t N (fun j => .int (f j)) A U H) (g' : va_T ty t M (fun j => .int (g j)) A U H) : N = M ∧ ∀ j, j < N → f j = g j := by
  obtain ⟨cell, h1, -, -, -, h5, h6, -⟩ := h
  obtain ⟨cell', g1, -, -, -, g5, g6, -⟩ := g'
  rw [h1] at g1
  cases g1
  have e : N = M := by
    have e : Int32.ofNat N = Int32.ofNat M := h5.symm.trans g5
    exact (nI_eq hN hM).mp e
  subst e
  refine ⟨rfl, fun j hj => ?_⟩
  have e := (h6 j hj).symm.trans (g6 j hj)
  injection e with e
  injection e
theorem mt_el : ∀ j, j < 4 → Cond.eq (.elem (.static RX10 "MOST_TOLD" "[I") (.int (Int32.ofNat j))) (.int (mTold j)) ∈ PF := by decide +kernel
theorem tc_el : ∀ j, j < 3 → Cond.eq (.elem (.static RX10 "TOLD_COLUMN" "[I") (.int (Int32.ofNat j))) (.int (tColumn j)) ∈ PF := by decide +kernel
theorem consts {s : State} {b : Nat} (hl : ∀ w ∈ lw_tbl, w.before #[Value.ref b] s = true) (hgv : (Jvm.Cond.and given_1 narrow_1).before #[Value.ref b] s = true) : ∃ ad : Nat → Nat, SK ad (fun q : Nat => s.heap.size ≤ q) s s.heap ∧ SR ad s := by
  have hA : ∀ a : Nat, a < s.heap.size → ¬ (fun q : Nat => s.heap.size ≤ q) a := fun a h => Nat.not_le.mpr h
  have hs : ∀ c ∈ PF, c.before #[Value.ref b] s = true := flat_of_before _ hgv
  obtain ⟨t1, e1, T1⟩ := va_Tof (args := #[Value.ref b]) (s := s) (tm := .static RX10 "MOST_TOLD" "[I") (ty := .int) (N := 4) (f := fun j => .int (mTold j)) (A := fun q : Nat => s.heap.size ≤ q) (by decide) (hs _ (by decide +kernel)) (va_eqt (hs (Cond.eq (.length (.static RX10 "MOST_TOLD" "[I")) (.int 4)) (by decide +kernel))) (fun j hj => va_eqt (hs _ (mt_el j hj))) hA
  obtain ⟨t2, e2, T2⟩ := va_Tof (args := #[Value.ref b]) (s := s) (tm := .static RX10 "TOLD_COLUMN" "[I") (ty := .int) (N := 3) (f := fun j => .int (tColumn j)) (A := fun q : Nat => s.heap.size ≤ q) (by decide) (hs _ (by decide +kernel)) (va_eqt (hs (Cond.eq (.length (.static RX10 "TOLD_COLUMN" "[I")) (.int 3)) (by decide +kernel))) (fun j hj => va_eqt (hs _ (tc_el j hj))) hA
  have Z1 : va_Z RX10 "MOST_TOLD" "[I" (.ref t1) (fun q : Nat => s.heap.size ≤ q) s s.heap := va_Zof (hl _ (by decide +kernel)) (hl _ (by decide +kernel)) e1 hA
  have Z2 : va_Z RX10 "TOLD_COLUMN" "[I" (.ref t2) (fun q : Nat => s.heap.size ≤ q) s s.heap := va_Zof (hl _ (by decide +kernel)) (hl _ (by decide +kernel)) e2 hA
  have Z3 : va_Z RJ0 "COMPACT_STRINGS" "Z" (.int 1) (fun q : Nat => s.heap.size ≤ q) s s.heap := va_Zof (hl _ (by decide +kernel)) (hl _ (by decide +kernel)) (va_eqi (hs _ (by decide +kernel))) hA
  have Z4 : va_Zq RJ3 "SIOOBE_FORMATTER" "Ljava/util/function/BiFunction;" (fun q : Nat => s.heap.size ≤ q) s s.heap := va_Zqof (hl _ (by decide +kernel)) (hl _ (by decide +kernel)) (hs _ (by decide +kernel)) hA
  have hc : ∀ k : Nat, ∃ q : Nat × Nat, k < 21 → (va_O "java/lang/String" q.1 (fun q : Nat => s.heap.size ≤ q) s s.heap ∧ va_OF "java/lang/String" "coder" "B" (.int 0) q.1 (fun q : Nat => s.heap.size ≤ q) s s.heap ∧ va_OF "java/lang/String" "value" "[B" (.ref q.2) q.1 (fun q : Nat => s.heap.size ≤ q) s s.heap ∧ va_T .byte q.2 (sLen.getD k 0) (fun j => .int ((sByt.getD k []).getD j 0)) (fun q : Nat => s.heap.size ≤ q) s s.heap) ∧ (Term.string RX6 (sI.getD k 0)).eval #[Value.ref b] s none [] s = some (.ref q.1) := by
    intro k
    by_cases hk : k < 21
    · obtain ⟨q, hq⟩ := one_S hA hs hk
      exact ⟨q, fun _ => hq⟩
    · exact ⟨(0, 0), fun h => absurd h hk⟩
  have N1 : va_Nw (.methodLinkNest RX11 9 yX10_init RX11) s := va_Nw.of rfl (hl (.methodLinkNest RX11 9 yX10_init RX11) (by decide +kernel))
  have N2 : va_Nw (.methodLinkNest RX11 46 yX5_init RX11) s := va_Nw.of rfl (hl (.methodLinkNest RX11 46 yX5_init RX11) (by decide +kernel))
  have N3 : va_Nw (.methodLinkNest RX11 74 yX7_init RX11) s := va_Nw.of rfl (hl (.methodLinkNest RX11 74 yX7_init RX11) (by decide +kernel))
  have N4 : va_AO RX10 s := va_AO.of (hl (.arrayOver (.object RX10)) (by decide +kernel))
  obtain ⟨q, hq⟩ := Classical.axiomOfChoice hc
  obtain ⟨ad, had⟩ : ∃ ad : Nat → Nat, ad = fun i => if i < 1100 then (q (i - 1000)).1 else if i < 1200 then (q (i - 1100)).2 else if i = 1200 then t1 else t2 := ⟨_, rfl⟩
  have a1 : ∀ k, k < 21 → ad (k + 1000) = (q k).1 := fun k hk => by
    rw [had]
    show (if _ then _ else _) = _
    rw [if_pos (by omega), Nat.add_sub_cancel]
  have a2 : ∀ k, k < 21 → ad (k + 1100) = (q k).2 := fun k hk => by
    rw [had]
    show (if _ then _ else _) = _
    rw [if_neg (by omega), if_pos (by omega), Nat.add_sub_cancel]
  have a3 : ad 1200 = t1 := by rw [had]; rfl
  have a4 : ad 1201 = t2 := by rw [had]; rfl
  refine ⟨ad, ⟨⟨fun i hi => ?_, fun i j hi hj e => ?_⟩, by rw [a3]; exact Z1, by rw [a3]; exact T1, by rw [a4]; exact Z2, by rw [a4]; exact T2, Z3, Z4⟩, fun x hx => ?_, N1, N2, N3, N4⟩
  · show va_O _ (ad (i + 1000)) _ _ _ ∧ va_OF _ _ _ _ (ad (i + 1000)) _ _ _ ∧ va_OF _ _ _ (.ref (ad (i + 1100))) (ad (i + 1000)) _ _ _ ∧ va_T _ (ad (i + 1100)) _ _ _ _ _
    rw [a1 i hi, a2 i hi]
    exact (hq i hi).1
  · have e : ad (i + 1000) = ad (j + 1000) := e
    rw [a1 i hi, a1 j hj] at e
    obtain ⟨-, -, oi, ti⟩ := (hq i hi).1
    obtain ⟨-, -, oj, tj⟩ := (hq j hj).1
    rw [e] at oi
    have e2 := of_same oi oj
    injection e2 with e2
    rw [e2] at ti
    obtain ⟨n1, n2⟩ := t_same (pf_l31 i hi) (pf_l31 j hj) ti tj
    exact pf_inj i hi j hj n1 n2
  · have hk := pf_21 x hx
    rw [a1 _ hk]
    refine vk_R.of (A := #[Value.ref b]) (hl _ (pf_sr x hx)) ?_
    rcases pf_eq x hx with ⟨f1, f2⟩ | f
    · rw [f1, f2]
      exact (hq _ hk).2
    · exact va_eqR (hs _ f) (hq _ hk).2
set_option maxRecDepth 100000 in
set_option maxHeartbeats 4000000 in
theorem wd_start {cy : Nat → ClassId} {ad0 : Nat → Nat} {q0 q58 : Nat} {u v : Nat → Nat} : Wd cy (adS ad0 q0 u q58 v) σ0 = [(q0, .inr (10, [.ref (u 0), .ref (u 14), .ref (u 28), .ref (u 30), .ref (u 35), .ref (u 42), .ref (u 47), .ref (u 48), .ref (u 49), .ref (u 51), .ref (u 56)])), ((u 0), .inr (9, [.int 0, .int 0, .int 0, .int 0, .int 0, .ref (u 1), .ref (u 2), .ref (u 4), .ref (u 6), .ref (u 8), .ref (u 10), .ref (u 12)])), ((u 1), .inl (cy 13, 2, .inl dfI)), ((u 2), .inr (8, [.int (6 : Int32), .int (9 : Int32), .ref (u 3), .int 0])), ((u 3), .inl (cy 13, 54, .inl dfI)), ((u 4), .inr (8, [.int (2 : Int32), .int (4 : Int32), .ref (u 5), .int 0])), ((u 5), .inl (cy 13, 8, .inl dfI)), ((u 6), .inr (8, [.int (4 : Int32), .int (8 : Int32), .ref (u 7), .int 0])), ((u 7), .inl (cy 13, 32, .inl dfI)), ((u 8), .inr (8, [.int (2 : Int32), .int (4 : Int32), .ref (u 9), .int 0])), ((u 9), .inl (cy 13, 8, .inl dfI)), ((u 10), .inr (8, [.int (1 : Int32), .int (5 : Int32), .ref (u 11), .int 0])), ((u 11), .inl (cy 13, 5, .inl dfI)), ((u 12), .inr (8, [.int (3 : Int32), .int (60 : Int32), .ref (u 13), .int 0])), ((u 13), .inl (cy 13, 180, .inl dfI)), ((u 14), .inr (9, [.int 0, .int 0, .int 0, .int 0, .int 0, .ref (u 15), .ref (u 16), .ref (u 18), .ref (u 20), .ref (u 22), .ref (u 24), .ref (u 26)])), ((u 15), .inl (cy 13, 2, .inl dfI)), ((u 16), .inr (8, [.int (6 : Int32), .int (9 : Int32), .ref (u 17), .int 0])), ((u 17), .inl (cy 13, 54, .inl dfI)), ((u 18), .inr (8, [.int (2 : Int32), .int (4 : Int32), .ref (u 19), .int 0])), ((u 19), .inl (cy 13, 8, .inl dfI)), ((u 20), .inr (8, [.int (4 : Int32), .int (8 : Int32), .ref (u 21), .int 0])), ((u 21), .inl (cy 13, 32, .inl dfI)), ((u 22), .inr (8, [.int (2 : Int32), .int (4 : Int32), .ref (u 23), .int 0])), ((u 23), .inl (cy 13, 8, .inl dfI)), ((u 24), .inr (8, [.int (1 : Int32), .int (5 : Int32), .ref (u 25), .int 0])), ((u 25), .inl (cy 13, 5, .inl dfI)), ((u 26), .inr (8, [.int (3 : Int32), .int (60 : Int32), .ref (u 27), .int 0])), ((u 27), .inl (cy 13, 180, .inl dfI)), ((u 28), .inr (5, [.ref (u 29), .int 0, .int 0, .int (-1 : Int32), .ref (u 14), .int 0, .int 0, .int 0, .int 0])), ((u 29), .inl (cy 12, 1200, .inl dfI)), ((u 30), .inr (1, [.ref (u 0), .ref (u 31), .ref (u 32), .ref (u 33), .ref (u 34), .int 0])), ((u 31), .inl (cy 13, 61, .inl dfI)), ((u 32), .inl (cy 13, 512, .inl dfI)), ((u 33), .inl (cy 13, 512, .inl dfI)), ((u 34), .inl (cy 13, 512, .inl dfI)), ((u 35), .inr (2, [.ref (u 0), .ref (u 30), .ref (u 36), .ref (u 37), .ref (u 38), .ref (u 39), .ref (u 40), .ref (u 41)])), ((u 36), .inl (cy 13, 512, .inl dfI)), ((u 37), .inl (cy 13, 512, .inl dfI)), ((u 38), .inl (cy 14, 512, .inr (.inl dfJ))), ((u 39), .inl (cy 15, 512, .inl dfI)), ((u 40), .inl (cy 13, 512, .inl dfI)), ((u 41), .inl (cy 13, 512, .inl dfI)), ((u 42), .inr (4, [.int 0, .ref (u 43), .ref (u 44), .ref (u 45), .ref (u 46)])), ((u 43), .inl (cy 13, 3, .inl dfI)), ((u 44), .inl (cy 13, 3, .inl dfI)), ((u 45), .inl (cy 13, 3, .inl dfI)), ((u 46), .inl (cy 13, 3, .inl dfI)), ((u 47), .inr (3, [.ref (u 0)])), ((u 48), .inr (7, [.ref (u 0)])), ((u 49), .inr (0, [.ref (u 0), .ref (u 50)])), ((u 50), .inl (cy 13, 8, .inl dfI)), ((u 51), .inr (6, [.ref (u 52), .ref (u 53), .ref (u 54), .ref (u 55)])), ((u 52), .inl (cy 15, 4, .inl dfI)), ((u 53), .inl (cy 13, 4, .inl dfI)), ((u 54), .inl (cy 13, 4, .inl dfI)), ((u 55), .inl (cy 14, 240, .inr (.inl dfJ))), ((u 56), .inl (cy 16, 3, .inr (.inr (.inr (.inr (fun _ => none)))))), (q58, .inr (11, [.int 0, .ref (v 0), .ref (v 1), .ref (v 2), .ref (v 3), .int 0, .ref (v 4), .int 0, .int 0, .int 0, .int 0, .int 0, .int 0, .int (-1 : Int32), .ref (v 5), .ref (v 6), .int 0, .ref (v 7), .int 0, .int 0, .int 0, .ref (v 8), .int 0, .ref (v 9), .ref (v 10), .ref (v 11), .int 0, .int 0, .ref (v 12), .ref (v 13), .ref (v 14), .ref (v 15)])), ((v 0), .inl (cy 13, 240, .inl dfI)), ((v 1), .inl (cy 13, 720, .inl dfI)), ((v 2), .inl (cy 15, 3, .inl dfI)), ((v 3), .inl (cy 12, 1200, .inl dfI)), ((v 4), .inl (cy 13, 5, .inl dfI)), ((v 5), .inl (cy 13, 240, .inl dfI)), ((v 6), .inl (cy 13, 61, .inl dfI)), ((v 7), .inl (cy 13, 512, .inl dfI)), ((v 8), .inl (cy 13, 512, .inl dfI)), ((v 9), .inl (cy 13, 3, .inl dfI)), ((v 10), .inl (cy 13, 3, .inl dfI)), ((v 11), .inl (cy 13, 3, .inl dfI)), ((v 12), .inl (cy 13, 4, .inl (upd (upd (upd (upd dfI (0 : Int32).toNatClampNeg (-1 : Int32)) (1 : Int32).toNatClampNeg (-1 : Int32)) (2 : Int32).toNatClampNeg (-1 : Int32)) (3 : Int32).toNatClampNeg (-1 : Int32)))), ((v 13), .inl (cy 13, 4, .inl dfI)), ((v 14), .inl (cy 14, 240, .inr (.inl dfJ))), ((v 15), .inl (cy 14, 60, .inr (.inl dfJ)))] := by
  unfold Wd
  rw [show nA σ0 = 75 from rfl, show List.range 75 = [0, 1, 2, 3, 4, 5, 6, 7, 8, 9, 10, 11, 12, 13, 14, 15, 16, 17, 18, 19, 20, 21, 22, 23, 24, 25, 26, 27, 28, 29, 30, 31, 32, 33, 34, 35, 36, 37, 38, 39, 40, 41, 42, 43, 44, 45, 46, 47, 48, 49, 50, 51, 52, 53, 54, 55, 56, 57, 58, 59, 60, 61, 62, 63, 64, 65, 66, 67, 68, 69, 70, 71, 72, 73, 74] from rfl]
  simp only [List.map_cons, List.map_nil]
  rfl
set_option maxHeartbeats 4000000 in
set_option maxRecDepth 40000 in
theorem start_of {p : Program} {e : Env} {s : State} {m : MethodId} {below : List Frame} {meth : Method} {c : Code} (l : Launch) {b L : Nat} {z : Nat → Int32} (hL : L ≤ 3072) (C0 : lw_At p s m meth c b L z) (Inv : Nat → St → Prop) (hI : ∀ i σ, Inv i σ → i + 6 ≤ L → MI σ ∧ gn σ ≤ 60) (hs : ∀ i σ, Inv i σ → i + 6 ≤ L → ∃ σ', lstep (z i) (z (i + 1)) (z (i + 2)) (z (i + 3)) (z (i + 4)) (z (i + 5)) σ = some σ' ∧ Inv (i + 6) σ') (h0 : Inv 0 σ0) :
    W p l e room_1 s m #[Value.ref b] below meth c s.heap [] 0 0 (lw_Z below #[Value.ref b] s) (entryFrame m ([Value.ref b] : List Value).toArray 4) := by
  obtain ⟨hx, hb, hr, hml, hown, hts, hX, hbl, hlocks, hgv⟩ := C0
  have hTB : ∀ w ∈ TB, w.before #[Value.ref b] s = true := fun w hw => hts w (List.mem_filter.mp hw).1
  obtain ⟨D, cy, hK⟩ := known hts
  obtain ⟨ad0, hSK, hSR⟩ := consts hts hgv
  have hl := lv_entry ([.ref b]) (n := 4) (Nat.le_of_ble_eq_true rfl)
  rw [lg_entry_eq]
  have main : WL (p, l, e, room_1, s, m, #[Value.ref b], below, meth, c, D, cy, ad0, (fun q : Nat => s.heap.size ≤ q), 0, 0, lw_Z below #[Value.ref b] s) cL_law 4 RL ret room_1 [] 0 [(0, .ref b)] [] := by
    refine w_W (ws' := cf [] 0 (0, .inr (0, [])) []) rfl ?_
    refine l_new (ci := 10) [.null, .null, .null, .null, .null, .null, .null, .null, .null, .null, .null] tyX11 rfl inT_X11 tyX11_ok ⟨kl_RL_7, is_X11⟩ df_X11 ⟨Nat.le_of_ble_eq_true rfl, Nat.le_of_ble_eq_true rfl⟩ dL_law_0 rfl (fun q0 => ?_)
    refine w_G (Γ' := (p, l, e, room_1, s, m, #[Value.ref b], below, meth, c, D, cy, ad0, (fun q : Nat => s.heap.size ≤ q), 1, 11, lw_Z below #[Value.ref b] s)) rfl ?_
    refine w_dup dL_law_3 rfl rfl ?_
    refine k_X11_init ml_RL_9 (Nat.le_of_ble_eq_true rfl) ⟨Nat.le_of_ble_eq_true rfl, Nat.le_of_ble_eq_true rfl⟩ ⟨Nat.le_of_ble_eq_true rfl, Nat.le_of_ble_eq_true rfl⟩ dL_law_4 rfl (fun u => ?_)
    refine w_G (Γ' := (p, l, e, room_1, s, m, #[Value.ref b], below, meth, c, D, cy, ad0, (fun q : Nat => s.heap.size ≤ q), 58, 6841, lw_Z below #[Value.ref b] s)) rfl ?_
    refine w_astore_n [(1, .ref q0), (0, .ref b)] dL_law_7 rfl (by decide) rfl rfl ?_
    refine l_new (ci := 11) [.int 0, .null, .null, .null, .null, .int 0, .null, .int 0, .int 0, .int 0, .int 0, .int 0, .int 0, .int 0, .null, .null, .int 0, .null, .int 0, .int 0, .int 0, .null, .int 0, .null, .null, .null, .int 0, .int 0, .null, .null, .null, .null] tyX12 rfl inT_X12 tyX12_ok ⟨kl_RL_10, is_X12⟩ df_X12 ⟨Nat.le_of_ble_eq_true rfl, Nat.le_of_ble_eq_true rfl⟩ dL_law_8 rfl (fun q58 => ?_)
    refine w_G (Γ' := (p, l, e, room_1, s, m, #[Value.ref b], below, meth, c, D, cy, ad0, (fun q : Nat => s.heap.size ≤ q), 59, 6873, lw_Z below #[Value.ref b] s)) rfl ?_
    refine w_dup dL_law_11 rfl rfl ?_
    refine k_X12_init ml_RL_12 (Nat.le_of_ble_eq_true rfl) ⟨Nat.le_of_ble_eq_true rfl, Nat.le_of_ble_eq_true rfl⟩ ⟨Nat.le_of_ble_eq_true rfl, Nat.le_of_ble_eq_true rfl⟩ dL_law_12 rfl (fun v => ?_)
    refine w_G (Γ' := (p, l, e, room_1, s, m, #[Value.ref b], below, meth, c, D, cy, ad0, (fun q : Nat => s.heap.size ≤ q), 75, 10683, lw_Z below #[Value.ref b] s)) rfl ?_
    refine w_astore_n [(2, .ref q58), (1, .ref q0), (0, .ref b)] dL_law_15 rfl (by decide) rfl rfl ?_
    refine w_iconst (0 : Int32) dL_law_16 ic_iconst_0 rfl ?_
    refine w_istore_n [(3, .int 0), (2, .ref q58), (1, .ref q0), (0, .ref b)] dL_law_17 rfl (by decide) rfl rfl ?_
    refine w_ad (adS ad0 q0 u q58 v) (fun i hi => ?_) ?_
    · show (if _ then _ else _) = _
      rw [if_neg (by omega), if_neg (by omega), if_neg (by omega), if_neg (by omega)]
      rfl
    refine w_W (ws' := Wd cy (adS ad0 q0 u q58 v) σ0) (by rw [wd_start]; rfl) ?_
    refine w_sub [3, 2, 1, 0] rfl ?_
    exact law_loop hL Inv hI hs L 0 σ0 _ (by omega) (by omega) ⟨⟨hX, hbl, Nat.not_le.mpr hbl⟩, fun _ h => h, rfl, rfl⟩ (Nat.le_of_ble_eq_true rfl) (Nat.le_of_ble_eq_true rfl) h0
  exact main ⟨hx, hb, hml, hown, hTB, hK, hlocks, fun _ h => h, Nat.zero_le _, Nat.zero_le _, hr, rfl, hSK, hSR⟩ s.heap [] _ (fun k q h => by simp at h) ⟨fun i j p q h => by simp at h, fun k q h => by simp at h⟩ va_S.rf hl
