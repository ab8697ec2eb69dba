/-! ===== images: what a call makes ===== -/
theorem gf_RX11_79 {Γ : CX} {cc : ByteArray} {nL : Nat} {ret : Option FieldType} {rm : Room} {σ : St} {pc pc' : Nat} {lv : List (Nat × Value)} {st : List Value} (hd : decode cc pc = .ok (.getfield 79, 3)) (hp : pc + 3 = pc') (h : WW Γ cc nL RX11 ret rm σ pc' lv (.ref (xd Γ 57) :: st)) : WW Γ cc nL RX11 ret rm σ pc lv (.ref (xd Γ 0) :: st) :=
  w_get (k := 10) (C := RX11) (T := TX11) (N := 11) (lt_lit (by decide)) cel_0 rfl (by decide) rfl inT_X11 fl_RX11_79 rfl hd hp h
theorem ml_RX11_376 : Cond.methodLink RX11 376 yX11_isImage ∈ TB := tb_m (bk_6 (List.mem_of_getElem? (i := 80) rfl)) rfl
theorem mw_X11_image : Cond.instanceMethod yX11_image ∈ TB ∧ Cond.selects RX11 yX11_image yX11_image ∈ TB ∧ Cond.initialized RX11 ∈ TB ∧ Cond.code yX11_image cX11_image 3 (some .int) ∈ TB := ⟨tb_m (bk_6 (List.mem_of_getElem? (i := 77) rfl)) rfl, tb_m (bk_6 (List.mem_of_getElem? (i := 78) rfl)) rfl, tb_m (bk_1 (List.mem_of_getElem? (i := 1) rfl)) rfl, tb_m (bk_6 (List.mem_of_getElem? (i := 79) rfl)) rfl⟩
theorem mw_X11_back : Cond.instanceMethod yX11_back ∈ TB ∧ Cond.selects RX11 yX11_back yX11_back ∈ TB ∧ Cond.initialized RX11 ∈ TB ∧ Cond.code yX11_back cX11_back 3 (some .int) ∈ TB := ⟨tb_m (bk_6 (List.mem_of_getElem? (i := 84) rfl)) rfl, tb_m (bk_6 (List.mem_of_getElem? (i := 85) rfl)) rfl, tb_m (bk_1 (List.mem_of_getElem? (i := 1) rfl)) rfl, tb_m (bk_6 (List.mem_of_getElem? (i := 86) rfl)) rfl⟩
/-- images that are kept stand among those that were made -/
def MI (σ : St) : Prop := ∀ k b : Nat, gm σ k = some b → b < gn σ
/-- one block more, all 0 -/
def zI (σ : St) : St := (fun i => if nA σ ≤ i ∧ i < nA σ + 14 then dfI else σ.1 i, fun i => if nA σ ≤ i ∧ i < nA σ + 14 then dfI else σ.2.1 i, σ.2.2.1, σ.2.2.2.1, σ.2.2.2.2 + 1)
def sM (σ : St) (k b : Nat) : St := (σ.1, σ.2.1, σ.2.2.1, va_up σ.2.2.2.1 k (some b), σ.2.2.2.2)
def setAd (Γ : CX) (ad : Nat → Nat) : CX := (xp Γ, xl Γ, xE Γ, xR Γ, xs Γ, xm Γ, xa Γ, xb Γ, xM Γ, xc Γ, xD Γ, xy Γ, ad, xA Γ, xk Γ, xn Γ, xQ Γ)
theorem SK.ad {ad ad' : Nat → Nat} {A : Nat → Prop} {U : State} {H : Heap} (e : ∀ i, 1000 ≤ i → ad' i = ad i) (h : SK ad A U H) : SK ad' A U H := by
  have e1 : (fun k => ad' (k + 1000)) = (fun k => ad (k + 1000)) := by funext k; exact e _ (by omega)
  have e2 : (fun k => ad' (k + 1100)) = (fun k => ad (k + 1100)) := by funext k; exact e _ (by omega)
  unfold SK at h ⊢
  rw [e1, e2, e 1200 (by omega), e 1201 (by omega)]
  exact h
theorem SR.ad {ad ad' : Nat → Nat} {U : State} (e : ∀ i, 1000 ≤ i → ad' i = ad i) (h : SR ad U) : SR ad' U := by
  unfold SR at h ⊢
  refine ⟨fun q hq => ?_, h.2⟩
  rw [e _ (by omega)]
  exact h.1 q hq
theorem kd_16 {j : Nat} (h : kd j = 16) : j = 57 := by
  have d : ∀ m : Nat, m < 46 → kS.getD m 0 = 16 → m = 28 := by decide
  unfold kd at h
  split at h
  · omega
  · split at h
    · have := d _ (by omega) h
      omega
    · unfold kW at h
      split at h
      · omega
      · split at h
        · omega
        · split at h <;> omega
theorem kd_89 {j n : Nat} (h : kd j = 8 ∨ kd j = 9) (hj : j < 75 + 14 * n) : j + 1 < 75 + 14 * n ∧ (kd j = 9 → j + 12 < 75 + 14 * n) := by
  have d : ∀ m : Nat, m < 46 → ¬ (kS.getD m 0 = 8 ∨ kS.getD m 0 = 9) := by decide
  unfold kd at h ⊢
  by_cases h0 : j = 0
  · simp only [h0, if_true] at h
    omega
  · by_cases h1 : 29 ≤ j ∧ j < 75
    · rw [if_neg h0, if_pos h1] at h
      exact absurd h (d _ (by omega))
    · rw [if_neg h0, if_neg h1] at h ⊢
      unfold kW wo at *
      by_cases h2 : j < 15
      · simp only [if_pos h2] at h ⊢
        omega
      · by_cases h3 : j < 29
        · simp only [if_neg h2, if_pos h3] at h ⊢
          omega
        · simp only [if_neg h2, if_neg h3] at h ⊢
          have : 75 ≤ j := by omega
          split at h
          · omega
          · split at h
            · omega
            · split at h
              · rename_i q1 q2 q3
                refine ⟨by omega, fun q => ?_⟩
                simp only [if_neg q1, if_neg q2, if_pos q3] at q
                omega
              · omega
theorem cel_ad {cy : Nat → ClassId} {ad ad' : Nat → Nat} {σ : St} (hM : MI σ) (e : ∀ i, i < nA σ → ad' i = ad i) {i : Nat} (hi : i < nA σ) : cel cy ad' σ i = cel cy ad σ i := by
  have l : ∀ j, j < 75 → ad' j = ad j := fun j hj => e j (lt_lit hj)
  have h8 : kd i = 8 → ad' (i + 1) = ad (i + 1) := fun q => e _ (kd_89 (Or.inl q) hi).1
  have h9 : kd i = 9 → ∀ j, j ≤ 12 → ad' (i + j) = ad (i + j) := fun q j hj => e _ (by have := (kd_89 (Or.inr q) hi).2 q; unfold nA; omega)
  have hm : (fun k => (gm σ k).map fun b => ad' (75 + 14 * b)) = (fun k => (gm σ k).map fun b => ad (75 + 14 * b)) := by
    funext k
    cases hk : gm σ k with
    | none => rfl
    | some b =>
      have := hM k b hk
      show some (ad' (75 + 14 * b)) = some (ad (75 + 14 * b))
      rw [e (75 + 14 * b) (by unfold nA; omega)]
  unfold cel
  by_cases k13 : kd i = 13
  · rw [if_pos k13, if_pos k13]
  rw [if_neg k13, if_neg k13]
  by_cases k8 : kd i = 8
  · rw [if_pos k8, if_pos k8, h8 k8]
  rw [if_neg k8, if_neg k8]
  by_cases k9 : kd i = 9
  · rw [if_pos k9, if_pos k9, h9 k9 1 (by omega), h9 k9 2 (by omega), h9 k9 4 (by omega), h9 k9 6 (by omega), h9 k9 8 (by omega), h9 k9 10 (by omega), h9 k9 12 (by omega)]
  rw [if_neg k9, if_neg k9, hm, l 1 (by omega), l 15 (by omega), l 29 (by omega), l 30 (by omega), l 31 (by omega), l 32 (by omega), l 33 (by omega), l 34 (by omega), l 35 (by omega), l 36 (by omega), l 37 (by omega), l 38 (by omega), l 39 (by omega), l 40 (by omega), l 41 (by omega), l 42 (by omega), l 43 (by omega), l 44 (by omega), l 45 (by omega), l 46 (by omega), l 47 (by omega), l 48 (by omega), l 49 (by omega), l 50 (by omega), l 51 (by omega), l 52 (by omega), l 53 (by omega), l 54 (by omega), l 55 (by omega), l 56 (by omega), l 57 (by omega), l 59 (by omega), l 60 (by omega), l 61 (by omega), l 62 (by omega), l 63 (by omega), l 64 (by omega), l 65 (by omega), l 66 (by omega), l 67 (by omega), l 68 (by omega), l 69 (by omega), l 70 (by omega), l 71 (by omega), l 72 (by omega), l 73 (by omega), l 74 (by omega)]
theorem cel_zI {cy : Nat → ClassId} {ad : Nat → Nat} {σ : St} {i : Nat} (hi : i < nA σ) : cel cy ad (zI σ) i = cel cy ad σ i := by
  have a : gf (zI σ) i = gf σ i := by show (if _ then _ else _) = _; rw [if_neg (by omega)]; rfl
  have b : gr (zI σ) i = gr σ i := by show (if _ then _ else _) = _; rw [if_neg (by omega)]; rfl
  have c : gj (zI σ) i = gj σ i := rfl
  have d : gm (zI σ) = gm σ := rfl
  unfold cel
  rw [a, b, c, d]
theorem nA_zI (σ : St) : nA (zI σ) = nA σ + 14 := by
  show 75 + 14 * (gn σ + 1) = 75 + 14 * gn σ + 14
  omega
theorem isW_zI (σ : St) : isW (zI σ) (nA σ) = true := by
  simp only [isW, Bool.or_eq_true, Bool.and_eq_true, decide_eq_true_eq, nA_zI]
  refine Or.inr ⟨⟨?_, ?_⟩, by omega⟩ <;> unfold nA <;> omega
def adX (ad : Nat → Nat) (n q : Nat) (u : Nat → Nat) : Nat → Nat := fun i => if i < n then ad i else if i = n then q else if i < n + 14 then u (i - n - 1) else ad i
theorem adX_lt {ad : Nat → Nat} {n q : Nat} {u : Nat → Nat} {i : Nat} (h : i < n) : adX ad n q u i = ad i := if_pos h
theorem adX_0 {ad : Nat → Nat} {n q : Nat} {u : Nat → Nat} : adX ad n q u n = q := by simp [adX]
theorem adX_k {ad : Nat → Nat} {n q : Nat} {u : Nat → Nat} (k : Nat) (h : k < 13) : adX ad n q u (n + (k + 1)) = u k := by
  unfold adX
  rw [if_neg (by omega), if_neg (by omega), if_pos (by omega)]
  congr 1
  omega
theorem adX_ge {ad : Nat → Nat} {n q : Nat} {u : Nat → Nat} {i : Nat} (h : n + 14 ≤ i) : adX ad n q u i = ad i := by
  unfold adX
  rw [if_neg (by omega), if_neg (by omega), if_neg (by omega)]
theorem wd_zI {cy : Nat → ClassId} {ad : Nat → Nat} {σ : St} (hM : MI σ) (q : Nat) (u : Nat → Nat) : Wd cy (adX ad (nA σ) q u) (zI σ) = Wd cy ad σ ++ [(q, .inr (9, [.int 0, .int 0, .int 0, .int 0, .int 0, .ref (u 0), .ref (u 1), .ref (u 3), .ref (u 5), .ref (u 7), .ref (u 9), .ref (u 11)])), ((u 0), .inl (cy 13, 2, .inl dfI)), ((u 1), .inr (8, [.int (6 : Int32), .int (9 : Int32), .ref (u 2), .int 0])), ((u 2), .inl (cy 13, 54, .inl dfI)), ((u 3), .inr (8, [.int (2 : Int32), .int (4 : Int32), .ref (u 4), .int 0])), ((u 4), .inl (cy 13, 8, .inl dfI)), ((u 5), .inr (8, [.int (4 : Int32), .int (8 : Int32), .ref (u 6), .int 0])), ((u 6), .inl (cy 13, 32, .inl dfI)), ((u 7), .inr (8, [.int (2 : Int32), .int (4 : Int32), .ref (u 8), .int 0])), ((u 8), .inl (cy 13, 8, .inl dfI)), ((u 9), .inr (8, [.int (1 : Int32), .int (5 : Int32), .ref (u 10), .int 0])), ((u 10), .inl (cy 13, 5, .inl dfI)), ((u 11), .inr (8, [.int (3 : Int32), .int (60 : Int32), .ref (u 12), .int 0])), ((u 12), .inl (cy 13, 180, .inl dfI))] := by
  have hW := isW_zI σ
  have zf : ∀ k, k < 14 → gf (zI σ) (nA σ + k) = dfI := fun k hk => by show (if _ then _ else _) = _; rw [if_pos (by omega)]
  have zr : ∀ k, k < 14 → gr (zI σ) (nA σ + k) = dfI := fun k hk => by show (if _ then _ else _) = _; rw [if_pos (by omega)]
  have zf0 : gf (zI σ) (nA σ) = dfI := zf 0 (by omega)
  unfold Wd
  rw [nA_zI, List.range_add, List.map_append]
  congr 1
  · apply List.map_congr_left
    intro i hi
    have hi := List.mem_range.mp hi
    rw [cel_zI hi, cel_ad hM (fun j hj => adX_lt hj) hi, adX_lt hi]
  · rw [List.map_map, show List.range 14 = [0, 1, 2, 3, 4, 5, 6, 7, 8, 9, 10, 11, 12, 13] from rfl]
    have c0 := cel_W (cy := cy) (ad := adX ad (nA σ) q u) hW
    have row : ∀ k, k < 14 → kW k = 13 → cel cy (adX ad (nA σ) q u) (zI σ) (nA σ + k) = .inl (cy 13, lW k, .inl dfI) := fun k hk hw => by
      unfold cel
      rw [if_pos ((isW_kd hW k hk).trans hw), isW_ln hW k hk, zr k hk]
    have tab : ∀ k, k + 1 < 14 → kW k = 8 → kW (k + 1) = 13 → cel cy (adX ad (nA σ) q u) (zI σ) (nA σ + k) = .inr (8, [.int (if k = 2 then 6 else if k = 4 then 2 else if k = 6 then 4 else if k = 8 then 2 else if k = 10 then 1 else 3), .int (if k = 2 then 9 else if k = 4 then 4 else if k = 6 then 8 else if k = 8 then 4 else if k = 10 then 5 else 60), .ref (u k), .int 0]) := fun k hk h1 h2 => by
      rw [cel_T (isW_T hW k ⟨hk, h1, h2⟩), zf k (by omega), Nat.add_assoc, adX_k k (by omega)]
      unfold tw tm
      rw [(isW_wo hW k (by omega)).1]
      rfl
    simp only [List.map_cons, List.map_nil, Function.comp_apply]
    rw [Nat.add_zero, c0, zf0, adX_0, adX_k 0 (by omega), adX_k 1 (by omega), adX_k 3 (by omega), adX_k 5 (by omega), adX_k 7 (by omega), adX_k 9 (by omega), adX_k 11 (by omega), adX_k 2 (by omega), adX_k 4 (by omega), adX_k 6 (by omega), adX_k 8 (by omega), adX_k 10 (by omega), adX_k 12 (by omega), row 1 (by omega) rfl, row 3 (by omega) rfl, row 5 (by omega) rfl, row 7 (by omega) rfl, row 9 (by omega) rfl, row 11 (by omega) rfl, row 13 (by omega) rfl, tab 2 (by omega) rfl rfl, tab 4 (by omega) rfl rfl, tab 6 (by omega) rfl rfl, tab 8 (by omega) rfl rfl, tab 10 (by omega) rfl rfl, tab 12 (by omega) rfl rfl]
    rfl
/-- the end of a call that may make an image: the numbers that were there have their addresses still -/
def QM (D : va_G) (cy : Nat → ClassId) (ad : Nat → Nat) (n0 : Nat) (v : Option Value) (σ : St) (A : Nat → Prop) : Array Value → State → Outcome → State → Prop := fun _ st oc t => (oc = .returned v ∧ ∃ ad' : Nat → Nat, (∀ i, i < n0 ∨ 1000 ≤ i → ad' i = ad i) ∧ va_P D vwCl (Wd cy ad' σ) t.heap ∧ va_K D vwCl (tyK cy) t ∧ va_D A (Wd cy ad' σ)) ∧ va_F A st t
def CTM (l : Launch) (D : va_G) (cy : Nat → ClassId) (ad : Nat → Nat) (y : MethodName) (b : ByteArray) (n : Nat) (ret : Option FieldType) (rm : Room) (mc ms : Nat) (av : List Value) (σ : St) (v : Option Value) (σ' : St) : Prop :=
  ∀ sz : Nat, Met l y (Cond.code y b n ret :: TB) rm (va_Pc av (PreW D cy ad σ sz)) (QM D cy ad (nA σ) v σ' (va_A (Wd cy ad σ) sz)) mc ms (va_A (Wd cy ad σ) sz)
theorem ctm_of {l : Launch} {D : va_G} {cy : Nat → ClassId} {ad : Nat → Nat} {y : MethodName} {b : ByteArray} {n : Nat} {ret : Option FieldType} {rm : Room} {mc ms : Nat} {av : List Value} {σ σ' : St} {v : Option Value} (hy : plainName y.cls = true) (hn : (lg_sl av).length ≤ n)
    (h : ∀ (p : Program) (e : Env) (s : State) (m : MethodId) (args : Array Value) (below : List Frame) (meth : Method) (c : Code) (A : Nat → Prop), WW (p, l, e, rm, s, m, args, below, meth, c, D, cy, ad, A, 0, 0, MQ below (QM D cy ad (nA σ) v σ' A) args s mc ms A) b n y.cls ret rm σ 0 (lv_args 0 av) []) : CTM l D cy ad y b n ret rm mc ms av σ v σ' := by
  intro sz
  refine Met.ofW (cc := b) (maxL := n) (ret := ret) hy rfl ?_
  intro p e s m args below meth c s₁ B hml hv
  obtain ⟨rfl, hsz, hP, hK, hD0, hSK, hSR⟩ := hv
  have hts := atoms_spec (ws := Cond.code y b n ret :: TB) B.pre
  have hown : s.vm.findClass y.cls = some m.cls := findClass_of_methodNamed B.named
  subst hsz
  have hD := hD0.self (sz := s.heap.size)
  have hl := lv_entry av (n := n) hn
  rw [lg_entry_eq]
  exact h p e s m av.toArray below meth c (va_A (Wd cy ad σ) s.heap.size) ⟨B.exec, B.bytes, hml, hown, fun w hw => hts w (List.mem_cons_of_mem _ hw), hK, B.notSynchronized, fun q hq => Or.inr hq, Nat.zero_le _, Nat.zero_le _, B.returns, rfl, hSK, hSR⟩ s.heap [] _ hP hD va_S.rf hl
section IM
variable {Γ : CX} {cc : ByteArray} {nL : Nat} {own : String} {ret : Option FieldType} {rm : Room} {ws : va_W} {σ σ' : St} {pc pc' : Nat} {lv lv' : List (Nat × Value)} {st rest st0 : List Value} {v : Option Value}
theorem okc_ad {ad' : Nat → Nat} (e : ∀ i, 1000 ≤ i → ad' i = xd Γ i) (X : Okc Γ cc nL own ret rm) : Okc (setAd Γ ad') cc nL own ret rm := by
  obtain ⟨h1, h2, h3, h4, h5, h6, h7, h8, h9, h10, h11, h12, h13, h14⟩ := X
  exact ⟨h1, h2, h3, h4, h5, h6, h7, h8, h9, h10, h11, h12, SK.ad e h13, SR.ad e h14⟩
theorem w_ad (ad' : Nat → Nat) (e : ∀ i, 1000 ≤ i → ad' i = xd Γ i) (h : WL (setAd Γ ad') cc nL own ret rm ws pc lv st) : WL Γ cc nL own ret rm ws pc lv st :=
  fun X H locs ls hP hD hS hl => h (okc_ad e X) H locs ls hP hD hS hl
theorem w_widen (a b : Nat) (hR : xk Γ + a ≤ rm.cells ∧ xn Γ + b ≤ rm.slots) (h : WL (bump Γ a b) cc nL own ret rm ws pc lv st) : WL Γ cc nL own ret rm ws pc lv st :=
  fun X H locs ls hP hD hS hl => W.widen (k := xk Γ + a) (n := xn Γ + b) (Nat.le_add_right _ _) (Nat.le_add_right _ _) (h (okc_bump X hR.1 hR.2) H locs ls hP hD hS hl)
theorem w_aald {x : Int32} (hin : inb x 3 = true) (hd : decode cc pc = .ok (.aaload, 1)) (hp : pc + 1 = pc') (h : WW Γ cc nL own ret rm σ pc' lv (va_rf ((gm σ x.toNatClampNeg).map fun b => xd Γ (75 + 14 * b)) :: st)) : WW Γ cc nL own ret rm σ pc lv (.int x :: .ref (xd Γ 57) :: st) := by
  subst hp
  intro X H locs ls hP hD hS hl
  exact va_aldq X.1 X.2.1 X.2.2.2.2.2.1 hP 57 4 (C := RX10) (f := fun k => (gm σ k).map fun b => xd Γ (75 + 14 * b)) (n := 3) (by rw [wd_at (lt_lit (by decide))]; rfl) rfl (inb_in hin) hd (h X H locs ls hP hD hS hl)
theorem cel_sM {cy : Nat → ClassId} {ad : Nat → Nat} {k b j : Nat} (hj : j ≠ 57) : cel cy ad (sM σ k b) j = cel cy ad σ j := by
  have a1 : ∀ i, gf (sM σ k b) i = gf σ i := fun _ => rfl
  have a2 : ∀ i, gr (sM σ k b) i = gr σ i := fun _ => rfl
  have a3 : ∀ i, gj (sM σ k b) i = gj σ i := fun _ => rfl
  have h16 : ¬ kd j = 16 := fun q => hj (kd_16 q)
  unfold cel
  simp only [if_neg h16, a1, a2, a3]
theorem w_aast {x : Int32} {b : Nat} (hb : isW σ (75 + 14 * b) = true) (hin : inb x 3 = true) (hd : decode cc pc = .ok (.aastore, 1)) (hp : pc + 1 = pc') (h : WW Γ cc nL own ret rm (sM σ x.toNatClampNeg b) pc' lv st) : WW Γ cc nL own ret rm σ pc lv (.ref (xd Γ (75 + 14 * b)) :: .int x :: .ref (xd Γ 57) :: st) := by
  subst hp
  intro X H locs ls hP hD hS hl
  refine va_astq X.1 X.2.1 X.2.2.2.2.2.1 hP hD hS 57 4 (75 + 14 * b) 9 (r := (RX10, TX10, 12)) (f := fun k => (gm σ k).map fun b => xd Γ (75 + 14 * b)) (n := 3) (by rw [wd_at (lt_lit (by decide))]; rfl) rfl (by rw [wd_at (show 75 + 14 * b < nA σ from isW_lt hb 0 (by decide)), cel_W hb]) rfl (inb_in hin) hd (fun H1 locs1 hP1 hD1 hS1 => ?_)
  have e : va_up (fun k => (gm σ k).map fun b => xd Γ (75 + 14 * b)) x.toNatClampNeg (some (xd Γ (75 + 14 * b))) = fun k => (gm (sM σ x.toNatClampNeg b) k).map fun b => xd Γ (75 + 14 * b) := by
    funext k
    show (if _ then _ else _) = Option.map _ (if _ then _ else _)
    split <;> rfl
  have E := wd_set (cy := xy Γ) (ad := xd Γ) (s := σ) (s' := sM σ x.toNatClampNeg b) (i := 57) (e := .inl (xy Γ 16, 3, .inr (.inr (.inr (.inr (fun k => (gm (sM σ x.toNatClampNeg b) k).map fun b => xd Γ (75 + 14 * b))))))) rfl rfl (fun j hj => cel_sM hj)
  rw [e, E] at hP1 hD1
  exact h X H1 locs1 ls hP1 hD1 hS1 hl
theorem w_astN {k : Fin 4} {i : Nat} (lv' : List (Nat × Value)) (hd : decode cc pc = .ok (.astore_n k, 1)) (hi : (k : Nat) = i) (hn : i < nL) (hl' : (i, Value.null) :: lv.filter (fun q => !(q.1 == i) && !(q.1 + 1 == i && q.2.category == 2)) = lv') (hp : pc + 1 = pc') (h : WL Γ cc nL own ret rm ws pc' lv' st) : WL Γ cc nL own ret rm ws pc lv (.null :: st) := by
  subst hp
  exact fun X H locs ls hP hD hS hl => lv_astore_nN X.1 X.2.1 hd hi hl hn hl' (fun ls' hls => h X H locs ls' hP hD hS hls)
theorem w_aldN {k : Fin 4} {i : Nat} (j : Nat) (hd : decode cc pc = .ok (.aload_n k, 1)) (hi : (k : Nat) = i) (hv : lv[j]? = some (i, .null)) (hp : pc + 1 = pc') (h : WL Γ cc nL own ret rm ws pc' lv (.null :: st)) : WL Γ cc nL own ret rm ws pc lv st := by
  subst hp
  exact fun X H locs ls hP hD hS hl => lv_aload_nN X.1 X.2.1 hd hi (lv_at hl j hv) (h X H locs ls hP hD hS hl)
theorem w_nnN {off : Int} (hd : decode cc pc = .ok (.ifnonnull off, 3)) (hp : pc + 3 = pc') (h : WL Γ cc nL own ret rm ws pc' lv st) : WL Γ cc nL own ret rm ws pc lv (.null :: st) := by
  subst hp
  exact fun X H locs ls hP hD hS hl => lv_ifnonnullN X.1 X.2.1 hd (h X H locs ls hP hD hS hl)
theorem w_nnR {x : Nat} {off : Int} {tgt : Nat} (hd : decode cc pc = .ok (.ifnonnull off, 3)) (ht : (pc : Int) + off = (tgt : Int)) (h : WL Γ cc nL own ret rm ws tgt lv st) : WL Γ cc nL own ret rm ws pc lv (.ref x :: st) :=
  fun X H locs ls hP hD hS hl => lv_ifnonnull X.1 X.2.1 hd ht (h X H locs ls hP hD hS hl)
theorem w_mret {x : Int32} {ad0 : Nat → Nat} {n0 : Nat} (had : ∀ i, i < n0 ∨ 1000 ≤ i → xd Γ i = ad0 i) (hd : decode cc pc = .ok (.ireturn, 1)) (e : xQ Γ = MQ (xb Γ) (QM (xD Γ) (xy Γ) ad0 n0 (some (.int x)) σ (xA Γ)) (xa Γ) (xs Γ) (xk Γ) (xn Γ) (xA Γ)) : WW Γ cc nL own (some .int) rm σ pc lv [.int x] := by
  intro X H locs ls hP hD hS hl
  obtain ⟨hx, hb, -, -, -, hK, hlk, -, -, -, hr, -⟩ := X
  rw [e]
  refine W.iret hx hb hr (fun t ht hW => ?_) hS.2.2 hd hlk
  exact ⟨⟨rfl, xd Γ, had, by rw [ht]; exact hP, va_K.moved hW.alike hK, hD⟩, hS.F ht⟩
theorem w_runM {a : Array Value} {mc ms : Nat} (hrun : Okc Γ cc nL own ret rm → ∀ (H : Heap) (locs : List Loc) (ls : Array Slot), va_P (xD Γ) vwCl (Wd (xy Γ) (xd Γ) σ) H → va_D (xA Γ) (Wd (xy Γ) (xd Γ) σ) → va_S (xA Γ) (xs Γ).heap H locs → lv_has ls nL lv →
      va_Run (xp Γ) (xl Γ) (xE Γ) (xR Γ) (xs Γ) (xm Γ) (xa Γ) (xb Γ) (xM Γ) (xc Γ) H locs (xk Γ) (xn Γ) mc ms (F0 (xm Γ) pc ls st0) rest (QM (xD Γ) (xy Γ) (xd Γ) (nA σ) v σ' (va_A (Wd (xy Γ) (xd Γ) σ) H.size) a) (va_A (Wd (xy Γ) (xd Γ) σ) H.size))
    (hR : xk Γ + mc ≤ rm.cells ∧ xn Γ + ms ≤ rm.slots) (hp : pc + 3 = pc') (h : ∀ ad' : Nat → Nat, (∀ i, i < nA σ ∨ 1000 ≤ i → ad' i = xd Γ i) → WW (bump (setAd Γ ad') mc ms) cc nL own ret rm σ' pc' lv (v.toList ++ rest)) : WW Γ cc nL own ret rm σ pc lv st0 := by
  subst hp
  intro X H locs ls hP hD hS hl Tt hT Xs
  have hF := w_fc X.2.2.2.2.2.2.2.1 hD hS
  obtain ⟨v', st₀, t, T', L, h0, X', hL, e1, e2, ⟨⟨hv, ad', had, hP1, -, hD1⟩, hz, hk⟩, stp⟩ := hrun X H locs ls hP hD hS hl Tt hT Xs
  cases hv
  rw [h0] at hz hk
  obtain ⟨t2, a1, b1⟩ := h ad' had (okc_bump (okc_ad (fun i hi => had i (Or.inr hi)) X) hR.1 hR.2) T'.heap (locs ++ L) ls (by rw [e1]; exact hP1) (hD1.weaken (fun _ q _ z => hF q.1 z))
    ⟨Nat.le_trans hS.1 (by rw [e1]; exact hz), fun q h1 h2 => by rw [e1, hk q (Nat.lt_of_lt_of_le h1 hS.1) (fun z => h2 (hF q z))]; exact hS.2.1 q h1 h2, fun q hq => by
      rcases List.mem_append.mp hq with z | z
      · exact hS.2.2 q z
      · exact hF _ (hL q z)⟩ hl T' rfl X'
  exact ⟨t2, stp t2 a1, b1⟩
theorem w_callM {y : MethodName} {b : ByteArray} {n i ci nn idx mc ms : Nat} {rt : Option FieldType} {rmc : Room} {As : List Value} {C : String} {T : u_T} {N : Nat} {fs : List Value}
    (hc : CTM (xl Γ) (xD Γ) (xy Γ) (xd Γ) y b n rt rmc mc ms (.ref (xd Γ i) :: As) σ v σ') (hl : Cond.methodLink own idx y ∈ TB) (hy : Cond.instanceMethod y ∈ TB ∧ Cond.selects C y y ∈ TB ∧ Cond.initialized C ∈ TB ∧ Cond.code y b n rt ∈ TB)
    (hd0 : y.cls = C ∧ y.cls ≠ "java/lang/invoke/MethodHandle" ∧ y.cls ≠ "java/lang/invoke/VarHandle" ∧ (parseMethodDescriptor y.desc).map (fun d => d.parameters.length) = some nn) (h0 : rmc.cells = mc ∧ rmc.slots = ms) (hR : rmc.frames + 1 ≤ rm.frames ∧ 8 + (n + 11) + rmc.locals ≤ rm.locals) (hR2 : xk Γ + mc ≤ rm.cells ∧ xn Γ + ms ≤ rm.slots)
    (hi : i < nA σ) (hcel : cel (xy Γ) (xd Γ) σ i = .inr (ci, fs)) (hcl : vwCl[ci]? = some (C, T, N)) (hn : As.length = nn) (hw : (rest.map fun v => v.category).sum ≤ 8) (hd : decode cc pc = .ok (.invokevirtual idx, 3)) (hst : As.reverse ++ .ref (xd Γ i) :: rest = st0)
    (hp : pc + 3 = pc') (h : ∀ ad' : Nat → Nat, (∀ i, i < nA σ ∨ 1000 ≤ i → ad' i = xd Γ i) → WW (bump (setAd Γ ad') mc ms) cc nL own ret rm σ' pc' lv (v.toList ++ rest)) : WW Γ cc nL own ret rm σ pc lv st0 := by
  refine w_runM (a := (Value.ref (xd Γ i) :: As).toArray) (fun X H locs ls hP hD hS hls => ?_) hR2 hp h
  have X0 := X
  obtain ⟨hx, hb, hml, hown, hts, hK, -, -, hkc, hks, -, hRm, -⟩ := X
  rw [← hRm] at hR hR2
  exact va_runV (As := As) (rest := rest) (C := C) ⟨hx, hb, hml, hown, hts⟩ (hc H.size) (cwV nn hts (g_V hl hy) rfl h0.1 h0.2 hd0 hR) ⟨w_blind, va_recv hK hP (ci := ci) (q0 := i) hcl (by rw [wd_at hi, hcel]), w_pre X0 hS hK hP hD⟩ rfl hn hls.1 hst.symm (lv_room hw) hd hR2
end IM
/-! ===== back() ===== -/
def rX11_back : Room := { frames := 3, cells := 0, slots := 0, locals := 102 }
def f_X11_back (p0 : Int32) (σ : St) : Option (Int32 × St) :=
  bd (f_X11_isImage p0 σ) fun r1 s2 =>
  if r1 = 0 then some ((-2 : Int32), s2)
  else
    gd (inb p0 3) <|
    match gm s2 p0.toNatClampNeg with
    | none => some ((-6 : Int32), s2)
    | some b =>
      bd (f_X10_become 1 (75 + 14 * b) s2) fun _ s3 =>
      bd (f_X2_forget s3) fun _ s4 =>
      some ((0 : Int32), s4)
theorem e_X11_back {Γ : CX} (p0 : Int32) (σ : St) (h : RR vI Γ (f_X11_back p0 σ)) : WW Γ cX11_back 3 RX11 (some .int) rX11_back σ 0 [(0, .ref (xd Γ 0)), (1, .int p0)] [] := by
  unfold f_X11_back at h
  refine w_iload_n 1 dX11_back_0 rfl rfl rfl ?_
  obtain ⟨r1, s2, h3, h⟩ := h.bd
  refine k_X11_isImage ml_RX11_376 (Nat.le_of_ble_eq_true rfl) ⟨Nat.le_of_ble_eq_true rfl, Nat.le_of_ble_eq_true rfl⟩ dX11_back_1 rfl h3 ?_
  refine w_if_ne (tgt := 10) dX11_back_4 (by decide) rfl (fun q => ?_) (fun q => ?_)
  · have h := h.ff q
    refine w_aload_n 0 dX11_back_10 rfl rfl rfl ?_
    refine gf_RX11_79 dX11_back_11 rfl ?_
    refine w_iload_n 1 dX11_back_14 rfl rfl rfl ?_
    obtain ⟨hi, h⟩ := h.gd
    refine w_aald hi dX11_back_15 rfl ?_
    cases hg : gm s2 p0.toNatClampNeg with
    | none =>
      rw [hg] at h
      refine w_astN [(2, .null), (0, .ref (xd Γ 0)), (1, .int p0)] dX11_back_16 rfl (by decide) rfl rfl ?_
      refine w_aldN 0 dX11_back_17 rfl rfl rfl ?_
      refine w_nnN dX11_back_18 rfl ?_
      refine w_bipush (-6 : Int32) dX11_back_21 ic_bipush_m6 rfl ?_
      exact w_ireturn dX11_back_23 h
    | some b =>
      rw [hg] at h
      refine w_astore_n [(2, .ref (xd Γ (75 + 14 * b))), (0, .ref (xd Γ 0)), (1, .int p0)] dX11_back_16 rfl (by decide) rfl rfl ?_
      refine w_aload_n 0 dX11_back_17 rfl rfl rfl ?_
      refine w_nnR (tgt := 24) dX11_back_18 (by decide) ?_
      refine w_aload_n 1 dX11_back_24 rfl rfl rfl ?_
      refine gf_RX11_10 dX11_back_25 rfl ?_
      refine w_aload_n 0 dX11_back_28 rfl rfl rfl ?_
      obtain ⟨r5, s5, h5, h⟩ := h.bd
      refine k_X10_become ml_RX11_104 (Nat.le_of_ble_eq_true rfl) ⟨Nat.le_of_ble_eq_true rfl, Nat.le_of_ble_eq_true rfl⟩ dX11_back_29 rfl h5 ?_
      refine w_aload_n 1 dX11_back_32 rfl rfl rfl ?_
      refine gf_RX11_31 dX11_back_33 rfl ?_
      obtain ⟨r6, s6, h6, h⟩ := h.bd
      refine k_X2_forget ml_RX11_107 (Nat.le_of_ble_eq_true rfl) ⟨Nat.le_of_ble_eq_true rfl, Nat.le_of_ble_eq_true rfl⟩ dX11_back_36 rfl h6 ?_
      refine w_iconst (0 : Int32) dX11_back_39 ic_iconst_0 rfl ?_
      exact w_ireturn dX11_back_40 h
  · have h := h.tt q
    refine w_bipush (-2 : Int32) dX11_back_7 ic_bipush_m2 rfl ?_
    exact w_ireturn dX11_back_9 h
theorem c_X11_back {l : Launch} {D : va_G} {cy : Nat → ClassId} {ad : Nat → Nat} {p0 : Int32} {σ σ' : St} {r : Int32} (hf : f_X11_back p0 σ = some (r, σ')) : CT l D cy ad yX11_back cX11_back 3 (some .int) rX11_back [.ref (ad 0), .int p0] σ (some (.int r)) σ' :=
  ct_of (by decide) (Nat.le_of_ble_eq_true rfl) (fun p e s m args below meth c A => e_X11_back (Γ := (p, l, e, rX11_back, s, m, args, below, meth, c, D, cy, ad, A, 0, 0, MQ below (QC D cy ad (some (.int r)) σ' A) args s 0 0 A)) p0 σ ⟨_, hf, rfl⟩)
theorem k_X11_back {Γ : CX} {cc : ByteArray} {nL : Nat} {own : String} {ret : Option FieldType} {rm : Room} {σ σ' : St} {pc pc' idx : Nat} {lv : List (Nat × Value)} {rest : List Value} {p0 : Int32} {r : Int32} (hl : Cond.methodLink own idx yX11_back ∈ TB) (hw : (rest.map fun v => v.category).sum ≤ 8) (hR : rX11_back.frames + 1 ≤ rm.frames ∧ 8 + (3 + 11) + rX11_back.locals ≤ rm.locals) (hd : decode cc pc = .ok (.invokevirtual idx, 3)) (hp : pc + 3 = pc') (hf : f_X11_back p0 σ = some (r, σ')) (h : WW Γ cc nL own ret rm σ' pc' lv (.int r :: rest)) : WW Γ cc nL own ret rm σ pc lv (.int p0 :: .ref (xd Γ 0) :: rest) :=
  w_callV (nn := 1) (i := 0) (As := [.int p0]) (v := (some (.int r))) (T := TX11) (N := 11) (c_X11_back hf) hl mw_X11_back (by decide +kernel) ⟨rfl, rfl⟩ hR (lt_lit (by decide)) cel_0 rfl rfl hw hd rfl hp h
/-! ===== image() ===== -/
def rX11_image : Room := { frames := 3, cells := 14, slots := 325, locals := 102 }
def f_X11_image (p0 : Int32) (σ : St) : Option (Int32 × St) :=
  bd (f_X11_isImage p0 σ) fun r1 s2 =>
  if r1 = 0 then some ((-2 : Int32), s2)
  else
    gd (inb p0 3) <|
    match gm s2 p0.toNatClampNeg with
    | none =>
      bd (f_X10_become (75 + 14 * gn s2) 1 (sM (zI s2) p0.toNatClampNeg (gn s2))) fun _ s3 =>
      some ((0 : Int32), s3)
    | some b =>
      bd (f_X10_become (75 + 14 * b) 1 s2) fun _ s3 =>
      some ((0 : Int32), s3)
theorem isImage_same {p0 r : Int32} {σ σ' : St} (h : f_X11_isImage p0 σ = some (r, σ')) : σ' = σ := by
  unfold f_X11_isImage f_X11_isImage_13 f_X11_isImage_14 gd bz at h
  split at h
  · simp at h
    exact h.2.symm
  · split at h
    · simp at h
      exact h.2.symm
    · simp at h
      exact h.2.symm
set_option maxHeartbeats 4000000 in
theorem e_X11_image {Γ : CX} {p0 r : Int32} {σ σ' : St} (hM : MI σ) (hn : gn σ ≤ 60) (hf : f_X11_image p0 σ = some (r, σ')) (hz : xk Γ = 0 ∧ xn Γ = 0) (hQ : xQ Γ = MQ (xb Γ) (QM (xD Γ) (xy Γ) (xd Γ) (nA σ) (some (.int r)) σ' (xA Γ)) (xa Γ) (xs Γ) (xk Γ + 14) (xn Γ + 325) (xA Γ)) : WW Γ cX11_image 3 RX11 (some .int) rX11_image σ 0 [(0, .ref (xd Γ 0)), (1, .int p0)] [] := by
  unfold f_X11_image at hf
  have hR0 : xk Γ + 14 ≤ rX11_image.cells ∧ xn Γ + 325 ≤ rX11_image.slots := by rw [hz.1, hz.2]; exact ⟨Nat.le_of_ble_eq_true rfl, Nat.le_of_ble_eq_true rfl⟩
  have hR1 : xk Γ + 1 ≤ rX11_image.cells ∧ xn Γ + 12 ≤ rX11_image.slots := by rw [hz.1, hz.2]; exact ⟨Nat.le_of_ble_eq_true rfl, Nat.le_of_ble_eq_true rfl⟩
  have hR2 : xk (bump Γ 1 12) + rX10_init.cells ≤ rX11_image.cells ∧ xn (bump Γ 1 12) + rX10_init.slots ≤ rX11_image.slots := by
    show xk Γ + 1 + 13 ≤ 14 ∧ xn Γ + 12 + 313 ≤ 325
    rw [hz.1, hz.2]
    exact ⟨Nat.le_of_ble_eq_true rfl, Nat.le_of_ble_eq_true rfl⟩
  refine w_iload_n 1 dX11_image_0 rfl rfl rfl ?_
  cases h1 : f_X11_isImage p0 σ with
  | none => rw [h1] at hf; cases hf
  | some q1 =>
  obtain ⟨r1, s2⟩ := q1
  obtain rfl := isImage_same h1
  rw [h1] at hf
  refine k_X11_isImage ml_RX11_376 (Nat.le_of_ble_eq_true rfl) ⟨Nat.le_of_ble_eq_true rfl, Nat.le_of_ble_eq_true rfl⟩ dX11_image_1 rfl h1 ?_
  have hf : (if r1 = 0 then some ((-2 : Int32), s2) else gd (inb p0 3) (match gm s2 p0.toNatClampNeg with
    | none => bd (f_X10_become (75 + 14 * gn s2) 1 (sM (zI s2) p0.toNatClampNeg (gn s2))) fun _ s3 => some ((0 : Int32), s3)
    | some b => bd (f_X10_become (75 + 14 * b) 1 s2) fun _ s3 => some ((0 : Int32), s3))) = some (r, σ') := hf
  refine w_if_ne (tgt := 10) dX11_image_4 (by decide) rfl (fun q => ?_) (fun q => ?_)
  · rw [if_neg q] at hf
    refine w_aload_n 0 dX11_image_10 rfl rfl rfl ?_
    refine gf_RX11_79 dX11_image_11 rfl ?_
    refine w_iload_n 1 dX11_image_14 rfl rfl rfl ?_
    have hi := gd_of hf
    rw [hi] at hf
    replace hf : (match gm s2 p0.toNatClampNeg with
      | none => bd (f_X10_become (75 + 14 * gn s2) 1 (sM (zI s2) p0.toNatClampNeg (gn s2))) fun _ s3 => some ((0 : Int32), s3)
      | some b => bd (f_X10_become (75 + 14 * b) 1 s2) fun _ s3 => some ((0 : Int32), s3)) = some (r, σ') := hf
    refine w_aald hi dX11_image_15 rfl ?_
    cases hg : gm s2 p0.toNatClampNeg with
    | none =>
      rw [hg] at hf
      refine w_astN [(2, .null), (0, .ref (xd Γ 0)), (1, .int p0)] dX11_image_16 rfl (by decide) rfl rfl ?_
      refine w_aldN 0 dX11_image_17 rfl rfl rfl ?_
      refine w_nnN dX11_image_18 rfl ?_
      have h0 : (Wd (xy Γ) (xd Γ) s2)[0]? = some (xd Γ 0, cel (xy Γ) (xd Γ) s2 0) := wd_at (lt_lit (by decide))
      have E0 : Wd (xy Γ) (xd Γ) s2 = cf (Wd (xy Γ) (xd Γ) s2) 0 (xd Γ 0, cel (xy Γ) (xd Γ) s2 0) [] := (cf_self h0).symm
      rw [E0]
      refine l_new (ci := 9) [.int 0, .int 0, .int 0, .int 0, .int 0, .null, .null, .null, .null, .null, .null, .null] tyX10 rfl inT_X10 tyX10_ok ⟨kl_RX11_7, is_X10⟩ df_X10 hR1 dX11_image_21 rfl (fun a => ?_)
      refine w_dup dX11_image_24 rfl rfl ?_
      refine k_X10_init (Γ := bump Γ 1 12) (fun h => h.2.1) (Nat.le_of_ble_eq_true rfl) ⟨Nat.le_of_ble_eq_true rfl, Nat.le_of_ble_eq_true rfl⟩ hR2 dX11_image_25 rfl (fun u => ?_)
      obtain ⟨ad', had⟩ : ∃ ad' : Nat → Nat, ad' = adX (xd Γ) (nA s2) a u := ⟨_, rfl⟩
      have hk : ∀ i, i < nA s2 ∨ 1000 ≤ i → ad' i = xd Γ i := fun i hi => by
        rw [had]
        rcases hi with hi | hi
        · exact adX_lt hi
        · exact adX_ge (by unfold nA; omega)
      have E1 := wd_zI (cy := xy Γ) (ad := xd Γ) hM a u
      rw [← had, E0] at E1
      refine w_ad ad' (fun i hi => hk i (Or.inr hi)) ?_
      have e0 : a = ad' (75 + 14 * gn s2) := by rw [had]; exact adX_0.symm
      have e1 : xd Γ 0 = ad' 0 := (hk 0 (Or.inl (lt_lit (by decide)))).symm
      have E2 : cf (Wd (xy Γ) (xd Γ) s2) 0 (xd Γ 0, cel (xy Γ) (xd Γ) s2 0) ([] ++ [(a, .inr (9, [.int 0, .int 0, .int 0, .int 0, .int 0, .ref (u 0), .ref (u 1), .ref (u 3), .ref (u 5), .ref (u 7), .ref (u 9), .ref (u 11)]))] ++ [((u 0), .inl (xy Γ 13, 2, .inl dfI)), ((u 1), .inr (8, [.int (6 : Int32), .int (9 : Int32), .ref (u 2), .int 0])), ((u 2), .inl (xy Γ 13, 54, .inl dfI)), ((u 3), .inr (8, [.int (2 : Int32), .int (4 : Int32), .ref (u 4), .int 0])), ((u 4), .inl (xy Γ 13, 8, .inl dfI)), ((u 5), .inr (8, [.int (4 : Int32), .int (8 : Int32), .ref (u 6), .int 0])), ((u 6), .inl (xy Γ 13, 32, .inl dfI)), ((u 7), .inr (8, [.int (2 : Int32), .int (4 : Int32), .ref (u 8), .int 0])), ((u 8), .inl (xy Γ 13, 8, .inl dfI)), ((u 9), .inr (8, [.int (1 : Int32), .int (5 : Int32), .ref (u 10), .int 0])), ((u 10), .inl (xy Γ 13, 5, .inl dfI)), ((u 11), .inr (8, [.int (3 : Int32), .int (60 : Int32), .ref (u 12), .int 0])), ((u 12), .inl (xy Γ 13, 180, .inl dfI))]) = Wd (xy Γ) ad' (zI s2) := by
        rw [E1]
        unfold cf
        simp only [List.append_assoc, List.nil_append, List.cons_append, List.append_nil]
      have hW1 : isW (zI s2) (75 + 14 * gn s2) = true := isW_zI s2
      have K : WL (setAd (bump (bump Γ 1 12) rX10_init.cells rX10_init.slots) ad') cX11_image 3 RX11 (some .int) rX11_image (Wd (xy Γ) ad' (zI s2)) 28 [(2, .null), (0, .ref (ad' 0)), (1, .int p0)] [.ref (ad' (75 + 14 * gn s2))] := by
        refine w_astore_n [(2, .ref (ad' (75 + 14 * gn s2))), (0, .ref (ad' 0)), (1, .int p0)] dX11_image_28 rfl (by decide) rfl rfl ?_
        refine w_aload_n 1 dX11_image_29 rfl rfl rfl ?_
        refine gf_RX11_79 dX11_image_30 rfl ?_
        refine w_iload_n 2 dX11_image_33 rfl rfl rfl ?_
        refine w_aload_n 0 dX11_image_34 rfl rfl rfl ?_
        refine w_aast hW1 hi dX11_image_35 rfl ?_
        refine w_aload_n 0 dX11_image_36 rfl rfl rfl ?_
        refine w_aload_n 1 dX11_image_37 rfl rfl rfl ?_
        refine gf_RX11_10 dX11_image_38 rfl ?_
        cases h5 : f_X10_become (75 + 14 * gn s2) 1 (sM (zI s2) p0.toNatClampNeg (gn s2)) with
        | none => simp only [h5, bd] at hf; cases hf
        | some q5 =>
        obtain ⟨r5, s5⟩ := q5
        simp only [h5, bd] at hf
        cases hf
        refine k_X10_become ml_RX11_104 (Nat.le_of_ble_eq_true rfl) ⟨Nat.le_of_ble_eq_true rfl, Nat.le_of_ble_eq_true rfl⟩ dX11_image_41 rfl h5 ?_
        refine w_iconst (0 : Int32) dX11_image_44 ic_iconst_0 rfl ?_
        refine w_mret (ad0 := xd Γ) (n0 := nA s2) hk dX11_image_45 ?_
        show xQ Γ = MQ (xb Γ) _ (xa Γ) (xs Γ) (xk Γ + 1 + 13) (xn Γ + 12 + 313) (xA Γ)
        rw [hQ, Nat.add_assoc, Nat.add_assoc]
        rfl
      rw [← E2, ← e0, ← e1] at K
      exact K
    | some b =>
      rw [hg] at hf
      refine w_astore_n [(2, .ref (xd Γ (75 + 14 * b))), (0, .ref (xd Γ 0)), (1, .int p0)] dX11_image_16 rfl (by decide) rfl rfl ?_
      refine w_aload_n 0 dX11_image_17 rfl rfl rfl ?_
      refine w_nnR (tgt := 36) dX11_image_18 (by decide) ?_
      refine w_aload_n 0 dX11_image_36 rfl rfl rfl ?_
      refine w_aload_n 1 dX11_image_37 rfl rfl rfl ?_
      refine gf_RX11_10 dX11_image_38 rfl ?_
      cases h5 : f_X10_become (75 + 14 * b) 1 s2 with
      | none => simp only [h5, bd] at hf; cases hf
      | some q5 =>
      obtain ⟨r5, s5⟩ := q5
      simp only [h5, bd] at hf
      cases hf
      refine k_X10_become ml_RX11_104 (Nat.le_of_ble_eq_true rfl) ⟨Nat.le_of_ble_eq_true rfl, Nat.le_of_ble_eq_true rfl⟩ dX11_image_41 rfl h5 ?_
      refine w_iconst (0 : Int32) dX11_image_44 ic_iconst_0 rfl ?_
      refine w_widen 14 325 hR0 ?_
      exact w_mret (ad0 := xd Γ) (n0 := nA s2) (fun _ _ => rfl) dX11_image_45 hQ
  · rw [if_pos q] at hf
    cases hf
    refine w_bipush (-2 : Int32) dX11_image_7 ic_bipush_m2 rfl ?_
    refine w_widen 14 325 hR0 ?_
    exact w_mret (ad0 := xd Γ) (fun _ _ => rfl) dX11_image_9 hQ
theorem c_X11_image {l : Launch} {D : va_G} {cy : Nat → ClassId} {ad : Nat → Nat} {p0 : Int32} {σ σ' : St} {r : Int32} (hM : MI σ) (hn : gn σ ≤ 60) (hf : f_X11_image p0 σ = some (r, σ')) : CTM l D cy ad yX11_image cX11_image 3 (some .int) rX11_image 14 325 [.ref (ad 0), .int p0] σ (some (.int r)) σ' :=
  ctm_of (by decide) (Nat.le_of_ble_eq_true rfl) (fun p e s m args below meth c A => e_X11_image (Γ := (p, l, e, rX11_image, s, m, args, below, meth, c, D, cy, ad, A, 0, 0, MQ below (QM D cy ad (nA σ) (some (.int r)) σ' A) args s 14 325 A)) hM hn hf ⟨rfl, rfl⟩ rfl)
theorem k_X11_image {Γ : CX} {cc : ByteArray} {nL : Nat} {own : String} {ret : Option FieldType} {rm : Room} {σ σ' : St} {pc pc' idx : Nat} {lv : List (Nat × Value)} {rest : List Value} {p0 : Int32} {r : Int32} (hM : MI σ) (hn : gn σ ≤ 60) (hl : Cond.methodLink own idx yX11_image ∈ TB) (hw : (rest.map fun v => v.category).sum ≤ 8) (hR : rX11_image.frames + 1 ≤ rm.frames ∧ 8 + (3 + 11) + rX11_image.locals ≤ rm.locals) (hR2 : xk Γ + 14 ≤ rm.cells ∧ xn Γ + 325 ≤ rm.slots) (hd : decode cc pc = .ok (.invokevirtual idx, 3)) (hp : pc + 3 = pc') (hf : f_X11_image p0 σ = some (r, σ')) (h : ∀ ad' : Nat → Nat, (∀ i, i < nA σ ∨ 1000 ≤ i → ad' i = xd Γ i) → WW (bump (setAd Γ ad') 14 325) cc nL own ret rm σ' pc' lv (.int r :: rest)) : WW Γ cc nL own ret rm σ pc lv (.int p0 :: .ref (xd Γ 0) :: rest) :=
  w_callM (nn := 1) (i := 0) (As := [.int p0]) (v := (some (.int r))) (T := TX11) (N := 11) (c_X11_image hM hn hf) hl mw_X11_image (by decide +kernel) ⟨rfl, rfl⟩ hR hR2 (lt_lit (by decide)) cel_0 rfl rfl hw hd rfl hp h
