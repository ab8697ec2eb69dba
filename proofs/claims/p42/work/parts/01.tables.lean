theorem ck_1 {w : Cond} (h : w ∈ tables_1_1) : w ∈ tables_1 := List.mem_append_left _ h
theorem ck_2 {w : Cond} (h : w ∈ tables_1_2) : w ∈ tables_1 := List.mem_append_right _ (List.mem_append_left _ h)
theorem ck_3 {w : Cond} (h : w ∈ tables_1_3) : w ∈ tables_1 := List.mem_append_right _ (List.mem_append_right _ (List.mem_append_left _ h))
theorem ck_4 {w : Cond} (h : w ∈ tables_1_4) : w ∈ tables_1 := List.mem_append_right _ (List.mem_append_right _ (List.mem_append_right _ (List.mem_append_left _ h)))
theorem ck_5 {w : Cond} (h : w ∈ tables_1_5) : w ∈ tables_1 := List.mem_append_right _ (List.mem_append_right _ (List.mem_append_right _ (List.mem_append_right _ (List.mem_append_left _ h))))
theorem ck_6 {w : Cond} (h : w ∈ tables_1_6) : w ∈ tables_1 := List.mem_append_right _ (List.mem_append_right _ (List.mem_append_right _ (List.mem_append_right _ (List.mem_append_right _ (List.mem_append_left _ h)))))
theorem ck_7 {w : Cond} (h : w ∈ tables_1_7) : w ∈ tables_1 := List.mem_append_right _ (List.mem_append_right _ (List.mem_append_right _ (List.mem_append_right _ (List.mem_append_right _ (List.mem_append_right _ (List.mem_append_left _ h))))))
theorem ck_8 {w : Cond} (h : w ∈ tables_1_8) : w ∈ tables_1 := List.mem_append_right _ (List.mem_append_right _ (List.mem_append_right _ (List.mem_append_right _ (List.mem_append_right _ (List.mem_append_right _ (List.mem_append_right _ (List.mem_append_left _ h)))))))
theorem ck_9 {w : Cond} (h : w ∈ tables_1_9) : w ∈ tables_1 := List.mem_append_right _ (List.mem_append_right _ (List.mem_append_right _ (List.mem_append_right _ (List.mem_append_right _ (List.mem_append_right _ (List.mem_append_right _ (List.mem_append_right _ (h))))))))
-- ===== PART A: goes FIRST, ahead of the names: the tables' words, and 'selects' of the private methods out of them =====
/-- a private method of a class that the tables say can be made, by its rows of tables_1 -/
def lw_okq (q : MethodName × Nat) : Prop := (q.1.cls ≠ "java/lang/invoke/MethodHandle" ∧ q.1.cls ≠ "java/lang/invoke/VarHandle") ∧ Cond.instantiable q.1.cls q.2 ∈ tables_1 ∧ Cond.privateMethod q.1 ∈ tables_1 ∧ Cond.instanceMethod q.1 ∈ tables_1
set_option maxRecDepth 8000 in
theorem lw_p0 : lw_okq (⟨"WarByHours$Reader", "advance", "()V"⟩, 9) := ⟨⟨by decide +kernel, by decide +kernel⟩, ck_1 (List.mem_of_getElem? (i := 139) rfl), ck_2 (List.mem_of_getElem? (i := 139) rfl), ck_2 (List.mem_of_getElem? (i := 140) rfl)⟩
set_option maxRecDepth 8000 in
theorem lw_p1 : lw_okq (⟨"WarByHours$Reader", "kindAt", "(I)I"⟩, 9) := ⟨⟨by decide +kernel, by decide +kernel⟩, ck_1 (List.mem_of_getElem? (i := 139) rfl), ck_2 (List.mem_of_getElem? (i := 143) rfl), ck_2 (List.mem_of_getElem? (i := 144) rfl)⟩
set_option maxRecDepth 8000 in
theorem lw_p2 : lw_okq (⟨"WarByHours$Reader", "byteAt", "(I)I"⟩, 9) := ⟨⟨by decide +kernel, by decide +kernel⟩, ck_1 (List.mem_of_getElem? (i := 139) rfl), ck_2 (List.mem_of_getElem? (i := 150) rfl), ck_2 (List.mem_of_getElem? (i := 151) rfl)⟩
set_option maxRecDepth 8000 in
theorem lw_p3 : lw_okq (⟨"WarByHours$Reader", "readLine", "()V"⟩, 9) := ⟨⟨by decide +kernel, by decide +kernel⟩, ck_1 (List.mem_of_getElem? (i := 139) rfl), ck_2 (List.mem_of_getElem? (i := 155) rfl), ck_2 (List.mem_of_getElem? (i := 156) rfl)⟩
set_option maxRecDepth 8000 in
theorem lw_p4 : lw_okq (⟨"WarByHours$Reader", "readWar", "()V"⟩, 9) := ⟨⟨by decide +kernel, by decide +kernel⟩, ck_1 (List.mem_of_getElem? (i := 139) rfl), ck_2 (List.mem_of_getElem? (i := 159) rfl), ck_2 (List.mem_of_getElem? (i := 160) rfl)⟩
set_option maxRecDepth 8000 in
theorem lw_p5 : lw_okq (⟨"WarByHours$Reader", "word", "(Ljava/lang/String;)V"⟩, 9) := ⟨⟨by decide +kernel, by decide +kernel⟩, ck_1 (List.mem_of_getElem? (i := 139) rfl), ck_2 (List.mem_of_getElem? (i := 164) rfl), ck_2 (List.mem_of_getElem? (i := 165) rfl)⟩
set_option maxRecDepth 8000 in
theorem lw_p6 : lw_okq (⟨"WarByHours$Reader", "sees", "(Ljava/lang/String;)Z"⟩, 9) := ⟨⟨by decide +kernel, by decide +kernel⟩, ck_1 (List.mem_of_getElem? (i := 139) rfl), ck_2 (List.mem_of_getElem? (i := 168) rfl), ck_2 (List.mem_of_getElem? (i := 169) rfl)⟩
set_option maxRecDepth 8000 in
theorem lw_p7 : lw_okq (⟨"WarByHours$Reader", "blame", "(I)V"⟩, 9) := ⟨⟨by decide +kernel, by decide +kernel⟩, ck_1 (List.mem_of_getElem? (i := 139) rfl), ck_2 (List.mem_of_getElem? (i := 220) rfl), ck_2 (List.mem_of_getElem? (i := 221) rfl)⟩
set_option maxRecDepth 8000 in
theorem lw_p8 : lw_okq (⟨"WarByHours$Reader", "number", "(II)I"⟩, 9) := ⟨⟨by decide +kernel, by decide +kernel⟩, ck_1 (List.mem_of_getElem? (i := 139) rfl), ck_2 (List.mem_of_getElem? (i := 225) rfl), ck_2 (List.mem_of_getElem? (i := 226) rfl)⟩
set_option maxRecDepth 8000 in
theorem lw_p9 : lw_okq (⟨"WarByHours$Reader", "readNeed", "()V"⟩, 9) := ⟨⟨by decide +kernel, by decide +kernel⟩, ck_1 (List.mem_of_getElem? (i := 139) rfl), ck_2 (List.mem_of_getElem? (i := 233) rfl), ck_2 (List.mem_of_getElem? (i := 234) rfl)⟩
set_option maxRecDepth 8000 in
theorem lw_p10 : lw_okq (⟨"WarByHours$Reader", "readTrain", "()V"⟩, 9) := ⟨⟨by decide +kernel, by decide +kernel⟩, ck_1 (List.mem_of_getElem? (i := 139) rfl), ck_3 (List.mem_of_getElem? (i := 2) rfl), ck_3 (List.mem_of_getElem? (i := 3) rfl)⟩
set_option maxRecDepth 8000 in
theorem lw_p11 : lw_okq (⟨"WarByHours$Reader", "begin", "(LWarByHours$Table;)V"⟩, 9) := ⟨⟨by decide +kernel, by decide +kernel⟩, ck_1 (List.mem_of_getElem? (i := 139) rfl), ck_3 (List.mem_of_getElem? (i := 6) rfl), ck_3 (List.mem_of_getElem? (i := 7) rfl)⟩
set_option maxRecDepth 8000 in
theorem lw_p12 : lw_okq (⟨"WarByHours$Reader", "cell", "(LWarByHours$Table;III)V"⟩, 9) := ⟨⟨by decide +kernel, by decide +kernel⟩, ck_1 (List.mem_of_getElem? (i := 139) rfl), ck_3 (List.mem_of_getElem? (i := 19) rfl), ck_3 (List.mem_of_getElem? (i := 20) rfl)⟩
set_option maxRecDepth 8000 in
theorem lw_p13 : lw_okq (⟨"WarByHours$Reader", "readSpan", "(LWarByHours$Table;)V"⟩, 9) := ⟨⟨by decide +kernel, by decide +kernel⟩, ck_1 (List.mem_of_getElem? (i := 139) rfl), ck_3 (List.mem_of_getElem? (i := 33) rfl), ck_3 (List.mem_of_getElem? (i := 34) rfl)⟩
set_option maxRecDepth 8000 in
theorem lw_p14 : lw_okq (⟨"WarByHours$Reader", "readAsk", "()V"⟩, 9) := ⟨⟨by decide +kernel, by decide +kernel⟩, ck_1 (List.mem_of_getElem? (i := 139) rfl), ck_3 (List.mem_of_getElem? (i := 43) rfl), ck_3 (List.mem_of_getElem? (i := 44) rfl)⟩
set_option maxRecDepth 8000 in
theorem lw_p15 : lw_okq (⟨"WarByHours$Reader", "readSpy", "()V"⟩, 9) := ⟨⟨by decide +kernel, by decide +kernel⟩, ck_1 (List.mem_of_getElem? (i := 139) rfl), ck_3 (List.mem_of_getElem? (i := 52) rfl), ck_3 (List.mem_of_getElem? (i := 53) rfl)⟩
def lw_privs_1 : List (MethodName × Nat) := [(⟨"WarByHours$Reader", "advance", "()V"⟩, 9), (⟨"WarByHours$Reader", "kindAt", "(I)I"⟩, 9), (⟨"WarByHours$Reader", "byteAt", "(I)I"⟩, 9), (⟨"WarByHours$Reader", "readLine", "()V"⟩, 9), (⟨"WarByHours$Reader", "readWar", "()V"⟩, 9), (⟨"WarByHours$Reader", "word", "(Ljava/lang/String;)V"⟩, 9), (⟨"WarByHours$Reader", "sees", "(Ljava/lang/String;)Z"⟩, 9), (⟨"WarByHours$Reader", "blame", "(I)V"⟩, 9), (⟨"WarByHours$Reader", "number", "(II)I"⟩, 9), (⟨"WarByHours$Reader", "readNeed", "()V"⟩, 9), (⟨"WarByHours$Reader", "readTrain", "()V"⟩, 9), (⟨"WarByHours$Reader", "begin", "(LWarByHours$Table;)V"⟩, 9), (⟨"WarByHours$Reader", "cell", "(LWarByHours$Table;III)V"⟩, 9), (⟨"WarByHours$Reader", "readSpan", "(LWarByHours$Table;)V"⟩, 9), (⟨"WarByHours$Reader", "readAsk", "()V"⟩, 9), (⟨"WarByHours$Reader", "readSpy", "()V"⟩, 9)]
theorem lw_r1 : ∀ q ∈ lw_privs_1, lw_okq q := List.forall_mem_cons.mpr ⟨lw_p0, List.forall_mem_cons.mpr ⟨lw_p1, List.forall_mem_cons.mpr ⟨lw_p2, List.forall_mem_cons.mpr ⟨lw_p3, List.forall_mem_cons.mpr ⟨lw_p4, List.forall_mem_cons.mpr ⟨lw_p5, List.forall_mem_cons.mpr ⟨lw_p6, List.forall_mem_cons.mpr ⟨lw_p7, List.forall_mem_cons.mpr ⟨lw_p8, List.forall_mem_cons.mpr ⟨lw_p9, List.forall_mem_cons.mpr ⟨lw_p10, List.forall_mem_cons.mpr ⟨lw_p11, List.forall_mem_cons.mpr ⟨lw_p12, List.forall_mem_cons.mpr ⟨lw_p13, List.forall_mem_cons.mpr ⟨lw_p14, List.forall_mem_cons.mpr ⟨lw_p15, fun _ h => absurd h List.not_mem_nil⟩⟩⟩⟩⟩⟩⟩⟩⟩⟩⟩⟩⟩⟩⟩⟩
set_option maxRecDepth 8000 in
theorem lw_p16 : lw_okq (⟨"WarByHours$Reader", "sign", "()V"⟩, 9) := ⟨⟨by decide +kernel, by decide +kernel⟩, ck_1 (List.mem_of_getElem? (i := 139) rfl), ck_3 (List.mem_of_getElem? (i := 57) rfl), ck_3 (List.mem_of_getElem? (i := 58) rfl)⟩
set_option maxRecDepth 8000 in
theorem lw_p17 : lw_okq (⟨"WarByHours$Course", "isArrival", "(I)Z"⟩, 6) := ⟨⟨by decide +kernel, by decide +kernel⟩, ck_1 (List.mem_of_getElem? (i := 177) rfl), ck_3 (List.mem_of_getElem? (i := 229) rfl), ck_3 (List.mem_of_getElem? (i := 230) rfl)⟩
set_option maxRecDepth 8000 in
theorem lw_p18 : lw_okq (⟨"WarByHours$Course", "moveEnds", "(I)V"⟩, 6) := ⟨⟨by decide +kernel, by decide +kernel⟩, ck_1 (List.mem_of_getElem? (i := 177) rfl), ck_3 (List.mem_of_getElem? (i := 238) rfl), ck_3 (List.mem_of_getElem? (i := 239) rfl)⟩
set_option maxRecDepth 8000 in
theorem lw_p19 : lw_okq (⟨"WarByHours$Course", "takeMen", "(III)V"⟩, 6) := ⟨⟨by decide +kernel, by decide +kernel⟩, ck_1 (List.mem_of_getElem? (i := 177) rfl), ck_4 (List.mem_of_getElem? (i := 2) rfl), ck_4 (List.mem_of_getElem? (i := 3) rfl)⟩
set_option maxRecDepth 8000 in
theorem lw_p20 : lw_okq (⟨"WarByHours$Course", "findWinners", "()V"⟩, 6) := ⟨⟨by decide +kernel, by decide +kernel⟩, ck_1 (List.mem_of_getElem? (i := 177) rfl), ck_4 (List.mem_of_getElem? (i := 15) rfl), ck_4 (List.mem_of_getElem? (i := 16) rfl)⟩
set_option maxRecDepth 8000 in
theorem lw_p21 : lw_okq (⟨"WarByHours$Course", "reckonedWinner", "(I)I"⟩, 6) := ⟨⟨by decide +kernel, by decide +kernel⟩, ck_1 (List.mem_of_getElem? (i := 177) rfl), ck_4 (List.mem_of_getElem? (i := 43) rfl), ck_4 (List.mem_of_getElem? (i := 44) rfl)⟩
set_option maxRecDepth 8000 in
theorem lw_p22 : lw_okq (⟨"WarByHours$Course", "isIdle", "(I)Z"⟩, 6) := ⟨⟨by decide +kernel, by decide +kernel⟩, ck_1 (List.mem_of_getElem? (i := 177) rfl), ck_4 (List.mem_of_getElem? (i := 55) rfl), ck_4 (List.mem_of_getElem? (i := 56) rfl)⟩
set_option maxRecDepth 8000 in
theorem lw_p23 : lw_okq (⟨"WarByHours$Fares", "takeParts", "(I)V"⟩, 8) := ⟨⟨by decide +kernel, by decide +kernel⟩, ck_1 (List.mem_of_getElem? (i := 202) rfl), ck_4 (List.mem_of_getElem? (i := 71) rfl), ck_4 (List.mem_of_getElem? (i := 72) rfl)⟩
set_option maxRecDepth 8000 in
theorem lw_p24 : lw_okq (⟨"WarByHours$Fares", "mayBeLate", "(I)V"⟩, 8) := ⟨⟨by decide +kernel, by decide +kernel⟩, ck_1 (List.mem_of_getElem? (i := 202) rfl), ck_4 (List.mem_of_getElem? (i := 80) rfl), ck_4 (List.mem_of_getElem? (i := 81) rfl)⟩
set_option maxRecDepth 8000 in
theorem lw_p25 : lw_okq (⟨"WarByHours$Fares", "takePrices", "()V"⟩, 8) := ⟨⟨by decide +kernel, by decide +kernel⟩, ck_1 (List.mem_of_getElem? (i := 202) rfl), ck_4 (List.mem_of_getElem? (i := 131) rfl), ck_4 (List.mem_of_getElem? (i := 132) rfl)⟩
set_option maxRecDepth 8000 in
theorem lw_p26 : lw_okq (⟨"WarByHours$Fares", "fitByChance", "(II)V"⟩, 8) := ⟨⟨by decide +kernel, by decide +kernel⟩, ck_1 (List.mem_of_getElem? (i := 202) rfl), ck_4 (List.mem_of_getElem? (i := 135) rfl), ck_4 (List.mem_of_getElem? (i := 136) rfl)⟩
set_option maxRecDepth 8000 in
theorem lw_p27 : lw_okq (⟨"WarByHours$Fares", "cheapest", "(I)I"⟩, 8) := ⟨⟨by decide +kernel, by decide +kernel⟩, ck_1 (List.mem_of_getElem? (i := 202) rfl), ck_4 (List.mem_of_getElem? (i := 142) rfl), ck_4 (List.mem_of_getElem? (i := 143) rfl)⟩
set_option maxRecDepth 8000 in
theorem lw_p28 : lw_okq (⟨"WarByHours", "isRisk", "(II)Z"⟩, 11) := ⟨⟨by decide +kernel, by decide +kernel⟩, ck_1 (List.mem_of_getElem? (i := 23) rfl), ck_4 (List.mem_of_getElem? (i := 167) rfl), ck_4 (List.mem_of_getElem? (i := 168) rfl)⟩
set_option maxRecDepth 8000 in
theorem lw_p29 : lw_okq (⟨"WarByHours$Fares", "fitByDelays", "(I)V"⟩, 8) := ⟨⟨by decide +kernel, by decide +kernel⟩, ck_1 (List.mem_of_getElem? (i := 202) rfl), ck_4 (List.mem_of_getElem? (i := 187) rfl), ck_4 (List.mem_of_getElem? (i := 188) rfl)⟩
set_option maxRecDepth 8000 in
theorem lw_p30 : lw_okq (⟨"WarByHours$Fares", "orPriceless", "(I)I"⟩, 8) := ⟨⟨by decide +kernel, by decide +kernel⟩, ck_1 (List.mem_of_getElem? (i := 202) rfl), ck_4 (List.mem_of_getElem? (i := 204) rfl), ck_4 (List.mem_of_getElem? (i := 205) rfl)⟩
set_option maxRecDepth 8000 in
theorem lw_p31 : lw_okq (⟨"WarByHours", "isPurse", "(II)Z"⟩, 11) := ⟨⟨by decide +kernel, by decide +kernel⟩, ck_1 (List.mem_of_getElem? (i := 23) rfl), ck_4 (List.mem_of_getElem? (i := 217) rfl), ck_4 (List.mem_of_getElem? (i := 218) rfl)⟩
def lw_privs_2 : List (MethodName × Nat) := [(⟨"WarByHours$Reader", "sign", "()V"⟩, 9), (⟨"WarByHours$Course", "isArrival", "(I)Z"⟩, 6), (⟨"WarByHours$Course", "moveEnds", "(I)V"⟩, 6), (⟨"WarByHours$Course", "takeMen", "(III)V"⟩, 6), (⟨"WarByHours$Course", "findWinners", "()V"⟩, 6), (⟨"WarByHours$Course", "reckonedWinner", "(I)I"⟩, 6), (⟨"WarByHours$Course", "isIdle", "(I)Z"⟩, 6), (⟨"WarByHours$Fares", "takeParts", "(I)V"⟩, 8), (⟨"WarByHours$Fares", "mayBeLate", "(I)V"⟩, 8), (⟨"WarByHours$Fares", "takePrices", "()V"⟩, 8), (⟨"WarByHours$Fares", "fitByChance", "(II)V"⟩, 8), (⟨"WarByHours$Fares", "cheapest", "(I)I"⟩, 8), (⟨"WarByHours", "isRisk", "(II)Z"⟩, 11), (⟨"WarByHours$Fares", "fitByDelays", "(I)V"⟩, 8), (⟨"WarByHours$Fares", "orPriceless", "(I)I"⟩, 8), (⟨"WarByHours", "isPurse", "(II)Z"⟩, 11)]
theorem lw_r2 : ∀ q ∈ lw_privs_2, lw_okq q := List.forall_mem_cons.mpr ⟨lw_p16, List.forall_mem_cons.mpr ⟨lw_p17, List.forall_mem_cons.mpr ⟨lw_p18, List.forall_mem_cons.mpr ⟨lw_p19, List.forall_mem_cons.mpr ⟨lw_p20, List.forall_mem_cons.mpr ⟨lw_p21, List.forall_mem_cons.mpr ⟨lw_p22, List.forall_mem_cons.mpr ⟨lw_p23, List.forall_mem_cons.mpr ⟨lw_p24, List.forall_mem_cons.mpr ⟨lw_p25, List.forall_mem_cons.mpr ⟨lw_p26, List.forall_mem_cons.mpr ⟨lw_p27, List.forall_mem_cons.mpr ⟨lw_p28, List.forall_mem_cons.mpr ⟨lw_p29, List.forall_mem_cons.mpr ⟨lw_p30, List.forall_mem_cons.mpr ⟨lw_p31, fun _ h => absurd h List.not_mem_nil⟩⟩⟩⟩⟩⟩⟩⟩⟩⟩⟩⟩⟩⟩⟩⟩
set_option maxRecDepth 8000 in
theorem lw_p32 : lw_okq (⟨"WarByHours$Fares", "meetAnswers", "(II)V"⟩, 8) := ⟨⟨by decide +kernel, by decide +kernel⟩, ck_1 (List.mem_of_getElem? (i := 202) rfl), ck_4 (List.mem_of_getElem? (i := 239) rfl), ck_5 (List.mem_of_getElem? (i := 0) rfl)⟩
set_option maxRecDepth 8000 in
theorem lw_p33 : lw_okq (⟨"WarByHours$Fares", "isBought", "(III)Z"⟩, 8) := ⟨⟨by decide +kernel, by decide +kernel⟩, ck_1 (List.mem_of_getElem? (i := 202) rfl), ck_5 (List.mem_of_getElem? (i := 5) rfl), ck_5 (List.mem_of_getElem? (i := 6) rfl)⟩
set_option maxRecDepth 8000 in
theorem lw_p34 : lw_okq (⟨"WarByHours$Places", "meet", "(I)I"⟩, 5) := ⟨⟨by decide +kernel, by decide +kernel⟩, ck_1 (List.mem_of_getElem? (i := 235) rfl), ck_5 (List.mem_of_getElem? (i := 47) rfl), ck_5 (List.mem_of_getElem? (i := 48) rfl)⟩
set_option maxRecDepth 8000 in
theorem lw_p35 : lw_okq (⟨"WarByHours", "isPeaceMinute", "(I)Z"⟩, 11) := ⟨⟨by decide +kernel, by decide +kernel⟩, ck_1 (List.mem_of_getElem? (i := 23) rfl), ck_5 (List.mem_of_getElem? (i := 67) rfl), ck_5 (List.mem_of_getElem? (i := 68) rfl)⟩
set_option maxRecDepth 8000 in
theorem lw_p36 : lw_okq (⟨"WarByHours$Peace", "allReadings", "()I"⟩, 1) := ⟨⟨by decide +kernel, by decide +kernel⟩, ck_2 (List.mem_of_getElem? (i := 20) rfl), ck_5 (List.mem_of_getElem? (i := 75) rfl), ck_5 (List.mem_of_getElem? (i := 76) rfl)⟩
set_option maxRecDepth 8000 in
theorem lw_p37 : lw_okq (⟨"WarByHours$Peace", "isHeld", "(II)Z"⟩, 1) := ⟨⟨by decide +kernel, by decide +kernel⟩, ck_2 (List.mem_of_getElem? (i := 20) rfl), ck_5 (List.mem_of_getElem? (i := 79) rfl), ck_5 (List.mem_of_getElem? (i := 80) rfl)⟩
set_option maxRecDepth 8000 in
theorem lw_p38 : lw_okq (⟨"WarByHours$Suspects", "knownTo", "(I)I"⟩, 1) := ⟨⟨by decide +kernel, by decide +kernel⟩, ck_2 (List.mem_of_getElem? (i := 30) rfl), ck_5 (List.mem_of_getElem? (i := 143) rfl), ck_5 (List.mem_of_getElem? (i := 144) rfl)⟩
set_option maxRecDepth 8000 in
theorem lw_p39 : lw_okq (⟨"WarByHours$Cannon", "sortByMinute", "()V"⟩, 2) := ⟨⟨by decide +kernel, by decide +kernel⟩, ck_2 (List.mem_of_getElem? (i := 40) rfl), ck_5 (List.mem_of_getElem? (i := 190) rfl), ck_5 (List.mem_of_getElem? (i := 191) rfl)⟩
set_option maxRecDepth 8000 in
theorem lw_p40 : lw_okq (⟨"WarByHours$Cannon", "canStand", "(IZ)Z"⟩, 2) := ⟨⟨by decide +kernel, by decide +kernel⟩, ck_2 (List.mem_of_getElem? (i := 40) rfl), ck_5 (List.mem_of_getElem? (i := 200) rfl), ck_5 (List.mem_of_getElem? (i := 201) rfl)⟩
set_option maxRecDepth 8000 in
theorem lw_p41 : lw_okq (⟨"WarByHours$War", "toldNumber", "(II)I"⟩, 12) := ⟨⟨by decide +kernel, by decide +kernel⟩, ck_1 (List.mem_of_getElem? (i := 31) rfl), ck_6 (List.mem_of_getElem? (i := 13) rfl), ck_6 (List.mem_of_getElem? (i := 14) rfl)⟩
set_option maxRecDepth 8000 in
theorem lw_p42 : lw_okq (⟨"WarByHours$War", "setToldNumber", "(III)V"⟩, 12) := ⟨⟨by decide +kernel, by decide +kernel⟩, ck_1 (List.mem_of_getElem? (i := 31) rfl), ck_6 (List.mem_of_getElem? (i := 21) rfl), ck_6 (List.mem_of_getElem? (i := 22) rfl)⟩
set_option maxRecDepth 8000 in
theorem lw_p43 : lw_okq (⟨"WarByHours", "isSeed", "(I)Z"⟩, 11) := ⟨⟨by decide +kernel, by decide +kernel⟩, ck_1 (List.mem_of_getElem? (i := 23) rfl), ck_6 (List.mem_of_getElem? (i := 46) rfl), ck_6 (List.mem_of_getElem? (i := 47) rfl)⟩
set_option maxRecDepth 8000 in
theorem lw_p44 : lw_okq (⟨"WarByHours$Slots", "isWithin", "(III)Z"⟩, 4) := ⟨⟨by decide +kernel, by decide +kernel⟩, ck_2 (List.mem_of_getElem? (i := 53) rfl), ck_6 (List.mem_of_getElem? (i := 118) rfl), ck_6 (List.mem_of_getElem? (i := 119) rfl)⟩
set_option maxRecDepth 8000 in
theorem lw_p45 : lw_okq (⟨"WarByHoursModel", "advance", "()V"⟩, 32) := ⟨⟨by decide +kernel, by decide +kernel⟩, ck_6 (List.mem_of_getElem? (i := 123) rfl), ck_7 (List.mem_of_getElem? (i := 13) rfl), ck_7 (List.mem_of_getElem? (i := 14) rfl)⟩
set_option maxRecDepth 8000 in
theorem lw_p46 : lw_okq (⟨"WarByHoursModel", "see", "(I)I"⟩, 32) := ⟨⟨by decide +kernel, by decide +kernel⟩, ck_6 (List.mem_of_getElem? (i := 123) rfl), ck_7 (List.mem_of_getElem? (i := 17) rfl), ck_7 (List.mem_of_getElem? (i := 18) rfl)⟩
set_option maxRecDepth 8000 in
theorem lw_p47 : lw_okq (⟨"WarByHoursModel", "good", "()Z"⟩, 32) := ⟨⟨by decide +kernel, by decide +kernel⟩, ck_6 (List.mem_of_getElem? (i := 123) rfl), ck_7 (List.mem_of_getElem? (i := 27) rfl), ck_7 (List.mem_of_getElem? (i := 28) rfl)⟩
def lw_privs_3 : List (MethodName × Nat) := [(⟨"WarByHours$Fares", "meetAnswers", "(II)V"⟩, 8), (⟨"WarByHours$Fares", "isBought", "(III)Z"⟩, 8), (⟨"WarByHours$Places", "meet", "(I)I"⟩, 5), (⟨"WarByHours", "isPeaceMinute", "(I)Z"⟩, 11), (⟨"WarByHours$Peace", "allReadings", "()I"⟩, 1), (⟨"WarByHours$Peace", "isHeld", "(II)Z"⟩, 1), (⟨"WarByHours$Suspects", "knownTo", "(I)I"⟩, 1), (⟨"WarByHours$Cannon", "sortByMinute", "()V"⟩, 2), (⟨"WarByHours$Cannon", "canStand", "(IZ)Z"⟩, 2), (⟨"WarByHours$War", "toldNumber", "(II)I"⟩, 12), (⟨"WarByHours$War", "setToldNumber", "(III)V"⟩, 12), (⟨"WarByHours", "isSeed", "(I)Z"⟩, 11), (⟨"WarByHours$Slots", "isWithin", "(III)Z"⟩, 4), (⟨"WarByHoursModel", "advance", "()V"⟩, 32), (⟨"WarByHoursModel", "see", "(I)I"⟩, 32), (⟨"WarByHoursModel", "good", "()Z"⟩, 32)]
theorem lw_r3 : ∀ q ∈ lw_privs_3, lw_okq q := List.forall_mem_cons.mpr ⟨lw_p32, List.forall_mem_cons.mpr ⟨lw_p33, List.forall_mem_cons.mpr ⟨lw_p34, List.forall_mem_cons.mpr ⟨lw_p35, List.forall_mem_cons.mpr ⟨lw_p36, List.forall_mem_cons.mpr ⟨lw_p37, List.forall_mem_cons.mpr ⟨lw_p38, List.forall_mem_cons.mpr ⟨lw_p39, List.forall_mem_cons.mpr ⟨lw_p40, List.forall_mem_cons.mpr ⟨lw_p41, List.forall_mem_cons.mpr ⟨lw_p42, List.forall_mem_cons.mpr ⟨lw_p43, List.forall_mem_cons.mpr ⟨lw_p44, List.forall_mem_cons.mpr ⟨lw_p45, List.forall_mem_cons.mpr ⟨lw_p46, List.forall_mem_cons.mpr ⟨lw_p47, fun _ h => absurd h List.not_mem_nil⟩⟩⟩⟩⟩⟩⟩⟩⟩⟩⟩⟩⟩⟩⟩⟩
set_option maxRecDepth 8000 in
theorem lw_p48 : lw_okq (⟨"WarByHoursModel", "readLine", "()V"⟩, 32) := ⟨⟨by decide +kernel, by decide +kernel⟩, ck_6 (List.mem_of_getElem? (i := 123) rfl), ck_7 (List.mem_of_getElem? (i := 31) rfl), ck_7 (List.mem_of_getElem? (i := 32) rfl)⟩
set_option maxRecDepth 8000 in
theorem lw_p49 : lw_okq (⟨"WarByHoursModel", "readFirst", "()V"⟩, 32) := ⟨⟨by decide +kernel, by decide +kernel⟩, ck_6 (List.mem_of_getElem? (i := 123) rfl), ck_7 (List.mem_of_getElem? (i := 35) rfl), ck_7 (List.mem_of_getElem? (i := 36) rfl)⟩
set_option maxRecDepth 8000 in
theorem lw_p50 : lw_okq (⟨"WarByHoursModel", "needs", "(Ljava/lang/String;)V"⟩, 32) := ⟨⟨by decide +kernel, by decide +kernel⟩, ck_6 (List.mem_of_getElem? (i := 123) rfl), ck_7 (List.mem_of_getElem? (i := 40) rfl), ck_7 (List.mem_of_getElem? (i := 41) rfl)⟩
set_option maxRecDepth 8000 in
theorem lw_p51 : lw_okq (⟨"WarByHoursModel", "takes", "(Ljava/lang/String;)Z"⟩, 32) := ⟨⟨by decide +kernel, by decide +kernel⟩, ck_6 (List.mem_of_getElem? (i := 123) rfl), ck_7 (List.mem_of_getElem? (i := 44) rfl), ck_7 (List.mem_of_getElem? (i := 45) rfl)⟩
set_option maxRecDepth 8000 in
theorem lw_p52 : lw_okq (⟨"WarByHoursModel", "is", "(Ljava/lang/String;)Z"⟩, 32) := ⟨⟨by decide +kernel, by decide +kernel⟩, ck_6 (List.mem_of_getElem? (i := 123) rfl), ck_7 (List.mem_of_getElem? (i := 48) rfl), ck_7 (List.mem_of_getElem? (i := 49) rfl)⟩
set_option maxRecDepth 8000 in
theorem lw_p53 : lw_okq (⟨"WarByHoursModel", "errs", "(I)V"⟩, 32) := ⟨⟨by decide +kernel, by decide +kernel⟩, ck_6 (List.mem_of_getElem? (i := 123) rfl), ck_7 (List.mem_of_getElem? (i := 54) rfl), ck_7 (List.mem_of_getElem? (i := 55) rfl)⟩
set_option maxRecDepth 8000 in
theorem lw_p54 : lw_okq (⟨"WarByHoursModel", "told", "(Ljava/lang/String;II)I"⟩, 32) := ⟨⟨by decide +kernel, by decide +kernel⟩, ck_6 (List.mem_of_getElem? (i := 123) rfl), ck_7 (List.mem_of_getElem? (i := 59) rfl), ck_7 (List.mem_of_getElem? (i := 60) rfl)⟩
set_option maxRecDepth 8000 in
theorem lw_p55 : lw_okq (⟨"WarByHoursModel", "number", "(II)I"⟩, 32) := ⟨⟨by decide +kernel, by decide +kernel⟩, ck_6 (List.mem_of_getElem? (i := 123) rfl), ck_7 (List.mem_of_getElem? (i := 63) rfl), ck_7 (List.mem_of_getElem? (i := 64) rfl)⟩
set_option maxRecDepth 8000 in
theorem lw_p56 : lw_okq (⟨"WarByHoursModel", "readNext", "()V"⟩, 32) := ⟨⟨by decide +kernel, by decide +kernel⟩, ck_6 (List.mem_of_getElem? (i := 123) rfl), ck_7 (List.mem_of_getElem? (i := 70) rfl), ck_7 (List.mem_of_getElem? (i := 71) rfl)⟩
set_option maxRecDepth 8000 in
theorem lw_p57 : lw_okq (⟨"WarByHoursModel", "readNeed", "()V"⟩, 32) := ⟨⟨by decide +kernel, by decide +kernel⟩, ck_6 (List.mem_of_getElem? (i := 123) rfl), ck_7 (List.mem_of_getElem? (i := 80) rfl), ck_7 (List.mem_of_getElem? (i := 81) rfl)⟩
set_option maxRecDepth 8000 in
theorem lw_p58 : lw_okq (⟨"WarByHoursModel", "readTrain", "()V"⟩, 32) := ⟨⟨by decide +kernel, by decide +kernel⟩, ck_6 (List.mem_of_getElem? (i := 123) rfl), ck_7 (List.mem_of_getElem? (i := 84) rfl), ck_7 (List.mem_of_getElem? (i := 85) rfl)⟩
set_option maxRecDepth 8000 in
theorem lw_p59 : lw_okq (⟨"WarByHoursModel", "readBounds", "(I)V"⟩, 32) := ⟨⟨by decide +kernel, by decide +kernel⟩, ck_6 (List.mem_of_getElem? (i := 123) rfl), ck_7 (List.mem_of_getElem? (i := 93) rfl), ck_7 (List.mem_of_getElem? (i := 94) rfl)⟩
set_option maxRecDepth 8000 in
theorem lw_p60 : lw_okq (⟨"WarByHoursModel", "readAsk", "()V"⟩, 32) := ⟨⟨by decide +kernel, by decide +kernel⟩, ck_6 (List.mem_of_getElem? (i := 123) rfl), ck_7 (List.mem_of_getElem? (i := 98) rfl), ck_7 (List.mem_of_getElem? (i := 99) rfl)⟩
set_option maxRecDepth 8000 in
theorem lw_p61 : lw_okq (⟨"WarByHoursModel", "readSpy", "()V"⟩, 32) := ⟨⟨by decide +kernel, by decide +kernel⟩, ck_6 (List.mem_of_getElem? (i := 123) rfl), ck_7 (List.mem_of_getElem? (i := 105) rfl), ck_7 (List.mem_of_getElem? (i := 106) rfl)⟩
set_option maxRecDepth 8000 in
theorem lw_p62 : lw_okq (⟨"WarByHoursModel", "isTrain", "(I)Z"⟩, 32) := ⟨⟨by decide +kernel, by decide +kernel⟩, ck_6 (List.mem_of_getElem? (i := 123) rfl), ck_7 (List.mem_of_getElem? (i := 114) rfl), ck_7 (List.mem_of_getElem? (i := 115) rfl)⟩
set_option maxRecDepth 8000 in
theorem lw_p63 : lw_okq (⟨"WarByHoursModel", "of", "(II)I"⟩, 32) := ⟨⟨by decide +kernel, by decide +kernel⟩, ck_6 (List.mem_of_getElem? (i := 123) rfl), ck_7 (List.mem_of_getElem? (i := 119) rfl), ck_7 (List.mem_of_getElem? (i := 120) rfl)⟩
def lw_privs_4 : List (MethodName × Nat) := [(⟨"WarByHoursModel", "readLine", "()V"⟩, 32), (⟨"WarByHoursModel", "readFirst", "()V"⟩, 32), (⟨"WarByHoursModel", "needs", "(Ljava/lang/String;)V"⟩, 32), (⟨"WarByHoursModel", "takes", "(Ljava/lang/String;)Z"⟩, 32), (⟨"WarByHoursModel", "is", "(Ljava/lang/String;)Z"⟩, 32), (⟨"WarByHoursModel", "errs", "(I)V"⟩, 32), (⟨"WarByHoursModel", "told", "(Ljava/lang/String;II)I"⟩, 32), (⟨"WarByHoursModel", "number", "(II)I"⟩, 32), (⟨"WarByHoursModel", "readNext", "()V"⟩, 32), (⟨"WarByHoursModel", "readNeed", "()V"⟩, 32), (⟨"WarByHoursModel", "readTrain", "()V"⟩, 32), (⟨"WarByHoursModel", "readBounds", "(I)V"⟩, 32), (⟨"WarByHoursModel", "readAsk", "()V"⟩, 32), (⟨"WarByHoursModel", "readSpy", "()V"⟩, 32), (⟨"WarByHoursModel", "isTrain", "(I)Z"⟩, 32), (⟨"WarByHoursModel", "of", "(II)I"⟩, 32)]
theorem lw_r4 : ∀ q ∈ lw_privs_4, lw_okq q := List.forall_mem_cons.mpr ⟨lw_p48, List.forall_mem_cons.mpr ⟨lw_p49, List.forall_mem_cons.mpr ⟨lw_p50, List.forall_mem_cons.mpr ⟨lw_p51, List.forall_mem_cons.mpr ⟨lw_p52, List.forall_mem_cons.mpr ⟨lw_p53, List.forall_mem_cons.mpr ⟨lw_p54, List.forall_mem_cons.mpr ⟨lw_p55, List.forall_mem_cons.mpr ⟨lw_p56, List.forall_mem_cons.mpr ⟨lw_p57, List.forall_mem_cons.mpr ⟨lw_p58, List.forall_mem_cons.mpr ⟨lw_p59, List.forall_mem_cons.mpr ⟨lw_p60, List.forall_mem_cons.mpr ⟨lw_p61, List.forall_mem_cons.mpr ⟨lw_p62, List.forall_mem_cons.mpr ⟨lw_p63, fun _ h => absurd h List.not_mem_nil⟩⟩⟩⟩⟩⟩⟩⟩⟩⟩⟩⟩⟩⟩⟩⟩
set_option maxRecDepth 8000 in
theorem lw_p64 : lw_okq (⟨"WarByHoursModel", "isSide", "(I)Z"⟩, 32) := ⟨⟨by decide +kernel, by decide +kernel⟩, ck_6 (List.mem_of_getElem? (i := 123) rfl), ck_7 (List.mem_of_getElem? (i := 127) rfl), ck_7 (List.mem_of_getElem? (i := 128) rfl)⟩
set_option maxRecDepth 8000 in
theorem lw_p65 : lw_okq (⟨"WarByHoursModel", "isWar", "()Z"⟩, 32) := ⟨⟨by decide +kernel, by decide +kernel⟩, ck_6 (List.mem_of_getElem? (i := 123) rfl), ck_7 (List.mem_of_getElem? (i := 131) rfl), ck_7 (List.mem_of_getElem? (i := 132) rfl)⟩
set_option maxRecDepth 8000 in
theorem lw_p66 : lw_okq (⟨"WarByHoursModel", "isTea", "(I)Z"⟩, 32) := ⟨⟨by decide +kernel, by decide +kernel⟩, ck_6 (List.mem_of_getElem? (i := 123) rfl), ck_7 (List.mem_of_getElem? (i := 139) rfl), ck_7 (List.mem_of_getElem? (i := 140) rfl)⟩
set_option maxRecDepth 8000 in
theorem lw_p67 : lw_okq (⟨"WarByHoursModel", "areTrains", "(I)Z"⟩, 32) := ⟨⟨by decide +kernel, by decide +kernel⟩, ck_6 (List.mem_of_getElem? (i := 123) rfl), ck_7 (List.mem_of_getElem? (i := 164) rfl), ck_7 (List.mem_of_getElem? (i := 165) rfl)⟩
set_option maxRecDepth 8000 in
theorem lw_p68 : lw_okq (⟨"WarByHoursModel", "allTrains", "()I"⟩, 32) := ⟨⟨by decide +kernel, by decide +kernel⟩, ck_6 (List.mem_of_getElem? (i := 123) rfl), ck_7 (List.mem_of_getElem? (i := 168) rfl), ck_7 (List.mem_of_getElem? (i := 169) rfl)⟩
set_option maxRecDepth 8000 in
theorem lw_p69 : lw_okq (⟨"WarByHoursModel", "menOf", "(III)I"⟩, 32) := ⟨⟨by decide +kernel, by decide +kernel⟩, ck_6 (List.mem_of_getElem? (i := 123) rfl), ck_7 (List.mem_of_getElem? (i := 172) rfl), ck_7 (List.mem_of_getElem? (i := 173) rfl)⟩
set_option maxRecDepth 8000 in
theorem lw_p70 : lw_okq (⟨"WarByHoursModel", "comesAt", "(II)I"⟩, 32) := ⟨⟨by decide +kernel, by decide +kernel⟩, ck_6 (List.mem_of_getElem? (i := 123) rfl), ck_7 (List.mem_of_getElem? (i := 176) rfl), ck_7 (List.mem_of_getElem? (i := 177) rfl)⟩
set_option maxRecDepth 8000 in
theorem lw_p71 : lw_okq (⟨"WarByHoursModel", "frontOf", "(II)I"⟩, 32) := ⟨⟨by decide +kernel, by decide +kernel⟩, ck_6 (List.mem_of_getElem? (i := 123) rfl), ck_7 (List.mem_of_getElem? (i := 187) rfl), ck_7 (List.mem_of_getElem? (i := 188) rfl)⟩
set_option maxRecDepth 8000 in
theorem lw_p72 : lw_okq (⟨"WarByHoursModel", "isLate", "(II)Z"⟩, 32) := ⟨⟨by decide +kernel, by decide +kernel⟩, ck_6 (List.mem_of_getElem? (i := 123) rfl), ck_7 (List.mem_of_getElem? (i := 195) rfl), ck_7 (List.mem_of_getElem? (i := 196) rfl)⟩
set_option maxRecDepth 8000 in
theorem lw_p73 : lw_okq (⟨"WarByHoursModel", "winner", "(I)I"⟩, 32) := ⟨⟨by decide +kernel, by decide +kernel⟩, ck_6 (List.mem_of_getElem? (i := 123) rfl), ck_7 (List.mem_of_getElem? (i := 203) rfl), ck_7 (List.mem_of_getElem? (i := 204) rfl)⟩
set_option maxRecDepth 8000 in
theorem lw_p74 : lw_okq (⟨"WarByHoursModel", "lastFront", "(I)I"⟩, 32) := ⟨⟨by decide +kernel, by decide +kernel⟩, ck_6 (List.mem_of_getElem? (i := 123) rfl), ck_7 (List.mem_of_getElem? (i := 207) rfl), ck_7 (List.mem_of_getElem? (i := 208) rfl)⟩
set_option maxRecDepth 8000 in
theorem lw_p75 : lw_okq (⟨"WarByHoursModel", "worstOf", "(I)I"⟩, 32) := ⟨⟨by decide +kernel, by decide +kernel⟩, ck_6 (List.mem_of_getElem? (i := 123) rfl), ck_7 (List.mem_of_getElem? (i := 239) rfl), ck_8 (List.mem_of_getElem? (i := 0) rfl)⟩
set_option maxRecDepth 8000 in
theorem lw_p76 : lw_okq (⟨"WarByHoursModel", "oftenOf", "(I)J"⟩, 32) := ⟨⟨by decide +kernel, by decide +kernel⟩, ck_6 (List.mem_of_getElem? (i := 123) rfl), ck_8 (List.mem_of_getElem? (i := 23) rfl), ck_8 (List.mem_of_getElem? (i := 24) rfl)⟩
set_option maxRecDepth 8000 in
theorem lw_p77 : lw_okq (⟨"WarByHoursModel", "allOften", "()J"⟩, 32) := ⟨⟨by decide +kernel, by decide +kernel⟩, ck_6 (List.mem_of_getElem? (i := 123) rfl), ck_8 (List.mem_of_getElem? (i := 27) rfl), ck_8 (List.mem_of_getElem? (i := 28) rfl)⟩
set_option maxRecDepth 8000 in
theorem lw_p78 : lw_okq (⟨"WarByHoursModel", "findSend", "(IZ)V"⟩, 32) := ⟨⟨by decide +kernel, by decide +kernel⟩, ck_6 (List.mem_of_getElem? (i := 123) rfl), ck_8 (List.mem_of_getElem? (i := 46) rfl), ck_8 (List.mem_of_getElem? (i := 47) rfl)⟩
set_option maxRecDepth 8000 in
theorem lw_p79 : lw_okq (⟨"WarByHoursModel", "trainsOf", "(I)I"⟩, 32) := ⟨⟨by decide +kernel, by decide +kernel⟩, ck_6 (List.mem_of_getElem? (i := 123) rfl), ck_8 (List.mem_of_getElem? (i := 50) rfl), ck_8 (List.mem_of_getElem? (i := 51) rfl)⟩
def lw_privs_5 : List (MethodName × Nat) := [(⟨"WarByHoursModel", "isSide", "(I)Z"⟩, 32), (⟨"WarByHoursModel", "isWar", "()Z"⟩, 32), (⟨"WarByHoursModel", "isTea", "(I)Z"⟩, 32), (⟨"WarByHoursModel", "areTrains", "(I)Z"⟩, 32), (⟨"WarByHoursModel", "allTrains", "()I"⟩, 32), (⟨"WarByHoursModel", "menOf", "(III)I"⟩, 32), (⟨"WarByHoursModel", "comesAt", "(II)I"⟩, 32), (⟨"WarByHoursModel", "frontOf", "(II)I"⟩, 32), (⟨"WarByHoursModel", "isLate", "(II)Z"⟩, 32), (⟨"WarByHoursModel", "winner", "(I)I"⟩, 32), (⟨"WarByHoursModel", "lastFront", "(I)I"⟩, 32), (⟨"WarByHoursModel", "worstOf", "(I)I"⟩, 32), (⟨"WarByHoursModel", "oftenOf", "(I)J"⟩, 32), (⟨"WarByHoursModel", "allOften", "()J"⟩, 32), (⟨"WarByHoursModel", "findSend", "(IZ)V"⟩, 32), (⟨"WarByHoursModel", "trainsOf", "(I)I"⟩, 32)]
theorem lw_r5 : ∀ q ∈ lw_privs_5, lw_okq q := List.forall_mem_cons.mpr ⟨lw_p64, List.forall_mem_cons.mpr ⟨lw_p65, List.forall_mem_cons.mpr ⟨lw_p66, List.forall_mem_cons.mpr ⟨lw_p67, List.forall_mem_cons.mpr ⟨lw_p68, List.forall_mem_cons.mpr ⟨lw_p69, List.forall_mem_cons.mpr ⟨lw_p70, List.forall_mem_cons.mpr ⟨lw_p71, List.forall_mem_cons.mpr ⟨lw_p72, List.forall_mem_cons.mpr ⟨lw_p73, List.forall_mem_cons.mpr ⟨lw_p74, List.forall_mem_cons.mpr ⟨lw_p75, List.forall_mem_cons.mpr ⟨lw_p76, List.forall_mem_cons.mpr ⟨lw_p77, List.forall_mem_cons.mpr ⟨lw_p78, List.forall_mem_cons.mpr ⟨lw_p79, fun _ h => absurd h List.not_mem_nil⟩⟩⟩⟩⟩⟩⟩⟩⟩⟩⟩⟩⟩⟩⟩⟩
set_option maxRecDepth 8000 in
theorem lw_p80 : lw_okq (⟨"WarByHoursModel", "isSurely", "(II)Z"⟩, 32) := ⟨⟨by decide +kernel, by decide +kernel⟩, ck_6 (List.mem_of_getElem? (i := 123) rfl), ck_8 (List.mem_of_getElem? (i := 54) rfl), ck_8 (List.mem_of_getElem? (i := 55) rfl)⟩
set_option maxRecDepth 8000 in
theorem lw_p81 : lw_okq (⟨"WarByHoursModel", "menSent", "(II)I"⟩, 32) := ⟨⟨by decide +kernel, by decide +kernel⟩, ck_6 (List.mem_of_getElem? (i := 123) rfl), ck_8 (List.mem_of_getElem? (i := 58) rfl), ck_8 (List.mem_of_getElem? (i := 59) rfl)⟩
set_option maxRecDepth 8000 in
theorem lw_p82 : lw_okq (⟨"WarByHoursModel", "priceOf", "(I)I"⟩, 32) := ⟨⟨by decide +kernel, by decide +kernel⟩, ck_6 (List.mem_of_getElem? (i := 123) rfl), ck_8 (List.mem_of_getElem? (i := 62) rfl), ck_8 (List.mem_of_getElem? (i := 63) rfl)⟩
set_option maxRecDepth 8000 in
theorem lw_p83 : lw_okq (⟨"WarByHoursModel", "take", "(II)V"⟩, 32) := ⟨⟨by decide +kernel, by decide +kernel⟩, ck_6 (List.mem_of_getElem? (i := 123) rfl), ck_8 (List.mem_of_getElem? (i := 66) rfl), ck_8 (List.mem_of_getElem? (i := 67) rfl)⟩
set_option maxRecDepth 8000 in
theorem lw_p84 : lw_okq (⟨"WarByHoursModel", "orNone", "()I"⟩, 32) := ⟨⟨by decide +kernel, by decide +kernel⟩, ck_6 (List.mem_of_getElem? (i := 123) rfl), ck_8 (List.mem_of_getElem? (i := 70) rfl), ck_8 (List.mem_of_getElem? (i := 71) rfl)⟩
set_option maxRecDepth 8000 in
theorem lw_p85 : lw_okq (⟨"WarByHoursModel", "findRisk", "(II)V"⟩, 32) := ⟨⟨by decide +kernel, by decide +kernel⟩, ck_6 (List.mem_of_getElem? (i := 123) rfl), ck_8 (List.mem_of_getElem? (i := 86) rfl), ck_8 (List.mem_of_getElem? (i := 87) rfl)⟩
set_option maxRecDepth 8000 in
theorem lw_p86 : lw_okq (⟨"WarByHoursModel", "enoughBy", "(II)J"⟩, 32) := ⟨⟨by decide +kernel, by decide +kernel⟩, ck_6 (List.mem_of_getElem? (i := 123) rfl), ck_8 (List.mem_of_getElem? (i := 90) rfl), ck_8 (List.mem_of_getElem? (i := 91) rfl)⟩
set_option maxRecDepth 8000 in
theorem lw_p87 : lw_okq (⟨"WarByHoursModel", "isOften", "(JI)Z"⟩, 32) := ⟨⟨by decide +kernel, by decide +kernel⟩, ck_6 (List.mem_of_getElem? (i := 123) rfl), ck_8 (List.mem_of_getElem? (i := 94) rfl), ck_8 (List.mem_of_getElem? (i := 95) rfl)⟩
set_option maxRecDepth 8000 in
theorem lw_p88 : lw_okq (⟨"WarByHoursModel", "findBribe", "(II)V"⟩, 32) := ⟨⟨by decide +kernel, by decide +kernel⟩, ck_6 (List.mem_of_getElem? (i := 123) rfl), ck_8 (List.mem_of_getElem? (i := 106) rfl), ck_8 (List.mem_of_getElem? (i := 107) rfl)⟩
set_option maxRecDepth 8000 in
theorem lw_p89 : lw_okq (⟨"WarByHoursModel", "guardOf", "(I)I"⟩, 32) := ⟨⟨by decide +kernel, by decide +kernel⟩, ck_6 (List.mem_of_getElem? (i := 123) rfl), ck_8 (List.mem_of_getElem? (i := 118) rfl), ck_8 (List.mem_of_getElem? (i := 119) rfl)⟩
set_option maxRecDepth 8000 in
theorem lw_p90 : lw_okq (⟨"WarByHoursModel", "spoilOf", "(II)I"⟩, 32) := ⟨⟨by decide +kernel, by decide +kernel⟩, ck_6 (List.mem_of_getElem? (i := 123) rfl), ck_8 (List.mem_of_getElem? (i := 134) rfl), ck_8 (List.mem_of_getElem? (i := 135) rfl)⟩
set_option maxRecDepth 8000 in
theorem lw_p91 : lw_okq (⟨"WarByHoursModel", "fillFronts", "()V"⟩, 32) := ⟨⟨by decide +kernel, by decide +kernel⟩, ck_6 (List.mem_of_getElem? (i := 123) rfl), ck_8 (List.mem_of_getElem? (i := 138) rfl), ck_8 (List.mem_of_getElem? (i := 139) rfl)⟩
set_option maxRecDepth 8000 in
theorem lw_p92 : lw_okq (⟨"WarByHoursModel", "isBought", "(III)Z"⟩, 32) := ⟨⟨by decide +kernel, by decide +kernel⟩, ck_6 (List.mem_of_getElem? (i := 123) rfl), ck_8 (List.mem_of_getElem? (i := 142) rfl), ck_8 (List.mem_of_getElem? (i := 143) rfl)⟩
set_option maxRecDepth 8000 in
theorem lw_p93 : lw_okq (⟨"WarByHoursModel", "bestGood", "(III)I"⟩, 32) := ⟨⟨by decide +kernel, by decide +kernel⟩, ck_6 (List.mem_of_getElem? (i := 123) rfl), ck_8 (List.mem_of_getElem? (i := 154) rfl), ck_8 (List.mem_of_getElem? (i := 155) rfl)⟩
set_option maxRecDepth 8000 in
theorem lw_p94 : lw_okq (⟨"WarByHoursModel", "holdOf", "(II)I"⟩, 32) := ⟨⟨by decide +kernel, by decide +kernel⟩, ck_6 (List.mem_of_getElem? (i := 123) rfl), ck_8 (List.mem_of_getElem? (i := 172) rfl), ck_8 (List.mem_of_getElem? (i := 173) rfl)⟩
set_option maxRecDepth 8000 in
theorem lw_p95 : lw_okq (⟨"WarByHoursModel", "heldBy", "(I)I"⟩, 32) := ⟨⟨by decide +kernel, by decide +kernel⟩, ck_6 (List.mem_of_getElem? (i := 123) rfl), ck_8 (List.mem_of_getElem? (i := 176) rfl), ck_8 (List.mem_of_getElem? (i := 177) rfl)⟩
def lw_privs_6 : List (MethodName × Nat) := [(⟨"WarByHoursModel", "isSurely", "(II)Z"⟩, 32), (⟨"WarByHoursModel", "menSent", "(II)I"⟩, 32), (⟨"WarByHoursModel", "priceOf", "(I)I"⟩, 32), (⟨"WarByHoursModel", "take", "(II)V"⟩, 32), (⟨"WarByHoursModel", "orNone", "()I"⟩, 32), (⟨"WarByHoursModel", "findRisk", "(II)V"⟩, 32), (⟨"WarByHoursModel", "enoughBy", "(II)J"⟩, 32), (⟨"WarByHoursModel", "isOften", "(JI)Z"⟩, 32), (⟨"WarByHoursModel", "findBribe", "(II)V"⟩, 32), (⟨"WarByHoursModel", "guardOf", "(I)I"⟩, 32), (⟨"WarByHoursModel", "spoilOf", "(II)I"⟩, 32), (⟨"WarByHoursModel", "fillFronts", "()V"⟩, 32), (⟨"WarByHoursModel", "isBought", "(III)Z"⟩, 32), (⟨"WarByHoursModel", "bestGood", "(III)I"⟩, 32), (⟨"WarByHoursModel", "holdOf", "(II)I"⟩, 32), (⟨"WarByHoursModel", "heldBy", "(I)I"⟩, 32)]
theorem lw_r6 : ∀ q ∈ lw_privs_6, lw_okq q := List.forall_mem_cons.mpr ⟨lw_p80, List.forall_mem_cons.mpr ⟨lw_p81, List.forall_mem_cons.mpr ⟨lw_p82, List.forall_mem_cons.mpr ⟨lw_p83, List.forall_mem_cons.mpr ⟨lw_p84, List.forall_mem_cons.mpr ⟨lw_p85, List.forall_mem_cons.mpr ⟨lw_p86, List.forall_mem_cons.mpr ⟨lw_p87, List.forall_mem_cons.mpr ⟨lw_p88, List.forall_mem_cons.mpr ⟨lw_p89, List.forall_mem_cons.mpr ⟨lw_p90, List.forall_mem_cons.mpr ⟨lw_p91, List.forall_mem_cons.mpr ⟨lw_p92, List.forall_mem_cons.mpr ⟨lw_p93, List.forall_mem_cons.mpr ⟨lw_p94, List.forall_mem_cons.mpr ⟨lw_p95, fun _ h => absurd h List.not_mem_nil⟩⟩⟩⟩⟩⟩⟩⟩⟩⟩⟩⟩⟩⟩⟩⟩
set_option maxRecDepth 8000 in
theorem lw_p96 : lw_okq (⟨"WarByHoursModel", "isSigned", "(I)Z"⟩, 32) := ⟨⟨by decide +kernel, by decide +kernel⟩, ck_6 (List.mem_of_getElem? (i := 123) rfl), ck_8 (List.mem_of_getElem? (i := 195) rfl), ck_8 (List.mem_of_getElem? (i := 196) rfl)⟩
set_option maxRecDepth 8000 in
theorem lw_p97 : lw_okq (⟨"WarByHoursModel", "readingsOf", "(I)I"⟩, 32) := ⟨⟨by decide +kernel, by decide +kernel⟩, ck_6 (List.mem_of_getElem? (i := 123) rfl), ck_8 (List.mem_of_getElem? (i := 200) rfl), ck_8 (List.mem_of_getElem? (i := 201) rfl)⟩
set_option maxRecDepth 8000 in
theorem lw_p98 : lw_okq (⟨"WarByHoursModel", "allReadings", "()I"⟩, 32) := ⟨⟨by decide +kernel, by decide +kernel⟩, ck_6 (List.mem_of_getElem? (i := 123) rfl), ck_8 (List.mem_of_getElem? (i := 204) rfl), ck_8 (List.mem_of_getElem? (i := 205) rfl)⟩
set_option maxRecDepth 8000 in
theorem lw_p99 : lw_okq (⟨"WarByHoursModel", "holdsBy", "(II)Z"⟩, 32) := ⟨⟨by decide +kernel, by decide +kernel⟩, ck_6 (List.mem_of_getElem? (i := 123) rfl), ck_8 (List.mem_of_getElem? (i := 208) rfl), ck_8 (List.mem_of_getElem? (i := 209) rfl)⟩
set_option maxRecDepth 8000 in
theorem lw_p100 : lw_okq (⟨"WarByHoursModel", "closedOf", "(I)I"⟩, 32) := ⟨⟨by decide +kernel, by decide +kernel⟩, ck_6 (List.mem_of_getElem? (i := 123) rfl), ck_8 (List.mem_of_getElem? (i := 220) rfl), ck_8 (List.mem_of_getElem? (i := 221) rfl)⟩
set_option maxRecDepth 8000 in
theorem lw_p101 : lw_okq (⟨"WarByHoursModel", "isTreaty", "(II)Z"⟩, 32) := ⟨⟨by decide +kernel, by decide +kernel⟩, ck_6 (List.mem_of_getElem? (i := 123) rfl), ck_8 (List.mem_of_getElem? (i := 236) rfl), ck_8 (List.mem_of_getElem? (i := 237) rfl)⟩
set_option maxRecDepth 8000 in
theorem lw_p102 : lw_okq (⟨"WarByHoursModel", "spiesBy", "(I)I"⟩, 32) := ⟨⟨by decide +kernel, by decide +kernel⟩, ck_6 (List.mem_of_getElem? (i := 123) rfl), ck_9 (List.mem_of_getElem? (i := 9) rfl), ck_9 (List.mem_of_getElem? (i := 10) rfl)⟩
set_option maxRecDepth 8000 in
theorem lw_p103 : lw_okq (⟨"WarByHoursModel", "watchOf", "(I)I"⟩, 32) := ⟨⟨by decide +kernel, by decide +kernel⟩, ck_6 (List.mem_of_getElem? (i := 123) rfl), ck_9 (List.mem_of_getElem? (i := 17) rfl), ck_9 (List.mem_of_getElem? (i := 18) rfl)⟩
set_option maxRecDepth 8000 in
theorem lw_p104 : lw_okq (⟨"WarByHoursModel", "knowing", "(II)I"⟩, 32) := ⟨⟨by decide +kernel, by decide +kernel⟩, ck_6 (List.mem_of_getElem? (i := 123) rfl), ck_9 (List.mem_of_getElem? (i := 21) rfl), ck_9 (List.mem_of_getElem? (i := 22) rfl)⟩
set_option maxRecDepth 8000 in
theorem lw_p105 : lw_okq (⟨"WarByHoursModel", "grantOf", "(Z)I"⟩, 32) := ⟨⟨by decide +kernel, by decide +kernel⟩, ck_6 (List.mem_of_getElem? (i := 123) rfl), ck_9 (List.mem_of_getElem? (i := 37) rfl), ck_9 (List.mem_of_getElem? (i := 38) rfl)⟩
set_option maxRecDepth 8000 in
theorem lw_p106 : lw_okq (⟨"WarByHoursModel", "ofAsk", "(II)I"⟩, 32) := ⟨⟨by decide +kernel, by decide +kernel⟩, ck_6 (List.mem_of_getElem? (i := 123) rfl), ck_9 (List.mem_of_getElem? (i := 41) rfl), ck_9 (List.mem_of_getElem? (i := 42) rfl)⟩
set_option maxRecDepth 8000 in
theorem lw_p107 : lw_okq (⟨"WarByHoursModel", "canGrant", "(IZ)Z"⟩, 32) := ⟨⟨by decide +kernel, by decide +kernel⟩, ck_6 (List.mem_of_getElem? (i := 123) rfl), ck_9 (List.mem_of_getElem? (i := 45) rfl), ck_9 (List.mem_of_getElem? (i := 46) rfl)⟩
set_option maxRecDepth 8000 in
theorem lw_p108 : lw_okq (⟨"WarByHoursModel", "nextAsk", "(II)I"⟩, 32) := ⟨⟨by decide +kernel, by decide +kernel⟩, ck_6 (List.mem_of_getElem? (i := 123) rfl), ck_9 (List.mem_of_getElem? (i := 49) rfl), ck_9 (List.mem_of_getElem? (i := 50) rfl)⟩
set_option maxRecDepth 8000 in
theorem lw_p109 : lw_okq (⟨"WarByHoursModel", "endOf", "(I)I"⟩, 32) := ⟨⟨by decide +kernel, by decide +kernel⟩, ck_6 (List.mem_of_getElem? (i := 123) rfl), ck_9 (List.mem_of_getElem? (i := 53) rfl), ck_9 (List.mem_of_getElem? (i := 54) rfl)⟩
set_option maxRecDepth 8000 in
theorem lw_p110 : lw_okq (⟨"WarByHoursModel", "changed", "(II)I"⟩, 32) := ⟨⟨by decide +kernel, by decide +kernel⟩, ck_6 (List.mem_of_getElem? (i := 123) rfl), ck_9 (List.mem_of_getElem? (i := 81) rfl), ck_9 (List.mem_of_getElem? (i := 82) rfl)⟩
set_option maxRecDepth 8000 in
theorem lw_p111 : lw_okq (⟨"WarByHoursModel", "change", "(II)V"⟩, 32) := ⟨⟨by decide +kernel, by decide +kernel⟩, ck_6 (List.mem_of_getElem? (i := 123) rfl), ck_9 (List.mem_of_getElem? (i := 85) rfl), ck_9 (List.mem_of_getElem? (i := 86) rfl)⟩
def lw_privs_7 : List (MethodName × Nat) := [(⟨"WarByHoursModel", "isSigned", "(I)Z"⟩, 32), (⟨"WarByHoursModel", "readingsOf", "(I)I"⟩, 32), (⟨"WarByHoursModel", "allReadings", "()I"⟩, 32), (⟨"WarByHoursModel", "holdsBy", "(II)Z"⟩, 32), (⟨"WarByHoursModel", "closedOf", "(I)I"⟩, 32), (⟨"WarByHoursModel", "isTreaty", "(II)Z"⟩, 32), (⟨"WarByHoursModel", "spiesBy", "(I)I"⟩, 32), (⟨"WarByHoursModel", "watchOf", "(I)I"⟩, 32), (⟨"WarByHoursModel", "knowing", "(II)I"⟩, 32), (⟨"WarByHoursModel", "grantOf", "(Z)I"⟩, 32), (⟨"WarByHoursModel", "ofAsk", "(II)I"⟩, 32), (⟨"WarByHoursModel", "canGrant", "(IZ)Z"⟩, 32), (⟨"WarByHoursModel", "nextAsk", "(II)I"⟩, 32), (⟨"WarByHoursModel", "endOf", "(I)I"⟩, 32), (⟨"WarByHoursModel", "changed", "(II)I"⟩, 32), (⟨"WarByHoursModel", "change", "(II)V"⟩, 32)]
theorem lw_r7 : ∀ q ∈ lw_privs_7, lw_okq q := List.forall_mem_cons.mpr ⟨lw_p96, List.forall_mem_cons.mpr ⟨lw_p97, List.forall_mem_cons.mpr ⟨lw_p98, List.forall_mem_cons.mpr ⟨lw_p99, List.forall_mem_cons.mpr ⟨lw_p100, List.forall_mem_cons.mpr ⟨lw_p101, List.forall_mem_cons.mpr ⟨lw_p102, List.forall_mem_cons.mpr ⟨lw_p103, List.forall_mem_cons.mpr ⟨lw_p104, List.forall_mem_cons.mpr ⟨lw_p105, List.forall_mem_cons.mpr ⟨lw_p106, List.forall_mem_cons.mpr ⟨lw_p107, List.forall_mem_cons.mpr ⟨lw_p108, List.forall_mem_cons.mpr ⟨lw_p109, List.forall_mem_cons.mpr ⟨lw_p110, List.forall_mem_cons.mpr ⟨lw_p111, fun _ h => absurd h List.not_mem_nil⟩⟩⟩⟩⟩⟩⟩⟩⟩⟩⟩⟩⟩⟩⟩⟩
set_option maxRecDepth 8000 in
theorem lw_p112 : lw_okq (⟨"WarByHoursModel", "isSeed", "(I)Z"⟩, 32) := ⟨⟨by decide +kernel, by decide +kernel⟩, ck_6 (List.mem_of_getElem? (i := 123) rfl), ck_9 (List.mem_of_getElem? (i := 101) rfl), ck_9 (List.mem_of_getElem? (i := 102) rfl)⟩
set_option maxRecDepth 8000 in
theorem lw_p113 : lw_okq (⟨"WarByHoursModel", "drawnDelays", "(J)I"⟩, 32) := ⟨⟨by decide +kernel, by decide +kernel⟩, ck_6 (List.mem_of_getElem? (i := 123) rfl), ck_9 (List.mem_of_getElem? (i := 106) rfl), ck_9 (List.mem_of_getElem? (i := 107) rfl)⟩
def lw_privs_8 : List (MethodName × Nat) := [(⟨"WarByHoursModel", "isSeed", "(I)Z"⟩, 32), (⟨"WarByHoursModel", "drawnDelays", "(J)I"⟩, 32)]
theorem lw_r8 : ∀ q ∈ lw_privs_8, lw_okq q := List.forall_mem_cons.mpr ⟨lw_p112, List.forall_mem_cons.mpr ⟨lw_p113, fun _ h => absurd h List.not_mem_nil⟩⟩
def lw_privs : List (MethodName × Nat) := lw_privs_1 ++ (lw_privs_2 ++ (lw_privs_3 ++ (lw_privs_4 ++ (lw_privs_5 ++ (lw_privs_6 ++ (lw_privs_7 ++ (lw_privs_8)))))))
def lw_tbl : List Cond := k2_sels lw_privs ++ tables_1
theorem lw_privs_ok : ∀ q ∈ lw_privs, lw_okq q := by
  show ∀ q ∈ lw_privs_1 ++ (lw_privs_2 ++ (lw_privs_3 ++ (lw_privs_4 ++ (lw_privs_5 ++ (lw_privs_6 ++ (lw_privs_7 ++ (lw_privs_8))))))), lw_okq q
  exact List.forall_mem_append.mpr ⟨lw_r1, List.forall_mem_append.mpr ⟨lw_r2, List.forall_mem_append.mpr ⟨lw_r3, List.forall_mem_append.mpr ⟨lw_r4, List.forall_mem_append.mpr ⟨lw_r5, List.forall_mem_append.mpr ⟨lw_r6, List.forall_mem_append.mpr ⟨lw_r7, lw_r8⟩⟩⟩⟩⟩⟩⟩
-- ===== end of PART A; then your names; then what follows =====
