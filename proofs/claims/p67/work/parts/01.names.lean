theorem ck_1 {w : Cond} (h : w ∈ tables_1_1) : w ∈ tables_1 := List.mem_append_left _ h
theorem ck_2 {w : Cond} (h : w ∈ tables_1_2) : w ∈ tables_1 := List.mem_append_right _ (List.mem_append_left _ h)
theorem ck_3 {w : Cond} (h : w ∈ tables_1_3) : w ∈ tables_1 := List.mem_append_right _ (List.mem_append_right _ (List.mem_append_left _ h))
theorem ck_4 {w : Cond} (h : w ∈ tables_1_4) : w ∈ tables_1 := List.mem_append_right _ (List.mem_append_right _ (List.mem_append_right _ (List.mem_append_left _ h)))
theorem ck_5 {w : Cond} (h : w ∈ tables_1_5) : w ∈ tables_1 := List.mem_append_right _ (List.mem_append_right _ (List.mem_append_right _ (List.mem_append_right _ (List.mem_append_left _ h))))
theorem ck_6 {w : Cond} (h : w ∈ tables_1_6) : w ∈ tables_1 := List.mem_append_right _ (List.mem_append_right _ (List.mem_append_right _ (List.mem_append_right _ (List.mem_append_right _ (List.mem_append_left _ h)))))
theorem ck_7 {w : Cond} (h : w ∈ tables_1_7) : w ∈ tables_1 := List.mem_append_right _ (List.mem_append_right _ (List.mem_append_right _ (List.mem_append_right _ (List.mem_append_right _ (List.mem_append_right _ (List.mem_append_left _ h))))))
theorem ck_8 {w : Cond} (h : w ∈ tables_1_8) : w ∈ tables_1 := List.mem_append_right _ (List.mem_append_right _ (List.mem_append_right _ (List.mem_append_right _ (List.mem_append_right _ (List.mem_append_right _ (List.mem_append_right _ (List.mem_append_left _ h)))))))
theorem ck_9 {w : Cond} (h : w ∈ tables_1_9) : w ∈ tables_1 := List.mem_append_right _ (List.mem_append_right _ (List.mem_append_right _ (List.mem_append_right _ (List.mem_append_right _ (List.mem_append_right _ (List.mem_append_right _ (List.mem_append_right _ (h))))))))
-- ===== PART A: goes FIRST, ahead of the names: the tables' words, and 'selects' of the private methods out of them =====
/-- a private method of a class that the tables say can be made, by its rows of tables_1 -/
def lw_okq (q : MethodName × Nat) : Prop := (q.1.cls ≠ "java/lang/invoke/MethodHandle" ∧ q.1.cls ≠ "java/lang/invoke/VarHandle") ∧ Cond.instantiable q.1.cls q.2 ∈ tables_1 ∧ Cond.privateMethod q.1 ∈ tables_1 ∧ Cond.instanceMethod q.1 ∈ tables_1
set_option maxRecDepth 8000 in
theorem lw_p0 : lw_okq (⟨"WarByHours$Reader", "advance", "()V"⟩, 9) := ⟨⟨by decide +kernel, by decide +kernel⟩, ck_1 (List.mem_of_getElem? (i := 139) rfl), ck_2 (List.mem_of_getElem? (i := 139) rfl), ck_2 (List.mem_of_getElem? (i := 140) rfl)⟩
set_option maxRecDepth 8000 in
theorem lw_p1 : lw_okq (⟨"WarByHours$Reader", "kindAt", "(I)I"⟩, 9) := ⟨⟨by decide +kernel, by decide +kernel⟩, ck_1 (List.mem_of_getElem? (i := 139) rfl), ck_2 (List.mem_of_getElem? (i := 143) rfl), ck_2 (List.mem_of_getElem? (i := 144) rfl)⟩
set_option maxRecDepth 8000 in
theorem lw_p2 : lw_okq (⟨"WarByHours$Reader", "byteAt", "(I)I"⟩, 9) := ⟨⟨by decide +kernel, by decide +kernel⟩, ck_1 (List.mem_of_getElem? (i := 139) rfl), ck_2 (List.mem_of_getElem? (i := 150) rfl), ck_2 (List.mem_of_getElem? (i := 151) rfl)⟩
set_option maxRecDepth 8000 in
theorem lw_p3 : lw_okq (⟨"WarByHours$Reader", "readLine", "()V"⟩, 9) := ⟨⟨by decide +kernel, by decide +kernel⟩, ck_1 (List.mem_of_getElem? (i := 139) rfl), ck_2 (List.mem_of_getElem? (i := 155) rfl), ck_2 (List.mem_of_getElem? (i := 156) rfl)⟩
set_option maxRecDepth 8000 in
theorem lw_p4 : lw_okq (⟨"WarByHours$Reader", "readWar", "()V"⟩, 9) := ⟨⟨by decide +kernel, by decide +kernel⟩, ck_1 (List.mem_of_getElem? (i := 139) rfl), ck_2 (List.mem_of_getElem? (i := 159) rfl), ck_2 (List.mem_of_getElem? (i := 160) rfl)⟩
set_option maxRecDepth 8000 in
theorem lw_p5 : lw_okq (⟨"WarByHours$Reader", "word", "(Ljava/lang/String;)V"⟩, 9) := ⟨⟨by decide +kernel, by decide +kernel⟩, ck_1 (List.mem_of_getElem? (i := 139) rfl), ck_2 (List.mem_of_getElem? (i := 164) rfl), ck_2 (List.mem_of_getElem? (i := 165) rfl)⟩
set_option maxRecDepth 8000 in
theorem lw_p6 : lw_okq (⟨"WarByHours$Reader", "sees", "(Ljava/lang/String;)Z"⟩, 9) := ⟨⟨by decide +kernel, by decide +kernel⟩, ck_1 (List.mem_of_getElem? (i := 139) rfl), ck_2 (List.mem_of_getElem? (i := 168) rfl), ck_2 (List.mem_of_getElem? (i := 169) rfl)⟩
set_option maxRecDepth 8000 in
theorem lw_p7 : lw_okq (⟨"WarByHours$Reader", "blame", "(I)V"⟩, 9) := ⟨⟨by decide +kernel, by decide +kernel⟩, ck_1 (List.mem_of_getElem? (i := 139) rfl), ck_2 (List.mem_of_getElem? (i := 220) rfl), ck_2 (List.mem_of_getElem? (i := 221) rfl)⟩
set_option maxRecDepth 8000 in
theorem lw_p8 : lw_okq (⟨"WarByHours$Reader", "number", "(II)I"⟩, 9) := ⟨⟨by decide +kernel, by decide +kernel⟩, ck_1 (List.mem_of_getElem? (i := 139) rfl), ck_2 (List.mem_of_getElem? (i := 225) rfl), ck_2 (List.mem_of_getElem? (i := 226) rfl)⟩
set_option maxRecDepth 8000 in
theorem lw_p9 : lw_okq (⟨"WarByHours$Reader", "readNeed", "()V"⟩, 9) := ⟨⟨by decide +kernel, by decide +kernel⟩, ck_1 (List.mem_of_getElem? (i := 139) rfl), ck_2 (List.mem_of_getElem? (i := 233) rfl), ck_2 (List.mem_of_getElem? (i := 234) rfl)⟩
set_option maxRecDepth 8000 in
theorem lw_p10 : lw_okq (⟨"WarByHours$Reader", "readTrain", "()V"⟩, 9) := ⟨⟨by decide +kernel, by decide +kernel⟩, ck_1 (List.mem_of_getElem? (i := 139) rfl), ck_3 (List.mem_of_getElem? (i := 2) rfl), ck_3 (List.mem_of_getElem? (i := 3) rfl)⟩
set_option maxRecDepth 8000 in
theorem lw_p11 : lw_okq (⟨"WarByHours$Reader", "begin", "(LWarByHours$Table;)V"⟩, 9) := ⟨⟨by decide +kernel, by decide +kernel⟩, ck_1 (List.mem_of_getElem? (i := 139) rfl), ck_3 (List.mem_of_getElem? (i := 6) rfl), ck_3 (List.mem_of_getElem? (i := 7) rfl)⟩
set_option maxRecDepth 8000 in
theorem lw_p12 : lw_okq (⟨"WarByHours$Reader", "cell", "(LWarByHours$Table;III)V"⟩, 9) := ⟨⟨by decide +kernel, by decide +kernel⟩, ck_1 (List.mem_of_getElem? (i := 139) rfl), ck_3 (List.mem_of_getElem? (i := 19) rfl), ck_3 (List.mem_of_getElem? (i := 20) rfl)⟩
set_option maxRecDepth 8000 in
theorem lw_p13 : lw_okq (⟨"WarByHours$Reader", "readSpan", "(LWarByHours$Table;)V"⟩, 9) := ⟨⟨by decide +kernel, by decide +kernel⟩, ck_1 (List.mem_of_getElem? (i := 139) rfl), ck_3 (List.mem_of_getElem? (i := 33) rfl), ck_3 (List.mem_of_getElem? (i := 34) rfl)⟩
set_option maxRecDepth 8000 in
theorem lw_p14 : lw_okq (⟨"WarByHours$Reader", "readAsk", "()V"⟩, 9) := ⟨⟨by decide +kernel, by decide +kernel⟩, ck_1 (List.mem_of_getElem? (i := 139) rfl), ck_3 (List.mem_of_getElem? (i := 43) rfl), ck_3 (List.mem_of_getElem? (i := 44) rfl)⟩
set_option maxRecDepth 8000 in
theorem lw_p15 : lw_okq (⟨"WarByHours$Reader", "readSpy", "()V"⟩, 9) := ⟨⟨by decide +kernel, by decide +kernel⟩, ck_1 (List.mem_of_getElem? (i := 139) rfl), ck_3 (List.mem_of_getElem? (i := 52) rfl), ck_3 (List.mem_of_getElem? (i := 53) rfl)⟩
def lw_privs_1 : List (MethodName × Nat) := [(⟨"WarByHours$Reader", "advance", "()V"⟩, 9), (⟨"WarByHours$Reader", "kindAt", "(I)I"⟩, 9), (⟨"WarByHours$Reader", "byteAt", "(I)I"⟩, 9), (⟨"WarByHours$Reader", "readLine", "()V"⟩, 9), (⟨"WarByHours$Reader", "readWar", "()V"⟩, 9), (⟨"WarByHours$Reader", "word", "(Ljava/lang/String;)V"⟩, 9), (⟨"WarByHours$Reader", "sees", "(Ljava/lang/String;)Z"⟩, 9), (⟨"WarByHours$Reader", "blame", "(I)V"⟩, 9), (⟨"WarByHours$Reader", "number", "(II)I"⟩, 9), (⟨"WarByHours$Reader", "readNeed", "()V"⟩, 9), (⟨"WarByHours$Reader", "readTrain", "()V"⟩, 9), (⟨"WarByHours$Reader", "begin", "(LWarByHours$Table;)V"⟩, 9), (⟨"WarByHours$Reader", "cell", "(LWarByHours$Table;III)V"⟩, 9), (⟨"WarByHours$Reader", "readSpan", "(LWarByHours$Table;)V"⟩, 9), (⟨"WarByHours$Reader", "readAsk", "()V"⟩, 9), (⟨"WarByHours$Reader", "readSpy", "()V"⟩, 9)]
theorem lw_r1 : ∀ q ∈ lw_privs_1, lw_okq q := List.forall_mem_cons.mpr ⟨lw_p0, List.forall_mem_cons.mpr ⟨lw_p1, List.forall_mem_cons.mpr ⟨lw_p2, List.forall_mem_cons.mpr ⟨lw_p3, List.forall_mem_cons.mpr ⟨lw_p4, List.forall_mem_cons.mpr ⟨lw_p5, List.forall_mem_cons.mpr ⟨lw_p6, List.forall_mem_cons.mpr ⟨lw_p7, List.forall_mem_cons.mpr ⟨lw_p8, List.forall_mem_cons.mpr ⟨lw_p9, List.forall_mem_cons.mpr ⟨lw_p10, List.forall_mem_cons.mpr ⟨lw_p11, List.forall_mem_cons.mpr ⟨lw_p12, List.forall_mem_cons.mpr ⟨lw_p13, List.forall_mem_cons.mpr ⟨lw_p14, List.forall_mem_cons.mpr ⟨lw_p15, fun _ h => absurd h List.not_mem_nil⟩⟩⟩⟩⟩⟩⟩⟩⟩⟩⟩⟩⟩⟩⟩⟩
set_option maxRecDepth 8000 in
theorem lw_p16 : lw_okq (⟨"WarByHours$Reader", "sign", "()V"⟩, 9) := ⟨⟨by decide +kernel, by decide +kernel⟩, ck_1 (List.mem_of_getElem? (i := 139) rfl), ck_3 (List.mem_of_getElem? (i := 57) rfl), ck_3 (List.mem_of_getElem? (i := 58) rfl)⟩
set_option maxRecDepth 8000 in
theorem lw_p17 : lw_okq (⟨"WarByHours$Course", "isArrival", "(I)Z"⟩, 6) := ⟨⟨by decide +kernel, by decide +kernel⟩, ck_1 (List.mem_of_getElem? (i := 177) rfl), ck_3 (List.mem_of_getElem? (i := 229) rfl), ck_3 (List.mem_of_getElem? (i := 230) rfl)⟩
set_option maxRecDepth 8000 in
theorem lw_p18 : lw_okq (⟨"WarByHours$Course", "moveEnds", "(I)V"⟩, 6) := ⟨⟨by decide +kernel, by decide +kernel⟩, ck_1 (List.mem_of_getElem? (i := 177) rfl), ck_3 (List.mem_of_getElem? (i := 238) rfl), ck_3 (List.mem_of_getElem? (i := 239) rfl)⟩
set_option maxRecDepth 8000 in
theorem lw_p19 : lw_okq (⟨"WarByHours$Course", "takeMen", "(III)V"⟩, 6) := ⟨⟨by decide +kernel, by decide +kernel⟩, ck_1 (List.mem_of_getElem? (i := 177) rfl), ck_4 (List.mem_of_getElem? (i := 2) rfl), ck_4 (List.mem_of_getElem? (i := 3) rfl)⟩
set_option maxRecDepth 8000 in
theorem lw_p20 : lw_okq (⟨"WarByHours$Course", "findWinners", "()V"⟩, 6) := ⟨⟨by decide +kernel, by decide +kernel⟩, ck_1 (List.mem_of_getElem? (i := 177) rfl), ck_4 (List.mem_of_getElem? (i := 15) rfl), ck_4 (List.mem_of_getElem? (i := 16) rfl)⟩
set_option maxRecDepth 8000 in
theorem lw_p21 : lw_okq (⟨"WarByHours$Course", "reckonedWinner", "(I)I"⟩, 6) := ⟨⟨by decide +kernel, by decide +kernel⟩, ck_1 (List.mem_of_getElem? (i := 177) rfl), ck_4 (List.mem_of_getElem? (i := 43) rfl), ck_4 (List.mem_of_getElem? (i := 44) rfl)⟩
set_option maxRecDepth 8000 in
theorem lw_p22 : lw_okq (⟨"WarByHours$Course", "isIdle", "(I)Z"⟩, 6) := ⟨⟨by decide +kernel, by decide +kernel⟩, ck_1 (List.mem_of_getElem? (i := 177) rfl), ck_4 (List.mem_of_getElem? (i := 55) rfl), ck_4 (List.mem_of_getElem? (i := 56) rfl)⟩
set_option maxRecDepth 8000 in
theorem lw_p23 : lw_okq (⟨"WarByHours$Fares", "takeParts", "(I)V"⟩, 8) := ⟨⟨by decide +kernel, by decide +kernel⟩, ck_1 (List.mem_of_getElem? (i := 202) rfl), ck_4 (List.mem_of_getElem? (i := 71) rfl), ck_4 (List.mem_of_getElem? (i := 72) rfl)⟩
set_option maxRecDepth 8000 in
theorem lw_p24 : lw_okq (⟨"WarByHours$Fares", "mayBeLate", "(I)V"⟩, 8) := ⟨⟨by decide +kernel, by decide +kernel⟩, ck_1 (List.mem_of_getElem? (i := 202) rfl), ck_4 (List.mem_of_getElem? (i := 80) rfl), ck_4 (List.mem_of_getElem? (i := 81) rfl)⟩
set_option maxRecDepth 8000 in
theorem lw_p25 : lw_okq (⟨"WarByHours$Fares", "takePrices", "()V"⟩, 8) := ⟨⟨by decide +kernel, by decide +kernel⟩, ck_1 (List.mem_of_getElem? (i := 202) rfl), ck_4 (List.mem_of_getElem? (i := 131) rfl), ck_4 (List.mem_of_getElem? (i := 132) rfl)⟩
set_option maxRecDepth 8000 in
theorem lw_p26 : lw_okq (⟨"WarByHours$Fares", "fitByChance", "(II)V"⟩, 8) := ⟨⟨by decide +kernel, by decide +kernel⟩, ck_1 (List.mem_of_getElem? (i := 202) rfl), ck_4 (List.mem_of_getElem? (i := 135) rfl), ck_4 (List.mem_of_getElem? (i := 136) rfl)⟩
set_option maxRecDepth 8000 in
theorem lw_p27 : lw_okq (⟨"WarByHours$Fares", "cheapest", "(I)I"⟩, 8) := ⟨⟨by decide +kernel, by decide +kernel⟩, ck_1 (List.mem_of_getElem? (i := 202) rfl), ck_4 (List.mem_of_getElem? (i := 142) rfl), ck_4 (List.mem_of_getElem? (i := 143) rfl)⟩
set_option maxRecDepth 8000 in
theorem lw_p28 : lw_okq (⟨"WarByHours", "isRisk", "(II)Z"⟩, 11) := ⟨⟨by decide +kernel, by decide +kernel⟩, ck_1 (List.mem_of_getElem? (i := 23) rfl), ck_4 (List.mem_of_getElem? (i := 167) rfl), ck_4 (List.mem_of_getElem? (i := 168) rfl)⟩
set_option maxRecDepth 8000 in
theorem lw_p29 : lw_okq (⟨"WarByHours$Fares", "fitByDelays", "(I)V"⟩, 8) := ⟨⟨by decide +kernel, by decide +kernel⟩, ck_1 (List.mem_of_getElem? (i := 202) rfl), ck_4 (List.mem_of_getElem? (i := 187) rfl), ck_4 (List.mem_of_getElem? (i := 188) rfl)⟩
set_option maxRecDepth 8000 in
theorem lw_p30 : lw_okq (⟨"WarByHours$Fares", "orPriceless", "(I)I"⟩, 8) := ⟨⟨by decide +kernel, by decide +kernel⟩, ck_1 (List.mem_of_getElem? (i := 202) rfl), ck_4 (List.mem_of_getElem? (i := 204) rfl), ck_4 (List.mem_of_getElem? (i := 205) rfl)⟩
set_option maxRecDepth 8000 in
theorem lw_p31 : lw_okq (⟨"WarByHours", "isPurse", "(II)Z"⟩, 11) := ⟨⟨by decide +kernel, by decide +kernel⟩, ck_1 (List.mem_of_getElem? (i := 23) rfl), ck_4 (List.mem_of_getElem? (i := 217) rfl), ck_4 (List.mem_of_getElem? (i := 218) rfl)⟩
def lw_privs_2 : List (MethodName × Nat) := [(⟨"WarByHours$Reader", "sign", "()V"⟩, 9), (⟨"WarByHours$Course", "isArrival", "(I)Z"⟩, 6), (⟨"WarByHours$Course", "moveEnds", "(I)V"⟩, 6), (⟨"WarByHours$Course", "takeMen", "(III)V"⟩, 6), (⟨"WarByHours$Course", "findWinners", "()V"⟩, 6), (⟨"WarByHours$Course", "reckonedWinner", "(I)I"⟩, 6), (⟨"WarByHours$Course", "isIdle", "(I)Z"⟩, 6), (⟨"WarByHours$Fares", "takeParts", "(I)V"⟩, 8), (⟨"WarByHours$Fares", "mayBeLate", "(I)V"⟩, 8), (⟨"WarByHours$Fares", "takePrices", "()V"⟩, 8), (⟨"WarByHours$Fares", "fitByChance", "(II)V"⟩, 8), (⟨"WarByHours$Fares", "cheapest", "(I)I"⟩, 8), (⟨"WarByHours", "isRisk", "(II)Z"⟩, 11), (⟨"WarByHours$Fares", "fitByDelays", "(I)V"⟩, 8), (⟨"WarByHours$Fares", "orPriceless", "(I)I"⟩, 8), (⟨"WarByHours", "isPurse", "(II)Z"⟩, 11)]
theorem lw_r2 : ∀ q ∈ lw_privs_2, lw_okq q := List.forall_mem_cons.mpr ⟨lw_p16, List.forall_mem_cons.mpr ⟨lw_p17, List.forall_mem_cons.mpr ⟨lw_p18, List.forall_mem_cons.mpr ⟨lw_p19, List.forall_mem_cons.mpr ⟨lw_p20, List.forall_mem_cons.mpr ⟨lw_p21, List.forall_mem_cons.mpr ⟨lw_p22, List.forall_mem_cons.mpr ⟨lw_p23, List.forall_mem_cons.mpr ⟨lw_p24, List.forall_mem_cons.mpr ⟨lw_p25, List.forall_mem_cons.mpr ⟨lw_p26, List.forall_mem_cons.mpr ⟨lw_p27, List.forall_mem_cons.mpr ⟨lw_p28, List.forall_mem_cons.mpr ⟨lw_p29, List.forall_mem_cons.mpr ⟨lw_p30, List.forall_mem_cons.mpr ⟨lw_p31, fun _ h => absurd h List.not_mem_nil⟩⟩⟩⟩⟩⟩⟩⟩⟩⟩⟩⟩⟩⟩⟩⟩
set_option maxRecDepth 8000 in
theorem lw_p32 : lw_okq (⟨"WarByHours$Fares", "meetAnswers", "(II)V"⟩, 8) := ⟨⟨by decide +kernel, by decide +kernel⟩, ck_1 (List.mem_of_getElem? (i := 202) rfl), ck_4 (List.mem_of_getElem? (i := 239) rfl), ck_5 (List.mem_of_getElem? (i := 0) rfl)⟩
set_option maxRecDepth 8000 in
theorem lw_p33 : lw_okq (⟨"WarByHours$Fares", "isBought", "(III)Z"⟩, 8) := ⟨⟨by decide +kernel, by decide +kernel⟩, ck_1 (List.mem_of_getElem? (i := 202) rfl), ck_5 (List.mem_of_getElem? (i := 5) rfl), ck_5 (List.mem_of_getElem? (i := 6) rfl)⟩
set_option maxRecDepth 8000 in
theorem lw_p34 : lw_okq (⟨"WarByHours$Places", "meet", "(I)I"⟩, 5) := ⟨⟨by decide +kernel, by decide +kernel⟩, ck_1 (List.mem_of_getElem? (i := 235) rfl), ck_5 (List.mem_of_getElem? (i := 47) rfl), ck_5 (List.mem_of_getElem? (i := 48) rfl)⟩
set_option maxRecDepth 8000 in
theorem lw_p35 : lw_okq (⟨"WarByHours", "isPeaceMinute", "(I)Z"⟩, 11) := ⟨⟨by decide +kernel, by decide +kernel⟩, ck_1 (List.mem_of_getElem? (i := 23) rfl), ck_5 (List.mem_of_getElem? (i := 67) rfl), ck_5 (List.mem_of_getElem? (i := 68) rfl)⟩
set_option maxRecDepth 8000 in
theorem lw_p36 : lw_okq (⟨"WarByHours$Peace", "allReadings", "()I"⟩, 1) := ⟨⟨by decide +kernel, by decide +kernel⟩, ck_2 (List.mem_of_getElem? (i := 20) rfl), ck_5 (List.mem_of_getElem? (i := 75) rfl), ck_5 (List.mem_of_getElem? (i := 76) rfl)⟩
set_option maxRecDepth 8000 in
theorem lw_p37 : lw_okq (⟨"WarByHours$Peace", "isHeld", "(II)Z"⟩, 1) := ⟨⟨by decide +kernel, by decide +kernel⟩, ck_2 (List.mem_of_getElem? (i := 20) rfl), ck_5 (List.mem_of_getElem? (i := 79) rfl), ck_5 (List.mem_of_getElem? (i := 80) rfl)⟩
set_option maxRecDepth 8000 in
theorem lw_p38 : lw_okq (⟨"WarByHours$Suspects", "knownTo", "(I)I"⟩, 1) := ⟨⟨by decide +kernel, by decide +kernel⟩, ck_2 (List.mem_of_getElem? (i := 30) rfl), ck_5 (List.mem_of_getElem? (i := 143) rfl), ck_5 (List.mem_of_getElem? (i := 144) rfl)⟩
set_option maxRecDepth 8000 in
theorem lw_p39 : lw_okq (⟨"WarByHours$Cannon", "sortByMinute", "()V"⟩, 2) := ⟨⟨by decide +kernel, by decide +kernel⟩, ck_2 (List.mem_of_getElem? (i := 40) rfl), ck_5 (List.mem_of_getElem? (i := 190) rfl), ck_5 (List.mem_of_getElem? (i := 191) rfl)⟩
set_option maxRecDepth 8000 in
theorem lw_p40 : lw_okq (⟨"WarByHours$Cannon", "canStand", "(IZ)Z"⟩, 2) := ⟨⟨by decide +kernel, by decide +kernel⟩, ck_2 (List.mem_of_getElem? (i := 40) rfl), ck_5 (List.mem_of_getElem? (i := 200) rfl), ck_5 (List.mem_of_getElem? (i := 201) rfl)⟩
set_option maxRecDepth 8000 in
theorem lw_p41 : lw_okq (⟨"WarByHours$War", "toldNumber", "(II)I"⟩, 12) := ⟨⟨by decide +kernel, by decide +kernel⟩, ck_1 (List.mem_of_getElem? (i := 31) rfl), ck_6 (List.mem_of_getElem? (i := 13) rfl), ck_6 (List.mem_of_getElem? (i := 14) rfl)⟩
set_option maxRecDepth 8000 in
theorem lw_p42 : lw_okq (⟨"WarByHours$War", "setToldNumber", "(III)V"⟩, 12) := ⟨⟨by decide +kernel, by decide +kernel⟩, ck_1 (List.mem_of_getElem? (i := 31) rfl), ck_6 (List.mem_of_getElem? (i := 21) rfl), ck_6 (List.mem_of_getElem? (i := 22) rfl)⟩
set_option maxRecDepth 8000 in
theorem lw_p43 : lw_okq (⟨"WarByHours", "isSeed", "(I)Z"⟩, 11) := ⟨⟨by decide +kernel, by decide +kernel⟩, ck_1 (List.mem_of_getElem? (i := 23) rfl), ck_6 (List.mem_of_getElem? (i := 46) rfl), ck_6 (List.mem_of_getElem? (i := 47) rfl)⟩
set_option maxRecDepth 8000 in
theorem lw_p44 : lw_okq (⟨"WarByHours$Slots", "isWithin", "(III)Z"⟩, 4) := ⟨⟨by decide +kernel, by decide +kernel⟩, ck_2 (List.mem_of_getElem? (i := 53) rfl), ck_6 (List.mem_of_getElem? (i := 118) rfl), ck_6 (List.mem_of_getElem? (i := 119) rfl)⟩
set_option maxRecDepth 8000 in
theorem lw_p45 : lw_okq (⟨"WarByHoursModel", "advance", "()V"⟩, 32) := ⟨⟨by decide +kernel, by decide +kernel⟩, ck_6 (List.mem_of_getElem? (i := 123) rfl), ck_7 (List.mem_of_getElem? (i := 13) rfl), ck_7 (List.mem_of_getElem? (i := 14) rfl)⟩
set_option maxRecDepth 8000 in
theorem lw_p46 : lw_okq (⟨"WarByHoursModel", "see", "(I)I"⟩, 32) := ⟨⟨by decide +kernel, by decide +kernel⟩, ck_6 (List.mem_of_getElem? (i := 123) rfl), ck_7 (List.mem_of_getElem? (i := 17) rfl), ck_7 (List.mem_of_getElem? (i := 18) rfl)⟩
set_option maxRecDepth 8000 in
theorem lw_p47 : lw_okq (⟨"WarByHoursModel", "good", "()Z"⟩, 32) := ⟨⟨by decide +kernel, by decide +kernel⟩, ck_6 (List.mem_of_getElem? (i := 123) rfl), ck_7 (List.mem_of_getElem? (i := 27) rfl), ck_7 (List.mem_of_getElem? (i := 28) rfl)⟩
def lw_privs_3 : List (MethodName × Nat) := [(⟨"WarByHours$Fares", "meetAnswers", "(II)V"⟩, 8), (⟨"WarByHours$Fares", "isBought", "(III)Z"⟩, 8), (⟨"WarByHours$Places", "meet", "(I)I"⟩, 5), (⟨"WarByHours", "isPeaceMinute", "(I)Z"⟩, 11), (⟨"WarByHours$Peace", "allReadings", "()I"⟩, 1), (⟨"WarByHours$Peace", "isHeld", "(II)Z"⟩, 1), (⟨"WarByHours$Suspects", "knownTo", "(I)I"⟩, 1), (⟨"WarByHours$Cannon", "sortByMinute", "()V"⟩, 2), (⟨"WarByHours$Cannon", "canStand", "(IZ)Z"⟩, 2), (⟨"WarByHours$War", "toldNumber", "(II)I"⟩, 12), (⟨"WarByHours$War", "setToldNumber", "(III)V"⟩, 12), (⟨"WarByHours", "isSeed", "(I)Z"⟩, 11), (⟨"WarByHours$Slots", "isWithin", "(III)Z"⟩, 4), (⟨"WarByHoursModel", "advance", "()V"⟩, 32), (⟨"WarByHoursModel", "see", "(I)I"⟩, 32), (⟨"WarByHoursModel", "good", "()Z"⟩, 32)]
theorem lw_r3 : ∀ q ∈ lw_privs_3, lw_okq q := List.forall_mem_cons.mpr ⟨lw_p32, List.forall_mem_cons.mpr ⟨lw_p33, List.forall_mem_cons.mpr ⟨lw_p34, List.forall_mem_cons.mpr ⟨lw_p35, List.forall_mem_cons.mpr ⟨lw_p36, List.forall_mem_cons.mpr ⟨lw_p37, List.forall_mem_cons.mpr ⟨lw_p38, List.forall_mem_cons.mpr ⟨lw_p39, List.forall_mem_cons.mpr ⟨lw_p40, List.forall_mem_cons.mpr ⟨lw_p41, List.forall_mem_cons.mpr ⟨lw_p42, List.forall_mem_cons.mpr ⟨lw_p43, List.forall_mem_cons.mpr ⟨lw_p44, List.forall_mem_cons.mpr ⟨lw_p45, List.forall_mem_cons.mpr ⟨lw_p46, List.forall_mem_cons.mpr ⟨lw_p47, fun _ h => absurd h List.not_mem_nil⟩⟩⟩⟩⟩⟩⟩⟩⟩⟩⟩⟩⟩⟩⟩⟩
set_option maxRecDepth 8000 in
theorem lw_p48 : lw_okq (⟨"WarByHoursModel", "readLine", "()V"⟩, 32) := ⟨⟨by decide +kernel, by decide +kernel⟩, ck_6 (List.mem_of_getElem? (i := 123) rfl), ck_7 (List.mem_of_getElem? (i := 31) rfl), ck_7 (List.mem_of_getElem? (i := 32) rfl)⟩
set_option maxRecDepth 8000 in
theorem lw_p49 : lw_okq (⟨"WarByHoursModel", "readFirst", "()V"⟩, 32) := ⟨⟨by decide +kernel, by decide +kernel⟩, ck_6 (List.mem_of_getElem? (i := 123) rfl), ck_7 (List.mem_of_getElem? (i := 35) rfl), ck_7 (List.mem_of_getElem? (i := 36) rfl)⟩
set_option maxRecDepth 8000 in
theorem lw_p50 : lw_okq (⟨"WarByHoursModel", "needs", "(Ljava/lang/String;)V"⟩, 32) := ⟨⟨by decide +kernel, by decide +kernel⟩, ck_6 (List.mem_of_getElem? (i := 123) rfl), ck_7 (List.mem_of_getElem? (i := 40) rfl), ck_7 (List.mem_of_getElem? (i := 41) rfl)⟩
set_option maxRecDepth 8000 in
theorem lw_p51 : lw_okq (⟨"WarByHoursModel", "takes", "(Ljava/lang/String;)Z"⟩, 32) := ⟨⟨by decide +kernel, by decide +kernel⟩, ck_6 (List.mem_of_getElem? (i := 123) rfl), ck_7 (List.mem_of_getElem? (i := 44) rfl), ck_7 (List.mem_of_getElem? (i := 45) rfl)⟩
set_option maxRecDepth 8000 in
theorem lw_p52 : lw_okq (⟨"WarByHoursModel", "is", "(Ljava/lang/String;)Z"⟩, 32) := ⟨⟨by decide +kernel, by decide +kernel⟩, ck_6 (List.mem_of_getElem? (i := 123) rfl), ck_7 (List.mem_of_getElem? (i := 48) rfl), ck_7 (List.mem_of_getElem? (i := 49) rfl)⟩
set_option maxRecDepth 8000 in
theorem lw_p53 : lw_okq (⟨"WarByHoursModel", "errs", "(I)V"⟩, 32) := ⟨⟨by decide +kernel, by decide +kernel⟩, ck_6 (List.mem_of_getElem? (i := 123) rfl), ck_7 (List.mem_of_getElem? (i := 54) rfl), ck_7 (List.mem_of_getElem? (i := 55) rfl)⟩
set_option maxRecDepth 8000 in
theorem lw_p54 : lw_okq (⟨"WarByHoursModel", "told", "(Ljava/lang/String;II)I"⟩, 32) := ⟨⟨by decide +kernel, by decide +kernel⟩, ck_6 (List.mem_of_getElem? (i := 123) rfl), ck_7 (List.mem_of_getElem? (i := 59) rfl), ck_7 (List.mem_of_getElem? (i := 60) rfl)⟩
set_option maxRecDepth 8000 in
theorem lw_p55 : lw_okq (⟨"WarByHoursModel", "number", "(II)I"⟩, 32) := ⟨⟨by decide +kernel, by decide +kernel⟩, ck_6 (List.mem_of_getElem? (i := 123) rfl), ck_7 (List.mem_of_getElem? (i := 63) rfl), ck_7 (List.mem_of_getElem? (i := 64) rfl)⟩
set_option maxRecDepth 8000 in
theorem lw_p56 : lw_okq (⟨"WarByHoursModel", "readNext", "()V"⟩, 32) := ⟨⟨by decide +kernel, by decide +kernel⟩, ck_6 (List.mem_of_getElem? (i := 123) rfl), ck_7 (List.mem_of_getElem? (i := 70) rfl), ck_7 (List.mem_of_getElem? (i := 71) rfl)⟩
set_option maxRecDepth 8000 in
theorem lw_p57 : lw_okq (⟨"WarByHoursModel", "readNeed", "()V"⟩, 32) := ⟨⟨by decide +kernel, by decide +kernel⟩, ck_6 (List.mem_of_getElem? (i := 123) rfl), ck_7 (List.mem_of_getElem? (i := 80) rfl), ck_7 (List.mem_of_getElem? (i := 81) rfl)⟩
set_option maxRecDepth 8000 in
theorem lw_p58 : lw_okq (⟨"WarByHoursModel", "readTrain", "()V"⟩, 32) := ⟨⟨by decide +kernel, by decide +kernel⟩, ck_6 (List.mem_of_getElem? (i := 123) rfl), ck_7 (List.mem_of_getElem? (i := 84) rfl), ck_7 (List.mem_of_getElem? (i := 85) rfl)⟩
set_option maxRecDepth 8000 in
theorem lw_p59 : lw_okq (⟨"WarByHoursModel", "readBounds", "(I)V"⟩, 32) := ⟨⟨by decide +kernel, by decide +kernel⟩, ck_6 (List.mem_of_getElem? (i := 123) rfl), ck_7 (List.mem_of_getElem? (i := 93) rfl), ck_7 (List.mem_of_getElem? (i := 94) rfl)⟩
set_option maxRecDepth 8000 in
theorem lw_p60 : lw_okq (⟨"WarByHoursModel", "readAsk", "()V"⟩, 32) := ⟨⟨by decide +kernel, by decide +kernel⟩, ck_6 (List.mem_of_getElem? (i := 123) rfl), ck_7 (List.mem_of_getElem? (i := 98) rfl), ck_7 (List.mem_of_getElem? (i := 99) rfl)⟩
set_option maxRecDepth 8000 in
theorem lw_p61 : lw_okq (⟨"WarByHoursModel", "readSpy", "()V"⟩, 32) := ⟨⟨by decide +kernel, by decide +kernel⟩, ck_6 (List.mem_of_getElem? (i := 123) rfl), ck_7 (List.mem_of_getElem? (i := 105) rfl), ck_7 (List.mem_of_getElem? (i := 106) rfl)⟩
set_option maxRecDepth 8000 in
theorem lw_p62 : lw_okq (⟨"WarByHoursModel", "isTrain", "(I)Z"⟩, 32) := ⟨⟨by decide +kernel, by decide +kernel⟩, ck_6 (List.mem_of_getElem? (i := 123) rfl), ck_7 (List.mem_of_getElem? (i := 114) rfl), ck_7 (List.mem_of_getElem? (i := 115) rfl)⟩
set_option maxRecDepth 8000 in
theorem lw_p63 : lw_okq (⟨"WarByHoursModel", "of", "(II)I"⟩, 32) := ⟨⟨by decide +kernel, by decide +kernel⟩, ck_6 (List.mem_of_getElem? (i := 123) rfl), ck_7 (List.mem_of_getElem? (i := 119) rfl), ck_7 (List.mem_of_getElem? (i := 120) rfl)⟩
def lw_privs_4 : List (MethodName × Nat) := [(⟨"WarByHoursModel", "readLine", "()V"⟩, 32), (⟨"WarByHoursModel", "readFirst", "()V"⟩, 32), (⟨"WarByHoursModel", "needs", "(Ljava/lang/String;)V"⟩, 32), (⟨"WarByHoursModel", "takes", "(Ljava/lang/String;)Z"⟩, 32), (⟨"WarByHoursModel", "is", "(Ljava/lang/String;)Z"⟩, 32), (⟨"WarByHoursModel", "errs", "(I)V"⟩, 32), (⟨"WarByHoursModel", "told", "(Ljava/lang/String;II)I"⟩, 32), (⟨"WarByHoursModel", "number", "(II)I"⟩, 32), (⟨"WarByHoursModel", "readNext", "()V"⟩, 32), (⟨"WarByHoursModel", "readNeed", "()V"⟩, 32), (⟨"WarByHoursModel", "readTrain", "()V"⟩, 32), (⟨"WarByHoursModel", "readBounds", "(I)V"⟩, 32), (⟨"WarByHoursModel", "readAsk", "()V"⟩, 32), (⟨"WarByHoursModel", "readSpy", "()V"⟩, 32), (⟨"WarByHoursModel", "isTrain", "(I)Z"⟩, 32), (⟨"WarByHoursModel", "of", "(II)I"⟩, 32)]
theorem lw_r4 : ∀ q ∈ lw_privs_4, lw_okq q := List.forall_mem_cons.mpr ⟨lw_p48, List.forall_mem_cons.mpr ⟨lw_p49, List.forall_mem_cons.mpr ⟨lw_p50, List.forall_mem_cons.mpr ⟨lw_p51, List.forall_mem_cons.mpr ⟨lw_p52, List.forall_mem_cons.mpr ⟨lw_p53, List.forall_mem_cons.mpr ⟨lw_p54, List.forall_mem_cons.mpr ⟨lw_p55, List.forall_mem_cons.mpr ⟨lw_p56, List.forall_mem_cons.mpr ⟨lw_p57, List.forall_mem_cons.mpr ⟨lw_p58, List.forall_mem_cons.mpr ⟨lw_p59, List.forall_mem_cons.mpr ⟨lw_p60, List.forall_mem_cons.mpr ⟨lw_p61, List.forall_mem_cons.mpr ⟨lw_p62, List.forall_mem_cons.mpr ⟨lw_p63, fun _ h => absurd h List.not_mem_nil⟩⟩⟩⟩⟩⟩⟩⟩⟩⟩⟩⟩⟩⟩⟩⟩
set_option maxRecDepth 8000 in
theorem lw_p64 : lw_okq (⟨"WarByHoursModel", "isSide", "(I)Z"⟩, 32) := ⟨⟨by decide +kernel, by decide +kernel⟩, ck_6 (List.mem_of_getElem? (i := 123) rfl), ck_7 (List.mem_of_getElem? (i := 127) rfl), ck_7 (List.mem_of_getElem? (i := 128) rfl)⟩
set_option maxRecDepth 8000 in
theorem lw_p65 : lw_okq (⟨"WarByHoursModel", "isWar", "()Z"⟩, 32) := ⟨⟨by decide +kernel, by decide +kernel⟩, ck_6 (List.mem_of_getElem? (i := 123) rfl), ck_7 (List.mem_of_getElem? (i := 131) rfl), ck_7 (List.mem_of_getElem? (i := 132) rfl)⟩
set_option maxRecDepth 8000 in
theorem lw_p66 : lw_okq (⟨"WarByHoursModel", "isTea", "(I)Z"⟩, 32) := ⟨⟨by decide +kernel, by decide +kernel⟩, ck_6 (List.mem_of_getElem? (i := 123) rfl), ck_7 (List.mem_of_getElem? (i := 139) rfl), ck_7 (List.mem_of_getElem? (i := 140) rfl)⟩
set_option maxRecDepth 8000 in
theorem lw_p67 : lw_okq (⟨"WarByHoursModel", "areTrains", "(I)Z"⟩, 32) := ⟨⟨by decide +kernel, by decide +kernel⟩, ck_6 (List.mem_of_getElem? (i := 123) rfl), ck_7 (List.mem_of_getElem? (i := 164) rfl), ck_7 (List.mem_of_getElem? (i := 165) rfl)⟩
set_option maxRecDepth 8000 in
theorem lw_p68 : lw_okq (⟨"WarByHoursModel", "allTrains", "()I"⟩, 32) := ⟨⟨by decide +kernel, by decide +kernel⟩, ck_6 (List.mem_of_getElem? (i := 123) rfl), ck_7 (List.mem_of_getElem? (i := 168) rfl), ck_7 (List.mem_of_getElem? (i := 169) rfl)⟩
set_option maxRecDepth 8000 in
theorem lw_p69 : lw_okq (⟨"WarByHoursModel", "menOf", "(III)I"⟩, 32) := ⟨⟨by decide +kernel, by decide +kernel⟩, ck_6 (List.mem_of_getElem? (i := 123) rfl), ck_7 (List.mem_of_getElem? (i := 172) rfl), ck_7 (List.mem_of_getElem? (i := 173) rfl)⟩
set_option maxRecDepth 8000 in
theorem lw_p70 : lw_okq (⟨"WarByHoursModel", "comesAt", "(II)I"⟩, 32) := ⟨⟨by decide +kernel, by decide +kernel⟩, ck_6 (List.mem_of_getElem? (i := 123) rfl), ck_7 (List.mem_of_getElem? (i := 176) rfl), ck_7 (List.mem_of_getElem? (i := 177) rfl)⟩
set_option maxRecDepth 8000 in
theorem lw_p71 : lw_okq (⟨"WarByHoursModel", "frontOf", "(II)I"⟩, 32) := ⟨⟨by decide +kernel, by decide +kernel⟩, ck_6 (List.mem_of_getElem? (i := 123) rfl), ck_7 (List.mem_of_getElem? (i := 187) rfl), ck_7 (List.mem_of_getElem? (i := 188) rfl)⟩
set_option maxRecDepth 8000 in
theorem lw_p72 : lw_okq (⟨"WarByHoursModel", "isLate", "(II)Z"⟩, 32) := ⟨⟨by decide +kernel, by decide +kernel⟩, ck_6 (List.mem_of_getElem? (i := 123) rfl), ck_7 (List.mem_of_getElem? (i := 195) rfl), ck_7 (List.mem_of_getElem? (i := 196) rfl)⟩
set_option maxRecDepth 8000 in
theorem lw_p73 : lw_okq (⟨"WarByHoursModel", "winner", "(I)I"⟩, 32) := ⟨⟨by decide +kernel, by decide +kernel⟩, ck_6 (List.mem_of_getElem? (i := 123) rfl), ck_7 (List.mem_of_getElem? (i := 203) rfl), ck_7 (List.mem_of_getElem? (i := 204) rfl)⟩
set_option maxRecDepth 8000 in
theorem lw_p74 : lw_okq (⟨"WarByHoursModel", "lastFront", "(I)I"⟩, 32) := ⟨⟨by decide +kernel, by decide +kernel⟩, ck_6 (List.mem_of_getElem? (i := 123) rfl), ck_7 (List.mem_of_getElem? (i := 207) rfl), ck_7 (List.mem_of_getElem? (i := 208) rfl)⟩
set_option maxRecDepth 8000 in
theorem lw_p75 : lw_okq (⟨"WarByHoursModel", "worstOf", "(I)I"⟩, 32) := ⟨⟨by decide +kernel, by decide +kernel⟩, ck_6 (List.mem_of_getElem? (i := 123) rfl), ck_7 (List.mem_of_getElem? (i := 239) rfl), ck_8 (List.mem_of_getElem? (i := 0) rfl)⟩
set_option maxRecDepth 8000 in
theorem lw_p76 : lw_okq (⟨"WarByHoursModel", "oftenOf", "(I)J"⟩, 32) := ⟨⟨by decide +kernel, by decide +kernel⟩, ck_6 (List.mem_of_getElem? (i := 123) rfl), ck_8 (List.mem_of_getElem? (i := 23) rfl), ck_8 (List.mem_of_getElem? (i := 24) rfl)⟩
set_option maxRecDepth 8000 in
theorem lw_p77 : lw_okq (⟨"WarByHoursModel", "allOften", "()J"⟩, 32) := ⟨⟨by decide +kernel, by decide +kernel⟩, ck_6 (List.mem_of_getElem? (i := 123) rfl), ck_8 (List.mem_of_getElem? (i := 27) rfl), ck_8 (List.mem_of_getElem? (i := 28) rfl)⟩
set_option maxRecDepth 8000 in
theorem lw_p78 : lw_okq (⟨"WarByHoursModel", "findSend", "(IZ)V"⟩, 32) := ⟨⟨by decide +kernel, by decide +kernel⟩, ck_6 (List.mem_of_getElem? (i := 123) rfl), ck_8 (List.mem_of_getElem? (i := 46) rfl), ck_8 (List.mem_of_getElem? (i := 47) rfl)⟩
set_option maxRecDepth 8000 in
theorem lw_p79 : lw_okq (⟨"WarByHoursModel", "trainsOf", "(I)I"⟩, 32) := ⟨⟨by decide +kernel, by decide +kernel⟩, ck_6 (List.mem_of_getElem? (i := 123) rfl), ck_8 (List.mem_of_getElem? (i := 50) rfl), ck_8 (List.mem_of_getElem? (i := 51) rfl)⟩
def lw_privs_5 : List (MethodName × Nat) := [(⟨"WarByHoursModel", "isSide", "(I)Z"⟩, 32), (⟨"WarByHoursModel", "isWar", "()Z"⟩, 32), (⟨"WarByHoursModel", "isTea", "(I)Z"⟩, 32), (⟨"WarByHoursModel", "areTrains", "(I)Z"⟩, 32), (⟨"WarByHoursModel", "allTrains", "()I"⟩, 32), (⟨"WarByHoursModel", "menOf", "(III)I"⟩, 32), (⟨"WarByHoursModel", "comesAt", "(II)I"⟩, 32), (⟨"WarByHoursModel", "frontOf", "(II)I"⟩, 32), (⟨"WarByHoursModel", "isLate", "(II)Z"⟩, 32), (⟨"WarByHoursModel", "winner", "(I)I"⟩, 32), (⟨"WarByHoursModel", "lastFront", "(I)I"⟩, 32), (⟨"WarByHoursModel", "worstOf", "(I)I"⟩, 32), (⟨"WarByHoursModel", "oftenOf", "(I)J"⟩, 32), (⟨"WarByHoursModel", "allOften", "()J"⟩, 32), (⟨"WarByHoursModel", "findSend", "(IZ)V"⟩, 32), (⟨"WarByHoursModel", "trainsOf", "(I)I"⟩, 32)]
theorem lw_r5 : ∀ q ∈ lw_privs_5, lw_okq q := List.forall_mem_cons.mpr ⟨lw_p64, List.forall_mem_cons.mpr ⟨lw_p65, List.forall_mem_cons.mpr ⟨lw_p66, List.forall_mem_cons.mpr ⟨lw_p67, List.forall_mem_cons.mpr ⟨lw_p68, List.forall_mem_cons.mpr ⟨lw_p69, List.forall_mem_cons.mpr ⟨lw_p70, List.forall_mem_cons.mpr ⟨lw_p71, List.forall_mem_cons.mpr ⟨lw_p72, List.forall_mem_cons.mpr ⟨lw_p73, List.forall_mem_cons.mpr ⟨lw_p74, List.forall_mem_cons.mpr ⟨lw_p75, List.forall_mem_cons.mpr ⟨lw_p76, List.forall_mem_cons.mpr ⟨lw_p77, List.forall_mem_cons.mpr ⟨lw_p78, List.forall_mem_cons.mpr ⟨lw_p79, fun _ h => absurd h List.not_mem_nil⟩⟩⟩⟩⟩⟩⟩⟩⟩⟩⟩⟩⟩⟩⟩⟩
set_option maxRecDepth 8000 in
theorem lw_p80 : lw_okq (⟨"WarByHoursModel", "isSurely", "(II)Z"⟩, 32) := ⟨⟨by decide +kernel, by decide +kernel⟩, ck_6 (List.mem_of_getElem? (i := 123) rfl), ck_8 (List.mem_of_getElem? (i := 54) rfl), ck_8 (List.mem_of_getElem? (i := 55) rfl)⟩
set_option maxRecDepth 8000 in
theorem lw_p81 : lw_okq (⟨"WarByHoursModel", "menSent", "(II)I"⟩, 32) := ⟨⟨by decide +kernel, by decide +kernel⟩, ck_6 (List.mem_of_getElem? (i := 123) rfl), ck_8 (List.mem_of_getElem? (i := 58) rfl), ck_8 (List.mem_of_getElem? (i := 59) rfl)⟩
set_option maxRecDepth 8000 in
theorem lw_p82 : lw_okq (⟨"WarByHoursModel", "priceOf", "(I)I"⟩, 32) := ⟨⟨by decide +kernel, by decide +kernel⟩, ck_6 (List.mem_of_getElem? (i := 123) rfl), ck_8 (List.mem_of_getElem? (i := 62) rfl), ck_8 (List.mem_of_getElem? (i := 63) rfl)⟩
set_option maxRecDepth 8000 in
theorem lw_p83 : lw_okq (⟨"WarByHoursModel", "take", "(II)V"⟩, 32) := ⟨⟨by decide +kernel, by decide +kernel⟩, ck_6 (List.mem_of_getElem? (i := 123) rfl), ck_8 (List.mem_of_getElem? (i := 66) rfl), ck_8 (List.mem_of_getElem? (i := 67) rfl)⟩
set_option maxRecDepth 8000 in
theorem lw_p84 : lw_okq (⟨"WarByHoursModel", "orNone", "()I"⟩, 32) := ⟨⟨by decide +kernel, by decide +kernel⟩, ck_6 (List.mem_of_getElem? (i := 123) rfl), ck_8 (List.mem_of_getElem? (i := 70) rfl), ck_8 (List.mem_of_getElem? (i := 71) rfl)⟩
set_option maxRecDepth 8000 in
theorem lw_p85 : lw_okq (⟨"WarByHoursModel", "findRisk", "(II)V"⟩, 32) := ⟨⟨by decide +kernel, by decide +kernel⟩, ck_6 (List.mem_of_getElem? (i := 123) rfl), ck_8 (List.mem_of_getElem? (i := 86) rfl), ck_8 (List.mem_of_getElem? (i := 87) rfl)⟩
set_option maxRecDepth 8000 in
theorem lw_p86 : lw_okq (⟨"WarByHoursModel", "enoughBy", "(II)J"⟩, 32) := ⟨⟨by decide +kernel, by decide +kernel⟩, ck_6 (List.mem_of_getElem? (i := 123) rfl), ck_8 (List.mem_of_getElem? (i := 90) rfl), ck_8 (List.mem_of_getElem? (i := 91) rfl)⟩
set_option maxRecDepth 8000 in
theorem lw_p87 : lw_okq (⟨"WarByHoursModel", "isOften", "(JI)Z"⟩, 32) := ⟨⟨by decide +kernel, by decide +kernel⟩, ck_6 (List.mem_of_getElem? (i := 123) rfl), ck_8 (List.mem_of_getElem? (i := 94) rfl), ck_8 (List.mem_of_getElem? (i := 95) rfl)⟩
set_option maxRecDepth 8000 in
theorem lw_p88 : lw_okq (⟨"WarByHoursModel", "findBribe", "(II)V"⟩, 32) := ⟨⟨by decide +kernel, by decide +kernel⟩, ck_6 (List.mem_of_getElem? (i := 123) rfl), ck_8 (List.mem_of_getElem? (i := 106) rfl), ck_8 (List.mem_of_getElem? (i := 107) rfl)⟩
set_option maxRecDepth 8000 in
theorem lw_p89 : lw_okq (⟨"WarByHoursModel", "guardOf", "(I)I"⟩, 32) := ⟨⟨by decide +kernel, by decide +kernel⟩, ck_6 (List.mem_of_getElem? (i := 123) rfl), ck_8 (List.mem_of_getElem? (i := 118) rfl), ck_8 (List.mem_of_getElem? (i := 119) rfl)⟩
set_option maxRecDepth 8000 in
theorem lw_p90 : lw_okq (⟨"WarByHoursModel", "spoilOf", "(II)I"⟩, 32) := ⟨⟨by decide +kernel, by decide +kernel⟩, ck_6 (List.mem_of_getElem? (i := 123) rfl), ck_8 (List.mem_of_getElem? (i := 134) rfl), ck_8 (List.mem_of_getElem? (i := 135) rfl)⟩
set_option maxRecDepth 8000 in
theorem lw_p91 : lw_okq (⟨"WarByHoursModel", "fillFronts", "()V"⟩, 32) := ⟨⟨by decide +kernel, by decide +kernel⟩, ck_6 (List.mem_of_getElem? (i := 123) rfl), ck_8 (List.mem_of_getElem? (i := 138) rfl), ck_8 (List.mem_of_getElem? (i := 139) rfl)⟩
set_option maxRecDepth 8000 in
theorem lw_p92 : lw_okq (⟨"WarByHoursModel", "isBought", "(III)Z"⟩, 32) := ⟨⟨by decide +kernel, by decide +kernel⟩, ck_6 (List.mem_of_getElem? (i := 123) rfl), ck_8 (List.mem_of_getElem? (i := 142) rfl), ck_8 (List.mem_of_getElem? (i := 143) rfl)⟩
set_option maxRecDepth 8000 in
theorem lw_p93 : lw_okq (⟨"WarByHoursModel", "bestGood", "(III)I"⟩, 32) := ⟨⟨by decide +kernel, by decide +kernel⟩, ck_6 (List.mem_of_getElem? (i := 123) rfl), ck_8 (List.mem_of_getElem? (i := 154) rfl), ck_8 (List.mem_of_getElem? (i := 155) rfl)⟩
set_option maxRecDepth 8000 in
theorem lw_p94 : lw_okq (⟨"WarByHoursModel", "holdOf", "(II)I"⟩, 32) := ⟨⟨by decide +kernel, by decide +kernel⟩, ck_6 (List.mem_of_getElem? (i := 123) rfl), ck_8 (List.mem_of_getElem? (i := 172) rfl), ck_8 (List.mem_of_getElem? (i := 173) rfl)⟩
set_option maxRecDepth 8000 in
theorem lw_p95 : lw_okq (⟨"WarByHoursModel", "heldBy", "(I)I"⟩, 32) := ⟨⟨by decide +kernel, by decide +kernel⟩, ck_6 (List.mem_of_getElem? (i := 123) rfl), ck_8 (List.mem_of_getElem? (i := 176) rfl), ck_8 (List.mem_of_getElem? (i := 177) rfl)⟩
def lw_privs_6 : List (MethodName × Nat) := [(⟨"WarByHoursModel", "isSurely", "(II)Z"⟩, 32), (⟨"WarByHoursModel", "menSent", "(II)I"⟩, 32), (⟨"WarByHoursModel", "priceOf", "(I)I"⟩, 32), (⟨"WarByHoursModel", "take", "(II)V"⟩, 32), (⟨"WarByHoursModel", "orNone", "()I"⟩, 32), (⟨"WarByHoursModel", "findRisk", "(II)V"⟩, 32), (⟨"WarByHoursModel", "enoughBy", "(II)J"⟩, 32), (⟨"WarByHoursModel", "isOften", "(JI)Z"⟩, 32), (⟨"WarByHoursModel", "findBribe", "(II)V"⟩, 32), (⟨"WarByHoursModel", "guardOf", "(I)I"⟩, 32), (⟨"WarByHoursModel", "spoilOf", "(II)I"⟩, 32), (⟨"WarByHoursModel", "fillFronts", "()V"⟩, 32), (⟨"WarByHoursModel", "isBought", "(III)Z"⟩, 32), (⟨"WarByHoursModel", "bestGood", "(III)I"⟩, 32), (⟨"WarByHoursModel", "holdOf", "(II)I"⟩, 32), (⟨"WarByHoursModel", "heldBy", "(I)I"⟩, 32)]
theorem lw_r6 : ∀ q ∈ lw_privs_6, lw_okq q := List.forall_mem_cons.mpr ⟨lw_p80, List.forall_mem_cons.mpr ⟨lw_p81, List.forall_mem_cons.mpr ⟨lw_p82, List.forall_mem_cons.mpr ⟨lw_p83, List.forall_mem_cons.mpr ⟨lw_p84, List.forall_mem_cons.mpr ⟨lw_p85, List.forall_mem_cons.mpr ⟨lw_p86, List.forall_mem_cons.mpr ⟨lw_p87, List.forall_mem_cons.mpr ⟨lw_p88, List.forall_mem_cons.mpr ⟨lw_p89, List.forall_mem_cons.mpr ⟨lw_p90, List.forall_mem_cons.mpr ⟨lw_p91, List.forall_mem_cons.mpr ⟨lw_p92, List.forall_mem_cons.mpr ⟨lw_p93, List.forall_mem_cons.mpr ⟨lw_p94, List.forall_mem_cons.mpr ⟨lw_p95, fun _ h => absurd h List.not_mem_nil⟩⟩⟩⟩⟩⟩⟩⟩⟩⟩⟩⟩⟩⟩⟩⟩
set_option maxRecDepth 8000 in
theorem lw_p96 : lw_okq (⟨"WarByHoursModel", "isSigned", "(I)Z"⟩, 32) := ⟨⟨by decide +kernel, by decide +kernel⟩, ck_6 (List.mem_of_getElem? (i := 123) rfl), ck_8 (List.mem_of_getElem? (i := 195) rfl), ck_8 (List.mem_of_getElem? (i := 196) rfl)⟩
set_option maxRecDepth 8000 in
theorem lw_p97 : lw_okq (⟨"WarByHoursModel", "readingsOf", "(I)I"⟩, 32) := ⟨⟨by decide +kernel, by decide +kernel⟩, ck_6 (List.mem_of_getElem? (i := 123) rfl), ck_8 (List.mem_of_getElem? (i := 200) rfl), ck_8 (List.mem_of_getElem? (i := 201) rfl)⟩
set_option maxRecDepth 8000 in
theorem lw_p98 : lw_okq (⟨"WarByHoursModel", "allReadings", "()I"⟩, 32) := ⟨⟨by decide +kernel, by decide +kernel⟩, ck_6 (List.mem_of_getElem? (i := 123) rfl), ck_8 (List.mem_of_getElem? (i := 204) rfl), ck_8 (List.mem_of_getElem? (i := 205) rfl)⟩
set_option maxRecDepth 8000 in
theorem lw_p99 : lw_okq (⟨"WarByHoursModel", "holdsBy", "(II)Z"⟩, 32) := ⟨⟨by decide +kernel, by decide +kernel⟩, ck_6 (List.mem_of_getElem? (i := 123) rfl), ck_8 (List.mem_of_getElem? (i := 208) rfl), ck_8 (List.mem_of_getElem? (i := 209) rfl)⟩
set_option maxRecDepth 8000 in
theorem lw_p100 : lw_okq (⟨"WarByHoursModel", "closedOf", "(I)I"⟩, 32) := ⟨⟨by decide +kernel, by decide +kernel⟩, ck_6 (List.mem_of_getElem? (i := 123) rfl), ck_8 (List.mem_of_getElem? (i := 220) rfl), ck_8 (List.mem_of_getElem? (i := 221) rfl)⟩
set_option maxRecDepth 8000 in
theorem lw_p101 : lw_okq (⟨"WarByHoursModel", "isTreaty", "(II)Z"⟩, 32) := ⟨⟨by decide +kernel, by decide +kernel⟩, ck_6 (List.mem_of_getElem? (i := 123) rfl), ck_8 (List.mem_of_getElem? (i := 236) rfl), ck_8 (List.mem_of_getElem? (i := 237) rfl)⟩
set_option maxRecDepth 8000 in
theorem lw_p102 : lw_okq (⟨"WarByHoursModel", "spiesBy", "(I)I"⟩, 32) := ⟨⟨by decide +kernel, by decide +kernel⟩, ck_6 (List.mem_of_getElem? (i := 123) rfl), ck_9 (List.mem_of_getElem? (i := 9) rfl), ck_9 (List.mem_of_getElem? (i := 10) rfl)⟩
set_option maxRecDepth 8000 in
theorem lw_p103 : lw_okq (⟨"WarByHoursModel", "watchOf", "(I)I"⟩, 32) := ⟨⟨by decide +kernel, by decide +kernel⟩, ck_6 (List.mem_of_getElem? (i := 123) rfl), ck_9 (List.mem_of_getElem? (i := 17) rfl), ck_9 (List.mem_of_getElem? (i := 18) rfl)⟩
set_option maxRecDepth 8000 in
theorem lw_p104 : lw_okq (⟨"WarByHoursModel", "knowing", "(II)I"⟩, 32) := ⟨⟨by decide +kernel, by decide +kernel⟩, ck_6 (List.mem_of_getElem? (i := 123) rfl), ck_9 (List.mem_of_getElem? (i := 21) rfl), ck_9 (List.mem_of_getElem? (i := 22) rfl)⟩
set_option maxRecDepth 8000 in
theorem lw_p105 : lw_okq (⟨"WarByHoursModel", "grantOf", "(Z)I"⟩, 32) := ⟨⟨by decide +kernel, by decide +kernel⟩, ck_6 (List.mem_of_getElem? (i := 123) rfl), ck_9 (List.mem_of_getElem? (i := 37) rfl), ck_9 (List.mem_of_getElem? (i := 38) rfl)⟩
set_option maxRecDepth 8000 in
theorem lw_p106 : lw_okq (⟨"WarByHoursModel", "ofAsk", "(II)I"⟩, 32) := ⟨⟨by decide +kernel, by decide +kernel⟩, ck_6 (List.mem_of_getElem? (i := 123) rfl), ck_9 (List.mem_of_getElem? (i := 41) rfl), ck_9 (List.mem_of_getElem? (i := 42) rfl)⟩
set_option maxRecDepth 8000 in
theorem lw_p107 : lw_okq (⟨"WarByHoursModel", "canGrant", "(IZ)Z"⟩, 32) := ⟨⟨by decide +kernel, by decide +kernel⟩, ck_6 (List.mem_of_getElem? (i := 123) rfl), ck_9 (List.mem_of_getElem? (i := 45) rfl), ck_9 (List.mem_of_getElem? (i := 46) rfl)⟩
set_option maxRecDepth 8000 in
theorem lw_p108 : lw_okq (⟨"WarByHoursModel", "nextAsk", "(II)I"⟩, 32) := ⟨⟨by decide +kernel, by decide +kernel⟩, ck_6 (List.mem_of_getElem? (i := 123) rfl), ck_9 (List.mem_of_getElem? (i := 49) rfl), ck_9 (List.mem_of_getElem? (i := 50) rfl)⟩
set_option maxRecDepth 8000 in
theorem lw_p109 : lw_okq (⟨"WarByHoursModel", "endOf", "(I)I"⟩, 32) := ⟨⟨by decide +kernel, by decide +kernel⟩, ck_6 (List.mem_of_getElem? (i := 123) rfl), ck_9 (List.mem_of_getElem? (i := 53) rfl), ck_9 (List.mem_of_getElem? (i := 54) rfl)⟩
set_option maxRecDepth 8000 in
theorem lw_p110 : lw_okq (⟨"WarByHoursModel", "changed", "(II)I"⟩, 32) := ⟨⟨by decide +kernel, by decide +kernel⟩, ck_6 (List.mem_of_getElem? (i := 123) rfl), ck_9 (List.mem_of_getElem? (i := 81) rfl), ck_9 (List.mem_of_getElem? (i := 82) rfl)⟩
set_option maxRecDepth 8000 in
theorem lw_p111 : lw_okq (⟨"WarByHoursModel", "change", "(II)V"⟩, 32) := ⟨⟨by decide +kernel, by decide +kernel⟩, ck_6 (List.mem_of_getElem? (i := 123) rfl), ck_9 (List.mem_of_getElem? (i := 85) rfl), ck_9 (List.mem_of_getElem? (i := 86) rfl)⟩
def lw_privs_7 : List (MethodName × Nat) := [(⟨"WarByHoursModel", "isSigned", "(I)Z"⟩, 32), (⟨"WarByHoursModel", "readingsOf", "(I)I"⟩, 32), (⟨"WarByHoursModel", "allReadings", "()I"⟩, 32), (⟨"WarByHoursModel", "holdsBy", "(II)Z"⟩, 32), (⟨"WarByHoursModel", "closedOf", "(I)I"⟩, 32), (⟨"WarByHoursModel", "isTreaty", "(II)Z"⟩, 32), (⟨"WarByHoursModel", "spiesBy", "(I)I"⟩, 32), (⟨"WarByHoursModel", "watchOf", "(I)I"⟩, 32), (⟨"WarByHoursModel", "knowing", "(II)I"⟩, 32), (⟨"WarByHoursModel", "grantOf", "(Z)I"⟩, 32), (⟨"WarByHoursModel", "ofAsk", "(II)I"⟩, 32), (⟨"WarByHoursModel", "canGrant", "(IZ)Z"⟩, 32), (⟨"WarByHoursModel", "nextAsk", "(II)I"⟩, 32), (⟨"WarByHoursModel", "endOf", "(I)I"⟩, 32), (⟨"WarByHoursModel", "changed", "(II)I"⟩, 32), (⟨"WarByHoursModel", "change", "(II)V"⟩, 32)]
theorem lw_r7 : ∀ q ∈ lw_privs_7, lw_okq q := List.forall_mem_cons.mpr ⟨lw_p96, List.forall_mem_cons.mpr ⟨lw_p97, List.forall_mem_cons.mpr ⟨lw_p98, List.forall_mem_cons.mpr ⟨lw_p99, List.forall_mem_cons.mpr ⟨lw_p100, List.forall_mem_cons.mpr ⟨lw_p101, List.forall_mem_cons.mpr ⟨lw_p102, List.forall_mem_cons.mpr ⟨lw_p103, List.forall_mem_cons.mpr ⟨lw_p104, List.forall_mem_cons.mpr ⟨lw_p105, List.forall_mem_cons.mpr ⟨lw_p106, List.forall_mem_cons.mpr ⟨lw_p107, List.forall_mem_cons.mpr ⟨lw_p108, List.forall_mem_cons.mpr ⟨lw_p109, List.forall_mem_cons.mpr ⟨lw_p110, List.forall_mem_cons.mpr ⟨lw_p111, fun _ h => absurd h List.not_mem_nil⟩⟩⟩⟩⟩⟩⟩⟩⟩⟩⟩⟩⟩⟩⟩⟩
set_option maxRecDepth 8000 in
theorem lw_p112 : lw_okq (⟨"WarByHoursModel", "isSeed", "(I)Z"⟩, 32) := ⟨⟨by decide +kernel, by decide +kernel⟩, ck_6 (List.mem_of_getElem? (i := 123) rfl), ck_9 (List.mem_of_getElem? (i := 101) rfl), ck_9 (List.mem_of_getElem? (i := 102) rfl)⟩
set_option maxRecDepth 8000 in
theorem lw_p113 : lw_okq (⟨"WarByHoursModel", "drawnDelays", "(J)I"⟩, 32) := ⟨⟨by decide +kernel, by decide +kernel⟩, ck_6 (List.mem_of_getElem? (i := 123) rfl), ck_9 (List.mem_of_getElem? (i := 106) rfl), ck_9 (List.mem_of_getElem? (i := 107) rfl)⟩
def lw_privs_8 : List (MethodName × Nat) := [(⟨"WarByHoursModel", "isSeed", "(I)Z"⟩, 32), (⟨"WarByHoursModel", "drawnDelays", "(J)I"⟩, 32)]
theorem lw_r8 : ∀ q ∈ lw_privs_8, lw_okq q := List.forall_mem_cons.mpr ⟨lw_p112, List.forall_mem_cons.mpr ⟨lw_p113, fun _ h => absurd h List.not_mem_nil⟩⟩
def lw_privs : List (MethodName × Nat) := lw_privs_1 ++ (lw_privs_2 ++ (lw_privs_3 ++ (lw_privs_4 ++ (lw_privs_5 ++ (lw_privs_6 ++ (lw_privs_7 ++ (lw_privs_8)))))))
def lw_tbl : List Cond := k2_sels lw_privs ++ tables_1
theorem lw_privs_ok : ∀ q ∈ lw_privs, lw_okq q := by
  show ∀ q ∈ lw_privs_1 ++ (lw_privs_2 ++ (lw_privs_3 ++ (lw_privs_4 ++ (lw_privs_5 ++ (lw_privs_6 ++ (lw_privs_7 ++ (lw_privs_8))))))), lw_okq q
  exact List.forall_mem_append.mpr ⟨lw_r1, List.forall_mem_append.mpr ⟨lw_r2, List.forall_mem_append.mpr ⟨lw_r3, List.forall_mem_append.mpr ⟨lw_r4, List.forall_mem_append.mpr ⟨lw_r5, List.forall_mem_append.mpr ⟨lw_r6, List.forall_mem_append.mpr ⟨lw_r7, lw_r8⟩⟩⟩⟩⟩⟩⟩
-- ===== end of PART A; then your names; then what follows =====
def RX0 : String := "WarByHours$Cannon"
def TX0 : u_T := fun k => match k with
  | 0 => ("WarByHours$Cannon", "war", "LWarByHours$War;", true)
  | _ => ("WarByHours$Cannon", "order", "[I", true)
def tyX0 : Nat → FieldType := fun k => match k with
  | 0 => .object "WarByHours$War"
  | _ => .array .int
abbrev wsX00 : List Cond := u_ws RX0 TX0 2
theorem nmX0 : ∀ a, a < 2 → ∀ b, b < 2 → a ≠ b → (TX0 a).2.1 ≠ (TX0 b).2.1 := by decide +kernel
theorem tyX0_ok : ∀ k, k < 2 → parseFieldDescriptor (TX0 k).2.2.1 = some (tyX0 k) := by decide +kernel
abbrev cX0_init : ByteArray := prog_2_method_1_code
def yX0_init : MethodName := ⟨RX0, "<init>", "(LWarByHours$War;)V"⟩
abbrev cX0_bestSet : ByteArray := prog_2_method_2_code
def yX0_bestSet : MethodName := ⟨RX0, "bestSet", "(Z)I"⟩
abbrev cX0_worthOf : ByteArray := prog_2_method_3_code
def yX0_worthOf : MethodName := ⟨RX0, "worthOf", "(I)I"⟩
abbrev cX0_canStand : ByteArray := prog_2_method_4_code
def yX0_canStand : MethodName := ⟨RX0, "canStand", "(IZ)Z"⟩
abbrev cX0_sortByMinute : ByteArray := prog_2_method_5_code
def yX0_sortByMinute : MethodName := ⟨RX0, "sortByMinute", "()V"⟩
def RX1 : String := "WarByHours$Chances"
def TX1 : u_T := fun k => match k with
  | _ => ("", "", "", false)
def tyX1 : Nat → FieldType := fun k => match k with
  | _ => .int
abbrev wsX10 : List Cond := u_ws RX1 TX1 0
theorem nmX1 : ∀ a, a < 0 → ∀ b, b < 0 → a ≠ b → (TX1 a).2.1 ≠ (TX1 b).2.1 := by decide +kernel
theorem tyX1_ok : ∀ k, k < 0 → parseFieldDescriptor (TX1 k).2.2.1 = some (tyX1 k) := by decide +kernel
abbrev cX1_lowest : ByteArray := prog_3_method_2_code
def yX1_lowest : MethodName := ⟨RX1, "lowest", "(JJI)J"⟩
abbrev cX1_hundreds : ByteArray := prog_3_method_3_code
def yX1_hundreds : MethodName := ⟨RX1, "hundreds", "(I)J"⟩
abbrev cX1_delayParts : ByteArray := prog_3_method_4_code
def yX1_delayParts : MethodName := ⟨RX1, "delayParts", "(LWarByHours$War;I)J"⟩
abbrev cX1_dryParts : ByteArray := prog_3_method_5_code
def yX1_dryParts : MethodName := ⟨RX1, "dryParts", "(III)J"⟩
abbrev cX1_wednesdaysToInsist : ByteArray := prog_3_method_6_code
def yX1_wednesdaysToInsist : MethodName := ⟨RX1, "wednesdaysToInsist", "(II)I"⟩
abbrev cX1_drawnDelays : ByteArray := prog_3_method_7_code
def yX1_drawnDelays : MethodName := ⟨RX1, "drawnDelays", "(LWarByHours$War;I)I"⟩
abbrev cX1_next : ByteArray := prog_3_method_8_code
def yX1_next : MethodName := ⟨RX1, "next", "(J)J"⟩
abbrev cX1_draw : ByteArray := prog_3_method_9_code
def yX1_draw : MethodName := ⟨RX1, "draw", "(J)I"⟩
abbrev cX1_power : ByteArray := prog_3_method_10_code
def yX1_power : MethodName := ⟨RX1, "power", "(II)J"⟩
abbrev cX1_choices : ByteArray := prog_3_method_11_code
def yX1_choices : MethodName := ⟨RX1, "choices", "(II)J"⟩
abbrev cX1_commonDivisor : ByteArray := prog_3_method_12_code
def yX1_commonDivisor : MethodName := ⟨RX1, "commonDivisor", "(JJ)J"⟩
def RX2 : String := "WarByHours$Course"
def TX2 : u_T := fun k => match k with
  | 0 => ("WarByHours$Course", "war", "LWarByHours$War;", true)
  | 1 => ("WarByHours$Course", "fronts", "[I", true)
  | 2 => ("WarByHours$Course", "men", "[I", true)
  | 3 => ("WarByHours$Course", "ends", "[I", true)
  | 4 => ("WarByHours$Course", "winners", "[I", true)
  | _ => ("WarByHours$Course", "reckoned", "Z", false)
def tyX2 : Nat → FieldType := fun k => match k with
  | 0 => .object "WarByHours$War"
  | 1 => .array .int
  | 2 => .array .int
  | 3 => .array .int
  | 4 => .array .int
  | _ => .boolean
abbrev wsX20 : List Cond := u_ws RX2 TX2 6
theorem nmX2 : ∀ a, a < 6 → ∀ b, b < 6 → a ≠ b → (TX2 a).2.1 ≠ (TX2 b).2.1 := by decide +kernel
theorem tyX2_ok : ∀ k, k < 6 → parseFieldDescriptor (TX2 k).2.2.1 = some (tyX2 k) := by decide +kernel
abbrev cX2_init : ByteArray := prog_4_method_1_code
def yX2_init : MethodName := ⟨RX2, "<init>", "(LWarByHours$War;)V"⟩
abbrev cX2_forget : ByteArray := prog_4_method_2_code
def yX2_forget : MethodName := ⟨RX2, "forget", "()V"⟩
abbrev cX2_follow : ByteArray := prog_4_method_3_code
def yX2_follow : MethodName := ⟨RX2, "follow", "(I)V"⟩
abbrev cX2_frontBehind : ByteArray := prog_4_method_4_code
def yX2_frontBehind : MethodName := ⟨RX2, "frontBehind", "(I)I"⟩
abbrev cX2_winnerBy : ByteArray := prog_4_method_5_code
def yX2_winnerBy : MethodName := ⟨RX2, "winnerBy", "(I)I"⟩
abbrev cX2_peakOf : ByteArray := prog_4_method_6_code
def yX2_peakOf : MethodName := ⟨RX2, "peakOf", "(I)I"⟩
abbrev cX2_countSwings : ByteArray := prog_4_method_7_code
def yX2_countSwings : MethodName := ⟨RX2, "countSwings", "()I"⟩
abbrev cX2_farthestFrom : ByteArray := prog_4_method_8_code
def yX2_farthestFrom : MethodName := ⟨RX2, "farthestFrom", "(I)I"⟩
abbrev cX2_treatyEnds : ByteArray := prog_4_method_9_code
def yX2_treatyEnds : MethodName := ⟨RX2, "treatyEnds", "()J"⟩
abbrev cX2_goodAtEnd : ByteArray := prog_4_method_10_code
def yX2_goodAtEnd : MethodName := ⟨RX2, "goodAtEnd", "(II)I"⟩
abbrev cX2_worstSet : ByteArray := prog_4_method_11_code
def yX2_worstSet : MethodName := ⟨RX2, "worstSet", "(I)I"⟩
abbrev cX2_countWays : ByteArray := prog_4_method_12_code
def yX2_countWays : MethodName := ⟨RX2, "countWays", "(I)I"⟩
abbrev cX2_idleTrains : ByteArray := prog_4_method_13_code
def yX2_idleTrains : MethodName := ⟨RX2, "idleTrains", "()I"⟩
abbrev cX2_winningParts : ByteArray := prog_4_method_14_code
def yX2_winningParts : MethodName := ⟨RX2, "winningParts", "(I)J"⟩
abbrev cX2_isIdle : ByteArray := prog_4_method_15_code
def yX2_isIdle : MethodName := ⟨RX2, "isIdle", "(I)Z"⟩
abbrev cX2_reckon : ByteArray := prog_4_method_16_code
def yX2_reckon : MethodName := ⟨RX2, "reckon", "()V"⟩
abbrev cX2_isArrival : ByteArray := prog_4_method_17_code
def yX2_isArrival : MethodName := ⟨RX2, "isArrival", "(I)Z"⟩
abbrev cX2_takeMen : ByteArray := prog_4_method_18_code
def yX2_takeMen : MethodName := ⟨RX2, "takeMen", "(III)V"⟩
abbrev cX2_moveEnds : ByteArray := prog_4_method_19_code
def yX2_moveEnds : MethodName := ⟨RX2, "moveEnds", "(I)V"⟩
abbrev cX2_findWinners : ByteArray := prog_4_method_20_code
def yX2_findWinners : MethodName := ⟨RX2, "findWinners", "()V"⟩
abbrev cX2_reckonedWinner : ByteArray := prog_4_method_21_code
def yX2_reckonedWinner : MethodName := ⟨RX2, "reckonedWinner", "(I)I"⟩
abbrev cX2_winner : ByteArray := prog_4_method_22_code
def yX2_winner : MethodName := ⟨RX2, "winner", "(II)I"⟩
abbrev cX2_good : ByteArray := prog_4_method_23_code
def yX2_good : MethodName := ⟨RX2, "good", "(II)I"⟩
abbrev cX2_signOf : ByteArray := prog_4_method_24_code
def yX2_signOf : MethodName := ⟨RX2, "signOf", "(I)I"⟩
def RX3 : String := "WarByHours$Fares"
def TX3 : u_T := fun k => match k with
  | 0 => ("WarByHours$Fares", "war", "LWarByHours$War;", true)
  | 1 => ("WarByHours$Fares", "course", "LWarByHours$Course;", true)
  | 2 => ("WarByHours$Fares", "prices", "[I", true)
  | 3 => ("WarByHours$Fares", "men", "[I", true)
  | 4 => ("WarByHours$Fares", "parts", "[J", true)
  | 5 => ("WarByHours$Fares", "fits", "[Z", true)
  | 6 => ("WarByHours$Fares", "best", "[I", true)
  | _ => ("WarByHours$Fares", "least", "[I", true)
def tyX3 : Nat → FieldType := fun k => match k with
  | 0 => .object "WarByHours$War"
  | 1 => .object "WarByHours$Course"
  | 2 => .array .int
  | 3 => .array .int
  | 4 => .array .long
  | 5 => .array .boolean
  | 6 => .array .int
  | _ => .array .int
abbrev wsX30 : List Cond := u_ws RX3 TX3 8
theorem nmX3 : ∀ a, a < 8 → ∀ b, b < 8 → a ≠ b → (TX3 a).2.1 ≠ (TX3 b).2.1 := by decide +kernel
theorem tyX3_ok : ∀ k, k < 8 → parseFieldDescriptor (TX3 k).2.2.1 = some (tyX3 k) := by decide +kernel
abbrev cX3_init : ByteArray := prog_5_method_1_code
def yX3_init : MethodName := ⟨RX3, "<init>", "(LWarByHours$War;LWarByHours$Course;)V"⟩
abbrev cX3_enoughParts : ByteArray := prog_5_method_2_code
def yX3_enoughParts : MethodName := ⟨RX3, "enoughParts", "(I)J"⟩
abbrev cX3_sentSet : ByteArray := prog_5_method_3_code
def yX3_sentSet : MethodName := ⟨RX3, "sentSet", "(I)I"⟩
abbrev cX3_fewestSent : ByteArray := prog_5_method_4_code
def yX3_fewestSent : MethodName := ⟨RX3, "fewestSent", "(I)I"⟩
abbrev cX3_riskedSet : ByteArray := prog_5_method_5_code
def yX3_riskedSet : MethodName := ⟨RX3, "riskedSet", "(II)I"⟩
abbrev cX3_bribedSet : ByteArray := prog_5_method_6_code
def yX3_bribedSet : MethodName := ⟨RX3, "bribedSet", "(II)I"⟩
abbrev cX3_guardedTrain : ByteArray := prog_5_method_7_code
def yX3_guardedTrain : MethodName := ⟨RX3, "guardedTrain", "(I)I"⟩
abbrev cX3_spoiledSet : ByteArray := prog_5_method_8_code
def yX3_spoiledSet : MethodName := ⟨RX3, "spoiledSet", "(II)I"⟩
abbrev cX3_answeredGood : ByteArray := prog_5_method_9_code
def yX3_answeredGood : MethodName := ⟨RX3, "answeredGood", "(II)I"⟩
abbrev cX3_countRests : ByteArray := prog_5_method_10_code
def yX3_countRests : MethodName := ⟨RX3, "countRests", "(I)I"⟩
abbrev cX3_meetAnswers : ByteArray := prog_5_method_11_code
def yX3_meetAnswers : MethodName := ⟨RX3, "meetAnswers", "(II)V"⟩
abbrev cX3_isBought : ByteArray := prog_5_method_12_code
def yX3_isBought : MethodName := ⟨RX3, "isBought", "(III)Z"⟩
abbrev cX3_takePrices : ByteArray := prog_5_method_13_code
def yX3_takePrices : MethodName := ⟨RX3, "takePrices", "()V"⟩
abbrev cX3_fitByDelays : ByteArray := prog_5_method_14_code
def yX3_fitByDelays : MethodName := ⟨RX3, "fitByDelays", "(I)V"⟩
abbrev cX3_fitByChance : ByteArray := prog_5_method_15_code
def yX3_fitByChance : MethodName := ⟨RX3, "fitByChance", "(II)V"⟩
abbrev cX3_takeParts : ByteArray := prog_5_method_16_code
def yX3_takeParts : MethodName := ⟨RX3, "takeParts", "(I)V"⟩
abbrev cX3_mayBeLate : ByteArray := prog_5_method_17_code
def yX3_mayBeLate : MethodName := ⟨RX3, "mayBeLate", "(I)V"⟩
abbrev cX3_cheapest : ByteArray := prog_5_method_18_code
def yX3_cheapest : MethodName := ⟨RX3, "cheapest", "(I)I"⟩
abbrev cX3_orPriceless : ByteArray := prog_5_method_19_code
def yX3_orPriceless : MethodName := ⟨RX3, "orPriceless", "(I)I"⟩
def RX4 : String := "WarByHours$Peace"
def TX4 : u_T := fun k => match k with
  | _ => ("WarByHours$Peace", "war", "LWarByHours$War;", true)
def tyX4 : Nat → FieldType := fun k => match k with
  | _ => .object "WarByHours$War"
abbrev wsX40 : List Cond := u_ws RX4 TX4 1
theorem nmX4 : ∀ a, a < 1 → ∀ b, b < 1 → a ≠ b → (TX4 a).2.1 ≠ (TX4 b).2.1 := by decide +kernel
theorem tyX4_ok : ∀ k, k < 1 → parseFieldDescriptor (TX4 k).2.2.1 = some (tyX4 k) := by decide +kernel
abbrev cX4_init : ByteArray := prog_6_method_1_code
def yX4_init : MethodName := ⟨RX4, "<init>", "(LWarByHours$War;)V"⟩
abbrev cX4_countReadings : ByteArray := prog_6_method_2_code
def yX4_countReadings : MethodName := ⟨RX4, "countReadings", "(I)I"⟩
abbrev cX4_loopholeMinutes : ByteArray := prog_6_method_3_code
def yX4_loopholeMinutes : MethodName := ⟨RX4, "loopholeMinutes", "()J"⟩
abbrev cX4_firstSafeMinute : ByteArray := prog_6_method_4_code
def yX4_firstSafeMinute : MethodName := ⟨RX4, "firstSafeMinute", "()I"⟩
abbrev cX4_closingBounds : ByteArray := prog_6_method_5_code
def yX4_closingBounds : MethodName := ⟨RX4, "closingBounds", "(I)I"⟩
abbrev cX4_allReadings : ByteArray := prog_6_method_6_code
def yX4_allReadings : MethodName := ⟨RX4, "allReadings", "()I"⟩
abbrev cX4_isHeld : ByteArray := prog_6_method_7_code
def yX4_isHeld : MethodName := ⟨RX4, "isHeld", "(II)Z"⟩
def RX5 : String := "WarByHours$Places"
def TX5 : u_T := fun k => match k with
  | 0 => ("WarByHours$Places", "value", "I", false)
  | 1 => ("WarByHours$Places", "way", "[I", true)
  | 2 => ("WarByHours$Places", "countered", "[I", true)
  | 3 => ("WarByHours$Places", "tried", "[I", true)
  | _ => ("WarByHours$Places", "against", "[I", true)
def tyX5 : Nat → FieldType := fun k => match k with
  | 0 => .int
  | 1 => .array .int
  | 2 => .array .int
  | 3 => .array .int
  | _ => .array .int
abbrev wsX50 : List Cond := u_ws RX5 TX5 5
theorem nmX5 : ∀ a, a < 5 → ∀ b, b < 5 → a ≠ b → (TX5 a).2.1 ≠ (TX5 b).2.1 := by decide +kernel
theorem tyX5_ok : ∀ k, k < 5 → parseFieldDescriptor (TX5 k).2.2.1 = some (tyX5 k) := by decide +kernel
abbrev cX5_init : ByteArray := prog_7_method_1_code
def yX5_init : MethodName := ⟨RX5, "<init>", "()V"⟩
abbrev cX5_settle : ByteArray := prog_7_method_2_code
def yX5_settle : MethodName := ⟨RX5, "settle", "(II)V"⟩
abbrev cX5_meet : ByteArray := prog_7_method_3_code
def yX5_meet : MethodName := ⟨RX5, "meet", "(I)I"⟩
abbrev cX5_put : ByteArray := prog_7_method_4_code
def yX5_put : MethodName := ⟨RX5, "put", "([IIII)V"⟩
def RX6 : String := "WarByHours$Reader"
def TX6 : u_T := fun k => match k with
  | 0 => ("WarByHours$Reader", "tape", "[B", true)
  | 1 => ("WarByHours$Reader", "length", "I", false)
  | 2 => ("WarByHours$Reader", "fault", "I", false)
  | 3 => ("WarByHours$Reader", "place", "I", false)
  | 4 => ("WarByHours$Reader", "war", "LWarByHours$War;", true)
  | 5 => ("WarByHours$Reader", "from", "I", false)
  | 6 => ("WarByHours$Reader", "to", "I", false)
  | 7 => ("WarByHours$Reader", "kind", "I", false)
  | _ => ("WarByHours$Reader", "value", "I", false)
def tyX6 : Nat → FieldType := fun k => match k with
  | 0 => .array .byte
  | 1 => .int
  | 2 => .int
  | 3 => .int
  | 4 => .object "WarByHours$War"
  | 5 => .int
  | 6 => .int
  | 7 => .int
  | _ => .int
abbrev wsX60 : List Cond := u_ws RX6 TX6 9
theorem nmX6 : ∀ a, a < 9 → ∀ b, b < 9 → a ≠ b → (TX6 a).2.1 ≠ (TX6 b).2.1 := by decide +kernel
theorem tyX6_ok : ∀ k, k < 9 → parseFieldDescriptor (TX6 k).2.2.1 = some (tyX6 k) := by decide +kernel
abbrev cX6_init : ByteArray := prog_8_method_1_code
def yX6_init : MethodName := ⟨RX6, "<init>", "(LWarByHours$War;)V"⟩
abbrev cX6_hasRoom : ByteArray := prog_8_method_2_code
def yX6_hasRoom : MethodName := ⟨RX6, "hasRoom", "(I)Z"⟩
abbrev cX6_take : ByteArray := prog_8_method_3_code
def yX6_take : MethodName := ⟨RX6, "take", "(I)V"⟩
abbrev cX6_cut : ByteArray := prog_8_method_4_code
def yX6_cut : MethodName := ⟨RX6, "cut", "(I)Z"⟩
abbrev cX6_read : ByteArray := prog_8_method_5_code
def yX6_read : MethodName := ⟨RX6, "read", "()V"⟩
abbrev cX6_readLine : ByteArray := prog_8_method_6_code
def yX6_readLine : MethodName := ⟨RX6, "readLine", "()V"⟩
abbrev cX6_readWar : ByteArray := prog_8_method_7_code
def yX6_readWar : MethodName := ⟨RX6, "readWar", "()V"⟩
abbrev cX6_readNeed : ByteArray := prog_8_method_8_code
def yX6_readNeed : MethodName := ⟨RX6, "readNeed", "()V"⟩
abbrev cX6_readTrain : ByteArray := prog_8_method_9_code
def yX6_readTrain : MethodName := ⟨RX6, "readTrain", "()V"⟩
abbrev cX6_readSpan : ByteArray := prog_8_method_10_code
def yX6_readSpan : MethodName := ⟨RX6, "readSpan", "(LWarByHours$Table;)V"⟩
abbrev cX6_readAsk : ByteArray := prog_8_method_11_code
def yX6_readAsk : MethodName := ⟨RX6, "readAsk", "()V"⟩
abbrev cX6_readSpy : ByteArray := prog_8_method_12_code
def yX6_readSpy : MethodName := ⟨RX6, "readSpy", "()V"⟩
abbrev cX6_begin : ByteArray := prog_8_method_13_code
def yX6_begin : MethodName := ⟨RX6, "begin", "(LWarByHours$Table;)V"⟩
abbrev cX6_cell : ByteArray := prog_8_method_14_code
def yX6_cell : MethodName := ⟨RX6, "cell", "(LWarByHours$Table;III)V"⟩
abbrev cX6_word : ByteArray := prog_8_method_15_code
def yX6_word : MethodName := ⟨RX6, "word", "(Ljava/lang/String;)V"⟩
abbrev cX6_number : ByteArray := prog_8_method_16_code
def yX6_number : MethodName := ⟨RX6, "number", "(II)I"⟩
abbrev cX6_sign : ByteArray := prog_8_method_17_code
def yX6_sign : MethodName := ⟨RX6, "sign", "()V"⟩
abbrev cX6_blame : ByteArray := prog_8_method_18_code
def yX6_blame : MethodName := ⟨RX6, "blame", "(I)V"⟩
abbrev cX6_sees : ByteArray := prog_8_method_19_code
def yX6_sees : MethodName := ⟨RX6, "sees", "(Ljava/lang/String;)Z"⟩
abbrev cX6_advance : ByteArray := prog_8_method_20_code
def yX6_advance : MethodName := ⟨RX6, "advance", "()V"⟩
abbrev cX6_kindAt : ByteArray := prog_8_method_21_code
def yX6_kindAt : MethodName := ⟨RX6, "kindAt", "(I)I"⟩
abbrev cX6_byteAt : ByteArray := prog_8_method_22_code
def yX6_byteAt : MethodName := ⟨RX6, "byteAt", "(I)I"⟩
def RX7 : String := "WarByHours$Slots"
def TX7 : u_T := fun k => match k with
  | 0 => ("WarByHours$Slots", "has", "[Z", true)
  | 1 => ("WarByHours$Slots", "widths", "[I", true)
  | 2 => ("WarByHours$Slots", "sizes", "[I", true)
  | _ => ("WarByHours$Slots", "numbers", "[J", true)
def tyX7 : Nat → FieldType := fun k => match k with
  | 0 => .array .boolean
  | 1 => .array .int
  | 2 => .array .int
  | _ => .array .long
abbrev wsX70 : List Cond := u_ws RX7 TX7 4
theorem nmX7 : ∀ a, a < 4 → ∀ b, b < 4 → a ≠ b → (TX7 a).2.1 ≠ (TX7 b).2.1 := by decide +kernel
theorem tyX7_ok : ∀ k, k < 4 → parseFieldDescriptor (TX7 k).2.2.1 = some (tyX7 k) := by decide +kernel
abbrev cX7_init : ByteArray := prog_9_method_1_code
def yX7_init : MethodName := ⟨RX7, "<init>", "()V"⟩
abbrev cX7_countRows : ByteArray := prog_9_method_2_code
def yX7_countRows : MethodName := ⟨RX7, "countRows", "()I"⟩
abbrev cX7_lay : ByteArray := prog_9_method_3_code
def yX7_lay : MethodName := ⟨RX7, "lay", "(III)I"⟩
abbrev cX7_put : ByteArray := prog_9_method_4_code
def yX7_put : MethodName := ⟨RX7, "put", "(IIJ)I"⟩
abbrev cX7_copy : ByteArray := prog_9_method_5_code
def yX7_copy : MethodName := ⟨RX7, "copy", "(IIIII)I"⟩
abbrev cX7_isWithin : ByteArray := prog_9_method_6_code
def yX7_isWithin : MethodName := ⟨RX7, "isWithin", "(III)Z"⟩
abbrev cX7_isSlot : ByteArray := prog_9_method_7_code
def yX7_isSlot : MethodName := ⟨RX7, "isSlot", "(I)Z"⟩
abbrev cX7_cutTo : ByteArray := prog_9_method_8_code
def yX7_cutTo : MethodName := ⟨RX7, "cutTo", "(IJ)J"⟩
def RX8 : String := "WarByHours$Suspects"
def TX8 : u_T := fun k => match k with
  | _ => ("WarByHours$Suspects", "war", "LWarByHours$War;", true)
def tyX8 : Nat → FieldType := fun k => match k with
  | _ => .object "WarByHours$War"
abbrev wsX80 : List Cond := u_ws RX8 TX8 1
theorem nmX8 : ∀ a, a < 1 → ∀ b, b < 1 → a ≠ b → (TX8 a).2.1 ≠ (TX8 b).2.1 := by decide +kernel
theorem tyX8_ok : ∀ k, k < 1 → parseFieldDescriptor (TX8 k).2.2.1 = some (tyX8 k) := by decide +kernel
abbrev cX8_init : ByteArray := prog_10_method_1_code
def yX8_init : MethodName := ⟨RX8, "<init>", "(LWarByHours$War;)V"⟩
abbrev cX8_fitting : ByteArray := prog_10_method_2_code
def yX8_fitting : MethodName := ⟨RX8, "fitting", "(I)I"⟩
abbrev cX8_trainToWatch : ByteArray := prog_10_method_3_code
def yX8_trainToWatch : MethodName := ⟨RX8, "trainToWatch", "(I)I"⟩
abbrev cX8_leftAtWorst : ByteArray := prog_10_method_4_code
def yX8_leftAtWorst : MethodName := ⟨RX8, "leftAtWorst", "(II)I"⟩
abbrev cX8_knownToAll : ByteArray := prog_10_method_5_code
def yX8_knownToAll : MethodName := ⟨RX8, "knownToAll", "(I)I"⟩
abbrev cX8_knownToSome : ByteArray := prog_10_method_6_code
def yX8_knownToSome : MethodName := ⟨RX8, "knownToSome", "(I)I"⟩
abbrev cX8_knownTo : ByteArray := prog_10_method_7_code
def yX8_knownTo : MethodName := ⟨RX8, "knownTo", "(I)I"⟩
def RX9 : String := "WarByHours$Table"
def TX9 : u_T := fun k => match k with
  | 0 => ("WarByHours$Table", "width", "I", true)
  | 1 => ("WarByHours$Table", "room", "I", true)
  | 2 => ("WarByHours$Table", "cells", "[I", true)
  | _ => ("WarByHours$Table", "size", "I", false)
def tyX9 : Nat → FieldType := fun k => match k with
  | 0 => .int
  | 1 => .int
  | 2 => .array .int
  | _ => .int
abbrev wsX90 : List Cond := u_ws RX9 TX9 4
theorem nmX9 : ∀ a, a < 4 → ∀ b, b < 4 → a ≠ b → (TX9 a).2.1 ≠ (TX9 b).2.1 := by decide +kernel
theorem tyX9_ok : ∀ k, k < 4 → parseFieldDescriptor (TX9 k).2.2.1 = some (tyX9 k) := by decide +kernel
abbrev cX9_init : ByteArray := prog_11_method_1_code
def yX9_init : MethodName := ⟨RX9, "<init>", "(II)V"⟩
abbrev cX9_isFull : ByteArray := prog_11_method_2_code
def yX9_isFull : MethodName := ⟨RX9, "isFull", "()Z"⟩
abbrev cX9_cell : ByteArray := prog_11_method_3_code
def yX9_cell : MethodName := ⟨RX9, "cell", "(II)I"⟩
abbrev cX9_set : ByteArray := prog_11_method_4_code
def yX9_set : MethodName := ⟨RX9, "set", "(III)V"⟩
abbrev cX9_add : ByteArray := prog_11_method_5_code
def yX9_add : MethodName := ⟨RX9, "add", "()V"⟩
abbrev cX9_drop : ByteArray := prog_11_method_6_code
def yX9_drop : MethodName := ⟨RX9, "drop", "()V"⟩
abbrev cX9_become : ByteArray := prog_11_method_7_code
def yX9_become : MethodName := ⟨RX9, "become", "(LWarByHours$Table;)V"⟩
def RX10 : String := "WarByHours$War"
def TX10 : u_T := fun k => match k with
  | 0 => ("WarByHours$War", "lines", "I", false)
  | 1 => ("WarByHours$War", "minutes", "I", false)
  | 2 => ("WarByHours$War", "lateMinute", "I", false)
  | 3 => ("WarByHours$War", "peace", "I", false)
  | 4 => ("WarByHours$War", "rain", "I", false)
  | 5 => ("WarByHours$War", "need", "[I", true)
  | 6 => ("WarByHours$War", "trains", "LWarByHours$Table;", true)
  | 7 => ("WarByHours$War", "teas", "LWarByHours$Table;", true)
  | 8 => ("WarByHours$War", "asks", "LWarByHours$Table;", true)
  | 9 => ("WarByHours$War", "rules", "LWarByHours$Table;", true)
  | 10 => ("WarByHours$War", "spies", "LWarByHours$Table;", true)
  | _ => ("WarByHours$War", "changes", "LWarByHours$Table;", true)
def tyX10 : Nat → FieldType := fun k => match k with
  | 0 => .int
  | 1 => .int
  | 2 => .int
  | 3 => .int
  | 4 => .int
  | 5 => .array .int
  | 6 => .object "WarByHours$Table"
  | 7 => .object "WarByHours$Table"
  | 8 => .object "WarByHours$Table"
  | 9 => .object "WarByHours$Table"
  | 10 => .object "WarByHours$Table"
  | _ => .object "WarByHours$Table"
abbrev wsX100 : List Cond := u_ws RX10 TX10 12
theorem nmX10 : ∀ a, a < 12 → ∀ b, b < 12 → a ≠ b → (TX10 a).2.1 ≠ (TX10 b).2.1 := by decide +kernel
theorem tyX10_ok : ∀ k, k < 12 → parseFieldDescriptor (TX10 k).2.2.1 = some (tyX10 k) := by decide +kernel
abbrev cX10_init : ByteArray := prog_12_method_1_code
def yX10_init : MethodName := ⟨RX10, "<init>", "()V"⟩
abbrev cX10_isIn : ByteArray := prog_12_method_2_code
def yX10_isIn : MethodName := ⟨RX10, "isIn", "(II)Z"⟩
abbrev cX10_spread : ByteArray := prog_12_method_3_code
def yX10_spread : MethodName := ⟨RX10, "spread", "([III)V"⟩
abbrev cX10_mostTold : ByteArray := prog_12_method_4_code
def yX10_mostTold : MethodName := ⟨RX10, "mostTold", "(I)I"⟩
abbrev cX10_clear : ByteArray := prog_12_method_5_code
def yX10_clear : MethodName := ⟨RX10, "clear", "()V"⟩
abbrev cX10_become : ByteArray := prog_12_method_6_code
def yX10_become : MethodName := ⟨RX10, "become", "(LWarByHours$War;)V"⟩
abbrev cX10_isTold : ByteArray := prog_12_method_7_code
def yX10_isTold : MethodName := ⟨RX10, "isTold", "()Z"⟩
abbrev cX10_hasSide : ByteArray := prog_12_method_8_code
def yX10_hasSide : MethodName := ⟨RX10, "hasSide", "(I)Z"⟩
abbrev cX10_hasTrain : ByteArray := prog_12_method_9_code
def yX10_hasTrain : MethodName := ⟨RX10, "hasTrain", "(I)Z"⟩
abbrev cX10_hasSet : ByteArray := prog_12_method_10_code
def yX10_hasSet : MethodName := ⟨RX10, "hasSet", "(I)Z"⟩
abbrev cX10_sets : ByteArray := prog_12_method_11_code
def yX10_sets : MethodName := ⟨RX10, "sets", "()I"⟩
abbrev cX10_needOf : ByteArray := prog_12_method_12_code
def yX10_needOf : MethodName := ⟨RX10, "needOf", "(I)I"⟩
abbrev cX10_setNeed : ByteArray := prog_12_method_13_code
def yX10_setNeed : MethodName := ⟨RX10, "setNeed", "(II)V"⟩
abbrev cX10_trainsOf : ByteArray := prog_12_method_14_code
def yX10_trainsOf : MethodName := ⟨RX10, "trainsOf", "(I)I"⟩
abbrev cX10_priceOf : ByteArray := prog_12_method_15_code
def yX10_priceOf : MethodName := ⟨RX10, "priceOf", "(I)I"⟩
abbrev cX10_arrival : ByteArray := prog_12_method_16_code
def yX10_arrival : MethodName := ⟨RX10, "arrival", "(II)I"⟩
abbrev cX10_comingIn : ByteArray := prog_12_method_17_code
def yX10_comingIn : MethodName := ⟨RX10, "comingIn", "(II)I"⟩
abbrev cX10_menThere : ByteArray := prog_12_method_18_code
def yX10_menThere : MethodName := ⟨RX10, "menThere", "(III)I"⟩
abbrev cX10_menLost : ByteArray := prog_12_method_19_code
def yX10_menLost : MethodName := ⟨RX10, "menLost", "(II)I"⟩
abbrev cX10_leadIn : ByteArray := prog_12_method_20_code
def yX10_leadIn : MethodName := ⟨RX10, "leadIn", "(II)I"⟩
abbrev cX10_isTea : ByteArray := prog_12_method_21_code
def yX10_isTea : MethodName := ⟨RX10, "isTea", "(I)Z"⟩
abbrev cX10_lateSides : ByteArray := prog_12_method_22_code
def yX10_lateSides : MethodName := ⟨RX10, "lateSides", "(I)I"⟩
abbrev cX10_change : ByteArray := prog_12_method_23_code
def yX10_change : MethodName := ⟨RX10, "change", "(III)I"⟩
abbrev cX10_takeBack : ByteArray := prog_12_method_24_code
def yX10_takeBack : MethodName := ⟨RX10, "takeBack", "()I"⟩
abbrev cX10_toldNumber : ByteArray := prog_12_method_25_code
def yX10_toldNumber : MethodName := ⟨RX10, "toldNumber", "(II)I"⟩
abbrev cX10_setToldNumber : ByteArray := prog_12_method_26_code
def yX10_setToldNumber : MethodName := ⟨RX10, "setToldNumber", "(III)V"⟩
def RX11 : String := "WarByHours"
def TX11 : u_T := fun k => match k with
  | 0 => ("WarByHours", "told", "LWarByHours$War;", true)
  | 1 => ("WarByHours", "draft", "LWarByHours$War;", true)
  | 2 => ("WarByHours", "reader", "LWarByHours$Reader;", true)
  | 3 => ("WarByHours", "course", "LWarByHours$Course;", true)
  | 4 => ("WarByHours", "fares", "LWarByHours$Fares;", true)
  | 5 => ("WarByHours", "places", "LWarByHours$Places;", true)
  | 6 => ("WarByHours", "pacts", "LWarByHours$Peace;", true)
  | 7 => ("WarByHours", "suspects", "LWarByHours$Suspects;", true)
  | 8 => ("WarByHours", "turns", "LWarByHours$Cannon;", true)
  | 9 => ("WarByHours", "slots", "LWarByHours$Slots;", true)
  | _ => ("WarByHours", "images", "[LWarByHours$War;", true)
def tyX11 : Nat → FieldType := fun k => match k with
  | 0 => .object "WarByHours$War"
  | 1 => .object "WarByHours$War"
  | 2 => .object "WarByHours$Reader"
  | 3 => .object "WarByHours$Course"
  | 4 => .object "WarByHours$Fares"
  | 5 => .object "WarByHours$Places"
  | 6 => .object "WarByHours$Peace"
  | 7 => .object "WarByHours$Suspects"
  | 8 => .object "WarByHours$Cannon"
  | 9 => .object "WarByHours$Slots"
  | _ => .array (.object "WarByHours$War")
abbrev wsX110 : List Cond := u_ws RX11 TX11 11
theorem nmX11 : ∀ a, a < 11 → ∀ b, b < 11 → a ≠ b → (TX11 a).2.1 ≠ (TX11 b).2.1 := by decide +kernel
theorem tyX11_ok : ∀ k, k < 11 → parseFieldDescriptor (TX11 k).2.2.1 = some (tyX11 k) := by decide +kernel
abbrev cX11_init : ByteArray := prog_1_method_1_code
def yX11_init : MethodName := ⟨RX11, "<init>", "()V"⟩
abbrev cX11_feed : ByteArray := prog_1_method_2_code
def yX11_feed : MethodName := ⟨RX11, "feed", "(IIIII)I"⟩
abbrev cX11_end : ByteArray := prog_1_method_3_code
def yX11_end : MethodName := ⟨RX11, "end", "(I)I"⟩
abbrev cX11_war : ByteArray := prog_1_method_4_code
def yX11_war : MethodName := ⟨RX11, "war", "()I"⟩
abbrev cX11_fault : ByteArray := prog_1_method_5_code
def yX11_fault : MethodName := ⟨RX11, "fault", "(I)I"⟩
abbrev cX11_train : ByteArray := prog_1_method_6_code
def yX11_train : MethodName := ⟨RX11, "train", "(II)I"⟩
abbrev cX11_need : ByteArray := prog_1_method_7_code
def yX11_need : MethodName := ⟨RX11, "need", "(I)I"⟩
abbrev cX11_tea : ByteArray := prog_1_method_8_code
def yX11_tea : MethodName := ⟨RX11, "tea", "(I)I"⟩
abbrev cX11_cannon : ByteArray := prog_1_method_9_code
def yX11_cannon : MethodName := ⟨RX11, "cannon", "(II)I"⟩
abbrev cX11_rule : ByteArray := prog_1_method_10_code
def yX11_rule : MethodName := ⟨RX11, "rule", "(II)I"⟩
abbrev cX11_spy : ByteArray := prog_1_method_11_code
def yX11_spy : MethodName := ⟨RX11, "spy", "(I)I"⟩
abbrev cX11_men : ByteArray := prog_1_method_12_code
def yX11_men : MethodName := ⟨RX11, "men", "(III)I"⟩
abbrev cX11_front : ByteArray := prog_1_method_13_code
def yX11_front : MethodName := ⟨RX11, "front", "(II)I"⟩
abbrev cX11_late : ByteArray := prog_1_method_14_code
def yX11_late : MethodName := ⟨RX11, "late", "(I)I"⟩
abbrev cX11_wins : ByteArray := prog_1_method_15_code
def yX11_wins : MethodName := ⟨RX11, "wins", "(I)I"⟩
abbrev cX11_peak : ByteArray := prog_1_method_16_code
def yX11_peak : MethodName := ⟨RX11, "peak", "(II)I"⟩
abbrev cX11_swings : ByteArray := prog_1_method_17_code
def yX11_swings : MethodName := ⟨RX11, "swings", "(I)I"⟩
abbrev cX11_worst : ByteArray := prog_1_method_18_code
def yX11_worst : MethodName := ⟨RX11, "worst", "(I)I"⟩
abbrev cX11_by : ByteArray := prog_1_method_19_code
def yX11_by : MethodName := ⟨RX11, "by", "(I)I"⟩
abbrev cX11_ways : ByteArray := prog_1_method_20_code
def yX11_ways : MethodName := ⟨RX11, "ways", "(I)I"⟩
abbrev cX11_idle : ByteArray := prog_1_method_21_code
def yX11_idle : MethodName := ⟨RX11, "idle", "()I"⟩
abbrev cX11_enough : ByteArray := prog_1_method_22_code
def yX11_enough : MethodName := ⟨RX11, "enough", "(II)J"⟩
abbrev cX11_chance : ByteArray := prog_1_method_23_code
def yX11_chance : MethodName := ⟨RX11, "chance", "(II)J"⟩
abbrev cX11_send : ByteArray := prog_1_method_24_code
def yX11_send : MethodName := ⟨RX11, "send", "(I)I"⟩
abbrev cX11_sent : ByteArray := prog_1_method_25_code
def yX11_sent : MethodName := ⟨RX11, "sent", "(I)I"⟩
abbrev cX11_fewest : ByteArray := prog_1_method_26_code
def yX11_fewest : MethodName := ⟨RX11, "fewest", "(I)I"⟩
abbrev cX11_risk : ByteArray := prog_1_method_27_code
def yX11_risk : MethodName := ⟨RX11, "risk", "(II)I"⟩
abbrev cX11_risked : ByteArray := prog_1_method_28_code
def yX11_risked : MethodName := ⟨RX11, "risked", "(II)I"⟩
abbrev cX11_bribe : ByteArray := prog_1_method_29_code
def yX11_bribe : MethodName := ⟨RX11, "bribe", "(I)I"⟩
abbrev cX11_bribed : ByteArray := prog_1_method_30_code
def yX11_bribed : MethodName := ⟨RX11, "bribed", "(I)I"⟩
abbrev cX11_guard : ByteArray := prog_1_method_31_code
def yX11_guard : MethodName := ⟨RX11, "guard", "(I)I"⟩
abbrev cX11_guarded : ByteArray := prog_1_method_32_code
def yX11_guarded : MethodName := ⟨RX11, "guarded", "(I)I"⟩
abbrev cX11_spoil : ByteArray := prog_1_method_33_code
def yX11_spoil : MethodName := ⟨RX11, "spoil", "(II)I"⟩
abbrev cX11_spoils : ByteArray := prog_1_method_34_code
def yX11_spoils : MethodName := ⟨RX11, "spoils", "(II)I"⟩
abbrev cX11_answer : ByteArray := prog_1_method_35_code
def yX11_answer : MethodName := ⟨RX11, "answer", "(II)I"⟩
abbrev cX11_rests : ByteArray := prog_1_method_36_code
def yX11_rests : MethodName := ⟨RX11, "rests", "(I)I"⟩
abbrev cX11_since : ByteArray := prog_1_method_37_code
def yX11_since : MethodName := ⟨RX11, "since", "(II)I"⟩
abbrev cX11_comes : ByteArray := prog_1_method_38_code
def yX11_comes : MethodName := ⟨RX11, "comes", "(II)I"⟩
abbrev cX11_even : ByteArray := prog_1_method_39_code
def yX11_even : MethodName := ⟨RX11, "even", "(I)J"⟩
abbrev cX11_hold : ByteArray := prog_1_method_40_code
def yX11_hold : MethodName := ⟨RX11, "hold", "(II)I"⟩
abbrev cX11_holds : ByteArray := prog_1_method_41_code
def yX11_holds : MethodName := ⟨RX11, "holds", "(III)I"⟩
abbrev cX11_reply : ByteArray := prog_1_method_42_code
def yX11_reply : MethodName := ⟨RX11, "reply", "(III)I"⟩
abbrev cX11_readings : ByteArray := prog_1_method_43_code
def yX11_readings : MethodName := ⟨RX11, "readings", "(I)I"⟩
abbrev cX11_loopholes : ByteArray := prog_1_method_44_code
def yX11_loopholes : MethodName := ⟨RX11, "loopholes", "()J"⟩
abbrev cX11_close : ByteArray := prog_1_method_45_code
def yX11_close : MethodName := ⟨RX11, "close", "(I)I"⟩
abbrev cX11_closed : ByteArray := prog_1_method_46_code
def yX11_closed : MethodName := ⟨RX11, "closed", "(I)I"⟩
abbrev cX11_signs : ByteArray := prog_1_method_47_code
def yX11_signs : MethodName := ⟨RX11, "signs", "()I"⟩
abbrev cX11_treaties : ByteArray := prog_1_method_48_code
def yX11_treaties : MethodName := ⟨RX11, "treaties", "(I)J"⟩
abbrev cX11_price : ByteArray := prog_1_method_49_code
def yX11_price : MethodName := ⟨RX11, "price", "(II)I"⟩
abbrev cX11_spies : ByteArray := prog_1_method_50_code
def yX11_spies : MethodName := ⟨RX11, "spies", "(I)I"⟩
abbrev cX11_watch : ByteArray := prog_1_method_51_code
def yX11_watch : MethodName := ⟨RX11, "watch", "(I)I"⟩
abbrev cX11_leaves : ByteArray := prog_1_method_52_code
def yX11_leaves : MethodName := ⟨RX11, "leaves", "(I)I"⟩
abbrev cX11_known : ByteArray := prog_1_method_53_code
def yX11_known : MethodName := ⟨RX11, "known", "(II)I"⟩
abbrev cX11_grant : ByteArray := prog_1_method_54_code
def yX11_grant : MethodName := ⟨RX11, "grant", "()I"⟩
abbrev cX11_granted : ByteArray := prog_1_method_55_code
def yX11_granted : MethodName := ⟨RX11, "granted", "()I"⟩
abbrev cX11_halves : ByteArray := prog_1_method_56_code
def yX11_halves : MethodName := ⟨RX11, "halves", "()I"⟩
abbrev cX11_halved : ByteArray := prog_1_method_57_code
def yX11_halved : MethodName := ⟨RX11, "halved", "()I"⟩
abbrev cX11_dry : ByteArray := prog_1_method_58_code
def yX11_dry : MethodName := ⟨RX11, "dry", "(III)J"⟩
abbrev cX11_insist : ByteArray := prog_1_method_59_code
def yX11_insist : MethodName := ⟨RX11, "insist", "(I)I"⟩
abbrev cX11_tell : ByteArray := prog_1_method_60_code
def yX11_tell : MethodName := ⟨RX11, "tell", "(III)I"⟩
abbrev cX11_needs : ByteArray := prog_1_method_61_code
def yX11_needs : MethodName := ⟨RX11, "needs", "(II)I"⟩
abbrev cX11_undo : ByteArray := prog_1_method_62_code
def yX11_undo : MethodName := ⟨RX11, "undo", "()I"⟩
abbrev cX11_drawn : ByteArray := prog_1_method_63_code
def yX11_drawn : MethodName := ⟨RX11, "drawn", "(II)I"⟩
abbrev cX11_luck : ByteArray := prog_1_method_64_code
def yX11_luck : MethodName := ⟨RX11, "luck", "(III)I"⟩
abbrev cX11_count : ByteArray := prog_1_method_65_code
def yX11_count : MethodName := ⟨RX11, "count", "(I)I"⟩
abbrev cX11_image : ByteArray := prog_1_method_66_code
def yX11_image : MethodName := ⟨RX11, "image", "(I)I"⟩
abbrev cX11_back : ByteArray := prog_1_method_67_code
def yX11_back : MethodName := ⟨RX11, "back", "(I)I"⟩
abbrev cX11_row : ByteArray := prog_1_method_68_code
def yX11_row : MethodName := ⟨RX11, "row", "(III)I"⟩
abbrev cX11_write : ByteArray := prog_1_method_69_code
def yX11_write : MethodName := ⟨RX11, "write", "(IIJ)I"⟩
abbrev cX11_paste : ByteArray := prog_1_method_70_code
def yX11_paste : MethodName := ⟨RX11, "paste", "(IIIII)I"⟩
abbrev cX11_isMinute : ByteArray := prog_1_method_71_code
def yX11_isMinute : MethodName := ⟨RX11, "isMinute", "(I)Z"⟩
abbrev cX11_isPeaceMinute : ByteArray := prog_1_method_72_code
def yX11_isPeaceMinute : MethodName := ⟨RX11, "isPeaceMinute", "(I)Z"⟩
abbrev cX11_isPart : ByteArray := prog_1_method_73_code
def yX11_isPart : MethodName := ⟨RX11, "isPart", "(I)Z"⟩
abbrev cX11_isPercent : ByteArray := prog_1_method_74_code
def yX11_isPercent : MethodName := ⟨RX11, "isPercent", "(I)Z"⟩
abbrev cX11_isRisk : ByteArray := prog_1_method_75_code
def yX11_isRisk : MethodName := ⟨RX11, "isRisk", "(II)Z"⟩
abbrev cX11_isPurse : ByteArray := prog_1_method_76_code
def yX11_isPurse : MethodName := ⟨RX11, "isPurse", "(II)Z"⟩
abbrev cX11_isHost : ByteArray := prog_1_method_77_code
def yX11_isHost : MethodName := ⟨RX11, "isHost", "(I)Z"⟩
abbrev cX11_isPlace : ByteArray := prog_1_method_78_code
def yX11_isPlace : MethodName := ⟨RX11, "isPlace", "(I)Z"⟩
abbrev cX11_isSeed : ByteArray := prog_1_method_79_code
def yX11_isSeed : MethodName := ⟨RX11, "isSeed", "(I)Z"⟩
abbrev cX11_isImage : ByteArray := prog_1_method_80_code
def yX11_isImage : MethodName := ⟨RX11, "isImage", "(I)Z"⟩
def RX12 : String := "WarByHoursModel"
def TX12 : u_T := fun k => match k with
  | 0 => ("WarByHoursModel", "thrown", "I", false)
  | 1 => ("WarByHoursModel", "world", "[I", true)
  | 2 => ("WarByHoursModel", "images", "[I", true)
  | 3 => ("WarByHoursModel", "hasImage", "[Z", true)
  | 4 => ("WarByHoursModel", "tape", "[B", true)
  | 5 => ("WarByHoursModel", "taped", "I", false)
  | 6 => ("WarByHoursModel", "five", "[I", true)
  | 7 => ("WarByHoursModel", "size", "I", false)
  | 8 => ("WarByHoursModel", "at", "I", false)
  | 9 => ("WarByHoursModel", "from", "I", false)
  | 10 => ("WarByHoursModel", "token", "I", false)
  | 11 => ("WarByHoursModel", "value", "I", false)
  | 12 => ("WarByHoursModel", "faultKind", "I", false)
  | 13 => ("WarByHoursModel", "faultPlace", "I", false)
  | 14 => ("WarByHoursModel", "fresh", "[I", true)
  | 15 => ("WarByHoursModel", "front", "[I", true)
  | 16 => ("WarByHoursModel", "worstSet", "I", false)
  | 17 => ("WarByHoursModel", "winners", "[I", true)
  | 18 => ("WarByHoursModel", "leastPrice", "I", false)
  | 19 => ("WarByHoursModel", "leastSet", "I", false)
  | 20 => ("WarByHoursModel", "guardPrice", "I", false)
  | 21 => ("WarByHoursModel", "fronts", "[I", true)
  | 22 => ("WarByHoursModel", "spoiltSet", "I", false)
  | 23 => ("WarByHoursModel", "put", "[I", true)
  | 24 => ("WarByHoursModel", "firstPut", "[I", true)
  | 25 => ("WarByHoursModel", "firstReply", "[I", true)
  | 26 => ("WarByHoursModel", "watchWorst", "I", false)
  | 27 => ("WarByHoursModel", "grantSet", "I", false)
  | 28 => ("WarByHoursModel", "many", "[I", true)
  | 29 => ("WarByHoursModel", "width", "[I", true)
  | 30 => ("WarByHoursModel", "numbers", "[J", true)
  | _ => ("WarByHoursModel", "moving", "[J", true)
def tyX12 : Nat → FieldType := fun k => match k with
  | 0 => .int
  | 1 => .array .int
  | 2 => .array .int
  | 3 => .array .boolean
  | 4 => .array .byte
  | 5 => .int
  | 6 => .array .int
  | 7 => .int
  | 8 => .int
  | 9 => .int
  | 10 => .int
  | 11 => .int
  | 12 => .int
  | 13 => .int
  | 14 => .array .int
  | 15 => .array .int
  | 16 => .int
  | 17 => .array .int
  | 18 => .int
  | 19 => .int
  | 20 => .int
  | 21 => .array .int
  | 22 => .int
  | 23 => .array .int
  | 24 => .array .int
  | 25 => .array .int
  | 26 => .int
  | 27 => .int
  | 28 => .array .int
  | 29 => .array .int
  | 30 => .array .long
  | _ => .array .long
abbrev wsX120 : List Cond := u_ws RX12 TX12 32
theorem nmX12 : ∀ a, a < 32 → ∀ b, b < 32 → a ≠ b → (TX12 a).2.1 ≠ (TX12 b).2.1 := by decide +kernel
theorem tyX12_ok : ∀ k, k < 32 → parseFieldDescriptor (TX12 k).2.2.1 = some (tyX12 k) := by decide +kernel
abbrev cX12_init : ByteArray := prog_14_method_1_code
def yX12_init : MethodName := ⟨RX12, "<init>", "()V"⟩
abbrev cX12_in : ByteArray := prog_14_method_3_code
def yX12_in : MethodName := ⟨RX12, "in", "(JJJ)Z"⟩
abbrev cX12_bits : ByteArray := prog_14_method_4_code
def yX12_bits : MethodName := ⟨RX12, "bits", "(I)I"⟩
abbrev cX12_bit : ByteArray := prog_14_method_5_code
def yX12_bit : MethodName := ⟨RX12, "bit", "(II)I"⟩
abbrev cX12_image : ByteArray := prog_14_method_6_code
def yX12_image : MethodName := ⟨RX12, "image", "(I)I"⟩
abbrev cX12_back : ByteArray := prog_14_method_7_code
def yX12_back : MethodName := ⟨RX12, "back", "(I)I"⟩
abbrev cX12_isWar : ByteArray := prog_14_method_8_code
def yX12_isWar : MethodName := ⟨RX12, "isWar", "()Z"⟩
abbrev cX12_isSide : ByteArray := prog_14_method_9_code
def yX12_isSide : MethodName := ⟨RX12, "isSide", "(I)Z"⟩
abbrev cX12_isTrain : ByteArray := prog_14_method_10_code
def yX12_isTrain : MethodName := ⟨RX12, "isTrain", "(I)Z"⟩
abbrev cX12_allTrains : ByteArray := prog_14_method_11_code
def yX12_allTrains : MethodName := ⟨RX12, "allTrains", "()I"⟩
abbrev cX12_areTrains : ByteArray := prog_14_method_12_code
def yX12_areTrains : MethodName := ⟨RX12, "areTrains", "(I)Z"⟩
abbrev cX12_of : ByteArray := prog_14_method_13_code
def yX12_of : MethodName := ⟨RX12, "of", "(II)I"⟩
abbrev cX12_trainsOf : ByteArray := prog_14_method_14_code
def yX12_trainsOf : MethodName := ⟨RX12, "trainsOf", "(I)I"⟩
abbrev cX12_priceOf : ByteArray := prog_14_method_15_code
def yX12_priceOf : MethodName := ⟨RX12, "priceOf", "(I)I"⟩
abbrev cX12_feed : ByteArray := prog_14_method_16_code
def yX12_feed : MethodName := ⟨RX12, "feed", "(IIIII)I"⟩
abbrev cX12_end : ByteArray := prog_14_method_17_code
def yX12_end : MethodName := ⟨RX12, "end", "(I)I"⟩
abbrev cX12_see : ByteArray := prog_14_method_18_code
def yX12_see : MethodName := ⟨RX12, "see", "(I)I"⟩
abbrev cX12_advance : ByteArray := prog_14_method_19_code
def yX12_advance : MethodName := ⟨RX12, "advance", "()V"⟩
abbrev cX12_good : ByteArray := prog_14_method_20_code
def yX12_good : MethodName := ⟨RX12, "good", "()Z"⟩
abbrev cX12_errs : ByteArray := prog_14_method_21_code
def yX12_errs : MethodName := ⟨RX12, "errs", "(I)V"⟩
abbrev cX12_is : ByteArray := prog_14_method_22_code
def yX12_is : MethodName := ⟨RX12, "is", "(Ljava/lang/String;)Z"⟩
abbrev cX12_takes : ByteArray := prog_14_method_23_code
def yX12_takes : MethodName := ⟨RX12, "takes", "(Ljava/lang/String;)Z"⟩
abbrev cX12_needs : ByteArray := prog_14_method_24_code
def yX12_needs : MethodName := ⟨RX12, "needs", "(Ljava/lang/String;)V"⟩
abbrev cX12_number : ByteArray := prog_14_method_25_code
def yX12_number : MethodName := ⟨RX12, "number", "(II)I"⟩
abbrev cX12_told : ByteArray := prog_14_method_26_code
def yX12_told : MethodName := ⟨RX12, "told", "(Ljava/lang/String;II)I"⟩
abbrev cX12_fault : ByteArray := prog_14_method_27_code
def yX12_fault : MethodName := ⟨RX12, "fault", "(I)I"⟩
abbrev cX12_readFirst : ByteArray := prog_14_method_28_code
def yX12_readFirst : MethodName := ⟨RX12, "readFirst", "()V"⟩
abbrev cX12_readNeed : ByteArray := prog_14_method_29_code
def yX12_readNeed : MethodName := ⟨RX12, "readNeed", "()V"⟩
abbrev cX12_readTrain : ByteArray := prog_14_method_30_code
def yX12_readTrain : MethodName := ⟨RX12, "readTrain", "()V"⟩
abbrev cX12_readBounds : ByteArray := prog_14_method_31_code
def yX12_readBounds : MethodName := ⟨RX12, "readBounds", "(I)V"⟩
abbrev cX12_readAsk : ByteArray := prog_14_method_32_code
def yX12_readAsk : MethodName := ⟨RX12, "readAsk", "()V"⟩
abbrev cX12_readSpy : ByteArray := prog_14_method_33_code
def yX12_readSpy : MethodName := ⟨RX12, "readSpy", "()V"⟩
abbrev cX12_readNext : ByteArray := prog_14_method_34_code
def yX12_readNext : MethodName := ⟨RX12, "readNext", "()V"⟩
abbrev cX12_readLine : ByteArray := prog_14_method_35_code
def yX12_readLine : MethodName := ⟨RX12, "readLine", "()V"⟩
abbrev cX12_war : ByteArray := prog_14_method_36_code
def yX12_war : MethodName := ⟨RX12, "war", "()I"⟩
abbrev cX12_train : ByteArray := prog_14_method_37_code
def yX12_train : MethodName := ⟨RX12, "train", "(II)I"⟩
abbrev cX12_need : ByteArray := prog_14_method_38_code
def yX12_need : MethodName := ⟨RX12, "need", "(I)I"⟩
abbrev cX12_isTea : ByteArray := prog_14_method_39_code
def yX12_isTea : MethodName := ⟨RX12, "isTea", "(I)Z"⟩
abbrev cX12_tea : ByteArray := prog_14_method_40_code
def yX12_tea : MethodName := ⟨RX12, "tea", "(I)I"⟩
abbrev cX12_cannon : ByteArray := prog_14_method_41_code
def yX12_cannon : MethodName := ⟨RX12, "cannon", "(II)I"⟩
abbrev cX12_rule : ByteArray := prog_14_method_42_code
def yX12_rule : MethodName := ⟨RX12, "rule", "(II)I"⟩
abbrev cX12_spy : ByteArray := prog_14_method_43_code
def yX12_spy : MethodName := ⟨RX12, "spy", "(I)I"⟩
abbrev cX12_comesAt : ByteArray := prog_14_method_44_code
def yX12_comesAt : MethodName := ⟨RX12, "comesAt", "(II)I"⟩
abbrev cX12_menOf : ByteArray := prog_14_method_45_code
def yX12_menOf : MethodName := ⟨RX12, "menOf", "(III)I"⟩
abbrev cX12_frontOf : ByteArray := prog_14_method_46_code
def yX12_frontOf : MethodName := ⟨RX12, "frontOf", "(II)I"⟩
abbrev cX12_lastFront : ByteArray := prog_14_method_47_code
def yX12_lastFront : MethodName := ⟨RX12, "lastFront", "(I)I"⟩
abbrev cX12_goodBy : ByteArray := prog_14_method_48_code
def yX12_goodBy : MethodName := ⟨RX12, "goodBy", "(II)I"⟩
abbrev cX12_isLate : ByteArray := prog_14_method_49_code
def yX12_isLate : MethodName := ⟨RX12, "isLate", "(II)Z"⟩
abbrev cX12_winner : ByteArray := prog_14_method_50_code
def yX12_winner : MethodName := ⟨RX12, "winner", "(I)I"⟩
abbrev cX12_isAny : ByteArray := prog_14_method_51_code
def yX12_isAny : MethodName := ⟨RX12, "isAny", "(I)Z"⟩
abbrev cX12_men : ByteArray := prog_14_method_52_code
def yX12_men : MethodName := ⟨RX12, "men", "(III)I"⟩
abbrev cX12_front : ByteArray := prog_14_method_53_code
def yX12_front : MethodName := ⟨RX12, "front", "(II)I"⟩
abbrev cX12_late : ByteArray := prog_14_method_54_code
def yX12_late : MethodName := ⟨RX12, "late", "(I)I"⟩
abbrev cX12_wins : ByteArray := prog_14_method_55_code
def yX12_wins : MethodName := ⟨RX12, "wins", "(I)I"⟩
abbrev cX12_peak : ByteArray := prog_14_method_56_code
def yX12_peak : MethodName := ⟨RX12, "peak", "(II)I"⟩
abbrev cX12_swings : ByteArray := prog_14_method_57_code
def yX12_swings : MethodName := ⟨RX12, "swings", "(I)I"⟩
abbrev cX12_since : ByteArray := prog_14_method_58_code
def yX12_since : MethodName := ⟨RX12, "since", "(II)I"⟩
abbrev cX12_comes : ByteArray := prog_14_method_59_code
def yX12_comes : MethodName := ⟨RX12, "comes", "(II)I"⟩
abbrev cX12_even : ByteArray := prog_14_method_60_code
def yX12_even : MethodName := ⟨RX12, "even", "(I)J"⟩
abbrev cX12_worstOf : ByteArray := prog_14_method_61_code
def yX12_worstOf : MethodName := ⟨RX12, "worstOf", "(I)I"⟩
abbrev cX12_worst : ByteArray := prog_14_method_62_code
def yX12_worst : MethodName := ⟨RX12, "worst", "(I)I"⟩
abbrev cX12_by : ByteArray := prog_14_method_63_code
def yX12_by : MethodName := ⟨RX12, "by", "(I)I"⟩
abbrev cX12_ways : ByteArray := prog_14_method_64_code
def yX12_ways : MethodName := ⟨RX12, "ways", "(I)I"⟩
abbrev cX12_idle : ByteArray := prog_14_method_65_code
def yX12_idle : MethodName := ⟨RX12, "idle", "()I"⟩
abbrev cX12_divisor : ByteArray := prog_14_method_66_code
def yX12_divisor : MethodName := ⟨RX12, "divisor", "(JJ)J"⟩
abbrev cX12_part : ByteArray := prog_14_method_67_code
def yX12_part : MethodName := ⟨RX12, "part", "(JJI)J"⟩
abbrev cX12_oftenOf : ByteArray := prog_14_method_68_code
def yX12_oftenOf : MethodName := ⟨RX12, "oftenOf", "(I)J"⟩
abbrev cX12_allOften : ByteArray := prog_14_method_69_code
def yX12_allOften : MethodName := ⟨RX12, "allOften", "()J"⟩
abbrev cX12_enough : ByteArray := prog_14_method_70_code
def yX12_enough : MethodName := ⟨RX12, "enough", "(II)J"⟩
abbrev cX12_chance : ByteArray := prog_14_method_71_code
def yX12_chance : MethodName := ⟨RX12, "chance", "(II)J"⟩
abbrev cX12_menSent : ByteArray := prog_14_method_72_code
def yX12_menSent : MethodName := ⟨RX12, "menSent", "(II)I"⟩
abbrev cX12_isSurely : ByteArray := prog_14_method_73_code
def yX12_isSurely : MethodName := ⟨RX12, "isSurely", "(II)Z"⟩
abbrev cX12_take : ByteArray := prog_14_method_74_code
def yX12_take : MethodName := ⟨RX12, "take", "(II)V"⟩
abbrev cX12_orNone : ByteArray := prog_14_method_75_code
def yX12_orNone : MethodName := ⟨RX12, "orNone", "()I"⟩
abbrev cX12_findSend : ByteArray := prog_14_method_76_code
def yX12_findSend : MethodName := ⟨RX12, "findSend", "(IZ)V"⟩
abbrev cX12_send : ByteArray := prog_14_method_77_code
def yX12_send : MethodName := ⟨RX12, "send", "(I)I"⟩
abbrev cX12_sent : ByteArray := prog_14_method_78_code
def yX12_sent : MethodName := ⟨RX12, "sent", "(I)I"⟩
abbrev cX12_fewest : ByteArray := prog_14_method_79_code
def yX12_fewest : MethodName := ⟨RX12, "fewest", "(I)I"⟩
abbrev cX12_enoughBy : ByteArray := prog_14_method_80_code
def yX12_enoughBy : MethodName := ⟨RX12, "enoughBy", "(II)J"⟩
abbrev cX12_isOften : ByteArray := prog_14_method_81_code
def yX12_isOften : MethodName := ⟨RX12, "isOften", "(JI)Z"⟩
abbrev cX12_findRisk : ByteArray := prog_14_method_82_code
def yX12_findRisk : MethodName := ⟨RX12, "findRisk", "(II)V"⟩
abbrev cX12_risk : ByteArray := prog_14_method_83_code
def yX12_risk : MethodName := ⟨RX12, "risk", "(II)I"⟩
abbrev cX12_risked : ByteArray := prog_14_method_84_code
def yX12_risked : MethodName := ⟨RX12, "risked", "(II)I"⟩
abbrev cX12_findBribe : ByteArray := prog_14_method_85_code
def yX12_findBribe : MethodName := ⟨RX12, "findBribe", "(II)V"⟩
abbrev cX12_bribe : ByteArray := prog_14_method_86_code
def yX12_bribe : MethodName := ⟨RX12, "bribe", "(I)I"⟩
abbrev cX12_bribed : ByteArray := prog_14_method_87_code
def yX12_bribed : MethodName := ⟨RX12, "bribed", "(I)I"⟩
abbrev cX12_guardOf : ByteArray := prog_14_method_88_code
def yX12_guardOf : MethodName := ⟨RX12, "guardOf", "(I)I"⟩
abbrev cX12_guard : ByteArray := prog_14_method_89_code
def yX12_guard : MethodName := ⟨RX12, "guard", "(I)I"⟩
abbrev cX12_guarded : ByteArray := prog_14_method_90_code
def yX12_guarded : MethodName := ⟨RX12, "guarded", "(I)I"⟩
abbrev cX12_fillFronts : ByteArray := prog_14_method_91_code
def yX12_fillFronts : MethodName := ⟨RX12, "fillFronts", "()V"⟩
abbrev cX12_isPrice : ByteArray := prog_14_method_92_code
def yX12_isPrice : MethodName := ⟨RX12, "isPrice", "(I)Z"⟩
abbrev cX12_isBought : ByteArray := prog_14_method_93_code
def yX12_isBought : MethodName := ⟨RX12, "isBought", "(III)Z"⟩
abbrev cX12_spoilOf : ByteArray := prog_14_method_94_code
def yX12_spoilOf : MethodName := ⟨RX12, "spoilOf", "(II)I"⟩
abbrev cX12_spoil : ByteArray := prog_14_method_95_code
def yX12_spoil : MethodName := ⟨RX12, "spoil", "(II)I"⟩
abbrev cX12_spoils : ByteArray := prog_14_method_96_code
def yX12_spoils : MethodName := ⟨RX12, "spoils", "(II)I"⟩
abbrev cX12_bestGood : ByteArray := prog_14_method_97_code
def yX12_bestGood : MethodName := ⟨RX12, "bestGood", "(III)I"⟩
abbrev cX12_answer : ByteArray := prog_14_method_98_code
def yX12_answer : MethodName := ⟨RX12, "answer", "(II)I"⟩
abbrev cX12_rests : ByteArray := prog_14_method_99_code
def yX12_rests : MethodName := ⟨RX12, "rests", "(I)I"⟩
abbrev cX12_valueOf : ByteArray := prog_14_method_100_code
def yX12_valueOf : MethodName := ⟨RX12, "valueOf", "(I)I"⟩
abbrev cX12_heldBy : ByteArray := prog_14_method_101_code
def yX12_heldBy : MethodName := ⟨RX12, "heldBy", "(I)I"⟩
abbrev cX12_holdOf : ByteArray := prog_14_method_102_code
def yX12_holdOf : MethodName := ⟨RX12, "holdOf", "(II)I"⟩
abbrev cX12_areMen : ByteArray := prog_14_method_103_code
def yX12_areMen : MethodName := ⟨RX12, "areMen", "(II)Z"⟩
abbrev cX12_hold : ByteArray := prog_14_method_104_code
def yX12_hold : MethodName := ⟨RX12, "hold", "(II)I"⟩
abbrev cX12_holds : ByteArray := prog_14_method_105_code
def yX12_holds : MethodName := ⟨RX12, "holds", "(III)I"⟩
abbrev cX12_reply : ByteArray := prog_14_method_106_code
def yX12_reply : MethodName := ⟨RX12, "reply", "(III)I"⟩
abbrev cX12_holdsBy : ByteArray := prog_14_method_107_code
def yX12_holdsBy : MethodName := ⟨RX12, "holdsBy", "(II)Z"⟩
abbrev cX12_allReadings : ByteArray := prog_14_method_108_code
def yX12_allReadings : MethodName := ⟨RX12, "allReadings", "()I"⟩
abbrev cX12_readingsOf : ByteArray := prog_14_method_109_code
def yX12_readingsOf : MethodName := ⟨RX12, "readingsOf", "(I)I"⟩
abbrev cX12_isSigned : ByteArray := prog_14_method_110_code
def yX12_isSigned : MethodName := ⟨RX12, "isSigned", "(I)Z"⟩
abbrev cX12_readings : ByteArray := prog_14_method_111_code
def yX12_readings : MethodName := ⟨RX12, "readings", "(I)I"⟩
abbrev cX12_loopholes : ByteArray := prog_14_method_112_code
def yX12_loopholes : MethodName := ⟨RX12, "loopholes", "()J"⟩
abbrev cX12_closedOf : ByteArray := prog_14_method_113_code
def yX12_closedOf : MethodName := ⟨RX12, "closedOf", "(I)I"⟩
abbrev cX12_close : ByteArray := prog_14_method_114_code
def yX12_close : MethodName := ⟨RX12, "close", "(I)I"⟩
abbrev cX12_closed : ByteArray := prog_14_method_115_code
def yX12_closed : MethodName := ⟨RX12, "closed", "(I)I"⟩
abbrev cX12_signs : ByteArray := prog_14_method_116_code
def yX12_signs : MethodName := ⟨RX12, "signs", "()I"⟩
abbrev cX12_isTreaty : ByteArray := prog_14_method_117_code
def yX12_isTreaty : MethodName := ⟨RX12, "isTreaty", "(II)Z"⟩
abbrev cX12_treaties : ByteArray := prog_14_method_118_code
def yX12_treaties : MethodName := ⟨RX12, "treaties", "(I)J"⟩
abbrev cX12_price : ByteArray := prog_14_method_119_code
def yX12_price : MethodName := ⟨RX12, "price", "(II)I"⟩
abbrev cX12_spiesBy : ByteArray := prog_14_method_120_code
def yX12_spiesBy : MethodName := ⟨RX12, "spiesBy", "(I)I"⟩
abbrev cX12_knowing : ByteArray := prog_14_method_121_code
def yX12_knowing : MethodName := ⟨RX12, "knowing", "(II)I"⟩
abbrev cX12_spies : ByteArray := prog_14_method_122_code
def yX12_spies : MethodName := ⟨RX12, "spies", "(I)I"⟩
abbrev cX12_watchOf : ByteArray := prog_14_method_123_code
def yX12_watchOf : MethodName := ⟨RX12, "watchOf", "(I)I"⟩
abbrev cX12_watch : ByteArray := prog_14_method_124_code
def yX12_watch : MethodName := ⟨RX12, "watch", "(I)I"⟩
abbrev cX12_leaves : ByteArray := prog_14_method_125_code
def yX12_leaves : MethodName := ⟨RX12, "leaves", "(I)I"⟩
abbrev cX12_known : ByteArray := prog_14_method_126_code
def yX12_known : MethodName := ⟨RX12, "known", "(II)I"⟩
abbrev cX12_ofAsk : ByteArray := prog_14_method_127_code
def yX12_ofAsk : MethodName := ⟨RX12, "ofAsk", "(II)I"⟩
abbrev cX12_endOf : ByteArray := prog_14_method_128_code
def yX12_endOf : MethodName := ⟨RX12, "endOf", "(I)I"⟩
abbrev cX12_nextAsk : ByteArray := prog_14_method_129_code
def yX12_nextAsk : MethodName := ⟨RX12, "nextAsk", "(II)I"⟩
abbrev cX12_canGrant : ByteArray := prog_14_method_130_code
def yX12_canGrant : MethodName := ⟨RX12, "canGrant", "(IZ)Z"⟩
abbrev cX12_grantOf : ByteArray := prog_14_method_131_code
def yX12_grantOf : MethodName := ⟨RX12, "grantOf", "(Z)I"⟩
abbrev cX12_grant : ByteArray := prog_14_method_132_code
def yX12_grant : MethodName := ⟨RX12, "grant", "()I"⟩
abbrev cX12_granted : ByteArray := prog_14_method_133_code
def yX12_granted : MethodName := ⟨RX12, "granted", "()I"⟩
abbrev cX12_halves : ByteArray := prog_14_method_134_code
def yX12_halves : MethodName := ⟨RX12, "halves", "()I"⟩
abbrev cX12_halved : ByteArray := prog_14_method_135_code
def yX12_halved : MethodName := ⟨RX12, "halved", "()I"⟩
abbrev cX12_dry : ByteArray := prog_14_method_136_code
def yX12_dry : MethodName := ⟨RX12, "dry", "(III)J"⟩
abbrev cX12_insist : ByteArray := prog_14_method_137_code
def yX12_insist : MethodName := ⟨RX12, "insist", "(I)I"⟩
abbrev cX12_change : ByteArray := prog_14_method_138_code
def yX12_change : MethodName := ⟨RX12, "change", "(II)V"⟩
abbrev cX12_changed : ByteArray := prog_14_method_139_code
def yX12_changed : MethodName := ⟨RX12, "changed", "(II)I"⟩
abbrev cX12_tell : ByteArray := prog_14_method_140_code
def yX12_tell : MethodName := ⟨RX12, "tell", "(III)I"⟩
abbrev cX12_needs_ : ByteArray := prog_14_method_141_code
def yX12_needs_ : MethodName := ⟨RX12, "needs", "(II)I"⟩
abbrev cX12_undo : ByteArray := prog_14_method_142_code
def yX12_undo : MethodName := ⟨RX12, "undo", "()I"⟩
abbrev cX12_drawnDelays : ByteArray := prog_14_method_143_code
def yX12_drawnDelays : MethodName := ⟨RX12, "drawnDelays", "(J)I"⟩
abbrev cX12_isSeed : ByteArray := prog_14_method_144_code
def yX12_isSeed : MethodName := ⟨RX12, "isSeed", "(I)Z"⟩
abbrev cX12_drawn : ByteArray := prog_14_method_145_code
def yX12_drawn : MethodName := ⟨RX12, "drawn", "(II)I"⟩
abbrev cX12_luck : ByteArray := prog_14_method_146_code
def yX12_luck : MethodName := ⟨RX12, "luck", "(III)I"⟩
abbrev cX12_count : ByteArray := prog_14_method_147_code
def yX12_count : MethodName := ⟨RX12, "count", "(I)I"⟩
abbrev cX12_isSlot : ByteArray := prog_14_method_148_code
def yX12_isSlot : MethodName := ⟨RX12, "isSlot", "(I)Z"⟩
abbrev cX12_cut : ByteArray := prog_14_method_149_code
def yX12_cut : MethodName := ⟨RX12, "cut", "(JI)J"⟩
abbrev cX12_row : ByteArray := prog_14_method_150_code
def yX12_row : MethodName := ⟨RX12, "row", "(III)I"⟩
abbrev cX12_write : ByteArray := prog_14_method_151_code
def yX12_write : MethodName := ⟨RX12, "write", "(IIJ)I"⟩
abbrev cX12_paste : ByteArray := prog_14_method_152_code
def yX12_paste : MethodName := ⟨RX12, "paste", "(IIIII)I"⟩
def RJx145de : String := "java/io/Serializable"
def TJx145de : u_T := fun k => match k with
  | _ => ("", "", "", false)
def tyJx145de : Nat → FieldType := fun k => match k with
  | _ => .int
theorem nmJx145de : ∀ a, a < 0 → ∀ b, b < 0 → a ≠ b → (TJx145de a).2.1 ≠ (TJx145de b).2.1 := by decide +kernel
theorem tyJx145de_ok : ∀ k, k < 0 → parseFieldDescriptor (TJx145de k).2.2.1 = some (tyJx145de k) := by decide +kernel
def RJx9f9b0 : String := "java/lang/CharSequence"
def TJx9f9b0 : u_T := fun k => match k with
  | _ => ("", "", "", false)
def tyJx9f9b0 : Nat → FieldType := fun k => match k with
  | _ => .int
theorem nmJx9f9b0 : ∀ a, a < 0 → ∀ b, b < 0 → a ≠ b → (TJx9f9b0 a).2.1 ≠ (TJx9f9b0 b).2.1 := by decide +kernel
theorem tyJx9f9b0_ok : ∀ k, k < 0 → parseFieldDescriptor (TJx9f9b0 k).2.2.1 = some (tyJx9f9b0 k) := by decide +kernel
def RJxb160c : String := "java/lang/Comparable"
def TJxb160c : u_T := fun k => match k with
  | _ => ("", "", "", false)
def tyJxb160c : Nat → FieldType := fun k => match k with
  | _ => .int
theorem nmJxb160c : ∀ a, a < 0 → ∀ b, b < 0 → a ≠ b → (TJxb160c a).2.1 ≠ (TJxb160c b).2.1 := by decide +kernel
theorem tyJxb160c_ok : ∀ k, k < 0 → parseFieldDescriptor (TJxb160c k).2.2.1 = some (tyJxb160c k) := by decide +kernel
def RJ6 : String := "java/lang/Integer"
def TJ6 : u_T := fun k => match k with
  | _ => ("", "", "", false)
def tyJ6 : Nat → FieldType := fun k => match k with
  | _ => .int
abbrev wsJ60 : List Cond := u_ws RJ6 TJ6 0
theorem nmJ6 : ∀ a, a < 0 → ∀ b, b < 0 → a ≠ b → (TJ6 a).2.1 ≠ (TJ6 b).2.1 := by decide +kernel
theorem tyJ6_ok : ∀ k, k < 0 → parseFieldDescriptor (TJ6 k).2.2.1 = some (tyJ6 k) := by decide +kernel
abbrev cJ6_bitCount_0f7a4 : ByteArray := prog_15_method_49_code
def yJ6_bitCount_0f7a4 : MethodName := ⟨RJ6, "bitCount", "(I)I"⟩
def RJ9 : String := "java/lang/Math"
def TJ9 : u_T := fun k => match k with
  | _ => ("", "", "", false)
def tyJ9 : Nat → FieldType := fun k => match k with
  | _ => .int
abbrev wsJ90 : List Cond := u_ws RJ9 TJ9 0
theorem nmJ9 : ∀ a, a < 0 → ∀ b, b < 0 → a ≠ b → (TJ9 a).2.1 ≠ (TJ9 b).2.1 := by decide +kernel
theorem tyJ9_ok : ∀ k, k < 0 → parseFieldDescriptor (TJ9 k).2.2.1 = some (tyJ9 k) := by decide +kernel
abbrev cJ9_abs_0f7a4 : ByteArray := prog_16_method_59_code
def yJ9_abs_0f7a4 : MethodName := ⟨RJ9, "abs", "(I)I"⟩
abbrev cJ9_max_7cf53 : ByteArray := prog_16_method_65_code
def yJ9_max_7cf53 : MethodName := ⟨RJ9, "max", "(II)I"⟩
abbrev cJ9_max_f86c9 : ByteArray := prog_16_method_66_code
def yJ9_max_f86c9 : MethodName := ⟨RJ9, "max", "(JJ)J"⟩
abbrev cJ9_min_7cf53 : ByteArray := prog_16_method_69_code
def yJ9_min_7cf53 : MethodName := ⟨RJ9, "min", "(II)I"⟩
def RJ0 : String := "java/lang/String"
def TJ0 : u_T := fun k => match k with
  | _ => ("", "", "", false)
def tyJ0 : Nat → FieldType := fun k => match k with
  | _ => .int
abbrev wsJ00 : List Cond := u_ws RJ0 TJ0 0
theorem nmJ0 : ∀ a, a < 0 → ∀ b, b < 0 → a ≠ b → (TJ0 a).2.1 ≠ (TJ0 b).2.1 := by decide +kernel
theorem tyJ0_ok : ∀ k, k < 0 → parseFieldDescriptor (TJ0 k).2.2.1 = some (tyJ0 k) := by decide +kernel
abbrev cJ0_length_8abf5 : ByteArray := prog_17_method_54_code
def yJ0_length_8abf5 : MethodName := ⟨RJ0, "length", "()I"⟩
abbrev cJ0_charAt_5068e : ByteArray := prog_17_method_56_code
def yJ0_charAt_5068e : MethodName := ⟨RJ0, "charAt", "(I)C"⟩
abbrev cJ0_coder_7d493 : ByteArray := prog_17_method_152_code
def yJ0_coder_7d493 : MethodName := ⟨RJ0, "coder", "()B"⟩
abbrev cJ0_isLatin1_aae02 : ByteArray := prog_17_method_154_code
def yJ0_isLatin1_aae02 : MethodName := ⟨RJ0, "isLatin1", "()Z"⟩
abbrev cJ0_checkIndex_df160 : ByteArray := prog_17_method_155_code
def yJ0_checkIndex_df160 : MethodName := ⟨RJ0, "checkIndex", "(II)V"⟩
def RJ1 : String := "java/lang/StringLatin1"
def TJ1 : u_T := fun k => match k with
  | _ => ("", "", "", false)
def tyJ1 : Nat → FieldType := fun k => match k with
  | _ => .int
abbrev wsJ10 : List Cond := u_ws RJ1 TJ1 0
theorem nmJ1 : ∀ a, a < 0 → ∀ b, b < 0 → a ≠ b → (TJ1 a).2.1 ≠ (TJ1 b).2.1 := by decide +kernel
theorem tyJ1_ok : ∀ k, k < 0 → parseFieldDescriptor (TJ1 k).2.2.1 = some (tyJ1 k) := by decide +kernel
abbrev cJ1_charAt_3b067 : ByteArray := prog_18_method_2_code
def yJ1_charAt_3b067 : MethodName := ⟨RJ1, "charAt", "([BI)C"⟩
def RJ2 : String := "java/lang/StringUTF16"
def TJ2 : u_T := fun k => match k with
  | _ => ("", "", "", false)
def tyJ2 : Nat → FieldType := fun k => match k with
  | _ => .int
abbrev wsJ20 : List Cond := u_ws RJ2 TJ2 0
theorem nmJ2 : ∀ a, a < 0 → ∀ b, b < 0 → a ≠ b → (TJ2 a).2.1 ≠ (TJ2 b).2.1 := by decide +kernel
theorem tyJ2_ok : ∀ k, k < 0 → parseFieldDescriptor (TJ2 k).2.2.1 = some (tyJ2 k) := by decide +kernel
abbrev cJ2_getChar_3b067 : ByteArray := prog_19_method_5_code
def yJ2_getChar_3b067 : MethodName := ⟨RJ2, "getChar", "([BI)C"⟩
abbrev cJ2_length_9d52b : ByteArray := prog_19_method_6_code
def yJ2_length_9d52b : MethodName := ⟨RJ2, "length", "([B)I"⟩
abbrev cJ2_charAt_3b067 : ByteArray := prog_19_method_83_code
def yJ2_charAt_3b067 : MethodName := ⟨RJ2, "charAt", "([BI)C"⟩
abbrev cJ2_checkIndex_2214a : ByteArray := prog_19_method_91_code
def yJ2_checkIndex_2214a : MethodName := ⟨RJ2, "checkIndex", "(I[B)V"⟩
def RJ10 : String := "java/lang/System"
def TJ10 : u_T := fun k => match k with
  | _ => ("", "", "", false)
def tyJ10 : Nat → FieldType := fun k => match k with
  | _ => .int
abbrev wsJ100 : List Cond := u_ws RJ10 TJ10 0
theorem nmJ10 : ∀ a, a < 0 → ∀ b, b < 0 → a ≠ b → (TJ10 a).2.1 ≠ (TJ10 b).2.1 := by decide +kernel
theorem tyJ10_ok : ∀ k, k < 0 → parseFieldDescriptor (TJ10 k).2.2.1 = some (tyJ10 k) := by decide +kernel
def RJxfd54e : String := "java/lang/constant/Constable"
def TJxfd54e : u_T := fun k => match k with
  | _ => ("", "", "", false)
def tyJxfd54e : Nat → FieldType := fun k => match k with
  | _ => .int
theorem nmJxfd54e : ∀ a, a < 0 → ∀ b, b < 0 → a ≠ b → (TJxfd54e a).2.1 ≠ (TJxfd54e b).2.1 := by decide +kernel
theorem tyJxfd54e_ok : ∀ k, k < 0 → parseFieldDescriptor (TJxfd54e k).2.2.1 = some (tyJxfd54e k) := by decide +kernel
def RJx3cf43 : String := "java/lang/constant/ConstantDesc"
def TJx3cf43 : u_T := fun k => match k with
  | _ => ("", "", "", false)
def tyJx3cf43 : Nat → FieldType := fun k => match k with
  | _ => .int
theorem nmJx3cf43 : ∀ a, a < 0 → ∀ b, b < 0 → a ≠ b → (TJx3cf43 a).2.1 ≠ (TJx3cf43 b).2.1 := by decide +kernel
theorem tyJx3cf43_ok : ∀ k, k < 0 → parseFieldDescriptor (TJx3cf43 k).2.2.1 = some (tyJx3cf43 k) := by decide +kernel
def RJ7 : String := "java/util/Arrays"
def TJ7 : u_T := fun k => match k with
  | _ => ("", "", "", false)
def tyJ7 : Nat → FieldType := fun k => match k with
  | _ => .int
abbrev wsJ70 : List Cond := u_ws RJ7 TJ7 0
theorem nmJ7 : ∀ a, a < 0 → ∀ b, b < 0 → a ≠ b → (TJ7 a).2.1 ≠ (TJ7 b).2.1 := by decide +kernel
theorem tyJ7_ok : ∀ k, k < 0 → parseFieldDescriptor (TJ7 k).2.2.1 = some (tyJ7 k) := by decide +kernel
abbrev cJ7_fill_53178 : ByteArray := prog_21_method_103_code
def yJ7_fill_53178 : MethodName := ⟨RJ7, "fill", "([II)V"⟩
def RJ3 : String := "jdk/internal/util/Preconditions"
def TJ3 : u_T := fun k => match k with
  | _ => ("", "", "", false)
def tyJ3 : Nat → FieldType := fun k => match k with
  | _ => .int
abbrev wsJ30 : List Cond := u_ws RJ3 TJ3 0
theorem nmJ3 : ∀ a, a < 0 → ∀ b, b < 0 → a ≠ b → (TJ3 a).2.1 ≠ (TJ3 b).2.1 := by decide +kernel
theorem tyJ3_ok : ∀ k, k < 0 → parseFieldDescriptor (TJ3 k).2.2.1 = some (tyJ3 k) := by decide +kernel
abbrev cJ3_checkIndex_8e157 : ByteArray := prog_22_method_11_code
def yJ3_checkIndex_8e157 : MethodName := ⟨RJ3, "checkIndex", "(IILjava/util/function/BiFunction;)I"⟩
def RL : String := "WarByHoursLaw"
abbrev cL_law : ByteArray := code
def yL_law : MethodName := ⟨RL, "law", "([I)Z"⟩
abbrev vwCl : List vw_C := [(RX0, TX0, 2), (RX2, TX2, 6), (RX3, TX3, 8), (RX4, TX4, 1), (RX5, TX5, 5), (RX6, TX6, 9), (RX7, TX7, 4), (RX8, TX8, 1), (RX9, TX9, 4), (RX10, TX10, 12), (RX11, TX11, 11), (RX12, TX12, 32)]
