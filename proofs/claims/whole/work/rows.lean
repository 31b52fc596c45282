section
-- ===== PART A: goes FIRST, ahead of the names: the tables' words, and 'selects' of the private methods out of them =====
/-- a private method of a class that the tables say can be made, by its rows of tables_1 -/
def lw_okq (q : MethodName × Nat) : Prop := (q.1.cls ≠ "java/lang/invoke/MethodHandle" ∧ q.1.cls ≠ "java/lang/invoke/VarHandle") ∧ Cond.instantiable q.1.cls q.2 ∈ tables_1 ∧ Cond.privateMethod q.1 ∈ tables_1 ∧ Cond.instanceMethod q.1 ∈ tables_1
theorem lw_p0 : lw_okq (⟨"LocalMenders$State", "layOut", "(IIII)V"⟩, 14) := ⟨⟨by decide +kernel, by decide +kernel⟩, List.mem_of_getElem? (i := 21) (by decide +kernel), List.mem_of_getElem? (i := 27) (by decide +kernel), List.mem_of_getElem? (i := 28) (by decide +kernel)⟩
theorem lw_p1 : lw_okq (⟨"LocalMenders$State", "cellCount", "()I"⟩, 14) := ⟨⟨by decide +kernel, by decide +kernel⟩, List.mem_of_getElem? (i := 21) (by decide +kernel), List.mem_of_getElem? (i := 34) (by decide +kernel), List.mem_of_getElem? (i := 35) (by decide +kernel)⟩
theorem lw_p2 : lw_okq (⟨"LocalMenders$State", "homeCheck", "(I)I"⟩, 14) := ⟨⟨by decide +kernel, by decide +kernel⟩, List.mem_of_getElem? (i := 21) (by decide +kernel), List.mem_of_getElem? (i := 38) (by decide +kernel), List.mem_of_getElem? (i := 39) (by decide +kernel)⟩
theorem lw_p3 : lw_okq (⟨"LocalMenders$State", "dataCount", "()I"⟩, 14) := ⟨⟨by decide +kernel, by decide +kernel⟩, List.mem_of_getElem? (i := 21) (by decide +kernel), List.mem_of_getElem? (i := 42) (by decide +kernel), List.mem_of_getElem? (i := 43) (by decide +kernel)⟩
theorem lw_p4 : lw_okq (⟨"LocalMenders", "begin", "()V"⟩, 9) := ⟨⟨by decide +kernel, by decide +kernel⟩, List.mem_of_getElem? (i := 13) (by decide +kernel), List.mem_of_getElem? (i := 245) (by decide +kernel), List.mem_of_getElem? (i := 246) (by decide +kernel)⟩
theorem lw_p5 : lw_okq (⟨"LocalMenders$State", "copyFrom", "(LLocalMenders$State;)V"⟩, 14) := ⟨⟨by decide +kernel, by decide +kernel⟩, List.mem_of_getElem? (i := 21) (by decide +kernel), List.mem_of_getElem? (i := 249) (by decide +kernel), List.mem_of_getElem? (i := 250) (by decide +kernel)⟩
theorem lw_p6 : lw_okq (⟨"LocalMenders", "finish", "(I)I"⟩, 9) := ⟨⟨by decide +kernel, by decide +kernel⟩, List.mem_of_getElem? (i := 13) (by decide +kernel), List.mem_of_getElem? (i := 264) (by decide +kernel), List.mem_of_getElem? (i := 265) (by decide +kernel)⟩
theorem lw_p7 : lw_okq (⟨"LocalMenders", "record", "()V"⟩, 9) := ⟨⟨by decide +kernel, by decide +kernel⟩, List.mem_of_getElem? (i := 13) (by decide +kernel), List.mem_of_getElem? (i := 268) (by decide +kernel), List.mem_of_getElem? (i := 269) (by decide +kernel)⟩
theorem lw_p8 : lw_okq (⟨"LocalMenders", "dropOldest", "()V"⟩, 9) := ⟨⟨by decide +kernel, by decide +kernel⟩, List.mem_of_getElem? (i := 13) (by decide +kernel), List.mem_of_getElem? (i := 272) (by decide +kernel), List.mem_of_getElem? (i := 273) (by decide +kernel)⟩
theorem lw_p9 : lw_okq (⟨"LocalMenders", "writeCell", "(III)I"⟩, 9) := ⟨⟨by decide +kernel, by decide +kernel⟩, List.mem_of_getElem? (i := 13) (by decide +kernel), List.mem_of_getElem? (i := 280) (by decide +kernel), List.mem_of_getElem? (i := 281) (by decide +kernel)⟩
theorem lw_p10 : lw_okq (⟨"LocalMenders$State", "hasCell", "(II)Z"⟩, 14) := ⟨⟨by decide +kernel, by decide +kernel⟩, List.mem_of_getElem? (i := 21) (by decide +kernel), List.mem_of_getElem? (i := 284) (by decide +kernel), List.mem_of_getElem? (i := 285) (by decide +kernel)⟩
theorem lw_p11 : lw_okq (⟨"LocalMenders$State", "hasStripe", "(I)Z"⟩, 14) := ⟨⟨by decide +kernel, by decide +kernel⟩, List.mem_of_getElem? (i := 21) (by decide +kernel), List.mem_of_getElem? (i := 288) (by decide +kernel), List.mem_of_getElem? (i := 289) (by decide +kernel)⟩
theorem lw_p12 : lw_okq (⟨"LocalMenders$State", "missingIn", "(I)I"⟩, 14) := ⟨⟨by decide +kernel, by decide +kernel⟩, List.mem_of_getElem? (i := 21) (by decide +kernel), List.mem_of_getElem? (i := 293) (by decide +kernel), List.mem_of_getElem? (i := 294) (by decide +kernel)⟩
theorem lw_p13 : lw_okq (⟨"LocalMenders$State", "valueOf", "(II)I"⟩, 14) := ⟨⟨by decide +kernel, by decide +kernel⟩, List.mem_of_getElem? (i := 21) (by decide +kernel), List.mem_of_getElem? (i := 297) (by decide +kernel), List.mem_of_getElem? (i := 298) (by decide +kernel)⟩
theorem lw_p14 : lw_okq (⟨"LocalMenders$State", "setValue", "(III)V"⟩, 14) := ⟨⟨by decide +kernel, by decide +kernel⟩, List.mem_of_getElem? (i := 21) (by decide +kernel), List.mem_of_getElem? (i := 301) (by decide +kernel), List.mem_of_getElem? (i := 302) (by decide +kernel)⟩
theorem lw_p15 : lw_okq (⟨"LocalMenders$State", "columnOf", "(I)I"⟩, 14) := ⟨⟨by decide +kernel, by decide +kernel⟩, List.mem_of_getElem? (i := 21) (by decide +kernel), List.mem_of_getElem? (i := 305) (by decide +kernel), List.mem_of_getElem? (i := 306) (by decide +kernel)⟩
def lw_privs_1 : List (MethodName × Nat) := [(⟨"LocalMenders$State", "layOut", "(IIII)V"⟩, 14), (⟨"LocalMenders$State", "cellCount", "()I"⟩, 14), (⟨"LocalMenders$State", "homeCheck", "(I)I"⟩, 14), (⟨"LocalMenders$State", "dataCount", "()I"⟩, 14), (⟨"LocalMenders", "begin", "()V"⟩, 9), (⟨"LocalMenders$State", "copyFrom", "(LLocalMenders$State;)V"⟩, 14), (⟨"LocalMenders", "finish", "(I)I"⟩, 9), (⟨"LocalMenders", "record", "()V"⟩, 9), (⟨"LocalMenders", "dropOldest", "()V"⟩, 9), (⟨"LocalMenders", "writeCell", "(III)I"⟩, 9), (⟨"LocalMenders$State", "hasCell", "(II)Z"⟩, 14), (⟨"LocalMenders$State", "hasStripe", "(I)Z"⟩, 14), (⟨"LocalMenders$State", "missingIn", "(I)I"⟩, 14), (⟨"LocalMenders$State", "valueOf", "(II)I"⟩, 14), (⟨"LocalMenders$State", "setValue", "(III)V"⟩, 14), (⟨"LocalMenders$State", "columnOf", "(I)I"⟩, 14)]
theorem lw_r1 : ∀ q ∈ lw_privs_1, lw_okq q := List.forall_mem_cons.mpr ⟨lw_p0, List.forall_mem_cons.mpr ⟨lw_p1, List.forall_mem_cons.mpr ⟨lw_p2, List.forall_mem_cons.mpr ⟨lw_p3, List.forall_mem_cons.mpr ⟨lw_p4, List.forall_mem_cons.mpr ⟨lw_p5, List.forall_mem_cons.mpr ⟨lw_p6, List.forall_mem_cons.mpr ⟨lw_p7, List.forall_mem_cons.mpr ⟨lw_p8, List.forall_mem_cons.mpr ⟨lw_p9, List.forall_mem_cons.mpr ⟨lw_p10, List.forall_mem_cons.mpr ⟨lw_p11, List.forall_mem_cons.mpr ⟨lw_p12, List.forall_mem_cons.mpr ⟨lw_p13, List.forall_mem_cons.mpr ⟨lw_p14, List.forall_mem_cons.mpr ⟨lw_p15, fun _ h => absurd h List.not_mem_nil⟩⟩⟩⟩⟩⟩⟩⟩⟩⟩⟩⟩⟩⟩⟩⟩
theorem lw_p16 : lw_okq (⟨"LocalMenders$State", "addToParities", "(II)V"⟩, 14) := ⟨⟨by decide +kernel, by decide +kernel⟩, List.mem_of_getElem? (i := 21) (by decide +kernel), List.mem_of_getElem? (i := 314) (by decide +kernel), List.mem_of_getElem? (i := 315) (by decide +kernel)⟩
theorem lw_p17 : lw_okq (⟨"LocalMenders", "alterCell", "(III)I"⟩, 9) := ⟨⟨by decide +kernel, by decide +kernel⟩, List.mem_of_getElem? (i := 13) (by decide +kernel), List.mem_of_getElem? (i := 327) (by decide +kernel), List.mem_of_getElem? (i := 328) (by decide +kernel)⟩
theorem lw_p18 : lw_okq (⟨"LocalMenders$State", "isMissing", "(II)Z"⟩, 14) := ⟨⟨by decide +kernel, by decide +kernel⟩, List.mem_of_getElem? (i := 21) (by decide +kernel), List.mem_of_getElem? (i := 331) (by decide +kernel), List.mem_of_getElem? (i := 332) (by decide +kernel)⟩
theorem lw_p19 : lw_okq (⟨"LocalMenders", "loseCell", "(II)I"⟩, 9) := ⟨⟨by decide +kernel, by decide +kernel⟩, List.mem_of_getElem? (i := 13) (by decide +kernel), List.mem_of_getElem? (i := 340) (by decide +kernel), List.mem_of_getElem? (i := 341) (by decide +kernel)⟩
theorem lw_p20 : lw_okq (⟨"LocalMenders$State", "takeAway", "(II)V"⟩, 14) := ⟨⟨by decide +kernel, by decide +kernel⟩, List.mem_of_getElem? (i := 21) (by decide +kernel), List.mem_of_getElem? (i := 344) (by decide +kernel), List.mem_of_getElem? (i := 345) (by decide +kernel)⟩
theorem lw_p21 : lw_okq (⟨"LocalMenders$State", "joinQueue", "(I)V"⟩, 14) := ⟨⟨by decide +kernel, by decide +kernel⟩, List.mem_of_getElem? (i := 21) (by decide +kernel), List.mem_of_getElem? (i := 348) (by decide +kernel), List.mem_of_getElem? (i := 349) (by decide +kernel)⟩
theorem lw_p22 : lw_okq (⟨"LocalMenders", "loseCellsOn", "(I)I"⟩, 9) := ⟨⟨by decide +kernel, by decide +kernel⟩, List.mem_of_getElem? (i := 13) (by decide +kernel), List.mem_of_getElem? (i := 356) (by decide +kernel), List.mem_of_getElem? (i := 357) (by decide +kernel)⟩
theorem lw_p23 : lw_okq (⟨"LocalMenders$State", "hasNode", "(I)Z"⟩, 14) := ⟨⟨by decide +kernel, by decide +kernel⟩, List.mem_of_getElem? (i := 21) (by decide +kernel), List.mem_of_getElem? (i := 360) (by decide +kernel), List.mem_of_getElem? (i := 361) (by decide +kernel)⟩
theorem lw_p24 : lw_okq (⟨"LocalMenders$State", "cellOn", "(II)I"⟩, 14) := ⟨⟨by decide +kernel, by decide +kernel⟩, List.mem_of_getElem? (i := 21) (by decide +kernel), List.mem_of_getElem? (i := 364) (by decide +kernel), List.mem_of_getElem? (i := 365) (by decide +kernel)⟩
theorem lw_p25 : lw_okq (⟨"LocalMenders", "mendCell", "(II)I"⟩, 9) := ⟨⟨by decide +kernel, by decide +kernel⟩, List.mem_of_getElem? (i := 13) (by decide +kernel), List.mem_of_getElem? (i := 375) (by decide +kernel), List.mem_of_getElem? (i := 376) (by decide +kernel)⟩
theorem lw_p26 : lw_okq (⟨"LocalMenders$Plan", "make", "(LLocalMenders$State;II)I"⟩, 3) := ⟨⟨by decide +kernel, by decide +kernel⟩, List.mem_of_getElem? (i := 154) (by decide +kernel), List.mem_of_getElem? (i := 379) (by decide +kernel), List.mem_of_getElem? (i := 380) (by decide +kernel)⟩
theorem lw_p27 : lw_okq (⟨"LocalMenders$State", "partnersOf", "(I)I"⟩, 14) := ⟨⟨by decide +kernel, by decide +kernel⟩, List.mem_of_getElem? (i := 21) (by decide +kernel), List.mem_of_getElem? (i := 386) (by decide +kernel), List.mem_of_getElem? (i := 387) (by decide +kernel)⟩
theorem lw_p28 : lw_okq (⟨"LocalMenders$State", "sumsOver", "(II)I"⟩, 14) := ⟨⟨by decide +kernel, by decide +kernel⟩, List.mem_of_getElem? (i := 21) (by decide +kernel), List.mem_of_getElem? (i := 391) (by decide +kernel), List.mem_of_getElem? (i := 392) (by decide +kernel)⟩
theorem lw_p29 : lw_okq (⟨"LocalMenders$State", "allCells", "()I"⟩, 14) := ⟨⟨by decide +kernel, by decide +kernel⟩, List.mem_of_getElem? (i := 21) (by decide +kernel), List.mem_of_getElem? (i := 398) (by decide +kernel), List.mem_of_getElem? (i := 399) (by decide +kernel)⟩
theorem lw_p30 : lw_okq (⟨"LocalMenders$Basis", "span", "(LLocalMenders$State;I)V"⟩, 3) := ⟨⟨by decide +kernel, by decide +kernel⟩, List.mem_of_getElem? (i := 160) (by decide +kernel), List.mem_of_getElem? (i := 402) (by decide +kernel), List.mem_of_getElem? (i := 403) (by decide +kernel)⟩
theorem lw_p31 : lw_okq (⟨"LocalMenders$Basis", "restOf", "(I)I"⟩, 3) := ⟨⟨by decide +kernel, by decide +kernel⟩, List.mem_of_getElem? (i := 160) (by decide +kernel), List.mem_of_getElem? (i := 408) (by decide +kernel), List.mem_of_getElem? (i := 409) (by decide +kernel)⟩
def lw_privs_2 : List (MethodName × Nat) := [(⟨"LocalMenders$State", "addToParities", "(II)V"⟩, 14), (⟨"LocalMenders", "alterCell", "(III)I"⟩, 9), (⟨"LocalMenders$State", "isMissing", "(II)Z"⟩, 14), (⟨"LocalMenders", "loseCell", "(II)I"⟩, 9), (⟨"LocalMenders$State", "takeAway", "(II)V"⟩, 14), (⟨"LocalMenders$State", "joinQueue", "(I)V"⟩, 14), (⟨"LocalMenders", "loseCellsOn", "(I)I"⟩, 9), (⟨"LocalMenders$State", "hasNode", "(I)Z"⟩, 14), (⟨"LocalMenders$State", "cellOn", "(II)I"⟩, 14), (⟨"LocalMenders", "mendCell", "(II)I"⟩, 9), (⟨"LocalMenders$Plan", "make", "(LLocalMenders$State;II)I"⟩, 3), (⟨"LocalMenders$State", "partnersOf", "(I)I"⟩, 14), (⟨"LocalMenders$State", "sumsOver", "(II)I"⟩, 14), (⟨"LocalMenders$State", "allCells", "()I"⟩, 14), (⟨"LocalMenders$Basis", "span", "(LLocalMenders$State;I)V"⟩, 3), (⟨"LocalMenders$Basis", "restOf", "(I)I"⟩, 3)]
theorem lw_r2 : ∀ q ∈ lw_privs_2, lw_okq q := List.forall_mem_cons.mpr ⟨lw_p16, List.forall_mem_cons.mpr ⟨lw_p17, List.forall_mem_cons.mpr ⟨lw_p18, List.forall_mem_cons.mpr ⟨lw_p19, List.forall_mem_cons.mpr ⟨lw_p20, List.forall_mem_cons.mpr ⟨lw_p21, List.forall_mem_cons.mpr ⟨lw_p22, List.forall_mem_cons.mpr ⟨lw_p23, List.forall_mem_cons.mpr ⟨lw_p24, List.forall_mem_cons.mpr ⟨lw_p25, List.forall_mem_cons.mpr ⟨lw_p26, List.forall_mem_cons.mpr ⟨lw_p27, List.forall_mem_cons.mpr ⟨lw_p28, List.forall_mem_cons.mpr ⟨lw_p29, List.forall_mem_cons.mpr ⟨lw_p30, List.forall_mem_cons.mpr ⟨lw_p31, fun _ h => absurd h List.not_mem_nil⟩⟩⟩⟩⟩⟩⟩⟩⟩⟩⟩⟩⟩⟩⟩⟩
theorem lw_p32 : lw_okq (⟨"LocalMenders$Plan", "solve", "(II)I"⟩, 3) := ⟨⟨by decide +kernel, by decide +kernel⟩, List.mem_of_getElem? (i := 154) (by decide +kernel), List.mem_of_getElem? (i := 427) (by decide +kernel), List.mem_of_getElem? (i := 428) (by decide +kernel)⟩
theorem lw_p33 : lw_okq (⟨"LocalMenders$State", "countReads", "(II)V"⟩, 14) := ⟨⟨by decide +kernel, by decide +kernel⟩, List.mem_of_getElem? (i := 21) (by decide +kernel), List.mem_of_getElem? (i := 436) (by decide +kernel), List.mem_of_getElem? (i := 437) (by decide +kernel)⟩
theorem lw_p34 : lw_okq (⟨"LocalMenders$State", "nodeOf", "(II)I"⟩, 14) := ⟨⟨by decide +kernel, by decide +kernel⟩, List.mem_of_getElem? (i := 21) (by decide +kernel), List.mem_of_getElem? (i := 440) (by decide +kernel), List.mem_of_getElem? (i := 441) (by decide +kernel)⟩
theorem lw_p35 : lw_okq (⟨"LocalMenders$State", "bringBack", "(III)V"⟩, 14) := ⟨⟨by decide +kernel, by decide +kernel⟩, List.mem_of_getElem? (i := 21) (by decide +kernel), List.mem_of_getElem? (i := 444) (by decide +kernel), List.mem_of_getElem? (i := 445) (by decide +kernel)⟩
theorem lw_p36 : lw_okq (⟨"LocalMenders$State", "leaveQueue", "(I)V"⟩, 14) := ⟨⟨by decide +kernel, by decide +kernel⟩, List.mem_of_getElem? (i := 21) (by decide +kernel), List.mem_of_getElem? (i := 448) (by decide +kernel), List.mem_of_getElem? (i := 449) (by decide +kernel)⟩
theorem lw_p37 : lw_okq (⟨"LocalMenders", "mendCellsOn", "(I)I"⟩, 9) := ⟨⟨by decide +kernel, by decide +kernel⟩, List.mem_of_getElem? (i := 13) (by decide +kernel), List.mem_of_getElem? (i := 463) (by decide +kernel), List.mem_of_getElem? (i := 464) (by decide +kernel)⟩
theorem lw_p38 : lw_okq (⟨"LocalMenders", "workOnQueue", "(I)I"⟩, 9) := ⟨⟨by decide +kernel, by decide +kernel⟩, List.mem_of_getElem? (i := 13) (by decide +kernel), List.mem_of_getElem? (i := 474) (by decide +kernel), List.mem_of_getElem? (i := 475) (by decide +kernel)⟩
theorem lw_p39 : lw_okq (⟨"LocalMenders", "scrubStripes", "()I"⟩, 9) := ⟨⟨by decide +kernel, by decide +kernel⟩, List.mem_of_getElem? (i := 13) (by decide +kernel), List.mem_of_getElem? (i := 484) (by decide +kernel), List.mem_of_getElem? (i := 485) (by decide +kernel)⟩
theorem lw_p40 : lw_okq (⟨"LocalMenders$State", "culpritIn", "(I)I"⟩, 14) := ⟨⟨by decide +kernel, by decide +kernel⟩, List.mem_of_getElem? (i := 21) (by decide +kernel), List.mem_of_getElem? (i := 488) (by decide +kernel), List.mem_of_getElem? (i := 489) (by decide +kernel)⟩
theorem lw_p41 : lw_okq (⟨"LocalMenders$Orders", "append", "(C)I"⟩, 9) := ⟨⟨by decide +kernel, by decide +kernel⟩, List.mem_of_getElem? (i := 112) (by decide +kernel), List.mem_of_getElem? (i := 501) (by decide +kernel), List.mem_of_getElem? (i := 502) (by decide +kernel)⟩
theorem lw_p42 : lw_okq (⟨"LocalMenders$Orders", "findFault", "()I"⟩, 9) := ⟨⟨by decide +kernel, by decide +kernel⟩, List.mem_of_getElem? (i := 112) (by decide +kernel), List.mem_of_getElem? (i := 513) (by decide +kernel), List.mem_of_getElem? (i := 514) (by decide +kernel)⟩
theorem lw_p43 : lw_okq (⟨"LocalMenders$Orders", "goToStart", "()V"⟩, 9) := ⟨⟨by decide +kernel, by decide +kernel⟩, List.mem_of_getElem? (i := 112) (by decide +kernel), List.mem_of_getElem? (i := 517) (by decide +kernel), List.mem_of_getElem? (i := 518) (by decide +kernel)⟩
theorem lw_p44 : lw_okq (⟨"LocalMenders$Orders", "readOrder", "()Z"⟩, 9) := ⟨⟨by decide +kernel, by decide +kernel⟩, List.mem_of_getElem? (i := 112) (by decide +kernel), List.mem_of_getElem? (i := 521) (by decide +kernel), List.mem_of_getElem? (i := 522) (by decide +kernel)⟩
theorem lw_p45 : lw_okq (⟨"LocalMenders$Orders", "sign", "()I"⟩, 9) := ⟨⟨by decide +kernel, by decide +kernel⟩, List.mem_of_getElem? (i := 112) (by decide +kernel), List.mem_of_getElem? (i := 525) (by decide +kernel), List.mem_of_getElem? (i := 526) (by decide +kernel)⟩
theorem lw_p46 : lw_okq (⟨"LocalMenders$Orders", "readNumber", "()I"⟩, 9) := ⟨⟨by decide +kernel, by decide +kernel⟩, List.mem_of_getElem? (i := 112) (by decide +kernel), List.mem_of_getElem? (i := 529) (by decide +kernel), List.mem_of_getElem? (i := 530) (by decide +kernel)⟩
theorem lw_p47 : lw_okq (⟨"LocalMenders$Orders", "readDigit", "()I"⟩, 9) := ⟨⟨by decide +kernel, by decide +kernel⟩, List.mem_of_getElem? (i := 112) (by decide +kernel), List.mem_of_getElem? (i := 533) (by decide +kernel), List.mem_of_getElem? (i := 534) (by decide +kernel)⟩
def lw_privs_3 : List (MethodName × Nat) := [(⟨"LocalMenders$Plan", "solve", "(II)I"⟩, 3), (⟨"LocalMenders$State", "countReads", "(II)V"⟩, 14), (⟨"LocalMenders$State", "nodeOf", "(II)I"⟩, 14), (⟨"LocalMenders$State", "bringBack", "(III)V"⟩, 14), (⟨"LocalMenders$State", "leaveQueue", "(I)V"⟩, 14), (⟨"LocalMenders", "mendCellsOn", "(I)I"⟩, 9), (⟨"LocalMenders", "workOnQueue", "(I)I"⟩, 9), (⟨"LocalMenders", "scrubStripes", "()I"⟩, 9), (⟨"LocalMenders$State", "culpritIn", "(I)I"⟩, 14), (⟨"LocalMenders$Orders", "append", "(C)I"⟩, 9), (⟨"LocalMenders$Orders", "findFault", "()I"⟩, 9), (⟨"LocalMenders$Orders", "goToStart", "()V"⟩, 9), (⟨"LocalMenders$Orders", "readOrder", "()Z"⟩, 9), (⟨"LocalMenders$Orders", "sign", "()I"⟩, 9), (⟨"LocalMenders$Orders", "readNumber", "()I"⟩, 9), (⟨"LocalMenders$Orders", "readDigit", "()I"⟩, 9)]
theorem lw_r3 : ∀ q ∈ lw_privs_3, lw_okq q := List.forall_mem_cons.mpr ⟨lw_p32, List.forall_mem_cons.mpr ⟨lw_p33, List.forall_mem_cons.mpr ⟨lw_p34, List.forall_mem_cons.mpr ⟨lw_p35, List.forall_mem_cons.mpr ⟨lw_p36, List.forall_mem_cons.mpr ⟨lw_p37, List.forall_mem_cons.mpr ⟨lw_p38, List.forall_mem_cons.mpr ⟨lw_p39, List.forall_mem_cons.mpr ⟨lw_p40, List.forall_mem_cons.mpr ⟨lw_p41, List.forall_mem_cons.mpr ⟨lw_p42, List.forall_mem_cons.mpr ⟨lw_p43, List.forall_mem_cons.mpr ⟨lw_p44, List.forall_mem_cons.mpr ⟨lw_p45, List.forall_mem_cons.mpr ⟨lw_p46, List.forall_mem_cons.mpr ⟨lw_p47, fun _ h => absurd h List.not_mem_nil⟩⟩⟩⟩⟩⟩⟩⟩⟩⟩⟩⟩⟩⟩⟩⟩
theorem lw_p48 : lw_okq (⟨"LocalMenders$Orders", "pass", "(C)Z"⟩, 9) := ⟨⟨by decide +kernel, by decide +kernel⟩, List.mem_of_getElem? (i := 112) (by decide +kernel), List.mem_of_getElem? (i := 537) (by decide +kernel), List.mem_of_getElem? (i := 538) (by decide +kernel)⟩
theorem lw_p49 : lw_okq (⟨"LocalMenders", "carryOut", "()I"⟩, 9) := ⟨⟨by decide +kernel, by decide +kernel⟩, List.mem_of_getElem? (i := 13) (by decide +kernel), List.mem_of_getElem? (i := 543) (by decide +kernel), List.mem_of_getElem? (i := 544) (by decide +kernel)⟩
theorem lw_p50 : lw_okq (⟨"LocalMenders$Plan", "canMendAll", "(LLocalMenders$State;I)Z"⟩, 3) := ⟨⟨by decide +kernel, by decide +kernel⟩, List.mem_of_getElem? (i := 154) (by decide +kernel), List.mem_of_getElem? (i := 610) (by decide +kernel), List.mem_of_getElem? (i := 611) (by decide +kernel)⟩
theorem lw_p51 : lw_okq (⟨"LocalMenders$Search", "run", "(LLocalMenders$State;I)V"⟩, 4) := ⟨⟨by decide +kernel, by decide +kernel⟩, List.mem_of_getElem? (i := 189) (by decide +kernel), List.mem_of_getElem? (i := 619) (by decide +kernel), List.mem_of_getElem? (i := 620) (by decide +kernel)⟩
theorem lw_p52 : lw_okq (⟨"LocalMenders$Search", "choose", "(LLocalMenders$State;IIIZ)V"⟩, 4) := ⟨⟨by decide +kernel, by decide +kernel⟩, List.mem_of_getElem? (i := 189) (by decide +kernel), List.mem_of_getElem? (i := 627) (by decide +kernel), List.mem_of_getElem? (i := 628) (by decide +kernel)⟩
theorem lw_p53 : lw_okq (⟨"LocalMenders$Search", "note", "(LLocalMenders$State;I)V"⟩, 4) := ⟨⟨by decide +kernel, by decide +kernel⟩, List.mem_of_getElem? (i := 189) (by decide +kernel), List.mem_of_getElem? (i := 631) (by decide +kernel), List.mem_of_getElem? (i := 632) (by decide +kernel)⟩
theorem lw_p54 : lw_okq (⟨"LocalMenders$State", "nodesOf", "(II)I"⟩, 14) := ⟨⟨by decide +kernel, by decide +kernel⟩, List.mem_of_getElem? (i := 21) (by decide +kernel), List.mem_of_getElem? (i := 635) (by decide +kernel), List.mem_of_getElem? (i := 636) (by decide +kernel)⟩
theorem lw_p55 : lw_okq (⟨"LocalMenders$Search", "takeOut", "(IIII)V"⟩, 4) := ⟨⟨by decide +kernel, by decide +kernel⟩, List.mem_of_getElem? (i := 189) (by decide +kernel), List.mem_of_getElem? (i := 640) (by decide +kernel), List.mem_of_getElem? (i := 641) (by decide +kernel)⟩
theorem lw_p56 : lw_okq (⟨"LocalMendersModel", "product", "(II)I"⟩, 15) := ⟨⟨by decide +kernel, by decide +kernel⟩, List.mem_of_getElem? (i := 656) (by decide +kernel), List.mem_of_getElem? (i := 665) (by decide +kernel), List.mem_of_getElem? (i := 666) (by decide +kernel)⟩
theorem lw_p57 : lw_okq (⟨"LocalMendersModel", "remember", "()V"⟩, 15) := ⟨⟨by decide +kernel, by decide +kernel⟩, List.mem_of_getElem? (i := 656) (by decide +kernel), List.mem_of_getElem? (i := 727) (by decide +kernel), List.mem_of_getElem? (i := 728) (by decide +kernel)⟩
theorem lw_p58 : lw_okq (⟨"LocalMendersModel", "changed", "(I)I"⟩, 15) := ⟨⟨by decide +kernel, by decide +kernel⟩, List.mem_of_getElem? (i := 656) (by decide +kernel), List.mem_of_getElem? (i := 731) (by decide +kernel), List.mem_of_getElem? (i := 732) (by decide +kernel)⟩
theorem lw_p59 : lw_okq (⟨"LocalMendersModel", "cells", "()I"⟩, 15) := ⟨⟨by decide +kernel, by decide +kernel⟩, List.mem_of_getElem? (i := 656) (by decide +kernel), List.mem_of_getElem? (i := 742) (by decide +kernel), List.mem_of_getElem? (i := 743) (by decide +kernel)⟩
theorem lw_p60 : lw_okq (⟨"LocalMendersModel", "dataCells", "()I"⟩, 15) := ⟨⟨by decide +kernel, by decide +kernel⟩, List.mem_of_getElem? (i := 656) (by decide +kernel), List.mem_of_getElem? (i := 746) (by decide +kernel), List.mem_of_getElem? (i := 747) (by decide +kernel)⟩
theorem lw_p61 : lw_okq (⟨"LocalMendersModel", "writeCell", "(III)I"⟩, 15) := ⟨⟨by decide +kernel, by decide +kernel⟩, List.mem_of_getElem? (i := 656) (by decide +kernel), List.mem_of_getElem? (i := 754) (by decide +kernel), List.mem_of_getElem? (i := 755) (by decide +kernel)⟩
theorem lw_p62 : lw_okq (⟨"LocalMendersModel", "isStripe", "(I)Z"⟩, 15) := ⟨⟨by decide +kernel, by decide +kernel⟩, List.mem_of_getElem? (i := 656) (by decide +kernel), List.mem_of_getElem? (i := 758) (by decide +kernel), List.mem_of_getElem? (i := 759) (by decide +kernel)⟩
theorem lw_p63 : lw_okq (⟨"LocalMendersModel", "lostCells", "(I)I"⟩, 15) := ⟨⟨by decide +kernel, by decide +kernel⟩, List.mem_of_getElem? (i := 656) (by decide +kernel), List.mem_of_getElem? (i := 762) (by decide +kernel), List.mem_of_getElem? (i := 763) (by decide +kernel)⟩
def lw_privs_4 : List (MethodName × Nat) := [(⟨"LocalMenders$Orders", "pass", "(C)Z"⟩, 9), (⟨"LocalMenders", "carryOut", "()I"⟩, 9), (⟨"LocalMenders$Plan", "canMendAll", "(LLocalMenders$State;I)Z"⟩, 3), (⟨"LocalMenders$Search", "run", "(LLocalMenders$State;I)V"⟩, 4), (⟨"LocalMenders$Search", "choose", "(LLocalMenders$State;IIIZ)V"⟩, 4), (⟨"LocalMenders$Search", "note", "(LLocalMenders$State;I)V"⟩, 4), (⟨"LocalMenders$State", "nodesOf", "(II)I"⟩, 14), (⟨"LocalMenders$Search", "takeOut", "(IIII)V"⟩, 4), (⟨"LocalMendersModel", "product", "(II)I"⟩, 15), (⟨"LocalMendersModel", "remember", "()V"⟩, 15), (⟨"LocalMendersModel", "changed", "(I)I"⟩, 15), (⟨"LocalMendersModel", "cells", "()I"⟩, 15), (⟨"LocalMendersModel", "dataCells", "()I"⟩, 15), (⟨"LocalMendersModel", "writeCell", "(III)I"⟩, 15), (⟨"LocalMendersModel", "isStripe", "(I)Z"⟩, 15), (⟨"LocalMendersModel", "lostCells", "(I)I"⟩, 15)]
theorem lw_r4 : ∀ q ∈ lw_privs_4, lw_okq q := List.forall_mem_cons.mpr ⟨lw_p48, List.forall_mem_cons.mpr ⟨lw_p49, List.forall_mem_cons.mpr ⟨lw_p50, List.forall_mem_cons.mpr ⟨lw_p51, List.forall_mem_cons.mpr ⟨lw_p52, List.forall_mem_cons.mpr ⟨lw_p53, List.forall_mem_cons.mpr ⟨lw_p54, List.forall_mem_cons.mpr ⟨lw_p55, List.forall_mem_cons.mpr ⟨lw_p56, List.forall_mem_cons.mpr ⟨lw_p57, List.forall_mem_cons.mpr ⟨lw_p58, List.forall_mem_cons.mpr ⟨lw_p59, List.forall_mem_cons.mpr ⟨lw_p60, List.forall_mem_cons.mpr ⟨lw_p61, List.forall_mem_cons.mpr ⟨lw_p62, List.forall_mem_cons.mpr ⟨lw_p63, fun _ h => absurd h List.not_mem_nil⟩⟩⟩⟩⟩⟩⟩⟩⟩⟩⟩⟩⟩⟩⟩⟩
theorem lw_p64 : lw_okq (⟨"LocalMendersModel", "isLost", "(II)Z"⟩, 15) := ⟨⟨by decide +kernel, by decide +kernel⟩, List.mem_of_getElem? (i := 656) (by decide +kernel), List.mem_of_getElem? (i := 766) (by decide +kernel), List.mem_of_getElem? (i := 767) (by decide +kernel)⟩
theorem lw_p65 : lw_okq (⟨"LocalMendersModel", "cellValue", "(II)I"⟩, 15) := ⟨⟨by decide +kernel, by decide +kernel⟩, List.mem_of_getElem? (i := 656) (by decide +kernel), List.mem_of_getElem? (i := 770) (by decide +kernel), List.mem_of_getElem? (i := 771) (by decide +kernel)⟩
theorem lw_p66 : lw_okq (⟨"LocalMendersModel", "groupOf", "(I)I"⟩, 15) := ⟨⟨by decide +kernel, by decide +kernel⟩, List.mem_of_getElem? (i := 656) (by decide +kernel), List.mem_of_getElem? (i := 774) (by decide +kernel), List.mem_of_getElem? (i := 775) (by decide +kernel)⟩
theorem lw_p67 : lw_okq (⟨"LocalMendersModel", "setValue", "(III)V"⟩, 15) := ⟨⟨by decide +kernel, by decide +kernel⟩, List.mem_of_getElem? (i := 656) (by decide +kernel), List.mem_of_getElem? (i := 778) (by decide +kernel), List.mem_of_getElem? (i := 779) (by decide +kernel)⟩
theorem lw_p68 : lw_okq (⟨"LocalMendersModel", "isCell", "(II)Z"⟩, 15) := ⟨⟨by decide +kernel, by decide +kernel⟩, List.mem_of_getElem? (i := 656) (by decide +kernel), List.mem_of_getElem? (i := 786) (by decide +kernel), List.mem_of_getElem? (i := 787) (by decide +kernel)⟩
theorem lw_p69 : lw_okq (⟨"LocalMendersModel", "loseCell", "(II)I"⟩, 15) := ⟨⟨by decide +kernel, by decide +kernel⟩, List.mem_of_getElem? (i := 656) (by decide +kernel), List.mem_of_getElem? (i := 794) (by decide +kernel), List.mem_of_getElem? (i := 795) (by decide +kernel)⟩
theorem lw_p70 : lw_okq (⟨"LocalMendersModel", "joinQueue", "(II)V"⟩, 15) := ⟨⟨by decide +kernel, by decide +kernel⟩, List.mem_of_getElem? (i := 656) (by decide +kernel), List.mem_of_getElem? (i := 798) (by decide +kernel), List.mem_of_getElem? (i := 799) (by decide +kernel)⟩
theorem lw_p71 : lw_okq (⟨"LocalMendersModel", "loseAll", "(I)I"⟩, 15) := ⟨⟨by decide +kernel, by decide +kernel⟩, List.mem_of_getElem? (i := 656) (by decide +kernel), List.mem_of_getElem? (i := 806) (by decide +kernel), List.mem_of_getElem? (i := 807) (by decide +kernel)⟩
theorem lw_p72 : lw_okq (⟨"LocalMendersModel", "isNode", "(I)Z"⟩, 15) := ⟨⟨by decide +kernel, by decide +kernel⟩, List.mem_of_getElem? (i := 656) (by decide +kernel), List.mem_of_getElem? (i := 810) (by decide +kernel), List.mem_of_getElem? (i := 811) (by decide +kernel)⟩
theorem lw_p73 : lw_okq (⟨"LocalMendersModel", "cellOn", "(II)I"⟩, 15) := ⟨⟨by decide +kernel, by decide +kernel⟩, List.mem_of_getElem? (i := 656) (by decide +kernel), List.mem_of_getElem? (i := 814) (by decide +kernel), List.mem_of_getElem? (i := 815) (by decide +kernel)⟩
theorem lw_p74 : lw_okq (⟨"LocalMendersModel", "mendCell", "(II)I"⟩, 15) := ⟨⟨by decide +kernel, by decide +kernel⟩, List.mem_of_getElem? (i := 656) (by decide +kernel), List.mem_of_getElem? (i := 822) (by decide +kernel), List.mem_of_getElem? (i := 823) (by decide +kernel)⟩
theorem lw_p75 : lw_okq (⟨"LocalMendersModel", "wayNow", "(II)I"⟩, 15) := ⟨⟨by decide +kernel, by decide +kernel⟩, List.mem_of_getElem? (i := 656) (by decide +kernel), List.mem_of_getElem? (i := 826) (by decide +kernel), List.mem_of_getElem? (i := 827) (by decide +kernel)⟩
theorem lw_p76 : lw_okq (⟨"LocalMendersModel", "wayOf", "(II)I"⟩, 15) := ⟨⟨by decide +kernel, by decide +kernel⟩, List.mem_of_getElem? (i := 656) (by decide +kernel), List.mem_of_getElem? (i := 830) (by decide +kernel), List.mem_of_getElem? (i := 831) (by decide +kernel)⟩
theorem lw_p77 : lw_okq (⟨"LocalMendersModel", "groupCells", "(I)I"⟩, 15) := ⟨⟨by decide +kernel, by decide +kernel⟩, List.mem_of_getElem? (i := 656) (by decide +kernel), List.mem_of_getElem? (i := 834) (by decide +kernel), List.mem_of_getElem? (i := 835) (by decide +kernel)⟩
theorem lw_p78 : lw_okq (⟨"LocalMendersModel", "tellingPair", "(II)I"⟩, 15) := ⟨⟨by decide +kernel, by decide +kernel⟩, List.mem_of_getElem? (i := 656) (by decide +kernel), List.mem_of_getElem? (i := 838) (by decide +kernel), List.mem_of_getElem? (i := 839) (by decide +kernel)⟩
theorem lw_p79 : lw_okq (⟨"LocalMendersModel", "isSum", "(IIII)Z"⟩, 15) := ⟨⟨by decide +kernel, by decide +kernel⟩, List.mem_of_getElem? (i := 656) (by decide +kernel), List.mem_of_getElem? (i := 842) (by decide +kernel), List.mem_of_getElem? (i := 843) (by decide +kernel)⟩
def lw_privs_5 : List (MethodName × Nat) := [(⟨"LocalMendersModel", "isLost", "(II)Z"⟩, 15), (⟨"LocalMendersModel", "cellValue", "(II)I"⟩, 15), (⟨"LocalMendersModel", "groupOf", "(I)I"⟩, 15), (⟨"LocalMendersModel", "setValue", "(III)V"⟩, 15), (⟨"LocalMendersModel", "isCell", "(II)Z"⟩, 15), (⟨"LocalMendersModel", "loseCell", "(II)I"⟩, 15), (⟨"LocalMendersModel", "joinQueue", "(II)V"⟩, 15), (⟨"LocalMendersModel", "loseAll", "(I)I"⟩, 15), (⟨"LocalMendersModel", "isNode", "(I)Z"⟩, 15), (⟨"LocalMendersModel", "cellOn", "(II)I"⟩, 15), (⟨"LocalMendersModel", "mendCell", "(II)I"⟩, 15), (⟨"LocalMendersModel", "wayNow", "(II)I"⟩, 15), (⟨"LocalMendersModel", "wayOf", "(II)I"⟩, 15), (⟨"LocalMendersModel", "groupCells", "(I)I"⟩, 15), (⟨"LocalMendersModel", "tellingPair", "(II)I"⟩, 15), (⟨"LocalMendersModel", "isSum", "(IIII)Z"⟩, 15)]
theorem lw_r5 : ∀ q ∈ lw_privs_5, lw_okq q := List.forall_mem_cons.mpr ⟨lw_p64, List.forall_mem_cons.mpr ⟨lw_p65, List.forall_mem_cons.mpr ⟨lw_p66, List.forall_mem_cons.mpr ⟨lw_p67, List.forall_mem_cons.mpr ⟨lw_p68, List.forall_mem_cons.mpr ⟨lw_p69, List.forall_mem_cons.mpr ⟨lw_p70, List.forall_mem_cons.mpr ⟨lw_p71, List.forall_mem_cons.mpr ⟨lw_p72, List.forall_mem_cons.mpr ⟨lw_p73, List.forall_mem_cons.mpr ⟨lw_p74, List.forall_mem_cons.mpr ⟨lw_p75, List.forall_mem_cons.mpr ⟨lw_p76, List.forall_mem_cons.mpr ⟨lw_p77, List.forall_mem_cons.mpr ⟨lw_p78, List.forall_mem_cons.mpr ⟨lw_p79, fun _ h => absurd h List.not_mem_nil⟩⟩⟩⟩⟩⟩⟩⟩⟩⟩⟩⟩⟩⟩⟩⟩
theorem lw_p80 : lw_okq (⟨"LocalMendersModel", "globalPart", "(III)I"⟩, 15) := ⟨⟨by decide +kernel, by decide +kernel⟩, List.mem_of_getElem? (i := 656) (by decide +kernel), List.mem_of_getElem? (i := 846) (by decide +kernel), List.mem_of_getElem? (i := 847) (by decide +kernel)⟩
theorem lw_p81 : lw_okq (⟨"LocalMendersModel", "canHold", "(II)Z"⟩, 15) := ⟨⟨by decide +kernel, by decide +kernel⟩, List.mem_of_getElem? (i := 656) (by decide +kernel), List.mem_of_getElem? (i := 850) (by decide +kernel), List.mem_of_getElem? (i := 851) (by decide +kernel)⟩
theorem lw_p82 : lw_okq (⟨"LocalMendersModel", "localSum", "(II)I"⟩, 15) := ⟨⟨by decide +kernel, by decide +kernel⟩, List.mem_of_getElem? (i := 656) (by decide +kernel), List.mem_of_getElem? (i := 854) (by decide +kernel), List.mem_of_getElem? (i := 855) (by decide +kernel)⟩
theorem lw_p83 : lw_okq (⟨"LocalMendersModel", "sumThere", "(III)I"⟩, 15) := ⟨⟨by decide +kernel, by decide +kernel⟩, List.mem_of_getElem? (i := 656) (by decide +kernel), List.mem_of_getElem? (i := 858) (by decide +kernel), List.mem_of_getElem? (i := 859) (by decide +kernel)⟩
theorem lw_p84 : lw_okq (⟨"LocalMendersModel", "factorOf", "(III)I"⟩, 15) := ⟨⟨by decide +kernel, by decide +kernel⟩, List.mem_of_getElem? (i := 656) (by decide +kernel), List.mem_of_getElem? (i := 862) (by decide +kernel), List.mem_of_getElem? (i := 863) (by decide +kernel)⟩
theorem lw_p85 : lw_okq (⟨"LocalMendersModel", "mendedValue", "(III)I"⟩, 15) := ⟨⟨by decide +kernel, by decide +kernel⟩, List.mem_of_getElem? (i := 656) (by decide +kernel), List.mem_of_getElem? (i := 866) (by decide +kernel), List.mem_of_getElem? (i := 867) (by decide +kernel)⟩
theorem lw_p86 : lw_okq (⟨"LocalMendersModel", "weighed", "(IZ)I"⟩, 15) := ⟨⟨by decide +kernel, by decide +kernel⟩, List.mem_of_getElem? (i := 656) (by decide +kernel), List.mem_of_getElem? (i := 870) (by decide +kernel), List.mem_of_getElem? (i := 871) (by decide +kernel)⟩
theorem lw_p87 : lw_okq (⟨"LocalMendersModel", "isRead", "(IIII)Z"⟩, 15) := ⟨⟨by decide +kernel, by decide +kernel⟩, List.mem_of_getElem? (i := 656) (by decide +kernel), List.mem_of_getElem? (i := 874) (by decide +kernel), List.mem_of_getElem? (i := 875) (by decide +kernel)⟩
theorem lw_p88 : lw_okq (⟨"LocalMendersModel", "nodeOf", "(II)I"⟩, 15) := ⟨⟨by decide +kernel, by decide +kernel⟩, List.mem_of_getElem? (i := 656) (by decide +kernel), List.mem_of_getElem? (i := 878) (by decide +kernel), List.mem_of_getElem? (i := 879) (by decide +kernel)⟩
theorem lw_p89 : lw_okq (⟨"LocalMendersModel", "leaveQueue", "(II)V"⟩, 15) := ⟨⟨by decide +kernel, by decide +kernel⟩, List.mem_of_getElem? (i := 656) (by decide +kernel), List.mem_of_getElem? (i := 882) (by decide +kernel), List.mem_of_getElem? (i := 883) (by decide +kernel)⟩
theorem lw_p90 : lw_okq (⟨"LocalMendersModel", "mendAll", "(I)I"⟩, 15) := ⟨⟨by decide +kernel, by decide +kernel⟩, List.mem_of_getElem? (i := 656) (by decide +kernel), List.mem_of_getElem? (i := 890) (by decide +kernel), List.mem_of_getElem? (i := 891) (by decide +kernel)⟩
theorem lw_p91 : lw_okq (⟨"LocalMendersModel", "takeBack", "()V"⟩, 15) := ⟨⟨by decide +kernel, by decide +kernel⟩, List.mem_of_getElem? (i := 656) (by decide +kernel), List.mem_of_getElem? (i := 894) (by decide +kernel), List.mem_of_getElem? (i := 895) (by decide +kernel)⟩
theorem lw_p92 : lw_okq (⟨"LocalMendersModel", "findCulprit", "(I)I"⟩, 15) := ⟨⟨by decide +kernel, by decide +kernel⟩, List.mem_of_getElem? (i := 656) (by decide +kernel), List.mem_of_getElem? (i := 906) (by decide +kernel), List.mem_of_getElem? (i := 907) (by decide +kernel)⟩
theorem lw_p93 : lw_okq (⟨"LocalMendersModel", "failingChecks", "(I)I"⟩, 15) := ⟨⟨by decide +kernel, by decide +kernel⟩, List.mem_of_getElem? (i := 656) (by decide +kernel), List.mem_of_getElem? (i := 910) (by decide +kernel), List.mem_of_getElem? (i := 911) (by decide +kernel)⟩
theorem lw_p94 : lw_okq (⟨"LocalMendersModel", "findFault", "()I"⟩, 15) := ⟨⟨by decide +kernel, by decide +kernel⟩, List.mem_of_getElem? (i := 656) (by decide +kernel), List.mem_of_getElem? (i := 926) (by decide +kernel), List.mem_of_getElem? (i := 927) (by decide +kernel)⟩
theorem lw_p95 : lw_okq (⟨"LocalMendersModel", "readsOrder", "()Z"⟩, 15) := ⟨⟨by decide +kernel, by decide +kernel⟩, List.mem_of_getElem? (i := 656) (by decide +kernel), List.mem_of_getElem? (i := 930) (by decide +kernel), List.mem_of_getElem? (i := 931) (by decide +kernel)⟩
def lw_privs_6 : List (MethodName × Nat) := [(⟨"LocalMendersModel", "globalPart", "(III)I"⟩, 15), (⟨"LocalMendersModel", "canHold", "(II)Z"⟩, 15), (⟨"LocalMendersModel", "localSum", "(II)I"⟩, 15), (⟨"LocalMendersModel", "sumThere", "(III)I"⟩, 15), (⟨"LocalMendersModel", "factorOf", "(III)I"⟩, 15), (⟨"LocalMendersModel", "mendedValue", "(III)I"⟩, 15), (⟨"LocalMendersModel", "weighed", "(IZ)I"⟩, 15), (⟨"LocalMendersModel", "isRead", "(IIII)Z"⟩, 15), (⟨"LocalMendersModel", "nodeOf", "(II)I"⟩, 15), (⟨"LocalMendersModel", "leaveQueue", "(II)V"⟩, 15), (⟨"LocalMendersModel", "mendAll", "(I)I"⟩, 15), (⟨"LocalMendersModel", "takeBack", "()V"⟩, 15), (⟨"LocalMendersModel", "findCulprit", "(I)I"⟩, 15), (⟨"LocalMendersModel", "failingChecks", "(I)I"⟩, 15), (⟨"LocalMendersModel", "findFault", "()I"⟩, 15), (⟨"LocalMendersModel", "readsOrder", "()Z"⟩, 15)]
theorem lw_r6 : ∀ q ∈ lw_privs_6, lw_okq q := List.forall_mem_cons.mpr ⟨lw_p80, List.forall_mem_cons.mpr ⟨lw_p81, List.forall_mem_cons.mpr ⟨lw_p82, List.forall_mem_cons.mpr ⟨lw_p83, List.forall_mem_cons.mpr ⟨lw_p84, List.forall_mem_cons.mpr ⟨lw_p85, List.forall_mem_cons.mpr ⟨lw_p86, List.forall_mem_cons.mpr ⟨lw_p87, List.forall_mem_cons.mpr ⟨lw_p88, List.forall_mem_cons.mpr ⟨lw_p89, List.forall_mem_cons.mpr ⟨lw_p90, List.forall_mem_cons.mpr ⟨lw_p91, List.forall_mem_cons.mpr ⟨lw_p92, List.forall_mem_cons.mpr ⟨lw_p93, List.forall_mem_cons.mpr ⟨lw_p94, List.forall_mem_cons.mpr ⟨lw_p95, fun _ h => absurd h List.not_mem_nil⟩⟩⟩⟩⟩⟩⟩⟩⟩⟩⟩⟩⟩⟩⟩⟩
theorem lw_p96 : lw_okq (⟨"LocalMendersModel", "next", "()I"⟩, 15) := ⟨⟨by decide +kernel, by decide +kernel⟩, List.mem_of_getElem? (i := 656) (by decide +kernel), List.mem_of_getElem? (i := 934) (by decide +kernel), List.mem_of_getElem? (i := 935) (by decide +kernel)⟩
theorem lw_p97 : lw_okq (⟨"LocalMendersModel", "readsRest", "(I)Z"⟩, 15) := ⟨⟨by decide +kernel, by decide +kernel⟩, List.mem_of_getElem? (i := 656) (by decide +kernel), List.mem_of_getElem? (i := 938) (by decide +kernel), List.mem_of_getElem? (i := 939) (by decide +kernel)⟩
theorem lw_p98 : lw_okq (⟨"LocalMendersModel", "readsPlace", "()Z"⟩, 15) := ⟨⟨by decide +kernel, by decide +kernel⟩, List.mem_of_getElem? (i := 656) (by decide +kernel), List.mem_of_getElem? (i := 942) (by decide +kernel), List.mem_of_getElem? (i := 943) (by decide +kernel)⟩
theorem lw_p99 : lw_okq (⟨"LocalMendersModel", "readsDigit", "(I)Z"⟩, 15) := ⟨⟨by decide +kernel, by decide +kernel⟩, List.mem_of_getElem? (i := 656) (by decide +kernel), List.mem_of_getElem? (i := 946) (by decide +kernel), List.mem_of_getElem? (i := 947) (by decide +kernel)⟩
theorem lw_p100 : lw_okq (⟨"LocalMendersModel", "takes", "(I)Z"⟩, 15) := ⟨⟨by decide +kernel, by decide +kernel⟩, List.mem_of_getElem? (i := 656) (by decide +kernel), List.mem_of_getElem? (i := 950) (by decide +kernel), List.mem_of_getElem? (i := 951) (by decide +kernel)⟩
theorem lw_p101 : lw_okq (⟨"LocalMendersModel", "readsNumber", "(I)Z"⟩, 15) := ⟨⟨by decide +kernel, by decide +kernel⟩, List.mem_of_getElem? (i := 656) (by decide +kernel), List.mem_of_getElem? (i := 954) (by decide +kernel), List.mem_of_getElem? (i := 955) (by decide +kernel)⟩
theorem lw_p102 : lw_okq (⟨"LocalMendersModel", "carryOut", "(I)I"⟩, 15) := ⟨⟨by decide +kernel, by decide +kernel⟩, List.mem_of_getElem? (i := 656) (by decide +kernel), List.mem_of_getElem? (i := 958) (by decide +kernel), List.mem_of_getElem? (i := 959) (by decide +kernel)⟩
theorem lw_p103 : lw_okq (⟨"LocalMendersModel", "readMany", "(III)I"⟩, 15) := ⟨⟨by decide +kernel, by decide +kernel⟩, List.mem_of_getElem? (i := 656) (by decide +kernel), List.mem_of_getElem? (i := 999) (by decide +kernel), List.mem_of_getElem? (i := 1000) (by decide +kernel)⟩
theorem lw_p104 : lw_okq (⟨"LocalMendersModel", "isSurvived", "(I)Z"⟩, 15) := ⟨⟨by decide +kernel, by decide +kernel⟩, List.mem_of_getElem? (i := 656) (by decide +kernel), List.mem_of_getElem? (i := 1015) (by decide +kernel), List.mem_of_getElem? (i := 1016) (by decide +kernel)⟩
theorem lw_p105 : lw_okq (⟨"LocalMendersModel", "leastNodes", "(I)I"⟩, 15) := ⟨⟨by decide +kernel, by decide +kernel⟩, List.mem_of_getElem? (i := 656) (by decide +kernel), List.mem_of_getElem? (i := 1030) (by decide +kernel), List.mem_of_getElem? (i := 1031) (by decide +kernel)⟩
theorem lw_p106 : lw_okq (⟨"LocalMendersModel", "nodesOf", "(II)I"⟩, 15) := ⟨⟨by decide +kernel, by decide +kernel⟩, List.mem_of_getElem? (i := 656) (by decide +kernel), List.mem_of_getElem? (i := 1034) (by decide +kernel), List.mem_of_getElem? (i := 1035) (by decide +kernel)⟩
def lw_privs_7 : List (MethodName × Nat) := [(⟨"LocalMendersModel", "next", "()I"⟩, 15), (⟨"LocalMendersModel", "readsRest", "(I)Z"⟩, 15), (⟨"LocalMendersModel", "readsPlace", "()Z"⟩, 15), (⟨"LocalMendersModel", "readsDigit", "(I)Z"⟩, 15), (⟨"LocalMendersModel", "takes", "(I)Z"⟩, 15), (⟨"LocalMendersModel", "readsNumber", "(I)Z"⟩, 15), (⟨"LocalMendersModel", "carryOut", "(I)I"⟩, 15), (⟨"LocalMendersModel", "readMany", "(III)I"⟩, 15), (⟨"LocalMendersModel", "isSurvived", "(I)Z"⟩, 15), (⟨"LocalMendersModel", "leastNodes", "(I)I"⟩, 15), (⟨"LocalMendersModel", "nodesOf", "(II)I"⟩, 15)]
theorem lw_r7 : ∀ q ∈ lw_privs_7, lw_okq q := List.forall_mem_cons.mpr ⟨lw_p96, List.forall_mem_cons.mpr ⟨lw_p97, List.forall_mem_cons.mpr ⟨lw_p98, List.forall_mem_cons.mpr ⟨lw_p99, List.forall_mem_cons.mpr ⟨lw_p100, List.forall_mem_cons.mpr ⟨lw_p101, List.forall_mem_cons.mpr ⟨lw_p102, List.forall_mem_cons.mpr ⟨lw_p103, List.forall_mem_cons.mpr ⟨lw_p104, List.forall_mem_cons.mpr ⟨lw_p105, List.forall_mem_cons.mpr ⟨lw_p106, fun _ h => absurd h List.not_mem_nil⟩⟩⟩⟩⟩⟩⟩⟩⟩⟩⟩
def lw_privs : List (MethodName × Nat) := lw_privs_1 ++ (lw_privs_2 ++ (lw_privs_3 ++ (lw_privs_4 ++ (lw_privs_5 ++ (lw_privs_6 ++ (lw_privs_7))))))
def lw_tbl : List Cond := k2_sels lw_privs ++ tables_1
theorem lw_privs_ok : ∀ q ∈ lw_privs, lw_okq q := by
  show ∀ q ∈ lw_privs_1 ++ (lw_privs_2 ++ (lw_privs_3 ++ (lw_privs_4 ++ (lw_privs_5 ++ (lw_privs_6 ++ (lw_privs_7)))))), lw_okq q
  exact List.forall_mem_append.mpr ⟨lw_r1, List.forall_mem_append.mpr ⟨lw_r2, List.forall_mem_append.mpr ⟨lw_r3, List.forall_mem_append.mpr ⟨lw_r4, List.forall_mem_append.mpr ⟨lw_r5, List.forall_mem_append.mpr ⟨lw_r6, lw_r7⟩⟩⟩⟩⟩⟩
-- ===== end of PART A; then your names; then what follows =====
def RX0 : String := "LocalMenders$Basis"
def TX0 : u_T := fun k => match k with
  | 0 => ("LocalMenders$Basis", "columns", "[I", true)
  | 1 => ("LocalMenders$Basis", "leads", "[I", true)
  | _ => ("LocalMenders$Basis", "rank", "I", false)
def tyX0 : Nat → FieldType := fun k => match k with
  | 0 => .array .int
  | 1 => .array .int
  | _ => .int
abbrev wsX00 : List Cond := u_ws RX0 TX0 3
theorem nmX0 : ∀ a, a < 3 → ∀ b, b < 3 → a ≠ b → (TX0 a).2.1 ≠ (TX0 b).2.1 := by decide +kernel
theorem tyX0_ok : ∀ k, k < 3 → parseFieldDescriptor (TX0 k).2.2.1 = some (tyX0 k) := by decide +kernel
abbrev cX0_init : ByteArray := prog_2_method_1_code
def yX0_init : MethodName := ⟨RX0, "<init>", "()V"⟩
abbrev cX0_span : ByteArray := prog_2_method_2_code
def yX0_span : MethodName := ⟨RX0, "span", "(LLocalMenders$State;I)V"⟩
abbrev cX0_restOf : ByteArray := prog_2_method_3_code
def yX0_restOf : MethodName := ⟨RX0, "restOf", "(I)I"⟩
def RX1 : String := "LocalMenders$Orders"
def TX1 : u_T := fun k => match k with
  | 0 => ("LocalMenders$Orders", "signs", "[C", true)
  | 1 => ("LocalMenders$Orders", "length", "I", false)
  | 2 => ("LocalMenders$Orders", "place", "I", false)
  | 3 => ("LocalMenders$Orders", "count", "I", false)
  | 4 => ("LocalMenders$Orders", "kind", "I", false)
  | 5 => ("LocalMenders$Orders", "stripe", "I", false)
  | 6 => ("LocalMenders$Orders", "cell", "I", false)
  | 7 => ("LocalMenders$Orders", "node", "I", false)
  | _ => ("LocalMenders$Orders", "value", "I", false)
def tyX1 : Nat → FieldType := fun k => match k with
  | 0 => .array .char
  | 1 => .int
  | 2 => .int
  | 3 => .int
  | 4 => .int
  | 5 => .int
  | 6 => .int
  | 7 => .int
  | _ => .int
abbrev wsX10 : List Cond := u_ws RX1 TX1 9
theorem nmX1 : ∀ a, a < 9 → ∀ b, b < 9 → a ≠ b → (TX1 a).2.1 ≠ (TX1 b).2.1 := by decide +kernel
theorem tyX1_ok : ∀ k, k < 9 → parseFieldDescriptor (TX1 k).2.2.1 = some (tyX1 k) := by decide +kernel
abbrev cX1_init : ByteArray := prog_3_method_1_code
def yX1_init : MethodName := ⟨RX1, "<init>", "()V"⟩
abbrev cX1_append : ByteArray := prog_3_method_2_code
def yX1_append : MethodName := ⟨RX1, "append", "(C)I"⟩
abbrev cX1_goToStart : ByteArray := prog_3_method_3_code
def yX1_goToStart : MethodName := ⟨RX1, "goToStart", "()V"⟩
abbrev cX1_findFault : ByteArray := prog_3_method_4_code
def yX1_findFault : MethodName := ⟨RX1, "findFault", "()I"⟩
abbrev cX1_readOrder : ByteArray := prog_3_method_5_code
def yX1_readOrder : MethodName := ⟨RX1, "readOrder", "()Z"⟩
abbrev cX1_readNumber : ByteArray := prog_3_method_6_code
def yX1_readNumber : MethodName := ⟨RX1, "readNumber", "()I"⟩
abbrev cX1_readDigit : ByteArray := prog_3_method_7_code
def yX1_readDigit : MethodName := ⟨RX1, "readDigit", "()I"⟩
abbrev cX1_pass : ByteArray := prog_3_method_8_code
def yX1_pass : MethodName := ⟨RX1, "pass", "(C)Z"⟩
abbrev cX1_sign : ByteArray := prog_3_method_9_code
def yX1_sign : MethodName := ⟨RX1, "sign", "()I"⟩
def RX2 : String := "LocalMenders$Plan"
def TX2 : u_T := fun k => match k with
  | 0 => ("LocalMenders$Plan", "basis", "LLocalMenders$Basis;", true)
  | 1 => ("LocalMenders$Plan", "sources", "I", false)
  | _ => ("LocalMenders$Plan", "outcome", "I", false)
def tyX2 : Nat → FieldType := fun k => match k with
  | 0 => .object "LocalMenders$Basis"
  | 1 => .int
  | _ => .int
abbrev wsX20 : List Cond := u_ws RX2 TX2 3
theorem nmX2 : ∀ a, a < 3 → ∀ b, b < 3 → a ≠ b → (TX2 a).2.1 ≠ (TX2 b).2.1 := by decide +kernel
theorem tyX2_ok : ∀ k, k < 3 → parseFieldDescriptor (TX2 k).2.2.1 = some (tyX2 k) := by decide +kernel
abbrev cX2_init : ByteArray := prog_4_method_1_code
def yX2_init : MethodName := ⟨RX2, "<init>", "()V"⟩
abbrev cX2_make : ByteArray := prog_4_method_2_code
def yX2_make : MethodName := ⟨RX2, "make", "(LLocalMenders$State;II)I"⟩
abbrev cX2_solve : ByteArray := prog_4_method_3_code
def yX2_solve : MethodName := ⟨RX2, "solve", "(II)I"⟩
abbrev cX2_canMendAll : ByteArray := prog_4_method_4_code
def yX2_canMendAll : MethodName := ⟨RX2, "canMendAll", "(LLocalMenders$State;I)Z"⟩
def RX3 : String := "LocalMenders$Search"
def TX3 : u_T := fun k => match k with
  | 0 => ("LocalMenders$Search", "rests", "[I", true)
  | 1 => ("LocalMenders$Search", "wanted", "I", false)
  | 2 => ("LocalMenders$Search", "found", "I", false)
  | _ => ("LocalMenders$Search", "leastNodes", "I", false)
def tyX3 : Nat → FieldType := fun k => match k with
  | 0 => .array .int
  | 1 => .int
  | 2 => .int
  | _ => .int
abbrev wsX30 : List Cond := u_ws RX3 TX3 4
theorem nmX3 : ∀ a, a < 4 → ∀ b, b < 4 → a ≠ b → (TX3 a).2.1 ≠ (TX3 b).2.1 := by decide +kernel
theorem tyX3_ok : ∀ k, k < 4 → parseFieldDescriptor (TX3 k).2.2.1 = some (tyX3 k) := by decide +kernel
abbrev cX3_init : ByteArray := prog_5_method_1_code
def yX3_init : MethodName := ⟨RX3, "<init>", "()V"⟩
abbrev cX3_run : ByteArray := prog_5_method_2_code
def yX3_run : MethodName := ⟨RX3, "run", "(LLocalMenders$State;I)V"⟩
abbrev cX3_choose : ByteArray := prog_5_method_3_code
def yX3_choose : MethodName := ⟨RX3, "choose", "(LLocalMenders$State;IIIZ)V"⟩
abbrev cX3_takeOut : ByteArray := prog_5_method_4_code
def yX3_takeOut : MethodName := ⟨RX3, "takeOut", "(IIII)V"⟩
abbrev cX3_note : ByteArray := prog_5_method_5_code
def yX3_note : MethodName := ⟨RX3, "note", "(LLocalMenders$State;I)V"⟩
def RX4 : String := "LocalMenders$State"
def TX4 : u_T := fun k => match k with
  | 0 => ("LocalMenders$State", "groups", "I", false)
  | 1 => ("LocalMenders$State", "size", "I", false)
  | 2 => ("LocalMenders$State", "stripes", "I", false)
  | 3 => ("LocalMenders$State", "shift", "I", false)
  | 4 => ("LocalMenders$State", "readsSoFar", "I", false)
  | 5 => ("LocalMenders$State", "mendsSoFar", "I", false)
  | 6 => ("LocalMenders$State", "localMendsSoFar", "I", false)
  | 7 => ("LocalMenders$State", "lossesSoFar", "I", false)
  | 8 => ("LocalMenders$State", "queueLength", "I", false)
  | 9 => ("LocalMenders$State", "queue", "[I", true)
  | 10 => ("LocalMenders$State", "values", "[I", true)
  | 11 => ("LocalMenders$State", "missing", "[I", true)
  | 12 => ("LocalMenders$State", "loads", "[I", true)
  | _ => ("LocalMenders$State", "columns", "[I", true)
def tyX4 : Nat → FieldType := fun k => match k with
  | 0 => .int
  | 1 => .int
  | 2 => .int
  | 3 => .int
  | 4 => .int
  | 5 => .int
  | 6 => .int
  | 7 => .int
  | 8 => .int
  | 9 => .array .int
  | 10 => .array .int
  | 11 => .array .int
  | 12 => .array .int
  | _ => .array .int
abbrev wsX40 : List Cond := u_ws RX4 TX4 14
theorem nmX4 : ∀ a, a < 14 → ∀ b, b < 14 → a ≠ b → (TX4 a).2.1 ≠ (TX4 b).2.1 := by decide +kernel
theorem tyX4_ok : ∀ k, k < 14 → parseFieldDescriptor (TX4 k).2.2.1 = some (tyX4 k) := by decide +kernel
abbrev cX4_init : ByteArray := prog_6_method_1_code
def yX4_init : MethodName := ⟨RX4, "<init>", "()V"⟩
abbrev cX4_copyFrom : ByteArray := prog_6_method_2_code
def yX4_copyFrom : MethodName := ⟨RX4, "copyFrom", "(LLocalMenders$State;)V"⟩
abbrev cX4_layOut : ByteArray := prog_6_method_3_code
def yX4_layOut : MethodName := ⟨RX4, "layOut", "(IIII)V"⟩
abbrev cX4_dataCount : ByteArray := prog_6_method_4_code
def yX4_dataCount : MethodName := ⟨RX4, "dataCount", "()I"⟩
abbrev cX4_cellCount : ByteArray := prog_6_method_5_code
def yX4_cellCount : MethodName := ⟨RX4, "cellCount", "()I"⟩
abbrev cX4_allCells : ByteArray := prog_6_method_6_code
def yX4_allCells : MethodName := ⟨RX4, "allCells", "()I"⟩
abbrev cX4_hasStripe : ByteArray := prog_6_method_7_code
def yX4_hasStripe : MethodName := ⟨RX4, "hasStripe", "(I)Z"⟩
abbrev cX4_hasCell : ByteArray := prog_6_method_8_code
def yX4_hasCell : MethodName := ⟨RX4, "hasCell", "(II)Z"⟩
abbrev cX4_hasNode : ByteArray := prog_6_method_9_code
def yX4_hasNode : MethodName := ⟨RX4, "hasNode", "(I)Z"⟩
abbrev cX4_nodeOf : ByteArray := prog_6_method_10_code
def yX4_nodeOf : MethodName := ⟨RX4, "nodeOf", "(II)I"⟩
abbrev cX4_cellOn : ByteArray := prog_6_method_11_code
def yX4_cellOn : MethodName := ⟨RX4, "cellOn", "(II)I"⟩
abbrev cX4_nodesOf : ByteArray := prog_6_method_12_code
def yX4_nodesOf : MethodName := ⟨RX4, "nodesOf", "(II)I"⟩
abbrev cX4_homeCheck : ByteArray := prog_6_method_13_code
def yX4_homeCheck : MethodName := ⟨RX4, "homeCheck", "(I)I"⟩
abbrev cX4_columnOf : ByteArray := prog_6_method_14_code
def yX4_columnOf : MethodName := ⟨RX4, "columnOf", "(I)I"⟩
abbrev cX4_partnersOf : ByteArray := prog_6_method_15_code
def yX4_partnersOf : MethodName := ⟨RX4, "partnersOf", "(I)I"⟩
abbrev cX4_valueOf : ByteArray := prog_6_method_16_code
def yX4_valueOf : MethodName := ⟨RX4, "valueOf", "(II)I"⟩
abbrev cX4_setValue : ByteArray := prog_6_method_17_code
def yX4_setValue : MethodName := ⟨RX4, "setValue", "(III)V"⟩
abbrev cX4_addToParities : ByteArray := prog_6_method_18_code
def yX4_addToParities : MethodName := ⟨RX4, "addToParities", "(II)V"⟩
abbrev cX4_missingIn : ByteArray := prog_6_method_19_code
def yX4_missingIn : MethodName := ⟨RX4, "missingIn", "(I)I"⟩
abbrev cX4_isMissing : ByteArray := prog_6_method_20_code
def yX4_isMissing : MethodName := ⟨RX4, "isMissing", "(II)Z"⟩
abbrev cX4_sumsOver : ByteArray := prog_6_method_21_code
def yX4_sumsOver : MethodName := ⟨RX4, "sumsOver", "(II)I"⟩
abbrev cX4_culpritIn : ByteArray := prog_6_method_22_code
def yX4_culpritIn : MethodName := ⟨RX4, "culpritIn", "(I)I"⟩
abbrev cX4_takeAway : ByteArray := prog_6_method_23_code
def yX4_takeAway : MethodName := ⟨RX4, "takeAway", "(II)V"⟩
abbrev cX4_bringBack : ByteArray := prog_6_method_24_code
def yX4_bringBack : MethodName := ⟨RX4, "bringBack", "(III)V"⟩
abbrev cX4_countReads : ByteArray := prog_6_method_25_code
def yX4_countReads : MethodName := ⟨RX4, "countReads", "(II)V"⟩
abbrev cX4_joinQueue : ByteArray := prog_6_method_26_code
def yX4_joinQueue : MethodName := ⟨RX4, "joinQueue", "(I)V"⟩
abbrev cX4_leaveQueue : ByteArray := prog_6_method_27_code
def yX4_leaveQueue : MethodName := ⟨RX4, "leaveQueue", "(I)V"⟩
def RX5 : String := "LocalMenders"
def TX5 : u_T := fun k => match k with
  | 0 => ("LocalMenders", "now", "LLocalMenders$State;", true)
  | 1 => ("LocalMenders", "before", "LLocalMenders$State;", true)
  | 2 => ("LocalMenders", "snapshot", "LLocalMenders$State;", true)
  | 3 => ("LocalMenders", "history", "[LLocalMenders$State;", true)
  | 4 => ("LocalMenders", "orders", "LLocalMenders$Orders;", true)
  | 5 => ("LocalMenders", "plan", "LLocalMenders$Plan;", true)
  | 6 => ("LocalMenders", "search", "LLocalMenders$Search;", true)
  | 7 => ("LocalMenders", "historyLength", "I", false)
  | _ => ("LocalMenders", "snapshotTaken", "Z", false)
def tyX5 : Nat → FieldType := fun k => match k with
  | 0 => .object "LocalMenders$State"
  | 1 => .object "LocalMenders$State"
  | 2 => .object "LocalMenders$State"
  | 3 => .array (.object "LocalMenders$State")
  | 4 => .object "LocalMenders$Orders"
  | 5 => .object "LocalMenders$Plan"
  | 6 => .object "LocalMenders$Search"
  | 7 => .int
  | _ => .boolean
abbrev wsX50 : List Cond := u_ws RX5 TX5 9
theorem nmX5 : ∀ a, a < 9 → ∀ b, b < 9 → a ≠ b → (TX5 a).2.1 ≠ (TX5 b).2.1 := by decide +kernel
theorem tyX5_ok : ∀ k, k < 9 → parseFieldDescriptor (TX5 k).2.2.1 = some (tyX5 k) := by decide +kernel
abbrev cX5_init : ByteArray := prog_1_method_1_code
def yX5_init : MethodName := ⟨RX5, "<init>", "()V"⟩
abbrev cX5_setLayout : ByteArray := prog_1_method_2_code
def yX5_setLayout : MethodName := ⟨RX5, "setLayout", "(IIII)I"⟩
abbrev cX5_write : ByteArray := prog_1_method_3_code
def yX5_write : MethodName := ⟨RX5, "write", "(III)I"⟩
abbrev cX5_alter : ByteArray := prog_1_method_4_code
def yX5_alter : MethodName := ⟨RX5, "alter", "(III)I"⟩
abbrev cX5_lose : ByteArray := prog_1_method_5_code
def yX5_lose : MethodName := ⟨RX5, "lose", "(II)I"⟩
abbrev cX5_loseNode : ByteArray := prog_1_method_6_code
def yX5_loseNode : MethodName := ⟨RX5, "loseNode", "(I)I"⟩
abbrev cX5_mend : ByteArray := prog_1_method_7_code
def yX5_mend : MethodName := ⟨RX5, "mend", "(II)I"⟩
abbrev cX5_mendNode : ByteArray := prog_1_method_8_code
def yX5_mendNode : MethodName := ⟨RX5, "mendNode", "(I)I"⟩
abbrev cX5_work : ByteArray := prog_1_method_9_code
def yX5_work : MethodName := ⟨RX5, "work", "(I)I"⟩
abbrev cX5_scrub : ByteArray := prog_1_method_10_code
def yX5_scrub : MethodName := ⟨RX5, "scrub", "()I"⟩
abbrev cX5_type : ByteArray := prog_1_method_11_code
def yX5_type : MethodName := ⟨RX5, "type", "(C)I"⟩
abbrev cX5_clearText : ByteArray := prog_1_method_12_code
def yX5_clearText : MethodName := ⟨RX5, "clearText", "()I"⟩
abbrev cX5_perform : ByteArray := prog_1_method_13_code
def yX5_perform : MethodName := ⟨RX5, "perform", "()I"⟩
abbrev cX5_undo : ByteArray := prog_1_method_14_code
def yX5_undo : MethodName := ⟨RX5, "undo", "()I"⟩
abbrev cX5_keep : ByteArray := prog_1_method_15_code
def yX5_keep : MethodName := ⟨RX5, "keep", "()I"⟩
abbrev cX5_restore : ByteArray := prog_1_method_16_code
def yX5_restore : MethodName := ⟨RX5, "restore", "()I"⟩
abbrev cX5_value : ByteArray := prog_1_method_17_code
def yX5_value : MethodName := ⟨RX5, "value", "(II)I"⟩
abbrev cX5_node : ByteArray := prog_1_method_18_code
def yX5_node : MethodName := ⟨RX5, "node", "(II)I"⟩
abbrev cX5_load : ByteArray := prog_1_method_19_code
def yX5_load : MethodName := ⟨RX5, "load", "(I)I"⟩
abbrev cX5_lost : ByteArray := prog_1_method_20_code
def yX5_lost : MethodName := ⟨RX5, "lost", "(I)I"⟩
abbrev cX5_waiting : ByteArray := prog_1_method_21_code
def yX5_waiting : MethodName := ⟨RX5, "waiting", "(I)I"⟩
abbrev cX5_failing : ByteArray := prog_1_method_22_code
def yX5_failing : MethodName := ⟨RX5, "failing", "(I)I"⟩
abbrev cX5_total : ByteArray := prog_1_method_23_code
def yX5_total : MethodName := ⟨RX5, "total", "(I)I"⟩
abbrev cX5_way : ByteArray := prog_1_method_24_code
def yX5_way : MethodName := ⟨RX5, "way", "(II)I"⟩
abbrev cX5_reads : ByteArray := prog_1_method_25_code
def yX5_reads : MethodName := ⟨RX5, "reads", "(II)I"⟩
abbrev cX5_mended : ByteArray := prog_1_method_26_code
def yX5_mended : MethodName := ⟨RX5, "mended", "(II)I"⟩
abbrev cX5_culprit : ByteArray := prog_1_method_27_code
def yX5_culprit : MethodName := ⟨RX5, "culprit", "(I)I"⟩
abbrev cX5_survives : ByteArray := prog_1_method_28_code
def yX5_survives : MethodName := ⟨RX5, "survives", "(I)I"⟩
abbrev cX5_fatalSets : ByteArray := prog_1_method_29_code
def yX5_fatalSets : MethodName := ⟨RX5, "fatalSets", "(I)I"⟩
abbrev cX5_fatalNodes : ByteArray := prog_1_method_30_code
def yX5_fatalNodes : MethodName := ⟨RX5, "fatalNodes", "()I"⟩
abbrev cX5_busiest : ByteArray := prog_1_method_31_code
def yX5_busiest : MethodName := ⟨RX5, "busiest", "()I"⟩
abbrev cX5_begin : ByteArray := prog_1_method_32_code
def yX5_begin : MethodName := ⟨RX5, "begin", "()V"⟩
abbrev cX5_finish : ByteArray := prog_1_method_33_code
def yX5_finish : MethodName := ⟨RX5, "finish", "(I)I"⟩
abbrev cX5_record : ByteArray := prog_1_method_34_code
def yX5_record : MethodName := ⟨RX5, "record", "()V"⟩
abbrev cX5_dropOldest : ByteArray := prog_1_method_35_code
def yX5_dropOldest : MethodName := ⟨RX5, "dropOldest", "()V"⟩
abbrev cX5_writeCell : ByteArray := prog_1_method_36_code
def yX5_writeCell : MethodName := ⟨RX5, "writeCell", "(III)I"⟩
abbrev cX5_alterCell : ByteArray := prog_1_method_37_code
def yX5_alterCell : MethodName := ⟨RX5, "alterCell", "(III)I"⟩
abbrev cX5_loseCell : ByteArray := prog_1_method_38_code
def yX5_loseCell : MethodName := ⟨RX5, "loseCell", "(II)I"⟩
abbrev cX5_loseCellsOn : ByteArray := prog_1_method_39_code
def yX5_loseCellsOn : MethodName := ⟨RX5, "loseCellsOn", "(I)I"⟩
abbrev cX5_mendCell : ByteArray := prog_1_method_40_code
def yX5_mendCell : MethodName := ⟨RX5, "mendCell", "(II)I"⟩
abbrev cX5_mendCellsOn : ByteArray := prog_1_method_41_code
def yX5_mendCellsOn : MethodName := ⟨RX5, "mendCellsOn", "(I)I"⟩
abbrev cX5_workOnQueue : ByteArray := prog_1_method_42_code
def yX5_workOnQueue : MethodName := ⟨RX5, "workOnQueue", "(I)I"⟩
abbrev cX5_scrubStripes : ByteArray := prog_1_method_43_code
def yX5_scrubStripes : MethodName := ⟨RX5, "scrubStripes", "()I"⟩
abbrev cX5_carryOut : ByteArray := prog_1_method_44_code
def yX5_carryOut : MethodName := ⟨RX5, "carryOut", "()I"⟩
abbrev cX5_isWithin : ByteArray := prog_1_method_45_code
def yX5_isWithin : MethodName := ⟨RX5, "isWithin", "(III)Z"⟩
abbrev cX5_at : ByteArray := prog_1_method_46_code
def yX5_at : MethodName := ⟨RX5, "at", "([II)I"⟩
abbrev cX5_put : ByteArray := prog_1_method_47_code
def yX5_put : MethodName := ⟨RX5, "put", "([III)V"⟩
abbrev cX5_copyRow : ByteArray := prog_1_method_48_code
def yX5_copyRow : MethodName := ⟨RX5, "copyRow", "([I[I)V"⟩
abbrev cX5_scaled : ByteArray := prog_1_method_49_code
def yX5_scaled : MethodName := ⟨RX5, "scaled", "(II)I"⟩
abbrev cX5_element : ByteArray := prog_1_method_50_code
def yX5_element : MethodName := ⟨RX5, "element", "(II)I"⟩
abbrev cX5_leadOf : ByteArray := prog_1_method_51_code
def yX5_leadOf : MethodName := ⟨RX5, "leadOf", "(I)I"⟩
abbrev cX5_unitOf : ByteArray := prog_1_method_52_code
def yX5_unitOf : MethodName := ⟨RX5, "unitOf", "(II)I"⟩
def RX6 : String := "LocalMendersModel"
def TX6 : u_T := fun k => match k with
  | 0 => ("LocalMendersModel", "state", "[I", true)
  | 1 => ("LocalMendersModel", "before", "[I", true)
  | 2 => ("LocalMendersModel", "history", "[I", true)
  | 3 => ("LocalMendersModel", "states", "I", false)
  | 4 => ("LocalMendersModel", "snapshot", "[I", true)
  | 5 => ("LocalMendersModel", "hasSnapshot", "Z", false)
  | 6 => ("LocalMendersModel", "text", "[I", true)
  | 7 => ("LocalMendersModel", "length", "I", false)
  | 8 => ("LocalMendersModel", "at", "I", false)
  | 9 => ("LocalMendersModel", "numbers", "[I", true)
  | 10 => ("LocalMendersModel", "products", "[I", true)
  | 11 => ("LocalMendersModel", "firstFactor", "[I", true)
  | 12 => ("LocalMendersModel", "secondFactor", "[I", true)
  | 13 => ("LocalMendersModel", "localFactor", "[I", true)
  | _ => ("LocalMendersModel", "goodValue", "I", false)
def tyX6 : Nat → FieldType := fun k => match k with
  | 0 => .array .int
  | 1 => .array .int
  | 2 => .array .int
  | 3 => .int
  | 4 => .array .int
  | 5 => .boolean
  | 6 => .array .int
  | 7 => .int
  | 8 => .int
  | 9 => .array .int
  | 10 => .array .int
  | 11 => .array .int
  | 12 => .array .int
  | 13 => .array .int
  | _ => .int
abbrev wsX60 : List Cond := u_ws RX6 TX6 15
theorem nmX6 : ∀ a, a < 15 → ∀ b, b < 15 → a ≠ b → (TX6 a).2.1 ≠ (TX6 b).2.1 := by decide +kernel
theorem tyX6_ok : ∀ k, k < 15 → parseFieldDescriptor (TX6 k).2.2.1 = some (tyX6 k) := by decide +kernel
abbrev cX6_init : ByteArray := prog_8_method_1_code
def yX6_init : MethodName := ⟨RX6, "<init>", "()V"⟩
abbrev cX6_within : ByteArray := prog_8_method_2_code
def yX6_within : MethodName := ⟨RX6, "within", "(III)Z"⟩
abbrev cX6_multiplied : ByteArray := prog_8_method_3_code
def yX6_multiplied : MethodName := ⟨RX6, "multiplied", "(II)I"⟩
abbrev cX6_product : ByteArray := prog_8_method_4_code
def yX6_product : MethodName := ⟨RX6, "product", "(II)I"⟩
abbrev cX6_dataCells : ByteArray := prog_8_method_5_code
def yX6_dataCells : MethodName := ⟨RX6, "dataCells", "()I"⟩
abbrev cX6_cells : ByteArray := prog_8_method_6_code
def yX6_cells : MethodName := ⟨RX6, "cells", "()I"⟩
abbrev cX6_isStripe : ByteArray := prog_8_method_7_code
def yX6_isStripe : MethodName := ⟨RX6, "isStripe", "(I)Z"⟩
abbrev cX6_isCell : ByteArray := prog_8_method_8_code
def yX6_isCell : MethodName := ⟨RX6, "isCell", "(II)Z"⟩
abbrev cX6_isNode : ByteArray := prog_8_method_9_code
def yX6_isNode : MethodName := ⟨RX6, "isNode", "(I)Z"⟩
abbrev cX6_groupOf : ByteArray := prog_8_method_10_code
def yX6_groupOf : MethodName := ⟨RX6, "groupOf", "(I)I"⟩
abbrev cX6_nodeOf : ByteArray := prog_8_method_11_code
def yX6_nodeOf : MethodName := ⟨RX6, "nodeOf", "(II)I"⟩
abbrev cX6_cellOn : ByteArray := prog_8_method_12_code
def yX6_cellOn : MethodName := ⟨RX6, "cellOn", "(II)I"⟩
abbrev cX6_cellValue : ByteArray := prog_8_method_13_code
def yX6_cellValue : MethodName := ⟨RX6, "cellValue", "(II)I"⟩
abbrev cX6_setValue : ByteArray := prog_8_method_14_code
def yX6_setValue : MethodName := ⟨RX6, "setValue", "(III)V"⟩
abbrev cX6_isLost : ByteArray := prog_8_method_15_code
def yX6_isLost : MethodName := ⟨RX6, "isLost", "(II)Z"⟩
abbrev cX6_lostCells : ByteArray := prog_8_method_16_code
def yX6_lostCells : MethodName := ⟨RX6, "lostCells", "(I)I"⟩
abbrev cX6_remember : ByteArray := prog_8_method_17_code
def yX6_remember : MethodName := ⟨RX6, "remember", "()V"⟩
abbrev cX6_takeBack : ByteArray := prog_8_method_18_code
def yX6_takeBack : MethodName := ⟨RX6, "takeBack", "()V"⟩
abbrev cX6_changed : ByteArray := prog_8_method_19_code
def yX6_changed : MethodName := ⟨RX6, "changed", "(I)I"⟩
abbrev cX6_undo : ByteArray := prog_8_method_20_code
def yX6_undo : MethodName := ⟨RX6, "undo", "()I"⟩
abbrev cX6_keep : ByteArray := prog_8_method_21_code
def yX6_keep : MethodName := ⟨RX6, "keep", "()I"⟩
abbrev cX6_restore : ByteArray := prog_8_method_22_code
def yX6_restore : MethodName := ⟨RX6, "restore", "()I"⟩
abbrev cX6_localSum : ByteArray := prog_8_method_23_code
def yX6_localSum : MethodName := ⟨RX6, "localSum", "(II)I"⟩
abbrev cX6_weighed : ByteArray := prog_8_method_24_code
def yX6_weighed : MethodName := ⟨RX6, "weighed", "(IZ)I"⟩
abbrev cX6_failingChecks : ByteArray := prog_8_method_25_code
def yX6_failingChecks : MethodName := ⟨RX6, "failingChecks", "(I)I"⟩
abbrev cX6_globalPart : ByteArray := prog_8_method_26_code
def yX6_globalPart : MethodName := ⟨RX6, "globalPart", "(III)I"⟩
abbrev cX6_isSum : ByteArray := prog_8_method_27_code
def yX6_isSum : MethodName := ⟨RX6, "isSum", "(IIII)Z"⟩
abbrev cX6_factorOf : ByteArray := prog_8_method_28_code
def yX6_factorOf : MethodName := ⟨RX6, "factorOf", "(III)I"⟩
abbrev cX6_sumThere : ByteArray := prog_8_method_29_code
def yX6_sumThere : MethodName := ⟨RX6, "sumThere", "(III)I"⟩
abbrev cX6_canHold : ByteArray := prog_8_method_30_code
def yX6_canHold : MethodName := ⟨RX6, "canHold", "(II)Z"⟩
abbrev cX6_tellingPair : ByteArray := prog_8_method_31_code
def yX6_tellingPair : MethodName := ⟨RX6, "tellingPair", "(II)I"⟩
abbrev cX6_groupCells : ByteArray := prog_8_method_32_code
def yX6_groupCells : MethodName := ⟨RX6, "groupCells", "(I)I"⟩
abbrev cX6_wayOf : ByteArray := prog_8_method_33_code
def yX6_wayOf : MethodName := ⟨RX6, "wayOf", "(II)I"⟩
abbrev cX6_wayNow : ByteArray := prog_8_method_34_code
def yX6_wayNow : MethodName := ⟨RX6, "wayNow", "(II)I"⟩
abbrev cX6_isRead : ByteArray := prog_8_method_35_code
def yX6_isRead : MethodName := ⟨RX6, "isRead", "(IIII)Z"⟩
abbrev cX6_readMany : ByteArray := prog_8_method_36_code
def yX6_readMany : MethodName := ⟨RX6, "readMany", "(III)I"⟩
abbrev cX6_mendedValue : ByteArray := prog_8_method_37_code
def yX6_mendedValue : MethodName := ⟨RX6, "mendedValue", "(III)I"⟩
abbrev cX6_leaveQueue : ByteArray := prog_8_method_38_code
def yX6_leaveQueue : MethodName := ⟨RX6, "leaveQueue", "(II)V"⟩
abbrev cX6_joinQueue : ByteArray := prog_8_method_39_code
def yX6_joinQueue : MethodName := ⟨RX6, "joinQueue", "(II)V"⟩
abbrev cX6_mendCell : ByteArray := prog_8_method_40_code
def yX6_mendCell : MethodName := ⟨RX6, "mendCell", "(II)I"⟩
abbrev cX6_mendAll : ByteArray := prog_8_method_41_code
def yX6_mendAll : MethodName := ⟨RX6, "mendAll", "(I)I"⟩
abbrev cX6_setLayout : ByteArray := prog_8_method_42_code
def yX6_setLayout : MethodName := ⟨RX6, "setLayout", "(IIII)I"⟩
abbrev cX6_writeCell : ByteArray := prog_8_method_43_code
def yX6_writeCell : MethodName := ⟨RX6, "writeCell", "(III)I"⟩
abbrev cX6_write : ByteArray := prog_8_method_44_code
def yX6_write : MethodName := ⟨RX6, "write", "(III)I"⟩
abbrev cX6_alter : ByteArray := prog_8_method_45_code
def yX6_alter : MethodName := ⟨RX6, "alter", "(III)I"⟩
abbrev cX6_loseCell : ByteArray := prog_8_method_46_code
def yX6_loseCell : MethodName := ⟨RX6, "loseCell", "(II)I"⟩
abbrev cX6_lose : ByteArray := prog_8_method_47_code
def yX6_lose : MethodName := ⟨RX6, "lose", "(II)I"⟩
abbrev cX6_loseAll : ByteArray := prog_8_method_48_code
def yX6_loseAll : MethodName := ⟨RX6, "loseAll", "(I)I"⟩
abbrev cX6_loseNode : ByteArray := prog_8_method_49_code
def yX6_loseNode : MethodName := ⟨RX6, "loseNode", "(I)I"⟩
abbrev cX6_mend : ByteArray := prog_8_method_50_code
def yX6_mend : MethodName := ⟨RX6, "mend", "(II)I"⟩
abbrev cX6_mendNode : ByteArray := prog_8_method_51_code
def yX6_mendNode : MethodName := ⟨RX6, "mendNode", "(I)I"⟩
abbrev cX6_work : ByteArray := prog_8_method_52_code
def yX6_work : MethodName := ⟨RX6, "work", "(I)I"⟩
abbrev cX6_findCulprit : ByteArray := prog_8_method_53_code
def yX6_findCulprit : MethodName := ⟨RX6, "findCulprit", "(I)I"⟩
abbrev cX6_scrub : ByteArray := prog_8_method_54_code
def yX6_scrub : MethodName := ⟨RX6, "scrub", "()I"⟩
abbrev cX6_type : ByteArray := prog_8_method_55_code
def yX6_type : MethodName := ⟨RX6, "type", "(C)I"⟩
abbrev cX6_clearText : ByteArray := prog_8_method_56_code
def yX6_clearText : MethodName := ⟨RX6, "clearText", "()I"⟩
abbrev cX6_next : ByteArray := prog_8_method_57_code
def yX6_next : MethodName := ⟨RX6, "next", "()I"⟩
abbrev cX6_takes : ByteArray := prog_8_method_58_code
def yX6_takes : MethodName := ⟨RX6, "takes", "(I)Z"⟩
abbrev cX6_readsDigit : ByteArray := prog_8_method_59_code
def yX6_readsDigit : MethodName := ⟨RX6, "readsDigit", "(I)Z"⟩
abbrev cX6_readsNumber : ByteArray := prog_8_method_60_code
def yX6_readsNumber : MethodName := ⟨RX6, "readsNumber", "(I)Z"⟩
abbrev cX6_readsPlace : ByteArray := prog_8_method_61_code
def yX6_readsPlace : MethodName := ⟨RX6, "readsPlace", "()Z"⟩
abbrev cX6_readsRest : ByteArray := prog_8_method_62_code
def yX6_readsRest : MethodName := ⟨RX6, "readsRest", "(I)Z"⟩
abbrev cX6_readsOrder : ByteArray := prog_8_method_63_code
def yX6_readsOrder : MethodName := ⟨RX6, "readsOrder", "()Z"⟩
abbrev cX6_findFault : ByteArray := prog_8_method_64_code
def yX6_findFault : MethodName := ⟨RX6, "findFault", "()I"⟩
abbrev cX6_carryOut : ByteArray := prog_8_method_65_code
def yX6_carryOut : MethodName := ⟨RX6, "carryOut", "(I)I"⟩
abbrev cX6_perform : ByteArray := prog_8_method_66_code
def yX6_perform : MethodName := ⟨RX6, "perform", "()I"⟩
abbrev cX6_value : ByteArray := prog_8_method_67_code
def yX6_value : MethodName := ⟨RX6, "value", "(II)I"⟩
abbrev cX6_node : ByteArray := prog_8_method_68_code
def yX6_node : MethodName := ⟨RX6, "node", "(II)I"⟩
abbrev cX6_load : ByteArray := prog_8_method_69_code
def yX6_load : MethodName := ⟨RX6, "load", "(I)I"⟩
abbrev cX6_lost : ByteArray := prog_8_method_70_code
def yX6_lost : MethodName := ⟨RX6, "lost", "(I)I"⟩
abbrev cX6_waiting : ByteArray := prog_8_method_71_code
def yX6_waiting : MethodName := ⟨RX6, "waiting", "(I)I"⟩
abbrev cX6_failing : ByteArray := prog_8_method_72_code
def yX6_failing : MethodName := ⟨RX6, "failing", "(I)I"⟩
abbrev cX6_total : ByteArray := prog_8_method_73_code
def yX6_total : MethodName := ⟨RX6, "total", "(I)I"⟩
abbrev cX6_way : ByteArray := prog_8_method_74_code
def yX6_way : MethodName := ⟨RX6, "way", "(II)I"⟩
abbrev cX6_reads : ByteArray := prog_8_method_75_code
def yX6_reads : MethodName := ⟨RX6, "reads", "(II)I"⟩
abbrev cX6_mended : ByteArray := prog_8_method_76_code
def yX6_mended : MethodName := ⟨RX6, "mended", "(II)I"⟩
abbrev cX6_culprit : ByteArray := prog_8_method_77_code
def yX6_culprit : MethodName := ⟨RX6, "culprit", "(I)I"⟩
abbrev cX6_isSurvived : ByteArray := prog_8_method_78_code
def yX6_isSurvived : MethodName := ⟨RX6, "isSurvived", "(I)Z"⟩
abbrev cX6_survives : ByteArray := prog_8_method_79_code
def yX6_survives : MethodName := ⟨RX6, "survives", "(I)I"⟩
abbrev cX6_nextSet : ByteArray := prog_8_method_80_code
def yX6_nextSet : MethodName := ⟨RX6, "nextSet", "(I)I"⟩
abbrev cX6_fatalSets : ByteArray := prog_8_method_81_code
def yX6_fatalSets : MethodName := ⟨RX6, "fatalSets", "(I)I"⟩
abbrev cX6_nodesOf : ByteArray := prog_8_method_82_code
def yX6_nodesOf : MethodName := ⟨RX6, "nodesOf", "(II)I"⟩
abbrev cX6_leastNodes : ByteArray := prog_8_method_83_code
def yX6_leastNodes : MethodName := ⟨RX6, "leastNodes", "(I)I"⟩
abbrev cX6_fatalNodes : ByteArray := prog_8_method_84_code
def yX6_fatalNodes : MethodName := ⟨RX6, "fatalNodes", "()I"⟩
abbrev cX6_busiest : ByteArray := prog_8_method_85_code
def yX6_busiest : MethodName := ⟨RX6, "busiest", "()I"⟩
def RJ6 : String := "java/lang/Integer"
def TJ6 : u_T := fun k => match k with
  | _ => ("", "", "", false)
def tyJ6 : Nat → FieldType := fun k => match k with
  | _ => .int
abbrev wsJ60 : List Cond := u_ws RJ6 TJ6 0
theorem nmJ6 : ∀ a, a < 0 → ∀ b, b < 0 → a ≠ b → (TJ6 a).2.1 ≠ (TJ6 b).2.1 := by decide +kernel
theorem tyJ6_ok : ∀ k, k < 0 → parseFieldDescriptor (TJ6 k).2.2.1 = some (tyJ6 k) := by decide +kernel
abbrev cJ6_bitCount_0f7a4 : ByteArray := prog_9_method_49_code
def yJ6_bitCount_0f7a4 : MethodName := ⟨RJ6, "bitCount", "(I)I"⟩
def RJ9 : String := "java/lang/Math"
def TJ9 : u_T := fun k => match k with
  | _ => ("", "", "", false)
def tyJ9 : Nat → FieldType := fun k => match k with
  | _ => .int
abbrev wsJ90 : List Cond := u_ws RJ9 TJ9 0
theorem nmJ9 : ∀ a, a < 0 → ∀ b, b < 0 → a ≠ b → (TJ9 a).2.1 ≠ (TJ9 b).2.1 := by decide +kernel
theorem tyJ9_ok : ∀ k, k < 0 → parseFieldDescriptor (TJ9 k).2.2.1 = some (tyJ9 k) := by decide +kernel
abbrev cJ9_floorMod_7cf53 : ByteArray := prog_10_method_50_code
def yJ9_floorMod_7cf53 : MethodName := ⟨RJ9, "floorMod", "(II)I"⟩
abbrev cJ9_max_7cf53 : ByteArray := prog_10_method_65_code
def yJ9_max_7cf53 : MethodName := ⟨RJ9, "max", "(II)I"⟩
abbrev cJ9_min_7cf53 : ByteArray := prog_10_method_69_code
def yJ9_min_7cf53 : MethodName := ⟨RJ9, "min", "(II)I"⟩
def RJ10 : String := "java/lang/System"
def TJ10 : u_T := fun k => match k with
  | _ => ("", "", "", false)
def tyJ10 : Nat → FieldType := fun k => match k with
  | _ => .int
abbrev wsJ100 : List Cond := u_ws RJ10 TJ10 0
theorem nmJ10 : ∀ a, a < 0 → ∀ b, b < 0 → a ≠ b → (TJ10 a).2.1 ≠ (TJ10 b).2.1 := by decide +kernel
theorem tyJ10_ok : ∀ k, k < 0 → parseFieldDescriptor (TJ10 k).2.2.1 = some (tyJ10 k) := by decide +kernel
def RJ7 : String := "java/util/Arrays"
def TJ7 : u_T := fun k => match k with
  | _ => ("", "", "", false)
def tyJ7 : Nat → FieldType := fun k => match k with
  | _ => .int
abbrev wsJ70 : List Cond := u_ws RJ7 TJ7 0
theorem nmJ7 : ∀ a, a < 0 → ∀ b, b < 0 → a ≠ b → (TJ7 a).2.1 ≠ (TJ7 b).2.1 := by decide +kernel
theorem tyJ7_ok : ∀ k, k < 0 → parseFieldDescriptor (TJ7 k).2.2.1 = some (tyJ7 k) := by decide +kernel
abbrev cJ7_fill_53178 : ByteArray := prog_12_method_103_code
def yJ7_fill_53178 : MethodName := ⟨RJ7, "fill", "([II)V"⟩
def RL : String := "LocalMendersLaw"
abbrev cL_law : ByteArray := code
def yL_law : MethodName := ⟨RL, "law", "([I)Z"⟩
abbrev vwCl : List vw_C := [(RX0, TX0, 3), (RX1, TX1, 9), (RX2, TX2, 3), (RX3, TX3, 4), (RX4, TX4, 14), (RX5, TX5, 9), (RX6, TX6, 15)]
end
section
/-! THE ABSTRACT HEAP: cell i of the list h lies at the address base + i; '.ref i' in h, in locals and on stacks means that cell. Three cells that were there before are named by BIGN, BIGN + 1, BIGN + 2 (POWERS, INVERSES, the script). -/
abbrev AEnv : Type := Nat × va_G × (Nat → ClassId) × (Nat → Nat) × (Nat × (Nat → Int32))
def EB (E : AEnv) : Nat := E.1
def ED (E : AEnv) : va_G := E.2.1
def ETc (E : AEnv) : Nat → ClassId := E.2.2.1
def ESp (E : AEnv) : Nat → Nat := E.2.2.2.1
def ESc (E : AEnv) : Nat × (Nat → Int32) := E.2.2.2.2
def BIGN : Nat := 1000000
def aR (E : AEnv) (k : Nat) : Nat := if k < BIGN then EB E + k else ESp E (k - BIGN)
def cV (E : AEnv) (v : Value) : Value := match v with
  | .ref k => .ref (aR E k)
  | w => w
def cAr (E : AEnv) (x : vp_A) : vp_A := match x with
  | (n, .inr (.inr (.inr (.inr f)))) => (n, .inr (.inr (.inr (.inr (fun j => (f j).map (aR E))))))
  | y => y
def cE (E : AEnv) (e : va_E) : va_E := match e with
  | .inl (t, x) => .inl (ETc E t, cAr E x)
  | .inr (ci, fs) => .inr (ci, fs.map (cV E))
def cW (E : AEnv) (h : List va_E) : va_W := h.mapIdx (fun i e => (EB E + i, cE E e))
def AA (E : AEnv) : Nat → Prop := fun q => EB E ≤ q
def tysE (E : AEnv) : List (ClassId × FieldType) := [(ETc E 0, .int), (ETc E 1, .char), (ETc E 2, .object RX4)]
def Inv (E : AEnv) (h : List va_E) (H : Heap) : Prop := h.length ≤ BIGN ∧ H.size = EB E + h.length ∧ va_P (ED E) vwCl (cW E h) H
def POWf : Nat → Int32 := fun j => ([1, 2, 4, 8, 3, 6, 12, 11, 5, 10, 7, 14, 15, 13, 9] : List Int32).getD j 0
def INVf : Nat → Int32 := fun j => ([0, 1, 9, 14, 13, 11, 7, 6, 15, 2, 12, 5, 10, 4, 3, 8] : List Int32).getD j 0
def isNestW (w : Cond) : Bool := match w with
  | .methodLinkNest _ _ _ _ => true
  | .fieldLinkNest _ _ _ _ _ _ => true
  | _ => false
/-- the nest words of the tables, and all other words that stay -/
def NW : List Cond := tables_1.filter isNestW
def BW : List Cond := lw_tbl.filter goodWord
def EnvOK (E : AEnv) (s : State) : Prop :=
  va_K (ED E) vwCl (tysE E) s ∧ (∀ w ∈ NW, va_Nw w s) ∧ va_AO RX4 s ∧ EB E ≤ s.heap.size ∧
  va_T .int (ESp E 0) 15 (fun j => .int (POWf j)) (AA E) s s.heap ∧ va_T .int (ESp E 1) 16 (fun j => .int (INVf j)) (AA E) s s.heap ∧
  va_T .int (ESp E 2) (ESc E).1 (fun j => .int ((ESc E).2 j)) (AA E) s s.heap ∧
  va_Z "LocalMenders" "POWERS" "[I" (.ref (ESp E 0)) (AA E) s s.heap ∧ va_Z "LocalMenders" "INVERSES" "[I" (.ref (ESp E 1)) (AA E) s s.heap
theorem cW_get {E : AEnv} {h : List va_E} {a : Nat} {e : va_E} (hg : h[a]? = some e) : (cW E h)[a]? = some (EB E + a, cE E e) := by
  unfold cW
  rw [List.getElem?_mapIdx, hg]
  rfl
theorem cW_inv {E : AEnv} {h : List va_E} {a : Nat} {q : Nat × va_E} (hg : (cW E h)[a]? = some q) : q.1 = EB E + a ∧ ∃ e, h[a]? = some e ∧ q.2 = cE E e := by
  unfold cW at hg
  rw [List.getElem?_mapIdx] at hg
  cases he : h[a]? with
  | none => rw [he] at hg; cases hg
  | some e =>
    rw [he] at hg
    cases hg
    exact ⟨rfl, e, rfl, rfl⟩
theorem cW_set {E : AEnv} {h : List va_E} {a : Nat} {e : va_E} : (cW E h).set a (EB E + a, cE E e) = cW E (h.set a e) := by
  apply List.ext_getElem?
  intro i
  unfold cW
  rw [List.getElem?_mapIdx, List.getElem?_set, List.getElem?_set, List.getElem?_mapIdx, List.length_mapIdx]
  by_cases hi : a = i
  · subst hi
    by_cases hl : a < h.length
    · simp [hl]
    · simp [hl]
  · simp [hi]
theorem cW_app {E : AEnv} {h : List va_E} {e : va_E} : cW E h ++ [(EB E + h.length, cE E e)] = cW E (h ++ [e]) := by
  unfold cW
  rw [List.mapIdx_append]
  simp
theorem cW_D {E : AEnv} {h : List va_E} : va_D (AA E) (cW E h) := by
  refine ⟨fun i j p q hi hj he => ?_, fun k q hk => ?_⟩
  · have h1 := (cW_inv hi).1
    have h2 := (cW_inv hj).1
    omega
  · have h1 := (cW_inv hk).1
    show EB E ≤ q.1
    omega
theorem aR_lo {E : AEnv} {h : List va_E} {H : Heap} (hI : Inv E h H) {a : Nat} {e : va_E} (hg : h[a]? = some e) : aR E a = EB E + a := by
  have h1 := (List.getElem?_eq_some_iff.mp hg).1
  have h2 := hI.1
  unfold aR
  rw [if_pos (by omega)]
theorem cV_int {E : AEnv} {x : Int32} : cV E (.int x) = .int x := rfl
theorem cV_ref {E : AEnv} {a : Nat} : cV E (.ref a) = .ref (aR E a) := rfl
theorem cV_cat {E : AEnv} (v : Value) : (cV E v).category = v.category := by cases v <;> rfl
theorem cV_sum {E : AEnv} (vs : List Value) : ((vs.map (cV E)).map fun v => v.category).sum = (vs.map fun v => v.category).sum := by
  induction vs with
  | nil => rfl
  | cons v vs ih => simp only [List.map_cons, List.sum_cons, ih, cV_cat]
theorem EnvOK.next {E : AEnv} {s U : State} {locs : List Loc} (h : EnvOK E s) (hW : s.WarmedH U.vm) (hS : va_S (AA E) s.heap U.heap locs) : EnvOK E U := by
  obtain ⟨h1, h2, h3, h4, h5, h6, h7, h8, h9⟩ := h
  have hq : ∀ a : Nat, a < s.heap.size → ¬ AA E a → U.heap[a]? = s.heap[a]? := hS.2.1
  refine ⟨h1.moved hW.alike, fun w hw => ?_, h3.moved hW.alike, Nat.le_trans h4 hS.1, (h5.moved hW.alike).kept hq, (h6.moved hW.alike).kept hq, (h7.moved hW.alike).kept hq, (h8.moved hW.alike).kept hq, (h9.moved hW.alike).kept hq⟩
  have hn : isNestW w = true := (List.mem_filter.mp hw).2
  have hz := h2 w hw
  cases w <;> first | exact hz.warmM hW | exact hz.warmF hW | (simp [isNestW] at hn)
theorem EnvOK.calling {E : AEnv} {U : State} {g : JFrame} {mk : MethodId} {a : Array Value} (h : EnvOK E U) : EnvOK E (U.calling g mk a) := by
  obtain ⟨h1, h2, h3, h4, h5, h6, h7, h8, h9⟩ := h
  have hA : U.vm.Alike (U.calling g mk a).vm := Vm.Alike.refl U.vm
  refine ⟨h1.moved hA, fun w hw => ?_, h3.moved hA, h4, h5.moved hA, h6.moved hA, h7.moved hA, h8.moved hA, h9.moved hA⟩
  have hn : isNestW w = true := (List.mem_filter.mp hw).2
  have hz := h2 w hw
  cases w <;> first | exact va_Nw.same rfl (rfl : U.vm = (U.calling g mk a).vm) hz | (simp [isNestW] at hn)
/-! THE INSTRUCTIONS OF A METHOD, AND ITS CONTRACT -/
abbrev MI : Type := MethodName × ByteArray × Nat × Option FieldType
def wsM (Y : MI) : List Cond := Cond.code Y.1 Y.2.1 Y.2.2.1 Y.2.2.2 :: BW
def rmM (d k n : Nat) : Room := { frames := d, cells := k, slots := n, locals := 60 * d + 20 }
def QR (E : AEnv) (r : Option Value) (h' : List va_E) : Array Value → State → Outcome → State → Prop := fun _ st o t => o = .returned (r.map (cV E)) ∧ Inv E h' t.heap ∧ va_F (AA E) st t
/-- method Y, at depth d, called with args in the heap h, answers r and leaves the heap h'; it makes at most k cells of n slots -/
def Calls (E : AEnv) (Y : MI) (d k n : Nat) (args : List Value) (h : List va_E) (r : Option Value) (h' : List va_E) : Prop :=
  ∀ l : Launch, Met l Y.1 (wsM Y) (rmM d k n) (va_Pc (args.map (cV E)) (fun U => Inv E h U.heap ∧ EnvOK E U)) (QR E r h') k n (AA E)
def Ctx (E : AEnv) (Y : MI) (d : Nat) (p : Program) (R : Room) (s : State) (m : MethodId) (args : Array Value) (meth : Method) (c : Code) : Prop :=
  p.tables.exec = Jvm.exec ∧ c.code = Y.2.1 ∧ c.maxLocals = Y.2.2.1 ∧ s.vm.findClass Y.1.cls = some m.cls ∧ (∀ w ∈ BW, w.before args s = true) ∧ EnvOK E s ∧ d ≤ R.frames ∧ 60 * d + 20 ≤ R.locals ∧ meth.name = Y.1.name
def LV (E : AEnv) (nL : Nat) (ls : List (Option Value)) (lsA : Array Slot) : Prop := lsA.size = nL ∧ lv_wf lsA ∧ ls.length ≤ nL ∧ ∀ (i : Nat) (v : Value), ls[i]? = some (some v) → lsA[i]? = some (.val (cV E v)) ∧ v.category = 1
def RetH (E : AEnv) (Y : MI) (p : Program) (l : Launch) (e : Env) (R : Room) (s : State) (m : MethodId) (args : Array Value) (below : List Frame) (meth : Method) (c : Code) (Q : State → Prop) (r : Option Value) (h' : List va_E) : Prop :=
  ∀ (H : Heap) (locs : List Loc) (cells slots : Nat) (lsA : Array Slot) (pc : Nat), Inv E h' H → va_S (AA E) s.heap H locs → cells ≤ R.cells → slots ≤ R.slots → decode Y.2.1 pc = .ok (if r.isSome then .ireturn else .return_, 1) →
    W p l e R s m args below meth c H locs cells slots Q (F0 m pc lsA (r.toList.map (cV E)))
/-- in method Y, at pc, with the locals ls, the stack st, the heap h: it comes to its end with the answer r and the heap h' -/
def Go (E : AEnv) (Y : MI) (d k n pc : Nat) (ls : List (Option Value)) (st : List Value) (h : List va_E) (r : Option Value) (h' : List va_E) : Prop :=
  ∀ (p : Program) (l : Launch) (e : Env) (R : Room) (s : State) (m : MethodId) (args : Array Value) (below : List Frame) (meth : Method) (c : Code) (Q : State → Prop),
    Ctx E Y d p R s m args meth c → RetH E Y p l e R s m args below meth c Q r h' →
    ∀ (H : Heap) (locs : List Loc) (cells slots : Nat) (lsA : Array Slot), Inv E h H → va_S (AA E) s.heap H locs → cells + k ≤ R.cells → slots + n ≤ R.slots → LV E Y.2.2.1 ls lsA →
    W p l e R s m args below meth c H locs cells slots Q (F0 m pc lsA (st.map (cV E)))
def ilen (i : Instr) : Nat := match i with
  | .bipush _ => 2 | .sipush _ => 3 | .ldc _ => 2 | .ldc_w _ => 3 | .iload _ => 2 | .aload _ => 2 | .istore _ => 2 | .astore _ => 2 | .iinc _ _ => 3
  | .newarray _ => 2 | .anewarray _ => 3 | .new _ => 3 | .getfield _ => 3 | .putfield _ => 3 | .getstatic _ => 3 | .invokevirtual _ => 3 | .invokestatic _ => 3 | .invokespecial _ => 3
  | .goto _ => 3 | .if_icmp _ _ => 3 | .ifCond _ _ => 3 | .ifnull _ => 3 | .ifnonnull _ => 3 | .tableswitch _ _ _ _ => 0 | .lookupswitch _ _ => 0
  | _ => 1
def Dc (Y : MI) (pc : Nat) (i : Instr) (pc' : Nat) : Prop := decode Y.2.1 pc = .ok (i, pc' - pc) ∧ (ilen i = 0 ∨ pc' = pc + ilen i)
theorem Dc.is {Y : MI} {pc pc' n : Nat} {i : Instr} (h : Dc Y pc i pc') (hn : ilen i = n + 1) : pc' = pc + (n + 1) ∧ decode Y.2.1 pc = .ok (i, n + 1) := by
  obtain ⟨h1, h2⟩ := h
  have h3 : pc' = pc + (n + 1) := by rcases h2 with h2 | h2 <;> omega
  refine ⟨h3, ?_⟩
  rw [h1, h3, Nat.add_sub_cancel_left]
def DAll (Y : MI) (L : List (Nat × Instr × Nat)) : Prop := ∀ q ∈ L, Dc Y q.1 q.2.1 q.2.2
def dchk (Y : MI) (L : List (Nat × Instr × Nat)) : Bool := L.all fun q => decide (decode Y.2.1 q.1 = .ok (q.2.1, q.2.2 - q.1)) && (ilen q.2.1 == 0 || q.2.2 == q.1 + ilen q.2.1)
theorem DAll.of {Y : MI} {L : List (Nat × Instr × Nat)} (h : dchk Y L = true) : DAll Y L := by
  intro q hq
  have h1 := List.all_eq_true.mp h q hq
  simp only [Bool.and_eq_true, Bool.or_eq_true, beq_iff_eq, decide_eq_true_eq] at h1
  exact ⟨h1.1, h1.2⟩
theorem DAll.at {Y : MI} {L : List (Nat × Instr × Nat)} (h : DAll Y L) (i : Nat) {pc pc' : Nat} {ins : Instr} (e : L[i]? = some (pc, ins, pc')) : Dc Y pc ins pc' := h (pc, ins, pc') (List.mem_of_getElem? e)
/-! words of the tables by their places -/
theorem BW_mem {w : Cond} (h : w ∈ lw_tbl) (hg : goodWord w = true) : w ∈ BW := List.mem_filter.mpr ⟨h, hg⟩
theorem BW_good : ∀ w ∈ BW, goodWord w = true := fun _ h => (List.mem_filter.mp h).2
theorem goodIn_BW {Y : MI} (hc : Cond.code Y.1 Y.2.1 Y.2.2.1 Y.2.2.2 ∈ BW) : GoodIn BW (wsM Y) := by
  intro w hw
  rcases List.mem_cons.mp hw with rfl | hw
  · exact ⟨hc, good_of_word (BW_good _ hc)⟩
  · exact ⟨hw, good_of_word (BW_good _ hw)⟩
theorem FB_ok {E : AEnv} {args : List Value} {h : List va_E} : FrameBlind (va_Pc (args.map (cV E)) (fun U => Inv E h U.heap ∧ EnvOK E U)) := by
  intro a U g mk hq
  obtain ⟨h1, h2, h3⟩ := hq
  exact ⟨h1, h2, h3.calling⟩
end
section
/-! THE RULES OF Go: an instruction each. A rule takes the instruction (Dc), what it needs, and the goal behind it. -/
section GR
variable {E : AEnv} {Y : MI} {d k n pc pc' : Nat} {ls : List (Option Value)} {st : List Value} {h h' : List va_E} {r : Option Value}
theorem go_iconst {i : Int} {v : Int32} (hd : Dc Y pc (.iconst i) pc') (hv : Int32.ofInt i = v) (K : Go E Y d k n pc' ls (.int v :: st) h r h') : Go E Y d k n pc ls st h r h' := by
  intro p l e R s m args below meth c Q C ret H locs cells slots lsA hI hS hc hs hL
  obtain ⟨rfl, dd⟩ := hd.is (n := 0) rfl
  exact lv_iconst C.1 C.2.1 dd hv (K p l e R s m args below meth c Q C ret H locs cells slots lsA hI hS hc hs hL)
theorem go_bipush {i : Int} {v : Int32} (hd : Dc Y pc (.bipush i) pc') (hv : (Int8.ofInt i).toInt32 = v) (K : Go E Y d k n pc' ls (.int v :: st) h r h') : Go E Y d k n pc ls st h r h' := by
  intro p l e R s m args below meth c Q C ret H locs cells slots lsA hI hS hc hs hL
  obtain ⟨rfl, dd⟩ := hd.is (n := 1) rfl
  exact lv_bipush C.1 C.2.1 dd hv (K p l e R s m args below meth c Q C ret H locs cells slots lsA hI hS hc hs hL)
theorem go_sipush {i : Int} {v : Int32} (hd : Dc Y pc (.sipush i) pc') (hv : (Int16.ofInt i).toInt32 = v) (K : Go E Y d k n pc' ls (.int v :: st) h r h') : Go E Y d k n pc ls st h r h' := by
  intro p l e R s m args below meth c Q C ret H locs cells slots lsA hI hS hc hs hL
  obtain ⟨rfl, dd⟩ := hd.is (n := 2) rfl
  exact lv_sipush C.1 C.2.1 dd hv (K p l e R s m args below meth c Q C ret H locs cells slots lsA hI hS hc hs hL)
theorem go_ldc {i : Nat} {v : Int32} (hd : Dc Y pc (.ldc i) pc') (hv : Jvm.Cond.constant Y.1.cls i v ∈ BW) (K : Go E Y d k n pc' ls (.int v :: st) h r h') : Go E Y d k n pc ls st h r h' := by
  intro p l e R s m args below meth c Q C ret H locs cells slots lsA hI hS hc hs hL
  obtain ⟨rfl, dd⟩ := hd.is (n := 1) rfl
  exact lv_ldc C.1 C.2.1 C.2.2.2.1 (C.2.2.2.2.1 _ hv) dd (K p l e R s m args below meth c Q C ret H locs cells slots lsA hI hS hc hs hL)
theorem go_ldcw {i : Nat} {v : Int32} (hd : Dc Y pc (.ldc_w i) pc') (hv : Jvm.Cond.constant Y.1.cls i v ∈ BW) (K : Go E Y d k n pc' ls (.int v :: st) h r h') : Go E Y d k n pc ls st h r h' := by
  intro p l e R s m args below meth c Q C ret H locs cells slots lsA hI hS hc hs hL
  obtain ⟨rfl, dd⟩ := hd.is (n := 2) rfl
  exact lv_ldcw C.1 C.2.1 C.2.2.2.1 (C.2.2.2.2.1 _ hv) dd (K p l e R s m args below meth c Q C ret H locs cells slots lsA hI hS hc hs hL)
theorem go_iadd {x y : Int32} (hd : Dc Y pc (.iadd) pc') (K : Go E Y d k n pc' ls (.int (x + y) :: st) h r h') : Go E Y d k n pc ls (.int y :: .int x :: st) h r h' := by
  intro p l e R s m args below meth c Q C ret H locs cells slots lsA hI hS hc hs hL
  obtain ⟨rfl, dd⟩ := hd.is (n := 0) rfl
  exact lv_iadd C.1 C.2.1 dd (K p l e R s m args below meth c Q C ret H locs cells slots lsA hI hS hc hs hL)
theorem go_isub {x y : Int32} (hd : Dc Y pc (.isub) pc') (K : Go E Y d k n pc' ls (.int (x - y) :: st) h r h') : Go E Y d k n pc ls (.int y :: .int x :: st) h r h' := by
  intro p l e R s m args below meth c Q C ret H locs cells slots lsA hI hS hc hs hL
  obtain ⟨rfl, dd⟩ := hd.is (n := 0) rfl
  exact lv_isub C.1 C.2.1 dd (K p l e R s m args below meth c Q C ret H locs cells slots lsA hI hS hc hs hL)
theorem go_imul {x y : Int32} (hd : Dc Y pc (.imul) pc') (K : Go E Y d k n pc' ls (.int (x * y) :: st) h r h') : Go E Y d k n pc ls (.int y :: .int x :: st) h r h' := by
  intro p l e R s m args below meth c Q C ret H locs cells slots lsA hI hS hc hs hL
  obtain ⟨rfl, dd⟩ := hd.is (n := 0) rfl
  exact lv_imul C.1 C.2.1 dd (K p l e R s m args below meth c Q C ret H locs cells slots lsA hI hS hc hs hL)
theorem go_iand {x y : Int32} (hd : Dc Y pc (.iand) pc') (K : Go E Y d k n pc' ls (.int (x &&& y) :: st) h r h') : Go E Y d k n pc ls (.int y :: .int x :: st) h r h' := by
  intro p l e R s m args below meth c Q C ret H locs cells slots lsA hI hS hc hs hL
  obtain ⟨rfl, dd⟩ := hd.is (n := 0) rfl
  exact lv_iand C.1 C.2.1 dd (K p l e R s m args below meth c Q C ret H locs cells slots lsA hI hS hc hs hL)
theorem go_ior {x y : Int32} (hd : Dc Y pc (.ior) pc') (K : Go E Y d k n pc' ls (.int (x ||| y) :: st) h r h') : Go E Y d k n pc ls (.int y :: .int x :: st) h r h' := by
  intro p l e R s m args below meth c Q C ret H locs cells slots lsA hI hS hc hs hL
  obtain ⟨rfl, dd⟩ := hd.is (n := 0) rfl
  exact lv_ior C.1 C.2.1 dd (K p l e R s m args below meth c Q C ret H locs cells slots lsA hI hS hc hs hL)
theorem go_ixor {x y : Int32} (hd : Dc Y pc (.ixor) pc') (K : Go E Y d k n pc' ls (.int (x ^^^ y) :: st) h r h') : Go E Y d k n pc ls (.int y :: .int x :: st) h r h' := by
  intro p l e R s m args below meth c Q C ret H locs cells slots lsA hI hS hc hs hL
  obtain ⟨rfl, dd⟩ := hd.is (n := 0) rfl
  exact lv_ixor C.1 C.2.1 dd (K p l e R s m args below meth c Q C ret H locs cells slots lsA hI hS hc hs hL)
theorem go_ishl {x y : Int32} (hd : Dc Y pc (.ishl) pc') (K : Go E Y d k n pc' ls (.int (x <<< (y &&& 31)) :: st) h r h') : Go E Y d k n pc ls (.int y :: .int x :: st) h r h' := by
  intro p l e R s m args below meth c Q C ret H locs cells slots lsA hI hS hc hs hL
  obtain ⟨rfl, dd⟩ := hd.is (n := 0) rfl
  exact lv_ishl C.1 C.2.1 dd (K p l e R s m args below meth c Q C ret H locs cells slots lsA hI hS hc hs hL)
theorem go_ishr {x y : Int32} (hd : Dc Y pc (.ishr) pc') (K : Go E Y d k n pc' ls (.int (x >>> (y &&& 31)) :: st) h r h') : Go E Y d k n pc ls (.int y :: .int x :: st) h r h' := by
  intro p l e R s m args below meth c Q C ret H locs cells slots lsA hI hS hc hs hL
  obtain ⟨rfl, dd⟩ := hd.is (n := 0) rfl
  exact lv_ishr C.1 C.2.1 dd (K p l e R s m args below meth c Q C ret H locs cells slots lsA hI hS hc hs hL)
theorem go_idiv {x y : Int32} (hd : Dc Y pc (.idiv) pc') (hy : ¬ y = 0) (K : Go E Y d k n pc' ls (.int (x / y) :: st) h r h') : Go E Y d k n pc ls (.int y :: .int x :: st) h r h' := by
  intro p l e R s m args below meth c Q C ret H locs cells slots lsA hI hS hc hs hL
  obtain ⟨rfl, dd⟩ := hd.is (n := 0) rfl
  exact lv_idiv C.1 C.2.1 dd hy (K p l e R s m args below meth c Q C ret H locs cells slots lsA hI hS hc hs hL)
theorem go_irem {x y : Int32} (hd : Dc Y pc (.irem) pc') (hy : ¬ y = 0) (K : Go E Y d k n pc' ls (.int (x - x / y * y) :: st) h r h') : Go E Y d k n pc ls (.int y :: .int x :: st) h r h' := by
  intro p l e R s m args below meth c Q C ret H locs cells slots lsA hI hS hc hs hL
  obtain ⟨rfl, dd⟩ := hd.is (n := 0) rfl
  exact lv_irem C.1 C.2.1 dd hy (K p l e R s m args below meth c Q C ret H locs cells slots lsA hI hS hc hs hL)
theorem go_ineg {x : Int32} (hd : Dc Y pc (.ineg) pc') (K : Go E Y d k n pc' ls (.int (-x) :: st) h r h') : Go E Y d k n pc ls (.int x :: st) h r h' := by
  intro p l e R s m args below meth c Q C ret H locs cells slots lsA hI hS hc hs hL
  obtain ⟨rfl, dd⟩ := hd.is (n := 0) rfl
  exact lv_ineg C.1 C.2.1 dd (K p l e R s m args below meth c Q C ret H locs cells slots lsA hI hS hc hs hL)
theorem go_i2c {x : Int32} (hd : Dc Y pc (.i2c) pc') (K : Go E Y d k n pc' ls (.int (x.toUInt32 % 65536).toInt32 :: st) h r h') : Go E Y d k n pc ls (.int x :: st) h r h' := by
  intro p l e R s m args below meth c Q C ret H locs cells slots lsA hI hS hc hs hL
  obtain ⟨rfl, dd⟩ := hd.is (n := 0) rfl
  exact lv_i2c C.1 C.2.1 dd rfl (K p l e R s m args below meth c Q C ret H locs cells slots lsA hI hS hc hs hL)
theorem go_iushr {x y : Int32} (hd : Dc Y pc (.iushr) pc') (K : Go E Y d k n pc' ls (.int (x.toUInt32 >>> (y.toUInt32 &&& Int32.toUInt32 31)).toInt32 :: st) h r h') : Go E Y d k n pc ls (.int y :: .int x :: st) h r h' := by
  intro p l e R s m args below meth c Q C ret H locs cells slots lsA hI hS hc hs hL
  obtain ⟨rfl, dd⟩ := hd.is (n := 0) rfl
  exact lv_iushr C.1 C.2.1 dd rfl (K p l e R s m args below meth c Q C ret H locs cells slots lsA hI hS hc hs hL)
theorem go_dup {v : Value} (hd : Dc Y pc (.dup) pc') (hv : v.category = 1) (K : Go E Y d k n pc' ls (v :: v :: st) h r h') : Go E Y d k n pc ls (v :: st) h r h' := by
  intro p l e R s m args below meth c Q C ret H locs cells slots lsA hI hS hc hs hL
  obtain ⟨rfl, dd⟩ := hd.is (n := 0) rfl
  exact lv_dup C.1 C.2.1 dd ((cV_cat v).trans hv) (K p l e R s m args below meth c Q C ret H locs cells slots lsA hI hS hc hs hL)
theorem go_pop {v : Value} (hd : Dc Y pc (.pop) pc') (hv : v.category = 1) (K : Go E Y d k n pc' ls st h r h') : Go E Y d k n pc ls (v :: st) h r h' := by
  intro p l e R s m args below meth c Q C ret H locs cells slots lsA hI hS hc hs hL
  obtain ⟨rfl, dd⟩ := hd.is (n := 0) rfl
  exact lv_pop C.1 C.2.1 dd ((cV_cat v).trans hv) (K p l e R s m args below meth c Q C ret H locs cells slots lsA hI hS hc hs hL)
theorem go_dup2 {v w : Value} (hd : Dc Y pc (.dup2) pc') (hv : v.category = 1) (hw : w.category = 1) (K : Go E Y d k n pc' ls (v :: w :: v :: w :: st) h r h') : Go E Y d k n pc ls (v :: w :: st) h r h' := by
  intro p l e R s m args below meth c Q C ret H locs cells slots lsA hI hS hc hs hL
  obtain ⟨rfl, dd⟩ := hd.is (n := 0) rfl
  exact lv_dup2_11 C.1 C.2.1 dd ((cV_cat v).trans hv) ((cV_cat w).trans hw) (K p l e R s m args below meth c Q C ret H locs cells slots lsA hI hS hc hs hL)
theorem go_if_eq {x : Int32} {off : Int} (tgt : Nat) (hd : Dc Y pc (.ifCond .eq off) pc') (ht : (pc : Int) + off = (tgt : Int)) (K1 : x = 0 → Go E Y d k n tgt ls st h r h') (K2 : ¬ x = 0 → Go E Y d k n pc' ls st h r h') : Go E Y d k n pc ls (.int x :: st) h r h' := by
  intro p l e R s m args below meth c Q C ret H locs cells slots lsA hI hS hc hs hL
  obtain ⟨rfl, dd⟩ := hd.is (n := 2) rfl
  exact lv_if_eq C.1 C.2.1 dd ht (fun q => K1 q p l e R s m args below meth c Q C ret H locs cells slots lsA hI hS hc hs hL) (fun q => K2 q p l e R s m args below meth c Q C ret H locs cells slots lsA hI hS hc hs hL)
theorem go_if_ne {x : Int32} {off : Int} (tgt : Nat) (hd : Dc Y pc (.ifCond .ne off) pc') (ht : (pc : Int) + off = (tgt : Int)) (K1 : ¬ x = 0 → Go E Y d k n tgt ls st h r h') (K2 : x = 0 → Go E Y d k n pc' ls st h r h') : Go E Y d k n pc ls (.int x :: st) h r h' := by
  intro p l e R s m args below meth c Q C ret H locs cells slots lsA hI hS hc hs hL
  obtain ⟨rfl, dd⟩ := hd.is (n := 2) rfl
  exact lv_if_ne C.1 C.2.1 dd ht (fun q => K1 q p l e R s m args below meth c Q C ret H locs cells slots lsA hI hS hc hs hL) (fun q => K2 q p l e R s m args below meth c Q C ret H locs cells slots lsA hI hS hc hs hL)
theorem go_if_lt {x : Int32} {off : Int} (tgt : Nat) (hd : Dc Y pc (.ifCond .lt off) pc') (ht : (pc : Int) + off = (tgt : Int)) (K1 : x < 0 → Go E Y d k n tgt ls st h r h') (K2 : ¬ x < 0 → Go E Y d k n pc' ls st h r h') : Go E Y d k n pc ls (.int x :: st) h r h' := by
  intro p l e R s m args below meth c Q C ret H locs cells slots lsA hI hS hc hs hL
  obtain ⟨rfl, dd⟩ := hd.is (n := 2) rfl
  exact lv_if_lt C.1 C.2.1 dd ht (fun q => K1 q p l e R s m args below meth c Q C ret H locs cells slots lsA hI hS hc hs hL) (fun q => K2 q p l e R s m args below meth c Q C ret H locs cells slots lsA hI hS hc hs hL)
theorem go_if_ge {x : Int32} {off : Int} (tgt : Nat) (hd : Dc Y pc (.ifCond .ge off) pc') (ht : (pc : Int) + off = (tgt : Int)) (K1 : 0 ≤ x → Go E Y d k n tgt ls st h r h') (K2 : ¬ 0 ≤ x → Go E Y d k n pc' ls st h r h') : Go E Y d k n pc ls (.int x :: st) h r h' := by
  intro p l e R s m args below meth c Q C ret H locs cells slots lsA hI hS hc hs hL
  obtain ⟨rfl, dd⟩ := hd.is (n := 2) rfl
  exact lv_if_ge C.1 C.2.1 dd ht (fun q => K1 q p l e R s m args below meth c Q C ret H locs cells slots lsA hI hS hc hs hL) (fun q => K2 q p l e R s m args below meth c Q C ret H locs cells slots lsA hI hS hc hs hL)
theorem go_if_gt {x : Int32} {off : Int} (tgt : Nat) (hd : Dc Y pc (.ifCond .gt off) pc') (ht : (pc : Int) + off = (tgt : Int)) (K1 : 0 < x → Go E Y d k n tgt ls st h r h') (K2 : ¬ 0 < x → Go E Y d k n pc' ls st h r h') : Go E Y d k n pc ls (.int x :: st) h r h' := by
  intro p l e R s m args below meth c Q C ret H locs cells slots lsA hI hS hc hs hL
  obtain ⟨rfl, dd⟩ := hd.is (n := 2) rfl
  exact lv_if_gt C.1 C.2.1 dd ht (fun q => K1 q p l e R s m args below meth c Q C ret H locs cells slots lsA hI hS hc hs hL) (fun q => K2 q p l e R s m args below meth c Q C ret H locs cells slots lsA hI hS hc hs hL)
theorem go_if_le {x : Int32} {off : Int} (tgt : Nat) (hd : Dc Y pc (.ifCond .le off) pc') (ht : (pc : Int) + off = (tgt : Int)) (K1 : x ≤ 0 → Go E Y d k n tgt ls st h r h') (K2 : ¬ x ≤ 0 → Go E Y d k n pc' ls st h r h') : Go E Y d k n pc ls (.int x :: st) h r h' := by
  intro p l e R s m args below meth c Q C ret H locs cells slots lsA hI hS hc hs hL
  obtain ⟨rfl, dd⟩ := hd.is (n := 2) rfl
  exact lv_if_le C.1 C.2.1 dd ht (fun q => K1 q p l e R s m args below meth c Q C ret H locs cells slots lsA hI hS hc hs hL) (fun q => K2 q p l e R s m args below meth c Q C ret H locs cells slots lsA hI hS hc hs hL)
theorem go_icmp_eq {x y : Int32} {off : Int} (tgt : Nat) (hd : Dc Y pc (.if_icmp .eq off) pc') (ht : (pc : Int) + off = (tgt : Int)) (K1 : x = y → Go E Y d k n tgt ls st h r h') (K2 : ¬ x = y → Go E Y d k n pc' ls st h r h') : Go E Y d k n pc ls (.int y :: .int x :: st) h r h' := by
  intro p l e R s m args below meth c Q C ret H locs cells slots lsA hI hS hc hs hL
  obtain ⟨rfl, dd⟩ := hd.is (n := 2) rfl
  exact lv_icmp_eq C.1 C.2.1 dd ht (fun q => K1 q p l e R s m args below meth c Q C ret H locs cells slots lsA hI hS hc hs hL) (fun q => K2 q p l e R s m args below meth c Q C ret H locs cells slots lsA hI hS hc hs hL)
theorem go_icmp_ne {x y : Int32} {off : Int} (tgt : Nat) (hd : Dc Y pc (.if_icmp .ne off) pc') (ht : (pc : Int) + off = (tgt : Int)) (K1 : ¬ x = y → Go E Y d k n tgt ls st h r h') (K2 : x = y → Go E Y d k n pc' ls st h r h') : Go E Y d k n pc ls (.int y :: .int x :: st) h r h' := by
  intro p l e R s m args below meth c Q C ret H locs cells slots lsA hI hS hc hs hL
  obtain ⟨rfl, dd⟩ := hd.is (n := 2) rfl
  exact lv_icmp_ne C.1 C.2.1 dd ht (fun q => K1 q p l e R s m args below meth c Q C ret H locs cells slots lsA hI hS hc hs hL) (fun q => K2 q p l e R s m args below meth c Q C ret H locs cells slots lsA hI hS hc hs hL)
theorem go_icmp_lt {x y : Int32} {off : Int} (tgt : Nat) (hd : Dc Y pc (.if_icmp .lt off) pc') (ht : (pc : Int) + off = (tgt : Int)) (K1 : x < y → Go E Y d k n tgt ls st h r h') (K2 : ¬ x < y → Go E Y d k n pc' ls st h r h') : Go E Y d k n pc ls (.int y :: .int x :: st) h r h' := by
  intro p l e R s m args below meth c Q C ret H locs cells slots lsA hI hS hc hs hL
  obtain ⟨rfl, dd⟩ := hd.is (n := 2) rfl
  exact lv_icmp_lt C.1 C.2.1 dd ht (fun q => K1 q p l e R s m args below meth c Q C ret H locs cells slots lsA hI hS hc hs hL) (fun q => K2 q p l e R s m args below meth c Q C ret H locs cells slots lsA hI hS hc hs hL)
theorem go_icmp_ge {x y : Int32} {off : Int} (tgt : Nat) (hd : Dc Y pc (.if_icmp .ge off) pc') (ht : (pc : Int) + off = (tgt : Int)) (K1 : y ≤ x → Go E Y d k n tgt ls st h r h') (K2 : ¬ y ≤ x → Go E Y d k n pc' ls st h r h') : Go E Y d k n pc ls (.int y :: .int x :: st) h r h' := by
  intro p l e R s m args below meth c Q C ret H locs cells slots lsA hI hS hc hs hL
  obtain ⟨rfl, dd⟩ := hd.is (n := 2) rfl
  exact lv_icmp_ge C.1 C.2.1 dd ht (fun q => K1 q p l e R s m args below meth c Q C ret H locs cells slots lsA hI hS hc hs hL) (fun q => K2 q p l e R s m args below meth c Q C ret H locs cells slots lsA hI hS hc hs hL)
theorem go_icmp_gt {x y : Int32} {off : Int} (tgt : Nat) (hd : Dc Y pc (.if_icmp .gt off) pc') (ht : (pc : Int) + off = (tgt : Int)) (K1 : y < x → Go E Y d k n tgt ls st h r h') (K2 : ¬ y < x → Go E Y d k n pc' ls st h r h') : Go E Y d k n pc ls (.int y :: .int x :: st) h r h' := by
  intro p l e R s m args below meth c Q C ret H locs cells slots lsA hI hS hc hs hL
  obtain ⟨rfl, dd⟩ := hd.is (n := 2) rfl
  exact lv_icmp_gt C.1 C.2.1 dd ht (fun q => K1 q p l e R s m args below meth c Q C ret H locs cells slots lsA hI hS hc hs hL) (fun q => K2 q p l e R s m args below meth c Q C ret H locs cells slots lsA hI hS hc hs hL)
theorem go_icmp_le {x y : Int32} {off : Int} (tgt : Nat) (hd : Dc Y pc (.if_icmp .le off) pc') (ht : (pc : Int) + off = (tgt : Int)) (K1 : x ≤ y → Go E Y d k n tgt ls st h r h') (K2 : ¬ x ≤ y → Go E Y d k n pc' ls st h r h') : Go E Y d k n pc ls (.int y :: .int x :: st) h r h' := by
  intro p l e R s m args below meth c Q C ret H locs cells slots lsA hI hS hc hs hL
  obtain ⟨rfl, dd⟩ := hd.is (n := 2) rfl
  exact lv_icmp_le C.1 C.2.1 dd ht (fun q => K1 q p l e R s m args below meth c Q C ret H locs cells slots lsA hI hS hc hs hL) (fun q => K2 q p l e R s m args below meth c Q C ret H locs cells slots lsA hI hS hc hs hL)
theorem go_goto {off : Int} (tgt : Nat) (hd : Dc Y pc (.goto off) pc') (ht : (pc : Int) + off = (tgt : Int)) (K : Go E Y d k n tgt ls st h r h') : Go E Y d k n pc ls st h r h' := by
  intro p l e R s m args below meth c Q C ret H locs cells slots lsA hI hS hc hs hL
  obtain ⟨rfl, dd⟩ := hd.is (n := 2) rfl
  exact lv_goto C.1 C.2.1 dd ht (K p l e R s m args below meth c Q C ret H locs cells slots lsA hI hS hc hs hL)
theorem go_ifnull {off : Int} {a : Nat} (hd : Dc Y pc (.ifnull off) pc') (K : Go E Y d k n pc' ls st h r h') : Go E Y d k n pc ls (.ref a :: st) h r h' := by
  intro p l e R s m args below meth c Q C ret H locs cells slots lsA hI hS hc hs hL
  obtain ⟨rfl, dd⟩ := hd.is (n := 2) rfl
  exact lv_ifnull C.1 C.2.1 dd (K p l e R s m args below meth c Q C ret H locs cells slots lsA hI hS hc hs hL)
theorem go_ifnonnull {off : Int} {a : Nat} (tgt : Nat) (hd : Dc Y pc (.ifnonnull off) pc') (ht : (pc : Int) + off = (tgt : Int)) (K : Go E Y d k n tgt ls st h r h') : Go E Y d k n pc ls (.ref a :: st) h r h' := by
  intro p l e R s m args below meth c Q C ret H locs cells slots lsA hI hS hc hs hL
  obtain ⟨rfl, dd⟩ := hd.is (n := 2) rfl
  exact lv_ifnonnull C.1 C.2.1 dd ht (K p l e R s m args below meth c Q C ret H locs cells slots lsA hI hS hc hs hL)
theorem go_tableOut {dflt lo hi : Int} {offs : Array Int} {x : Int32} (tgt : Nat) (hd : Dc Y pc (.tableswitch dflt lo hi offs) pc') (h1 : x.toInt < lo ∨ hi < x.toInt) (ht : (pc : Int) + dflt = (tgt : Int)) (K : Go E Y d k n tgt ls st h r h') : Go E Y d k n pc ls (.int x :: st) h r h' := by
  intro p l e R s m args below meth c Q C ret H locs cells slots lsA hI hS hc hs hL
  exact lv_tableOut C.1 C.2.1 hd.1 h1 ht (K p l e R s m args below meth c Q C ret H locs cells slots lsA hI hS hc hs hL)
theorem go_tableIn {dflt lo hi : Int} {offs : Array Int} {x : Int32} {off : Int} (tgt : Nat) (hd : Dc Y pc (.tableswitch dflt lo hi offs) pc') (h1 : ¬ x.toInt < lo) (h2 : ¬ hi < x.toInt) (ho : offs[(x.toInt - lo).toNat]? = some off) (ht : (pc : Int) + off = (tgt : Int)) (K : Go E Y d k n tgt ls st h r h') : Go E Y d k n pc ls (.int x :: st) h r h' := by
  intro p l e R s m args below meth c Q C ret H locs cells slots lsA hI hS hc hs hL
  exact lv_tableIn C.1 C.2.1 hd.1 h1 h2 ho ht (K p l e R s m args below meth c Q C ret H locs cells slots lsA hI hS hc hs hL)
theorem go_lookup {dflt : Int} {ps : Array (Int × Int)} {x : Int32} {off : Int} (tgt : Nat) (hd : Dc Y pc (.lookupswitch dflt ps) pc') (hp : (ps.toList.zip (ps.toList.drop 1)).all (fun (a, next) => a.1 < next.1) = true) (ho : Op.lookupswitch.offset ps.toList dflt x.toInt = off) (ht : (pc : Int) + off = (tgt : Int)) (K : Go E Y d k n tgt ls st h r h') : Go E Y d k n pc ls (.int x :: st) h r h' := by
  intro p l e R s m args below meth c Q C ret H locs cells slots lsA hI hS hc hs hL
  exact lv_lookup C.1 C.2.1 hd.1 hp ho ht (K p l e R s m args below meth c Q C ret H locs cells slots lsA hI hS hc hs hL)
theorem LV.get {nL i : Nat} {lsA : Array Slot} {v : Value} (hL : LV E nL ls lsA) (hi : ls[i]? = some (some v)) : lsA[i]? = some (.val (cV E v)) := (hL.2.2.2 i v hi).1
theorem LV.has {nL : Nat} {lsA : Array Slot} (hL : LV E nL ls lsA) : lv_has lsA nL ((List.range ls.length).filterMap (fun i => match ls[i]? with | some (some v) => some (i, cV E v) | _ => none)) := by
  obtain ⟨h1, h2, h3, h4⟩ := hL
  refine ⟨h1, h2, fun q hq => ?_⟩
  obtain ⟨i, -, hi⟩ := List.mem_filterMap.mp hq
  split at hi
  · rename_i v hv
    cases hi
    exact (h4 i v hv).1
  · cases hi
theorem LV.put {nL i : Nat} {lsA lsB : Array Slot} {v : Value} (hL : LV E nL ls lsA) (hv : v.category = 1)
    (hB : lv_has lsB nL ((i, cV E v) :: ((List.range ls.length).filterMap (fun i => match ls[i]? with | some (some v) => some (i, cV E v) | _ => none)).filter (fun q => !(q.1 == i) && !(q.1 + 1 == i && q.2.category == 2)))) : LV E nL (ls.set i (some v)) lsB := by
  obtain ⟨h1, h2, h3, h4⟩ := hL
  obtain ⟨b1, b2, b3⟩ := hB
  refine ⟨b1, b2, by rw [List.length_set]; exact h3, fun j w hj => ?_⟩
  rw [List.getElem?_set] at hj
  by_cases hij : i = j
  · subst hij
    rw [if_pos rfl] at hj
    split at hj
    · cases hj
      exact ⟨b3 (i, cV E v) List.mem_cons_self, hv⟩
    · cases hj
  · rw [if_neg hij] at hj
    have hc := (h4 j w hj).2
    refine ⟨b3 (j, cV E w) (List.mem_cons_of_mem _ (List.mem_filter.mpr ⟨List.mem_filterMap.mpr ⟨j, List.mem_range.mpr (List.getElem?_eq_some_iff.mp hj).1, by rw [hj]⟩, ?_⟩)), hc⟩
    have e1 : (j == i) = false := by simp; exact fun h => hij h.symm
    have e2 : ((cV E w).category == 2) = false := by rw [cV_cat, hc]; rfl
    simp [e1, e2]
theorem go_iloadn {i : Fin 4} {x : Int32} (hd : Dc Y pc (.iload_n i) pc') (hi : ls[(i : Nat)]? = some (some (.int x))) (K : Go E Y d k n pc' ls (.int x :: st) h r h') : Go E Y d k n pc ls st h r h' := by
  intro p l e R s m args below meth c Q C ret H locs cells slots lsA hI hS hc hs hL
  obtain ⟨rfl, dd⟩ := hd.is (n := 0) rfl
  exact lv_iload_n C.1 C.2.1 dd rfl (hL.get hi) (K p l e R s m args below meth c Q C ret H locs cells slots lsA hI hS hc hs hL)
theorem go_iload {i : Nat} {x : Int32} (hd : Dc Y pc (.iload i) pc') (hi : ls[i]? = some (some (.int x))) (K : Go E Y d k n pc' ls (.int x :: st) h r h') : Go E Y d k n pc ls st h r h' := by
  intro p l e R s m args below meth c Q C ret H locs cells slots lsA hI hS hc hs hL
  obtain ⟨rfl, dd⟩ := hd.is (n := 1) rfl
  exact lv_iload C.1 C.2.1 dd (hL.get hi) (K p l e R s m args below meth c Q C ret H locs cells slots lsA hI hS hc hs hL)
theorem go_istoren {i : Fin 4} {x : Int32} (hd : Dc Y pc (.istore_n i) pc') (hi : (i : Nat) < ls.length) (K : Go E Y d k n pc' (ls.set i (some (.int x))) st h r h') : Go E Y d k n pc ls (.int x :: st) h r h' := by
  intro p l e R s m args below meth c Q C ret H locs cells slots lsA hI hS hc hs hL
  obtain ⟨rfl, dd⟩ := hd.is (n := 0) rfl
  exact lv_istore_n C.1 C.2.1 dd rfl hL.has (Nat.lt_of_lt_of_le hi hL.2.2.1) rfl (fun lsB hB => K p l e R s m args below meth c Q C ret H locs cells slots lsB hI hS hc hs (hL.put (v := .int x) rfl hB))
theorem go_istore {i : Nat} {x : Int32} (hd : Dc Y pc (.istore i) pc') (hi : i < ls.length) (K : Go E Y d k n pc' (ls.set i (some (.int x))) st h r h') : Go E Y d k n pc ls (.int x :: st) h r h' := by
  intro p l e R s m args below meth c Q C ret H locs cells slots lsA hI hS hc hs hL
  obtain ⟨rfl, dd⟩ := hd.is (n := 1) rfl
  exact lv_istore C.1 C.2.1 dd hL.has (Nat.lt_of_lt_of_le hi hL.2.2.1) rfl (fun lsB hB => K p l e R s m args below meth c Q C ret H locs cells slots lsB hI hS hc hs (hL.put (v := .int x) rfl hB))
theorem go_aloadn {i : Fin 4} {x : Nat} (hd : Dc Y pc (.aload_n i) pc') (hi : ls[(i : Nat)]? = some (some (.ref x))) (K : Go E Y d k n pc' ls (.ref x :: st) h r h') : Go E Y d k n pc ls st h r h' := by
  intro p l e R s m args below meth c Q C ret H locs cells slots lsA hI hS hc hs hL
  obtain ⟨rfl, dd⟩ := hd.is (n := 0) rfl
  exact lv_aload_n C.1 C.2.1 dd rfl (hL.get hi) (K p l e R s m args below meth c Q C ret H locs cells slots lsA hI hS hc hs hL)
theorem go_aload {i : Nat} {x : Nat} (hd : Dc Y pc (.aload i) pc') (hi : ls[i]? = some (some (.ref x))) (K : Go E Y d k n pc' ls (.ref x :: st) h r h') : Go E Y d k n pc ls st h r h' := by
  intro p l e R s m args below meth c Q C ret H locs cells slots lsA hI hS hc hs hL
  obtain ⟨rfl, dd⟩ := hd.is (n := 1) rfl
  exact lv_aload C.1 C.2.1 dd (hL.get hi) (K p l e R s m args below meth c Q C ret H locs cells slots lsA hI hS hc hs hL)
theorem go_astoren {i : Fin 4} {x : Nat} (hd : Dc Y pc (.astore_n i) pc') (hi : (i : Nat) < ls.length) (K : Go E Y d k n pc' (ls.set i (some (.ref x))) st h r h') : Go E Y d k n pc ls (.ref x :: st) h r h' := by
  intro p l e R s m args below meth c Q C ret H locs cells slots lsA hI hS hc hs hL
  obtain ⟨rfl, dd⟩ := hd.is (n := 0) rfl
  exact lv_astore_n C.1 C.2.1 dd rfl hL.has (Nat.lt_of_lt_of_le hi hL.2.2.1) rfl (fun lsB hB => K p l e R s m args below meth c Q C ret H locs cells slots lsB hI hS hc hs (hL.put (v := .ref x) rfl hB))
theorem go_astore {i : Nat} {x : Nat} (hd : Dc Y pc (.astore i) pc') (hi : i < ls.length) (K : Go E Y d k n pc' (ls.set i (some (.ref x))) st h r h') : Go E Y d k n pc ls (.ref x :: st) h r h' := by
  intro p l e R s m args below meth c Q C ret H locs cells slots lsA hI hS hc hs hL
  obtain ⟨rfl, dd⟩ := hd.is (n := 1) rfl
  exact lv_astore C.1 C.2.1 dd hL.has (Nat.lt_of_lt_of_le hi hL.2.2.1) rfl (fun lsB hB => K p l e R s m args below meth c Q C ret H locs cells slots lsB hI hS hc hs (hL.put (v := .ref x) rfl hB))
theorem go_iinc {i : Nat} {z : Int} {x v : Int32} (hd : Dc Y pc (.iinc i z) pc') (hi : ls[i]? = some (some (.int x))) (hv : x + Int32.ofInt z = v) (K : Go E Y d k n pc' (ls.set i (some (.int v))) st h r h') : Go E Y d k n pc ls st h r h' := by
  intro p l e R s m args below meth c Q C ret H locs cells slots lsA hI hS hc hs hL
  obtain ⟨rfl, dd⟩ := hd.is (n := 2) rfl
  have hlen := (List.getElem?_eq_some_iff.mp hi).1
  have hh := hL.has
  have hmem : (i, Value.int x) ∈ ((List.range ls.length).filterMap (fun i => match ls[i]? with | some (some v) => some (i, cV E v) | _ => none)) := List.mem_filterMap.mpr ⟨i, List.mem_range.mpr hlen, by rw [hi]; rfl⟩
  obtain ⟨kk, hkk⟩ := List.getElem?_of_mem hmem
  exact lv_iinc C.1 C.2.1 dd hh hkk hv (Nat.lt_of_lt_of_le hlen hL.2.2.1) rfl (fun lsB hB => K p l e R s m args below meth c Q C ret H locs cells slots lsB hI hS hc hs (hL.put (v := .int v) rfl hB))
theorem go_iload_0 {x : Int32} (hd : Dc Y pc (.iload_n 0) pc') (K : Go E Y d k n pc' (some (.int x) :: ls) (.int x :: st) h r h') : Go E Y d k n pc (some (.int x) :: ls) st h r h' := go_iloadn hd rfl K
theorem go_istore_0 {b0 : Option Value} {x : Int32} (hd : Dc Y pc (.istore_n 0) pc') (K : Go E Y d k n pc' (some (.int x) :: ls) st h r h') : Go E Y d k n pc (b0 :: ls) (.int x :: st) h r h' := go_istoren hd (by simp only [List.length_cons]; show 0 < _; omega) K
theorem go_aload_0 {x : Nat} (hd : Dc Y pc (.aload_n 0) pc') (K : Go E Y d k n pc' (some (.ref x) :: ls) (.ref x :: st) h r h') : Go E Y d k n pc (some (.ref x) :: ls) st h r h' := go_aloadn hd rfl K
theorem go_astore_0 {b0 : Option Value} {x : Nat} (hd : Dc Y pc (.astore_n 0) pc') (K : Go E Y d k n pc' (some (.ref x) :: ls) st h r h') : Go E Y d k n pc (b0 :: ls) (.ref x :: st) h r h' := go_astoren hd (by simp only [List.length_cons]; show 0 < _; omega) K
theorem go_iinc_0 {z : Int} {x v : Int32} (hd : Dc Y pc (.iinc 0 z) pc') (hv : x + Int32.ofInt z = v) (K : Go E Y d k n pc' (some (.int v) :: ls) st h r h') : Go E Y d k n pc (some (.int x) :: ls) st h r h' := go_iinc hd rfl hv K
theorem go_iload_1 {b0 : Option Value} {x : Int32} (hd : Dc Y pc (.iload_n 1) pc') (K : Go E Y d k n pc' (b0 :: some (.int x) :: ls) (.int x :: st) h r h') : Go E Y d k n pc (b0 :: some (.int x) :: ls) st h r h' := go_iloadn hd rfl K
theorem go_istore_1 {b0 b1 : Option Value} {x : Int32} (hd : Dc Y pc (.istore_n 1) pc') (K : Go E Y d k n pc' (b0 :: some (.int x) :: ls) st h r h') : Go E Y d k n pc (b0 :: b1 :: ls) (.int x :: st) h r h' := go_istoren hd (by simp only [List.length_cons]; show 1 < _; omega) K
theorem go_aload_1 {b0 : Option Value} {x : Nat} (hd : Dc Y pc (.aload_n 1) pc') (K : Go E Y d k n pc' (b0 :: some (.ref x) :: ls) (.ref x :: st) h r h') : Go E Y d k n pc (b0 :: some (.ref x) :: ls) st h r h' := go_aloadn hd rfl K
theorem go_astore_1 {b0 b1 : Option Value} {x : Nat} (hd : Dc Y pc (.astore_n 1) pc') (K : Go E Y d k n pc' (b0 :: some (.ref x) :: ls) st h r h') : Go E Y d k n pc (b0 :: b1 :: ls) (.ref x :: st) h r h' := go_astoren hd (by simp only [List.length_cons]; show 1 < _; omega) K
theorem go_iinc_1 {b0 : Option Value} {z : Int} {x v : Int32} (hd : Dc Y pc (.iinc 1 z) pc') (hv : x + Int32.ofInt z = v) (K : Go E Y d k n pc' (b0 :: some (.int v) :: ls) st h r h') : Go E Y d k n pc (b0 :: some (.int x) :: ls) st h r h' := go_iinc hd rfl hv K
theorem go_iload_2 {b0 b1 : Option Value} {x : Int32} (hd : Dc Y pc (.iload_n 2) pc') (K : Go E Y d k n pc' (b0 :: b1 :: some (.int x) :: ls) (.int x :: st) h r h') : Go E Y d k n pc (b0 :: b1 :: some (.int x) :: ls) st h r h' := go_iloadn hd rfl K
theorem go_istore_2 {b0 b1 b2 : Option Value} {x : Int32} (hd : Dc Y pc (.istore_n 2) pc') (K : Go E Y d k n pc' (b0 :: b1 :: some (.int x) :: ls) st h r h') : Go E Y d k n pc (b0 :: b1 :: b2 :: ls) (.int x :: st) h r h' := go_istoren hd (by simp only [List.length_cons]; show 2 < _; omega) K
theorem go_aload_2 {b0 b1 : Option Value} {x : Nat} (hd : Dc Y pc (.aload_n 2) pc') (K : Go E Y d k n pc' (b0 :: b1 :: some (.ref x) :: ls) (.ref x :: st) h r h') : Go E Y d k n pc (b0 :: b1 :: some (.ref x) :: ls) st h r h' := go_aloadn hd rfl K
theorem go_astore_2 {b0 b1 b2 : Option Value} {x : Nat} (hd : Dc Y pc (.astore_n 2) pc') (K : Go E Y d k n pc' (b0 :: b1 :: some (.ref x) :: ls) st h r h') : Go E Y d k n pc (b0 :: b1 :: b2 :: ls) (.ref x :: st) h r h' := go_astoren hd (by simp only [List.length_cons]; show 2 < _; omega) K
theorem go_iinc_2 {b0 b1 : Option Value} {z : Int} {x v : Int32} (hd : Dc Y pc (.iinc 2 z) pc') (hv : x + Int32.ofInt z = v) (K : Go E Y d k n pc' (b0 :: b1 :: some (.int v) :: ls) st h r h') : Go E Y d k n pc (b0 :: b1 :: some (.int x) :: ls) st h r h' := go_iinc hd rfl hv K
theorem go_iload_3 {b0 b1 b2 : Option Value} {x : Int32} (hd : Dc Y pc (.iload_n 3) pc') (K : Go E Y d k n pc' (b0 :: b1 :: b2 :: some (.int x) :: ls) (.int x :: st) h r h') : Go E Y d k n pc (b0 :: b1 :: b2 :: some (.int x) :: ls) st h r h' := go_iloadn hd rfl K
theorem go_istore_3 {b0 b1 b2 b3 : Option Value} {x : Int32} (hd : Dc Y pc (.istore_n 3) pc') (K : Go E Y d k n pc' (b0 :: b1 :: b2 :: some (.int x) :: ls) st h r h') : Go E Y d k n pc (b0 :: b1 :: b2 :: b3 :: ls) (.int x :: st) h r h' := go_istoren hd (by simp only [List.length_cons]; show 3 < _; omega) K
theorem go_aload_3 {b0 b1 b2 : Option Value} {x : Nat} (hd : Dc Y pc (.aload_n 3) pc') (K : Go E Y d k n pc' (b0 :: b1 :: b2 :: some (.ref x) :: ls) (.ref x :: st) h r h') : Go E Y d k n pc (b0 :: b1 :: b2 :: some (.ref x) :: ls) st h r h' := go_aloadn hd rfl K
theorem go_astore_3 {b0 b1 b2 b3 : Option Value} {x : Nat} (hd : Dc Y pc (.astore_n 3) pc') (K : Go E Y d k n pc' (b0 :: b1 :: b2 :: some (.ref x) :: ls) st h r h') : Go E Y d k n pc (b0 :: b1 :: b2 :: b3 :: ls) (.ref x :: st) h r h' := go_astoren hd (by simp only [List.length_cons]; show 3 < _; omega) K
theorem go_iinc_3 {b0 b1 b2 : Option Value} {z : Int} {x v : Int32} (hd : Dc Y pc (.iinc 3 z) pc') (hv : x + Int32.ofInt z = v) (K : Go E Y d k n pc' (b0 :: b1 :: b2 :: some (.int v) :: ls) st h r h') : Go E Y d k n pc (b0 :: b1 :: b2 :: some (.int x) :: ls) st h r h' := go_iinc hd rfl hv K
theorem go_iload_4 {b0 b1 b2 b3 : Option Value} {x : Int32} (hd : Dc Y pc (.iload 4) pc') (K : Go E Y d k n pc' (b0 :: b1 :: b2 :: b3 :: some (.int x) :: ls) (.int x :: st) h r h') : Go E Y d k n pc (b0 :: b1 :: b2 :: b3 :: some (.int x) :: ls) st h r h' := go_iload hd rfl K
theorem go_istore_4 {b0 b1 b2 b3 b4 : Option Value} {x : Int32} (hd : Dc Y pc (.istore 4) pc') (K : Go E Y d k n pc' (b0 :: b1 :: b2 :: b3 :: some (.int x) :: ls) st h r h') : Go E Y d k n pc (b0 :: b1 :: b2 :: b3 :: b4 :: ls) (.int x :: st) h r h' := go_istore hd (by simp only [List.length_cons]; show 4 < _; omega) K
theorem go_aload_4 {b0 b1 b2 b3 : Option Value} {x : Nat} (hd : Dc Y pc (.aload 4) pc') (K : Go E Y d k n pc' (b0 :: b1 :: b2 :: b3 :: some (.ref x) :: ls) (.ref x :: st) h r h') : Go E Y d k n pc (b0 :: b1 :: b2 :: b3 :: some (.ref x) :: ls) st h r h' := go_aload hd rfl K
theorem go_astore_4 {b0 b1 b2 b3 b4 : Option Value} {x : Nat} (hd : Dc Y pc (.astore 4) pc') (K : Go E Y d k n pc' (b0 :: b1 :: b2 :: b3 :: some (.ref x) :: ls) st h r h') : Go E Y d k n pc (b0 :: b1 :: b2 :: b3 :: b4 :: ls) (.ref x :: st) h r h' := go_astore hd (by simp only [List.length_cons]; show 4 < _; omega) K
theorem go_iinc_4 {b0 b1 b2 b3 : Option Value} {z : Int} {x v : Int32} (hd : Dc Y pc (.iinc 4 z) pc') (hv : x + Int32.ofInt z = v) (K : Go E Y d k n pc' (b0 :: b1 :: b2 :: b3 :: some (.int v) :: ls) st h r h') : Go E Y d k n pc (b0 :: b1 :: b2 :: b3 :: some (.int x) :: ls) st h r h' := go_iinc hd rfl hv K
theorem go_iload_5 {b0 b1 b2 b3 b4 : Option Value} {x : Int32} (hd : Dc Y pc (.iload 5) pc') (K : Go E Y d k n pc' (b0 :: b1 :: b2 :: b3 :: b4 :: some (.int x) :: ls) (.int x :: st) h r h') : Go E Y d k n pc (b0 :: b1 :: b2 :: b3 :: b4 :: some (.int x) :: ls) st h r h' := go_iload hd rfl K
theorem go_istore_5 {b0 b1 b2 b3 b4 b5 : Option Value} {x : Int32} (hd : Dc Y pc (.istore 5) pc') (K : Go E Y d k n pc' (b0 :: b1 :: b2 :: b3 :: b4 :: some (.int x) :: ls) st h r h') : Go E Y d k n pc (b0 :: b1 :: b2 :: b3 :: b4 :: b5 :: ls) (.int x :: st) h r h' := go_istore hd (by simp only [List.length_cons]; show 5 < _; omega) K
theorem go_aload_5 {b0 b1 b2 b3 b4 : Option Value} {x : Nat} (hd : Dc Y pc (.aload 5) pc') (K : Go E Y d k n pc' (b0 :: b1 :: b2 :: b3 :: b4 :: some (.ref x) :: ls) (.ref x :: st) h r h') : Go E Y d k n pc (b0 :: b1 :: b2 :: b3 :: b4 :: some (.ref x) :: ls) st h r h' := go_aload hd rfl K
theorem go_astore_5 {b0 b1 b2 b3 b4 b5 : Option Value} {x : Nat} (hd : Dc Y pc (.astore 5) pc') (K : Go E Y d k n pc' (b0 :: b1 :: b2 :: b3 :: b4 :: some (.ref x) :: ls) st h r h') : Go E Y d k n pc (b0 :: b1 :: b2 :: b3 :: b4 :: b5 :: ls) (.ref x :: st) h r h' := go_astore hd (by simp only [List.length_cons]; show 5 < _; omega) K
theorem go_iinc_5 {b0 b1 b2 b3 b4 : Option Value} {z : Int} {x v : Int32} (hd : Dc Y pc (.iinc 5 z) pc') (hv : x + Int32.ofInt z = v) (K : Go E Y d k n pc' (b0 :: b1 :: b2 :: b3 :: b4 :: some (.int v) :: ls) st h r h') : Go E Y d k n pc (b0 :: b1 :: b2 :: b3 :: b4 :: some (.int x) :: ls) st h r h' := go_iinc hd rfl hv K
theorem go_iload_6 {b0 b1 b2 b3 b4 b5 : Option Value} {x : Int32} (hd : Dc Y pc (.iload 6) pc') (K : Go E Y d k n pc' (b0 :: b1 :: b2 :: b3 :: b4 :: b5 :: some (.int x) :: ls) (.int x :: st) h r h') : Go E Y d k n pc (b0 :: b1 :: b2 :: b3 :: b4 :: b5 :: some (.int x) :: ls) st h r h' := go_iload hd rfl K
theorem go_istore_6 {b0 b1 b2 b3 b4 b5 b6 : Option Value} {x : Int32} (hd : Dc Y pc (.istore 6) pc') (K : Go E Y d k n pc' (b0 :: b1 :: b2 :: b3 :: b4 :: b5 :: some (.int x) :: ls) st h r h') : Go E Y d k n pc (b0 :: b1 :: b2 :: b3 :: b4 :: b5 :: b6 :: ls) (.int x :: st) h r h' := go_istore hd (by simp only [List.length_cons]; show 6 < _; omega) K
theorem go_aload_6 {b0 b1 b2 b3 b4 b5 : Option Value} {x : Nat} (hd : Dc Y pc (.aload 6) pc') (K : Go E Y d k n pc' (b0 :: b1 :: b2 :: b3 :: b4 :: b5 :: some (.ref x) :: ls) (.ref x :: st) h r h') : Go E Y d k n pc (b0 :: b1 :: b2 :: b3 :: b4 :: b5 :: some (.ref x) :: ls) st h r h' := go_aload hd rfl K
theorem go_astore_6 {b0 b1 b2 b3 b4 b5 b6 : Option Value} {x : Nat} (hd : Dc Y pc (.astore 6) pc') (K : Go E Y d k n pc' (b0 :: b1 :: b2 :: b3 :: b4 :: b5 :: some (.ref x) :: ls) st h r h') : Go E Y d k n pc (b0 :: b1 :: b2 :: b3 :: b4 :: b5 :: b6 :: ls) (.ref x :: st) h r h' := go_astore hd (by simp only [List.length_cons]; show 6 < _; omega) K
theorem go_iinc_6 {b0 b1 b2 b3 b4 b5 : Option Value} {z : Int} {x v : Int32} (hd : Dc Y pc (.iinc 6 z) pc') (hv : x + Int32.ofInt z = v) (K : Go E Y d k n pc' (b0 :: b1 :: b2 :: b3 :: b4 :: b5 :: some (.int v) :: ls) st h r h') : Go E Y d k n pc (b0 :: b1 :: b2 :: b3 :: b4 :: b5 :: some (.int x) :: ls) st h r h' := go_iinc hd rfl hv K
theorem go_iload_7 {b0 b1 b2 b3 b4 b5 b6 : Option Value} {x : Int32} (hd : Dc Y pc (.iload 7) pc') (K : Go E Y d k n pc' (b0 :: b1 :: b2 :: b3 :: b4 :: b5 :: b6 :: some (.int x) :: ls) (.int x :: st) h r h') : Go E Y d k n pc (b0 :: b1 :: b2 :: b3 :: b4 :: b5 :: b6 :: some (.int x) :: ls) st h r h' := go_iload hd rfl K
theorem go_istore_7 {b0 b1 b2 b3 b4 b5 b6 b7 : Option Value} {x : Int32} (hd : Dc Y pc (.istore 7) pc') (K : Go E Y d k n pc' (b0 :: b1 :: b2 :: b3 :: b4 :: b5 :: b6 :: some (.int x) :: ls) st h r h') : Go E Y d k n pc (b0 :: b1 :: b2 :: b3 :: b4 :: b5 :: b6 :: b7 :: ls) (.int x :: st) h r h' := go_istore hd (by simp only [List.length_cons]; show 7 < _; omega) K
theorem go_aload_7 {b0 b1 b2 b3 b4 b5 b6 : Option Value} {x : Nat} (hd : Dc Y pc (.aload 7) pc') (K : Go E Y d k n pc' (b0 :: b1 :: b2 :: b3 :: b4 :: b5 :: b6 :: some (.ref x) :: ls) (.ref x :: st) h r h') : Go E Y d k n pc (b0 :: b1 :: b2 :: b3 :: b4 :: b5 :: b6 :: some (.ref x) :: ls) st h r h' := go_aload hd rfl K
theorem go_astore_7 {b0 b1 b2 b3 b4 b5 b6 b7 : Option Value} {x : Nat} (hd : Dc Y pc (.astore 7) pc') (K : Go E Y d k n pc' (b0 :: b1 :: b2 :: b3 :: b4 :: b5 :: b6 :: some (.ref x) :: ls) st h r h') : Go E Y d k n pc (b0 :: b1 :: b2 :: b3 :: b4 :: b5 :: b6 :: b7 :: ls) (.ref x :: st) h r h' := go_astore hd (by simp only [List.length_cons]; show 7 < _; omega) K
theorem go_iinc_7 {b0 b1 b2 b3 b4 b5 b6 : Option Value} {z : Int} {x v : Int32} (hd : Dc Y pc (.iinc 7 z) pc') (hv : x + Int32.ofInt z = v) (K : Go E Y d k n pc' (b0 :: b1 :: b2 :: b3 :: b4 :: b5 :: b6 :: some (.int v) :: ls) st h r h') : Go E Y d k n pc (b0 :: b1 :: b2 :: b3 :: b4 :: b5 :: b6 :: some (.int x) :: ls) st h r h' := go_iinc hd rfl hv K
theorem go_iload_8 {b0 b1 b2 b3 b4 b5 b6 b7 : Option Value} {x : Int32} (hd : Dc Y pc (.iload 8) pc') (K : Go E Y d k n pc' (b0 :: b1 :: b2 :: b3 :: b4 :: b5 :: b6 :: b7 :: some (.int x) :: ls) (.int x :: st) h r h') : Go E Y d k n pc (b0 :: b1 :: b2 :: b3 :: b4 :: b5 :: b6 :: b7 :: some (.int x) :: ls) st h r h' := go_iload hd rfl K
theorem go_istore_8 {b0 b1 b2 b3 b4 b5 b6 b7 b8 : Option Value} {x : Int32} (hd : Dc Y pc (.istore 8) pc') (K : Go E Y d k n pc' (b0 :: b1 :: b2 :: b3 :: b4 :: b5 :: b6 :: b7 :: some (.int x) :: ls) st h r h') : Go E Y d k n pc (b0 :: b1 :: b2 :: b3 :: b4 :: b5 :: b6 :: b7 :: b8 :: ls) (.int x :: st) h r h' := go_istore hd (by simp only [List.length_cons]; show 8 < _; omega) K
theorem go_aload_8 {b0 b1 b2 b3 b4 b5 b6 b7 : Option Value} {x : Nat} (hd : Dc Y pc (.aload 8) pc') (K : Go E Y d k n pc' (b0 :: b1 :: b2 :: b3 :: b4 :: b5 :: b6 :: b7 :: some (.ref x) :: ls) (.ref x :: st) h r h') : Go E Y d k n pc (b0 :: b1 :: b2 :: b3 :: b4 :: b5 :: b6 :: b7 :: some (.ref x) :: ls) st h r h' := go_aload hd rfl K
theorem go_astore_8 {b0 b1 b2 b3 b4 b5 b6 b7 b8 : Option Value} {x : Nat} (hd : Dc Y pc (.astore 8) pc') (K : Go E Y d k n pc' (b0 :: b1 :: b2 :: b3 :: b4 :: b5 :: b6 :: b7 :: some (.ref x) :: ls) st h r h') : Go E Y d k n pc (b0 :: b1 :: b2 :: b3 :: b4 :: b5 :: b6 :: b7 :: b8 :: ls) (.ref x :: st) h r h' := go_astore hd (by simp only [List.length_cons]; show 8 < _; omega) K
theorem go_iinc_8 {b0 b1 b2 b3 b4 b5 b6 b7 : Option Value} {z : Int} {x v : Int32} (hd : Dc Y pc (.iinc 8 z) pc') (hv : x + Int32.ofInt z = v) (K : Go E Y d k n pc' (b0 :: b1 :: b2 :: b3 :: b4 :: b5 :: b6 :: b7 :: some (.int v) :: ls) st h r h') : Go E Y d k n pc (b0 :: b1 :: b2 :: b3 :: b4 :: b5 :: b6 :: b7 :: some (.int x) :: ls) st h r h' := go_iinc hd rfl hv K
theorem go_iload_9 {b0 b1 b2 b3 b4 b5 b6 b7 b8 : Option Value} {x : Int32} (hd : Dc Y pc (.iload 9) pc') (K : Go E Y d k n pc' (b0 :: b1 :: b2 :: b3 :: b4 :: b5 :: b6 :: b7 :: b8 :: some (.int x) :: ls) (.int x :: st) h r h') : Go E Y d k n pc (b0 :: b1 :: b2 :: b3 :: b4 :: b5 :: b6 :: b7 :: b8 :: some (.int x) :: ls) st h r h' := go_iload hd rfl K
theorem go_istore_9 {b0 b1 b2 b3 b4 b5 b6 b7 b8 b9 : Option Value} {x : Int32} (hd : Dc Y pc (.istore 9) pc') (K : Go E Y d k n pc' (b0 :: b1 :: b2 :: b3 :: b4 :: b5 :: b6 :: b7 :: b8 :: some (.int x) :: ls) st h r h') : Go E Y d k n pc (b0 :: b1 :: b2 :: b3 :: b4 :: b5 :: b6 :: b7 :: b8 :: b9 :: ls) (.int x :: st) h r h' := go_istore hd (by simp only [List.length_cons]; show 9 < _; omega) K
theorem go_aload_9 {b0 b1 b2 b3 b4 b5 b6 b7 b8 : Option Value} {x : Nat} (hd : Dc Y pc (.aload 9) pc') (K : Go E Y d k n pc' (b0 :: b1 :: b2 :: b3 :: b4 :: b5 :: b6 :: b7 :: b8 :: some (.ref x) :: ls) (.ref x :: st) h r h') : Go E Y d k n pc (b0 :: b1 :: b2 :: b3 :: b4 :: b5 :: b6 :: b7 :: b8 :: some (.ref x) :: ls) st h r h' := go_aload hd rfl K
theorem go_astore_9 {b0 b1 b2 b3 b4 b5 b6 b7 b8 b9 : Option Value} {x : Nat} (hd : Dc Y pc (.astore 9) pc') (K : Go E Y d k n pc' (b0 :: b1 :: b2 :: b3 :: b4 :: b5 :: b6 :: b7 :: b8 :: some (.ref x) :: ls) st h r h') : Go E Y d k n pc (b0 :: b1 :: b2 :: b3 :: b4 :: b5 :: b6 :: b7 :: b8 :: b9 :: ls) (.ref x :: st) h r h' := go_astore hd (by simp only [List.length_cons]; show 9 < _; omega) K
theorem go_iinc_9 {b0 b1 b2 b3 b4 b5 b6 b7 b8 : Option Value} {z : Int} {x v : Int32} (hd : Dc Y pc (.iinc 9 z) pc') (hv : x + Int32.ofInt z = v) (K : Go E Y d k n pc' (b0 :: b1 :: b2 :: b3 :: b4 :: b5 :: b6 :: b7 :: b8 :: some (.int v) :: ls) st h r h') : Go E Y d k n pc (b0 :: b1 :: b2 :: b3 :: b4 :: b5 :: b6 :: b7 :: b8 :: some (.int x) :: ls) st h r h' := go_iinc hd rfl hv K
theorem go_iload_10 {b0 b1 b2 b3 b4 b5 b6 b7 b8 b9 : Option Value} {x : Int32} (hd : Dc Y pc (.iload 10) pc') (K : Go E Y d k n pc' (b0 :: b1 :: b2 :: b3 :: b4 :: b5 :: b6 :: b7 :: b8 :: b9 :: some (.int x) :: ls) (.int x :: st) h r h') : Go E Y d k n pc (b0 :: b1 :: b2 :: b3 :: b4 :: b5 :: b6 :: b7 :: b8 :: b9 :: some (.int x) :: ls) st h r h' := go_iload hd rfl K
theorem go_istore_10 {b0 b1 b2 b3 b4 b5 b6 b7 b8 b9 b10 : Option Value} {x : Int32} (hd : Dc Y pc (.istore 10) pc') (K : Go E Y d k n pc' (b0 :: b1 :: b2 :: b3 :: b4 :: b5 :: b6 :: b7 :: b8 :: b9 :: some (.int x) :: ls) st h r h') : Go E Y d k n pc (b0 :: b1 :: b2 :: b3 :: b4 :: b5 :: b6 :: b7 :: b8 :: b9 :: b10 :: ls) (.int x :: st) h r h' := go_istore hd (by simp only [List.length_cons]; show 10 < _; omega) K
theorem go_aload_10 {b0 b1 b2 b3 b4 b5 b6 b7 b8 b9 : Option Value} {x : Nat} (hd : Dc Y pc (.aload 10) pc') (K : Go E Y d k n pc' (b0 :: b1 :: b2 :: b3 :: b4 :: b5 :: b6 :: b7 :: b8 :: b9 :: some (.ref x) :: ls) (.ref x :: st) h r h') : Go E Y d k n pc (b0 :: b1 :: b2 :: b3 :: b4 :: b5 :: b6 :: b7 :: b8 :: b9 :: some (.ref x) :: ls) st h r h' := go_aload hd rfl K
theorem go_astore_10 {b0 b1 b2 b3 b4 b5 b6 b7 b8 b9 b10 : Option Value} {x : Nat} (hd : Dc Y pc (.astore 10) pc') (K : Go E Y d k n pc' (b0 :: b1 :: b2 :: b3 :: b4 :: b5 :: b6 :: b7 :: b8 :: b9 :: some (.ref x) :: ls) st h r h') : Go E Y d k n pc (b0 :: b1 :: b2 :: b3 :: b4 :: b5 :: b6 :: b7 :: b8 :: b9 :: b10 :: ls) (.ref x :: st) h r h' := go_astore hd (by simp only [List.length_cons]; show 10 < _; omega) K
theorem go_iinc_10 {b0 b1 b2 b3 b4 b5 b6 b7 b8 b9 : Option Value} {z : Int} {x v : Int32} (hd : Dc Y pc (.iinc 10 z) pc') (hv : x + Int32.ofInt z = v) (K : Go E Y d k n pc' (b0 :: b1 :: b2 :: b3 :: b4 :: b5 :: b6 :: b7 :: b8 :: b9 :: some (.int v) :: ls) st h r h') : Go E Y d k n pc (b0 :: b1 :: b2 :: b3 :: b4 :: b5 :: b6 :: b7 :: b8 :: b9 :: some (.int x) :: ls) st h r h' := go_iinc hd rfl hv K
theorem go_iload_11 {b0 b1 b2 b3 b4 b5 b6 b7 b8 b9 b10 : Option Value} {x : Int32} (hd : Dc Y pc (.iload 11) pc') (K : Go E Y d k n pc' (b0 :: b1 :: b2 :: b3 :: b4 :: b5 :: b6 :: b7 :: b8 :: b9 :: b10 :: some (.int x) :: ls) (.int x :: st) h r h') : Go E Y d k n pc (b0 :: b1 :: b2 :: b3 :: b4 :: b5 :: b6 :: b7 :: b8 :: b9 :: b10 :: some (.int x) :: ls) st h r h' := go_iload hd rfl K
theorem go_istore_11 {b0 b1 b2 b3 b4 b5 b6 b7 b8 b9 b10 b11 : Option Value} {x : Int32} (hd : Dc Y pc (.istore 11) pc') (K : Go E Y d k n pc' (b0 :: b1 :: b2 :: b3 :: b4 :: b5 :: b6 :: b7 :: b8 :: b9 :: b10 :: some (.int x) :: ls) st h r h') : Go E Y d k n pc (b0 :: b1 :: b2 :: b3 :: b4 :: b5 :: b6 :: b7 :: b8 :: b9 :: b10 :: b11 :: ls) (.int x :: st) h r h' := go_istore hd (by simp only [List.length_cons]; show 11 < _; omega) K
theorem go_aload_11 {b0 b1 b2 b3 b4 b5 b6 b7 b8 b9 b10 : Option Value} {x : Nat} (hd : Dc Y pc (.aload 11) pc') (K : Go E Y d k n pc' (b0 :: b1 :: b2 :: b3 :: b4 :: b5 :: b6 :: b7 :: b8 :: b9 :: b10 :: some (.ref x) :: ls) (.ref x :: st) h r h') : Go E Y d k n pc (b0 :: b1 :: b2 :: b3 :: b4 :: b5 :: b6 :: b7 :: b8 :: b9 :: b10 :: some (.ref x) :: ls) st h r h' := go_aload hd rfl K
theorem go_astore_11 {b0 b1 b2 b3 b4 b5 b6 b7 b8 b9 b10 b11 : Option Value} {x : Nat} (hd : Dc Y pc (.astore 11) pc') (K : Go E Y d k n pc' (b0 :: b1 :: b2 :: b3 :: b4 :: b5 :: b6 :: b7 :: b8 :: b9 :: b10 :: some (.ref x) :: ls) st h r h') : Go E Y d k n pc (b0 :: b1 :: b2 :: b3 :: b4 :: b5 :: b6 :: b7 :: b8 :: b9 :: b10 :: b11 :: ls) (.ref x :: st) h r h' := go_astore hd (by simp only [List.length_cons]; show 11 < _; omega) K
theorem go_iinc_11 {b0 b1 b2 b3 b4 b5 b6 b7 b8 b9 b10 : Option Value} {z : Int} {x v : Int32} (hd : Dc Y pc (.iinc 11 z) pc') (hv : x + Int32.ofInt z = v) (K : Go E Y d k n pc' (b0 :: b1 :: b2 :: b3 :: b4 :: b5 :: b6 :: b7 :: b8 :: b9 :: b10 :: some (.int v) :: ls) st h r h') : Go E Y d k n pc (b0 :: b1 :: b2 :: b3 :: b4 :: b5 :: b6 :: b7 :: b8 :: b9 :: b10 :: some (.int x) :: ls) st h r h' := go_iinc hd rfl hv K
theorem go_iload_12 {b0 b1 b2 b3 b4 b5 b6 b7 b8 b9 b10 b11 : Option Value} {x : Int32} (hd : Dc Y pc (.iload 12) pc') (K : Go E Y d k n pc' (b0 :: b1 :: b2 :: b3 :: b4 :: b5 :: b6 :: b7 :: b8 :: b9 :: b10 :: b11 :: some (.int x) :: ls) (.int x :: st) h r h') : Go E Y d k n pc (b0 :: b1 :: b2 :: b3 :: b4 :: b5 :: b6 :: b7 :: b8 :: b9 :: b10 :: b11 :: some (.int x) :: ls) st h r h' := go_iload hd rfl K
theorem go_istore_12 {b0 b1 b2 b3 b4 b5 b6 b7 b8 b9 b10 b11 b12 : Option Value} {x : Int32} (hd : Dc Y pc (.istore 12) pc') (K : Go E Y d k n pc' (b0 :: b1 :: b2 :: b3 :: b4 :: b5 :: b6 :: b7 :: b8 :: b9 :: b10 :: b11 :: some (.int x) :: ls) st h r h') : Go E Y d k n pc (b0 :: b1 :: b2 :: b3 :: b4 :: b5 :: b6 :: b7 :: b8 :: b9 :: b10 :: b11 :: b12 :: ls) (.int x :: st) h r h' := go_istore hd (by simp only [List.length_cons]; show 12 < _; omega) K
theorem go_aload_12 {b0 b1 b2 b3 b4 b5 b6 b7 b8 b9 b10 b11 : Option Value} {x : Nat} (hd : Dc Y pc (.aload 12) pc') (K : Go E Y d k n pc' (b0 :: b1 :: b2 :: b3 :: b4 :: b5 :: b6 :: b7 :: b8 :: b9 :: b10 :: b11 :: some (.ref x) :: ls) (.ref x :: st) h r h') : Go E Y d k n pc (b0 :: b1 :: b2 :: b3 :: b4 :: b5 :: b6 :: b7 :: b8 :: b9 :: b10 :: b11 :: some (.ref x) :: ls) st h r h' := go_aload hd rfl K
theorem go_astore_12 {b0 b1 b2 b3 b4 b5 b6 b7 b8 b9 b10 b11 b12 : Option Value} {x : Nat} (hd : Dc Y pc (.astore 12) pc') (K : Go E Y d k n pc' (b0 :: b1 :: b2 :: b3 :: b4 :: b5 :: b6 :: b7 :: b8 :: b9 :: b10 :: b11 :: some (.ref x) :: ls) st h r h') : Go E Y d k n pc (b0 :: b1 :: b2 :: b3 :: b4 :: b5 :: b6 :: b7 :: b8 :: b9 :: b10 :: b11 :: b12 :: ls) (.ref x :: st) h r h' := go_astore hd (by simp only [List.length_cons]; show 12 < _; omega) K
theorem go_iinc_12 {b0 b1 b2 b3 b4 b5 b6 b7 b8 b9 b10 b11 : Option Value} {z : Int} {x v : Int32} (hd : Dc Y pc (.iinc 12 z) pc') (hv : x + Int32.ofInt z = v) (K : Go E Y d k n pc' (b0 :: b1 :: b2 :: b3 :: b4 :: b5 :: b6 :: b7 :: b8 :: b9 :: b10 :: b11 :: some (.int v) :: ls) st h r h') : Go E Y d k n pc (b0 :: b1 :: b2 :: b3 :: b4 :: b5 :: b6 :: b7 :: b8 :: b9 :: b10 :: b11 :: some (.int x) :: ls) st h r h' := go_iinc hd rfl hv K
theorem go_iload_13 {b0 b1 b2 b3 b4 b5 b6 b7 b8 b9 b10 b11 b12 : Option Value} {x : Int32} (hd : Dc Y pc (.iload 13) pc') (K : Go E Y d k n pc' (b0 :: b1 :: b2 :: b3 :: b4 :: b5 :: b6 :: b7 :: b8 :: b9 :: b10 :: b11 :: b12 :: some (.int x) :: ls) (.int x :: st) h r h') : Go E Y d k n pc (b0 :: b1 :: b2 :: b3 :: b4 :: b5 :: b6 :: b7 :: b8 :: b9 :: b10 :: b11 :: b12 :: some (.int x) :: ls) st h r h' := go_iload hd rfl K
theorem go_istore_13 {b0 b1 b2 b3 b4 b5 b6 b7 b8 b9 b10 b11 b12 b13 : Option Value} {x : Int32} (hd : Dc Y pc (.istore 13) pc') (K : Go E Y d k n pc' (b0 :: b1 :: b2 :: b3 :: b4 :: b5 :: b6 :: b7 :: b8 :: b9 :: b10 :: b11 :: b12 :: some (.int x) :: ls) st h r h') : Go E Y d k n pc (b0 :: b1 :: b2 :: b3 :: b4 :: b5 :: b6 :: b7 :: b8 :: b9 :: b10 :: b11 :: b12 :: b13 :: ls) (.int x :: st) h r h' := go_istore hd (by simp only [List.length_cons]; show 13 < _; omega) K
theorem go_aload_13 {b0 b1 b2 b3 b4 b5 b6 b7 b8 b9 b10 b11 b12 : Option Value} {x : Nat} (hd : Dc Y pc (.aload 13) pc') (K : Go E Y d k n pc' (b0 :: b1 :: b2 :: b3 :: b4 :: b5 :: b6 :: b7 :: b8 :: b9 :: b10 :: b11 :: b12 :: some (.ref x) :: ls) (.ref x :: st) h r h') : Go E Y d k n pc (b0 :: b1 :: b2 :: b3 :: b4 :: b5 :: b6 :: b7 :: b8 :: b9 :: b10 :: b11 :: b12 :: some (.ref x) :: ls) st h r h' := go_aload hd rfl K
theorem go_astore_13 {b0 b1 b2 b3 b4 b5 b6 b7 b8 b9 b10 b11 b12 b13 : Option Value} {x : Nat} (hd : Dc Y pc (.astore 13) pc') (K : Go E Y d k n pc' (b0 :: b1 :: b2 :: b3 :: b4 :: b5 :: b6 :: b7 :: b8 :: b9 :: b10 :: b11 :: b12 :: some (.ref x) :: ls) st h r h') : Go E Y d k n pc (b0 :: b1 :: b2 :: b3 :: b4 :: b5 :: b6 :: b7 :: b8 :: b9 :: b10 :: b11 :: b12 :: b13 :: ls) (.ref x :: st) h r h' := go_astore hd (by simp only [List.length_cons]; show 13 < _; omega) K
theorem go_iinc_13 {b0 b1 b2 b3 b4 b5 b6 b7 b8 b9 b10 b11 b12 : Option Value} {z : Int} {x v : Int32} (hd : Dc Y pc (.iinc 13 z) pc') (hv : x + Int32.ofInt z = v) (K : Go E Y d k n pc' (b0 :: b1 :: b2 :: b3 :: b4 :: b5 :: b6 :: b7 :: b8 :: b9 :: b10 :: b11 :: b12 :: some (.int v) :: ls) st h r h') : Go E Y d k n pc (b0 :: b1 :: b2 :: b3 :: b4 :: b5 :: b6 :: b7 :: b8 :: b9 :: b10 :: b11 :: b12 :: some (.int x) :: ls) st h r h' := go_iinc hd rfl hv K
/-- field k of class ci, by the entry idx of class own -/
def FLk (own : String) (idx ci kf : Nat) : Prop := ∃ (C : String) (T : u_T) (N : Nat), vwCl[ci]? = some (C, T, N) ∧ kf < N ∧ (Jvm.Cond.fieldLink own idx (T kf).1 (T kf).2.1 (T kf).2.2.1 ∈ BW ∨ ∃ host, Jvm.Cond.fieldLinkNest own idx (T kf).1 (T kf).2.1 (T kf).2.2.1 host ∈ NW)
/-- what a class's words give, for all classes of the world -/
theorem cl_ok : ∀ (ci : Nat) (q : vw_C), vwCl[ci]? = some q → (∀ w ∈ u_ws q.1 q.2.1 q.2.2, w ∈ BW) := by
  intro ci q hq
  have key : vwCl.all (fun q => (u_ws q.1 q.2.1 q.2.2).all (fun w => decide (w ∈ lw_tbl) && goodWord w)) = true := by decide +kernel
  intro w hw
  have h1 := List.all_eq_true.mp (List.all_eq_true.mp key q (List.mem_of_getElem? hq)) w hw
  simp only [Bool.and_eq_true, decide_eq_true_eq] at h1
  exact BW_mem h1.1 h1.2
def clTy (ci : Nat) : Nat → FieldType := match ci with
  | 0 => tyX0 | 1 => tyX1 | 2 => tyX2 | 3 => tyX3 | 4 => tyX4 | 5 => tyX5 | _ => tyX6
theorem clTy_ok : ∀ (ci : Nat) (C : String) (T : u_T) (N : Nat), vwCl[ci]? = some (C, T, N) → (∀ j, j < N → parseFieldDescriptor (T j).2.2.1 = some (clTy ci j)) ∧ (∀ a, a < N → ∀ b, b < N → a ≠ b → (T a).2.1 ≠ (T b).2.1) := by
  intro ci C T N hq
  match ci, hq with
  | 0, hq => cases hq; exact ⟨tyX0_ok, nmX0⟩
  | 1, hq => cases hq; exact ⟨tyX1_ok, nmX1⟩
  | 2, hq => cases hq; exact ⟨tyX2_ok, nmX2⟩
  | 3, hq => cases hq; exact ⟨tyX3_ok, nmX3⟩
  | 4, hq => cases hq; exact ⟨tyX4_ok, nmX4⟩
  | 5, hq => cases hq; exact ⟨tyX5_ok, nmX5⟩
  | 6, hq => cases hq; exact ⟨tyX6_ok, nmX6⟩
  | i + 7, hq => simp at hq
theorem go_getfield {idx a ci kf : Nat} {fs : List Value} {v : Value} (hd : Dc Y pc (.getfield idx) pc') (hF : FLk Y.1.cls idx ci kf) (hg : h[a]? = some (.inr (ci, fs))) (hv : fs[kf]? = some v) (K : Go E Y d k n pc' ls (v :: st) h r h') : Go E Y d k n pc ls (.ref a :: st) h r h' := by
  intro p l e R s m args below meth c Q C ret H locs cells slots lsA hI hS hc hs hL
  obtain ⟨rfl, dd⟩ := hd.is (n := 2) rfl
  obtain ⟨CN, T, N, f1, f2, f3⟩ := hF
  have hE := C.2.2.2.2.2.1
  have hW := cW_get (E := E) hg
  have hv2 : (fs.map (cV E))[kf]? = some (cV E v) := by rw [List.getElem?_map, hv]; rfl
  show W p l e R s m args below meth c H locs cells slots Q (F0 m pc lsA (.ref (aR E a) :: st.map (cV E)))
  rw [aR_lo hI hg]
  rcases f3 with f3 | ⟨host, f3⟩
  · exact va_get C.1 C.2.1 C.2.2.2.2.1 (cl_ok ci _ f1) C.2.2.2.1 hE.1 hI.2.2 a hW f1 kf f2 (C.2.2.2.2.1 _ f3) (fun x hx => hx) hv2 dd (K p l e R s m args below meth c Q C ret H locs cells slots lsA hI hS hc hs hL)
  · exact va_getN C.1 C.2.1 C.2.2.2.2.1 (cl_ok ci _ f1) C.2.2.2.1 hE.1 hI.2.2 a hW f1 kf f2 (va_Nw.use rfl (hE.2.1 _ f3)) (fun x hx => hx) hv2 dd (K p l e R s m args below meth c Q C ret H locs cells slots lsA hI hS hc hs hL)
theorem Inv.set {H1 H : Heap} {a : Nat} {e : va_E} (hI : Inv E h H) (z : H1.size = H.size) (hP : va_P (ED E) vwCl ((cW E h).set a (EB E + a, cE E e)) H1) : Inv E (h.set a e) H1 := by
  refine ⟨by rw [List.length_set]; exact hI.1, by rw [List.length_set, z]; exact hI.2.1, ?_⟩
  rw [← cW_set]
  exact hP
/-- a field that isn't final -/
theorem go_putfield {idx a ci kf : Nat} {C0 : String} {T : u_T} {N : Nat} {fs : List Value} {v : Value} (hd : Dc Y pc (.putfield idx) pc') (hF : FLk Y.1.cls idx ci kf) (hcl : vwCl[ci]? = some (C0, T, N)) (hfin : (T kf).2.2.2 = false) (hg : h[a]? = some (.inr (ci, fs))) (hl : kf < fs.length)
    (hty : ∀ w : Value, w = cV E v → narrow (clTy ci kf) w = w ∧ fits (clTy ci kf) w = true) (K : Go E Y d k n pc' ls st (h.set a (.inr (ci, fs.set kf v))) r h') : Go E Y d k n pc ls (v :: .ref a :: st) h r h' := by
  intro p l e R s m args below meth c Q C ret H locs cells slots lsA hI hS hc hs hL
  obtain ⟨rfl, dd⟩ := hd.is (n := 2) rfl
  obtain ⟨CN, T', N', f1, f2, f3⟩ := hF
  cases f1.symm.trans hcl
  have hE := C.2.2.2.2.2.1
  have hx := C.1
  have hb := C.2.1
  have hown := C.2.2.2.1
  have hts := C.2.2.2.2.1
  have hin := cl_ok ci _ hcl
  have hK := hE.1
  obtain ⟨hty0, hnm⟩ := clTy_ok ci _ _ _ hcl
  obtain ⟨hn, hfit⟩ := hty _ rfl
  have he := cW_get (E := E) hg
  have hP := hI.2.2
  show W p l e R s m args below meth c H locs cells slots Q (F0 m pc lsA (cV E v :: .ref (aR E a) :: st.map (cV E)))
  rw [aR_lo hI hg]
  have hap := va_apart (own := Y.1.cls) hts hin (clTy ci) hty0 hnm hK hcl
  obtain ⟨r', h1, cell, q1, q2, q3, q4⟩ := hP a _ he
  cases h1.symm.trans hcl
  obtain ⟨hSl, hfc, kC, hkC, hkind⟩ := hK.1 ci _ hcl
  obtain ⟨cf, kf', fi, f, hi, hsl⟩ := hSl kf f2
  have hlay := hts _ (hin _ (u_in_lay f2))
  unfold u_lay at hlay
  rw [if_neg (by rw [hfin]; decide)] at hlay
  have hst := (u_facts hfc hkC (u_lays hts hin f2) hi).1
  have h6 := u_store hfc hkC hkind hlay hi (hty0 kf f2) hn hfit
  have hlen : kf < (fs.map (cV E)).length := by rw [List.length_map]; exact hl
  have fin : ∀ H1 : Heap, H1[EB E + a]? = some (cell.setSlot f.slot (cV E v)) → H1.size = H.size → (∀ q, q ≠ EB E + a → H1[q]? = H[q]?) → W p l e R s m args below meth c H locs cells slots Q (F0 m pc lsA (cV E v :: .ref (EB E + a) :: st.map (cV E))) ∨ W p l e R s m args below meth c H1 (locs ++ [⟨EB E + a, f.slot⟩]) cells slots Q (F0 m (pc + 3) lsA (st.map (cV E))) := by
    intro H1 e1 e2 e3
    refine Or.inr (K p l e R s m args below meth c Q C ret H1 _ cells slots lsA (hI.set e2 ?_) (hS.put e2 e3 (cW_D.2 a _ he)) hc hs hL)
    have e4 := hP.set cW_D he (e := .inr (ci, (fs.map (cV E)).set kf (cV E v))) ⟨_, hcl, t_OB.to (V := updV (vp_V (fs.map (cV E))) kf (cV E v)) ⟨_, e1, q2, q3, by rw [hsl]; exact t_set q4 hap f2 (cV E v)⟩ (fun j _ => vp_updV_set hlen (cV E v) j)⟩ e3
    rw [show (fs.map (cV E)).set kf (cV E v) = (fs.set kf v).map (cV E) from by rw [List.map_set]] at e4
    exact e4
  rcases f3 with f3 | ⟨host, f3⟩
  · refine W.putK hx hb (f := f) ⟨hown, hts _ f3, ⟨_, _, _, hi⟩, hst⟩ (by rw [q2]; exact h6) q1 q3 (by rw [hsl]; exact k2_hasslot (q4 kf f2)) rfl rfl dd fun H1 e1 e2 e3 => ?_
    refine K p l e R s m args below meth c Q C ret H1 _ cells slots lsA (hI.set e2 ?_) (hS.put e2 e3 (cW_D.2 a _ he)) hc hs hL
    have e4 := hP.set cW_D he (e := .inr (ci, (fs.map (cV E)).set kf (cV E v))) ⟨_, hcl, t_OB.to (V := updV (vp_V (fs.map (cV E))) kf (cV E v)) ⟨_, e1, q2, q3, by rw [hsl]; exact t_set q4 hap f2 (cV E v)⟩ (fun j _ => vp_updV_set hlen (cV E v) j)⟩ e3
    rw [show (fs.map (cV E)).set kf (cV E v) = (fs.set kf v).map (cV E) from by rw [List.map_set]] at e4
    exact e4
  · refine va_WputK hx hb (f := f) hown (va_Nw.use rfl (hE.2.1 _ f3)) hi hst (by rw [q2]; exact h6) q1 q3 (by rw [hsl]; exact k2_hasslot (q4 kf f2)) rfl rfl dd fun H1 e1 e2 e3 => ?_
    refine K p l e R s m args below meth c Q C ret H1 _ cells slots lsA (hI.set e2 ?_) (hS.put e2 e3 (cW_D.2 a _ he)) hc hs hL
    have e4 := hP.set cW_D he (e := .inr (ci, (fs.map (cV E)).set kf (cV E v))) ⟨_, hcl, t_OB.to (V := updV (vp_V (fs.map (cV E))) kf (cV E v)) ⟨_, e1, q2, q3, by rw [hsl]; exact t_set q4 hap f2 (cV E v)⟩ (fun j _ => vp_updV_set hlen (cV E v) j)⟩ e3
    rw [show (fs.map (cV E)).set kf (cV E v) = (fs.set kf v).map (cV E) from by rw [List.map_set]] at e4
    exact e4
/-- a final field, in a constructor of its own class -/
theorem go_putfinal {idx a ci kf : Nat} {C0 : String} {T : u_T} {N : Nat} {fs : List Value} {v : Value} (hd : Dc Y pc (.putfield idx) pc') (hF : Jvm.Cond.fieldLink Y.1.cls idx (T kf).1 (T kf).2.1 (T kf).2.2.1 ∈ BW) (hcl : vwCl[ci]? = some (C0, T, N)) (hkN : kf < N) (hfin : (T kf).2.2.2 = true) (hin2 : Y.1.name = "<init>") (hdecl : (T kf).1 = Y.1.cls) (hg : h[a]? = some (.inr (ci, fs))) (hl : kf < fs.length)
    (hty : ∀ w : Value, w = cV E v → narrow (clTy ci kf) w = w ∧ fits (clTy ci kf) w = true) (K : Go E Y d k n pc' ls st (h.set a (.inr (ci, fs.set kf v))) r h') : Go E Y d k n pc ls (v :: .ref a :: st) h r h' := by
  intro p l e R s m args below meth c Q C ret H locs cells slots lsA hI hS hc hs hL
  obtain ⟨rfl, dd⟩ := hd.is (n := 2) rfl
  have hE := C.2.2.2.2.2.1
  have hx := C.1
  have hb := C.2.1
  have hown := C.2.2.2.1
  have hts := C.2.2.2.2.1
  have hin := cl_ok ci _ hcl
  have hK := hE.1
  obtain ⟨hty0, hnm⟩ := clTy_ok ci _ _ _ hcl
  obtain ⟨hn, hfit⟩ := hty _ rfl
  have he := cW_get (E := E) hg
  have hP := hI.2.2
  show W p l e R s m args below meth c H locs cells slots Q (F0 m pc lsA (cV E v :: .ref (aR E a) :: st.map (cV E)))
  rw [aR_lo hI hg]
  have hap := va_apart (own := Y.1.cls) hts hin (clTy ci) hty0 hnm hK hcl
  obtain ⟨r', h1, cell, q1, q2, q3, q4⟩ := hP a _ he
  cases h1.symm.trans hcl
  obtain ⟨hSl, hfc, kC, hkC, hkind⟩ := hK.1 ci _ hcl
  obtain ⟨cf, kf', fi, f, hi, hsl⟩ := hSl kf hkN
  have hlay := hts _ (hin _ (u_in_lay hkN))
  unfold u_lay at hlay
  rw [if_pos hfin] at hlay
  have hst := (u_facts hfc hkC (u_lays hts hin hkN) hi).1
  have hcf : m.cls = cf := by
    obtain ⟨_, _, c', _, _, _, -, -, hf', -, -, -, hown2, -⟩ := Cond.laysFinal_spec hlay
    have e1 : c' = cf := by have := hi.symm.trans hf'; simp at this; exact this.1.symm
    rw [hdecl] at hown2
    rw [← e1]; exact Option.some.inj (hown.symm.trans hown2)
  have h6 := u_fits hfc hkC hkind (Or.inr hlay) hi (hty0 kf hkN) hn hfit
  have hlen : kf < (fs.map (cV E)).length := by rw [List.length_map]; exact hl
  refine W.putFinK hx hb hown (hts _ hF) hi hst hcf (C.2.2.2.2.2.2.2.2.trans hin2) (by rw [q2]; exact h6) q1 q3 (by rw [hsl]; exact k2_hasslot (q4 kf hkN)) rfl rfl dd fun H1 e1 e2 e3 => ?_
  refine K p l e R s m args below meth c Q C ret H1 _ cells slots lsA (hI.set e2 ?_) (hS.put e2 e3 (cW_D.2 a _ he)) hc hs hL
  have e4 := hP.set cW_D he (e := .inr (ci, (fs.map (cV E)).set kf (cV E v))) ⟨_, hcl, t_OB.to (V := updV (vp_V (fs.map (cV E))) kf (cV E v)) ⟨_, e1, q2, q3, by rw [hsl]; exact t_set q4 hap hkN (cV E v)⟩ (fun j _ => vp_updV_set hlen (cV E v) j)⟩ e3
  rw [show (fs.map (cV E)).set kf (cV E v) = (fs.set kf v).map (cV E) from by rw [List.map_set]] at e4
  exact e4
/-- POWERS, INVERSES -/
theorem go_powers {idx : Nat} (hd : Dc Y pc (.getstatic idx) pc') (hF : Jvm.Cond.fieldLink Y.1.cls idx "LocalMenders" "POWERS" "[I" ∈ BW ∨ ∃ host, Jvm.Cond.fieldLinkNest Y.1.cls idx "LocalMenders" "POWERS" "[I" host ∈ NW) (K : Go E Y d k n pc' ls (.ref BIGN :: st) h r h') : Go E Y d k n pc ls st h r h' := by
  intro p l e R s m args below meth c Q C ret H locs cells slots lsA hI hS hc hs hL
  obtain ⟨rfl, dd⟩ := hd.is (n := 2) rfl
  have hE := C.2.2.2.2.2.1
  rcases hF with hF | ⟨host, hF⟩
  · exact va_gets C.1 C.2.1 hE.2.2.2.2.2.2.2.1 hS C.2.2.2.1 (C.2.2.2.2.1 _ hF) (fun x hx => hx) dd (K p l e R s m args below meth c Q C ret H locs cells slots lsA hI hS hc hs hL)
  · exact va_getsN C.1 C.2.1 hE.2.2.2.2.2.2.2.1 hS C.2.2.2.1 (va_Nw.use rfl (hE.2.1 _ hF)) (fun x hx => hx) dd (K p l e R s m args below meth c Q C ret H locs cells slots lsA hI hS hc hs hL)
theorem go_inverses {idx : Nat} (hd : Dc Y pc (.getstatic idx) pc') (hF : Jvm.Cond.fieldLink Y.1.cls idx "LocalMenders" "INVERSES" "[I" ∈ BW ∨ ∃ host, Jvm.Cond.fieldLinkNest Y.1.cls idx "LocalMenders" "INVERSES" "[I" host ∈ NW) (K : Go E Y d k n pc' ls (.ref (BIGN + 1) :: st) h r h') : Go E Y d k n pc ls st h r h' := by
  intro p l e R s m args below meth c Q C ret H locs cells slots lsA hI hS hc hs hL
  obtain ⟨rfl, dd⟩ := hd.is (n := 2) rfl
  have hE := C.2.2.2.2.2.1
  rcases hF with hF | ⟨host, hF⟩
  · exact va_gets C.1 C.2.1 hE.2.2.2.2.2.2.2.2 hS C.2.2.2.1 (C.2.2.2.2.1 _ hF) (fun x hx => hx) dd (K p l e R s m args below meth c Q C ret H locs cells slots lsA hI hS hc hs hL)
  · exact va_getsN C.1 C.2.1 hE.2.2.2.2.2.2.2.2 hS C.2.2.2.1 (va_Nw.use rfl (hE.2.1 _ hF)) (fun x hx => hx) dd (K p l e R s m args below meth c Q C ret H locs cells slots lsA hI hS hc hs hL)
/-! arrays: '.inl (0, n, .inl f)': ints; '.inl (1, ..)': chars; '.inl (2, n, ..)': States -/
/-- an int array that can be read -/
def ArrR (E : AEnv) (h : List va_E) (a n : Nat) (f : Nat → Int32) : Prop :=
  h[a]? = some (.inl (0, n, .inl f)) ∨ (a = BIGN ∧ n = 15 ∧ f = POWf) ∨ (a = BIGN + 1 ∧ n = 16 ∧ f = INVf) ∨ (a = BIGN + 2 ∧ n = (ESc E).1 ∧ f = (ESc E).2)
theorem go_iaload {a N : Nat} {f : Nat → Int32} {i : Int32} (hd : Dc Y pc .iaload pc') (hg : ArrR E h a N f) (hin : vp_in i N) (K : Go E Y d k n pc' ls (.int (f i.toNatClampNeg) :: st) h r h') : Go E Y d k n pc ls (.int i :: .ref a :: st) h r h' := by
  intro p l e R s m args below meth c Q C ret H locs cells slots lsA hI hS hc hs hL
  obtain ⟨rfl, dd⟩ := hd.is (n := 0) rfl
  have hE := C.2.2.2.2.2.1
  rcases hg with hg | ⟨rfl, rfl, rfl⟩ | ⟨rfl, rfl, rfl⟩ | ⟨rfl, rfl, rfl⟩
  · have hW := cW_get (E := E) hg
    show W p l e R s m args below meth c H locs cells slots Q (F0 m pc lsA (.int i :: .ref (aR E a) :: st.map (cV E)))
    rw [aR_lo hI hg]
    exact va_iald C.1 C.2.1 hE.1 hI.2.2 a 0 hW rfl hin dd (K p l e R s m args below meth c Q C ret H locs cells slots lsA hI hS hc hs hL)
  · exact va_ti (v := .int (POWf i.toNatClampNeg)) C.1 C.2.1 hE.2.2.2.2.1 hS hin rfl dd (K p l e R s m args below meth c Q C ret H locs cells slots lsA hI hS hc hs hL)
  · exact va_ti (v := .int (INVf i.toNatClampNeg)) C.1 C.2.1 hE.2.2.2.2.2.1 hS hin rfl dd (K p l e R s m args below meth c Q C ret H locs cells slots lsA hI hS hc hs hL)
  · exact va_ti (v := .int ((ESc E).2 i.toNatClampNeg)) C.1 C.2.1 hE.2.2.2.2.2.2.1 hS hin rfl dd (K p l e R s m args below meth c Q C ret H locs cells slots lsA hI hS hc hs hL)
theorem go_alen {a N : Nat} {f : Nat → Int32} {v : Int32} (hd : Dc Y pc .arraylength pc') (hg : ArrR E h a N f) (hv : Int32.ofNat N = v) (K : Go E Y d k n pc' ls (.int v :: st) h r h') : Go E Y d k n pc ls (.ref a :: st) h r h' := by
  intro p l e R s m args below meth c Q C ret H locs cells slots lsA hI hS hc hs hL
  obtain ⟨rfl, dd⟩ := hd.is (n := 0) rfl
  have hE := C.2.2.2.2.2.1
  rcases hg with hg | ⟨rfl, rfl, rfl⟩ | ⟨rfl, rfl, rfl⟩ | ⟨rfl, rfl, rfl⟩
  · have hW := cW_get (E := E) hg
    show W p l e R s m args below meth c H locs cells slots Q (F0 m pc lsA (.ref (aR E a) :: st.map (cV E)))
    rw [aR_lo hI hg]
    exact va_alen C.1 C.2.1 hE.1 hI.2.2 a 0 hW rfl hv dd (K p l e R s m args below meth c Q C ret H locs cells slots lsA hI hS hc hs hL)
  · exact va_tlen C.1 C.2.1 hE.2.2.2.2.1 hS hv dd (K p l e R s m args below meth c Q C ret H locs cells slots lsA hI hS hc hs hL)
  · exact va_tlen C.1 C.2.1 hE.2.2.2.2.2.1 hS hv dd (K p l e R s m args below meth c Q C ret H locs cells slots lsA hI hS hc hs hL)
  · exact va_tlen C.1 C.2.1 hE.2.2.2.2.2.2.1 hS hv dd (K p l e R s m args below meth c Q C ret H locs cells slots lsA hI hS hc hs hL)
theorem go_alenC {a N : Nat} {f : Nat → Int32} {v : Int32} (hd : Dc Y pc .arraylength pc') (hg : h[a]? = some (.inl (1, N, .inl f))) (hv : Int32.ofNat N = v) (K : Go E Y d k n pc' ls (.int v :: st) h r h') : Go E Y d k n pc ls (.ref a :: st) h r h' := by
  intro p l e R s m args below meth c Q C ret H locs cells slots lsA hI hS hc hs hL
  obtain ⟨rfl, dd⟩ := hd.is (n := 0) rfl
  have hE := C.2.2.2.2.2.1
  have hW := cW_get (E := E) hg
  show W p l e R s m args below meth c H locs cells slots Q (F0 m pc lsA (.ref (aR E a) :: st.map (cV E)))
  rw [aR_lo hI hg]
  exact va_alen C.1 C.2.1 hE.1 hI.2.2 a 1 hW rfl hv dd (K p l e R s m args below meth c Q C ret H locs cells slots lsA hI hS hc hs hL)
theorem go_alenS {a N : Nat} {f : Nat → Option Nat} {v : Int32} (hd : Dc Y pc .arraylength pc') (hg : h[a]? = some (.inl (2, N, .inr (.inr (.inr (.inr f)))))) (hv : Int32.ofNat N = v) (K : Go E Y d k n pc' ls (.int v :: st) h r h') : Go E Y d k n pc ls (.ref a :: st) h r h' := by
  intro p l e R s m args below meth c Q C ret H locs cells slots lsA hI hS hc hs hL
  obtain ⟨rfl, dd⟩ := hd.is (n := 0) rfl
  have hE := C.2.2.2.2.2.1
  have hW := cW_get (E := E) hg
  show W p l e R s m args below meth c H locs cells slots Q (F0 m pc lsA (.ref (aR E a) :: st.map (cV E)))
  rw [aR_lo hI hg]
  exact va_alen C.1 C.2.1 hE.1 hI.2.2 a 2 hW rfl hv dd (K p l e R s m args below meth c Q C ret H locs cells slots lsA hI hS hc hs hL)
theorem go_caload {a N : Nat} {f : Nat → Int32} {i : Int32} (hd : Dc Y pc .caload pc') (hg : h[a]? = some (.inl (1, N, .inl f))) (hin : vp_in i N) (K : Go E Y d k n pc' ls (.int (f i.toNatClampNeg) :: st) h r h') : Go E Y d k n pc ls (.int i :: .ref a :: st) h r h' := by
  intro p l e R s m args below meth c Q C ret H locs cells slots lsA hI hS hc hs hL
  obtain ⟨rfl, dd⟩ := hd.is (n := 0) rfl
  have hE := C.2.2.2.2.2.1
  have hW := cW_get (E := E) hg
  show W p l e R s m args below meth c H locs cells slots Q (F0 m pc lsA (.int i :: .ref (aR E a) :: st.map (cV E)))
  rw [aR_lo hI hg]
  exact va_cald C.1 C.2.1 hE.1 hI.2.2 a 1 hW rfl hin dd (K p l e R s m args below meth c Q C ret H locs cells slots lsA hI hS hc hs hL)
theorem go_aaload {a N b : Nat} {f : Nat → Option Nat} {i : Int32} (hd : Dc Y pc .aaload pc') (hg : h[a]? = some (.inl (2, N, .inr (.inr (.inr (.inr f)))))) (hin : vp_in i N) (hb : f i.toNatClampNeg = some b) (K : Go E Y d k n pc' ls (.ref b :: st) h r h') : Go E Y d k n pc ls (.int i :: .ref a :: st) h r h' := by
  intro p l e R s m args below meth c Q C ret H locs cells slots lsA hI hS hc hs hL
  obtain ⟨rfl, dd⟩ := hd.is (n := 0) rfl
  have hE := C.2.2.2.2.2.1
  have hW := cW_get (E := E) hg
  show W p l e R s m args below meth c H locs cells slots Q (F0 m pc lsA (.int i :: .ref (aR E a) :: st.map (cV E)))
  rw [aR_lo hI hg]
  refine va_aldq C.1 C.2.1 hE.1 hI.2.2 a 2 hW rfl hin dd ?_
  show W p l e R s m args below meth c H locs cells slots Q (F0 m (pc + 1) lsA (va_rf ((f i.toNatClampNeg).map (aR E)) :: st.map (cV E)))
  rw [hb]
  exact (K p l e R s m args below meth c Q C ret H locs cells slots lsA hI hS hc hs hL)
theorem go_iastore {a N : Nat} {f : Nat → Int32} {i x : Int32} (hd : Dc Y pc .iastore pc') (hg : h[a]? = some (.inl (0, N, .inl f))) (hin : vp_in i N) (K : Go E Y d k n pc' ls st (h.set a (.inl (0, N, .inl (upd f i.toNatClampNeg x)))) r h') : Go E Y d k n pc ls (.int x :: .int i :: .ref a :: st) h r h' := by
  intro p l e R s m args below meth c Q C ret H locs cells slots lsA hI hS hc hs hL
  obtain ⟨rfl, dd⟩ := hd.is (n := 0) rfl
  have hE := C.2.2.2.2.2.1
  have he := cW_get (E := E) hg
  have hP := hI.2.2
  show W p l e R s m args below meth c H locs cells slots Q (F0 m pc lsA (.int x :: .int i :: .ref (aR E a) :: st.map (cV E)))
  rw [aR_lo hI hg]
  refine W.iast C.1 C.2.1 (hP a _ he) ((hE.1.2 0 (ETc E 0, .int) rfl).1 N (fun j => .int (f j))) (fun q => by cases q) (by show ¬ (i < 0 ∨ (arrV _ _ _).slots.size ≤ _); rw [arrV_size]; exact hin) rfl rfl dd fun H1 e1 z oq => ?_
  refine K p l e R s m args below meth c Q C ret H1 _ cells slots lsA (hI.set z (hP.set cW_D he ?_ oq)) (hS.put z oq (cW_D.2 a _ he)) hc hs hL
  show H1[EB E + a]? = some (vp_cell _ _)
  rw [e1]
  show some (Cell.setSlot (vp_cell (ETc E 0) (N, .inl f)) _ _) = some (vp_cell (ETc E 0) (N, .inl (upd f i.toNatClampNeg x)))
  rw [vp_cell_i, vp_cell_i, arrV_store]
  congr 2
  funext q
  by_cases hq : q = i.toNatClampNeg
  · subst hq
    simp [updV, upd]
  · simp [updV, upd, hq]
theorem go_castore {a N : Nat} {f : Nat → Int32} {i x : Int32} (hd : Dc Y pc .castore pc') (hg : h[a]? = some (.inl (1, N, .inl f))) (hin : vp_in i N) (K : Go E Y d k n pc' ls st (h.set a (.inl (1, N, .inl (upd f i.toNatClampNeg (vp_nar .char x))))) r h') : Go E Y d k n pc ls (.int x :: .int i :: .ref a :: st) h r h' := by
  intro p l e R s m args below meth c Q C ret H locs cells slots lsA hI hS hc hs hL
  obtain ⟨rfl, dd⟩ := hd.is (n := 0) rfl
  have hE := C.2.2.2.2.2.1
  have he := cW_get (E := E) hg
  have hP := hI.2.2
  show W p l e R s m args below meth c H locs cells slots Q (F0 m pc lsA (.int x :: .int i :: .ref (aR E a) :: st.map (cV E)))
  rw [aR_lo hI hg]
  refine W.cast C.1 C.2.1 (hP a _ he) ((hE.1.2 1 (ETc E 1, .char) rfl).1 N (fun j => .int (f j))) (fun q => by cases q) (by show ¬ (i < 0 ∨ (arrV _ _ _).slots.size ≤ _); rw [arrV_size]; exact hin) rfl rfl dd fun H1 e1 z oq => ?_
  refine K p l e R s m args below meth c Q C ret H1 _ cells slots lsA (hI.set z (hP.set cW_D he ?_ oq)) (hS.put z oq (cW_D.2 a _ he)) hc hs hL
  show H1[EB E + a]? = some (vp_cell _ _)
  rw [e1]
  show some (Cell.setSlot (vp_cell (ETc E 1) (N, .inl f)) _ _) = some (vp_cell (ETc E 1) (N, .inl (upd f i.toNatClampNeg (vp_nar .char x))))
  rw [vp_cell_i, vp_cell_i, arrV_store]
  congr 2
  funext q
  by_cases hq : q = i.toNatClampNeg
  · subst hq
    simp [updV, upd, vp_nar]
    try rfl
  · simp [updV, upd, hq]
theorem go_aastore {a N b : Nat} {f : Nat → Option Nat} {i : Int32} {fs : List Value} (hd : Dc Y pc .aastore pc') (hg : h[a]? = some (.inl (2, N, .inr (.inr (.inr (.inr f)))))) (hin : vp_in i N) (hb : h[b]? = some (.inr (4, fs))) (K : Go E Y d k n pc' ls st (h.set a (.inl (2, N, .inr (.inr (.inr (.inr (va_up f i.toNatClampNeg (some b)))))))) r h') : Go E Y d k n pc ls (.ref b :: .int i :: .ref a :: st) h r h' := by
  intro p l e R s m args below meth c Q C ret H locs cells slots lsA hI hS hc hs hL
  obtain ⟨rfl, dd⟩ := hd.is (n := 0) rfl
  have hE := C.2.2.2.2.2.1
  have hK := hE.1
  have he := cW_get (E := E) hg
  have hv := cW_get (E := E) hb
  have hP := hI.2.2
  have eb := aR_lo hI hb
  show W p l e R s m args below meth c H locs cells slots Q (F0 m pc lsA (.ref (aR E b) :: .int i :: .ref (aR E a) :: st.map (cV E)))
  rw [aR_lo hI hg, eb]
  have hlt : i.toNatClampNeg < N := Nat.not_le.mp fun q => hin (Or.inr q)
  have h0 : ¬ i < 0 := fun q => hin (Or.inl q)
  obtain ⟨r', hr', cellV, g1, g2, g3, -⟩ := hP b _ hv
  have hcls := (hK.1 4 (RX4, TX4, 14) rfl).2
  obtain ⟨kA, comp, k1, k2, k3, -⟩ := (hK.2 2 (ETc E 2, .object RX4) rfl).2
  have hcomp : comp = (ED E).1 4 := Option.some.inj (k3.symm.trans hcls.1)
  subst hcomp
  obtain ⟨kC, hkC, -⟩ := hcls.2
  refine W.aast C.1 C.2.1 (hP a _ he) (fun q h => by cases h) (fun h => by cases h) k1 k2 rfl hkC ⟨h0, by show _ < (arrV _ _ _).slots.size; rw [arrV_size]; exact hlt⟩ g1 (fun q h => by rw [g3] at h; cases h) (by rw [g2]; exact hkC) (by rw [g2]; exact va_assign hcls) rfl rfl dd fun H1 e1 z oq => ?_
  refine K p l e R s m args below meth c Q C ret H1 _ cells slots lsA (hI.set z (hP.set cW_D he ?_ oq)) (hS.put z oq (cW_D.2 a _ he)) hc hs hL
  show H1[EB E + a]? = some (vp_cell _ _)
  rw [e1]
  show some (Cell.setSlot (vp_cell (ETc E 2) (N, .inr (.inr (.inr (.inr (fun j => (f j).map (aR E))))))) _ _) = some (vp_cell (ETc E 2) (N, .inr (.inr (.inr (.inr (fun j => (va_up f i.toNatClampNeg (some b) j).map (aR E)))))))
  rw [vp_cell_q, vp_cell_q, arrV_store]
  congr 2
  funext q
  by_cases hq : q = i.toNatClampNeg
  · subst hq
    simp [updV, va_up, va_rf, eb]
  · simp [updV, va_up, hq]

end GR
end
section
/-! ENTRY, END, CALLS AND MAKING -/
section GC
variable {E : AEnv} {Y : MI} {d k n pc pc' : Nat} {ls : List (Option Value)} {st : List Value} {h h' : List va_E} {r : Option Value}
theorem go_ireturn {x : Int32} (hd : Dc Y pc .ireturn pc') : Go E Y d k n pc ls [.int x] h (some (.int x)) h := by
  intro p l e R s m args below meth c Q C ret H locs cells slots lsA hI hS hc hs hL
  obtain ⟨rfl, dd⟩ := hd.is (n := 0) rfl
  exact ret H locs cells slots lsA pc hI hS (by omega) (by omega) dd
theorem go_return (hd : Dc Y pc .return_ pc') : Go E Y d k n pc ls [] h none h := by
  intro p l e R s m args below meth c Q C ret H locs cells slots lsA hI hS hc hs hL
  obtain ⟨rfl, dd⟩ := hd.is (n := 0) rfl
  exact ret H locs cells slots lsA pc hI hS (by omega) (by omega) dd
theorem sl_len : ∀ (vs : List Value), (∀ v ∈ vs, v.category = 1) → (lg_sl vs).length = vs.length
  | [], _ => rfl
  | v :: vs, hv => by
    have h1 := hv v List.mem_cons_self
    have h2 := sl_len vs (fun w hw => hv w (List.mem_cons_of_mem _ hw))
    have h3 : lg_sl (v :: vs) = [.val v] ++ lg_sl vs := by
      simp [lg_sl, h1]
    rw [h3, List.length_append, h2, List.length_cons]
    simp only [List.length_cons, List.length_nil]
    omega
theorem args_mem : ∀ (vs : List Value) (a i : Nat) (v : Value), (∀ w ∈ vs, w.category = 1) → vs[i]? = some v → (a + i, v) ∈ lv_args a vs
  | [], _, _, _, _, hi => by simp at hi
  | w :: vs, a, 0, v, hv, hi => by
    rw [List.getElem?_cons_zero] at hi
    cases hi
    exact List.mem_cons_self
  | w :: vs, a, i + 1, v, hv, hi => by
    rw [List.getElem?_cons_succ] at hi
    have h1 := hv w List.mem_cons_self
    have h2 := args_mem vs (a + 1) i v (fun z hz => hv z (List.mem_cons_of_mem _ hz)) hi
    show _ ∈ (a, w) :: lv_args (if w.category = 2 then a + 2 else a + 1) vs
    rw [if_neg (by omega)]
    rw [show a + (i + 1) = a + 1 + i by omega]
    exact List.mem_cons_of_mem _ h2
def RetOK (Y : MI) (r : Option Value) : Prop := (r = none ∧ Y.2.2.2 = none) ∨ ∃ (x : Int32) (ty : FieldType), r = some (.int x) ∧ Y.2.2.2 = some ty ∧ narrow ty (.int x) = .int x
theorem Calls.of {args : List Value} (hpl : plainName Y.1.cls = true) (hls : args.map some ++ List.replicate (Y.2.2.1 - args.length) none = ls) (hlen : args.length ≤ Y.2.2.1) (hcat : ∀ v ∈ args, v.category = 1) (hr : RetOK Y r)
    (G : Go E Y d k n 0 ls [] h r h') : Calls E Y d k n args h r h' := by
  intro l
  refine Met.ofW (cc := Y.2.1) (maxL := Y.2.2.1) (ret := Y.2.2.2) hpl rfl ?_
  intro p e s m av below meth c s₁ B hml hv
  obtain ⟨rfl, hI, hE⟩ := hv
  have hpre := atoms_spec (ws := wsM Y) B.pre
  have C : Ctx E Y d p (rmM d k n) s m (args.map (cV E)).toArray meth c := ⟨B.exec, B.bytes, hml, findClass_of_methodNamed B.named, fun w hw => hpre w (List.mem_cons_of_mem _ hw), hE, Nat.le_refl _, Nat.le_refl _, (name_of_methodNamed B.named B.method).1⟩
  have hcat' : ∀ v ∈ args.map (cV E), v.category = 1 := by
    intro v hv
    obtain ⟨w, hw, rfl⟩ := List.mem_map.mp hv
    rw [cV_cat]
    exact hcat w hw
  have hsl := sl_len (args.map (cV E)) hcat'
  rw [List.length_map] at hsl
  have hen := lv_entry (args.map (cV E)) (n := Y.2.2.1) (by rw [hsl]; exact hlen)
  rw [lg_entry_eq]
  refine G p l e _ s m _ below meth c _ C ?_ s.heap [] 0 0 _ hI va_S.rf (by show 0 + k ≤ k; omega) (by show 0 + n ≤ n; omega) ?_
  · intro H locs cells slots lsA pc hI' hS' hc hs hdg
    refine W.widen (k := k) (n := n) hc hs ?_
    rcases hr with ⟨rfl, h2⟩ | ⟨x, ty, rfl, h2, h3⟩
    · exact W.vret B.exec B.bytes (B.returns.trans h2) (fun t ht hw => ⟨rfl, by rw [ht]; exact hI', hS'.F ht⟩) hS'.2.2 hdg B.notSynchronized
    · exact W.zret B.exec B.bytes (B.returns.trans h2) h3 (fun t ht hw => ⟨rfl, by rw [ht]; exact hI', hS'.F ht⟩) hS'.2.2 hdg B.notSynchronized
  · refine ⟨hen.1, hen.2.1, by rw [← hls]; simp; omega, fun i v hi => ?_⟩
    rw [← hls] at hi
    have hi2 : args[i]? = some v := by
      by_cases hl : i < args.length
      · rw [List.getElem?_append_left (by rw [List.length_map]; exact hl), List.getElem?_map] at hi
        cases hq : args[i]? with
        | none => rw [hq] at hi; cases hi
        | some w => rw [hq] at hi; cases hi; rfl
      · rw [List.getElem?_append_right (by rw [List.length_map]; omega)] at hi
        have h3 := List.mem_of_getElem? hi
        have h4 := (List.mem_replicate.mp h3).2
        cases h4
    refine ⟨?_, hcat v (List.mem_of_getElem? hi2)⟩
    have h5 := args_mem (args.map (cV E)) 0 i (cV E v) hcat' (by rw [List.getElem?_map, hi2]; rfl)
    rw [Nat.zero_add] at h5
    exact hen.2.2 _ h5
section RG
variable {p : Program} {l : Launch} {e : Env} {R : Room} {s : State} {m : MethodId} {args : Array Value} {below : List Frame} {meth : Method} {c : Code} {H : Heap} {locs : List Loc} {cells slots : Nat} {Q : State → Prop}
theorem run_go {k1 n1 : Nat} {lsA : Array Slot} {st0 rest0 : List Value} {r1 : Option Value} {h1 : List va_E} {a : Array Value} (hr : va_Run p l e R s m args below meth c H locs cells slots k1 n1 (F0 m pc lsA st0) rest0 (QR E r1 h1 a) (AA E)) (hS : va_S (AA E) s.heap H locs)
    (kk : ∀ (H1 : Heap) (locs1 : List Loc), Inv E h1 H1 → va_S (AA E) s.heap H1 locs1 → W p l e R s m args below meth c H1 locs1 (cells + k1) (slots + n1) Q (F0 m (pc + 3) lsA ((r1.map (cV E)).toList ++ rest0))) : W p l e R s m args below meth c H locs cells slots Q (F0 m pc lsA st0) := by
  intro T hT X
  obtain ⟨v, st₀, t, T', L, h0, X', hL, e1, e2, ⟨hv, hI1, hz, hk⟩, stp⟩ := hr T hT X
  cases hv
  rw [h0] at hz hk
  obtain ⟨t2, a1, b1⟩ := kk T'.heap (locs ++ L) (by rw [e1]; exact hI1) ⟨Nat.le_trans hS.1 (by rw [e1]; exact hz), fun q g1 g2 => by rw [e1, hk q (Nat.lt_of_lt_of_le g1 hS.1) g2]; exact hS.2.1 q g1 g2, fun q hq => by
      rcases List.mem_append.mp hq with g | g
      · exact hS.2.2 q g
      · exact hL q g⟩ T' rfl X'
  exact ⟨t2, stp t2 a1, b1⟩
end RG
/-- what a call of Y' by the entry idx of class own needs of the tables -/
def MLk (own : String) (idx : Nat) (Y' : MI) (nA : Nat) : Prop :=
  Cond.code Y'.1 Y'.2.1 Y'.2.2.1 Y'.2.2.2 ∈ BW ∧ Cond.initialized Y'.1.cls ∈ BW ∧ (Y'.1.cls ≠ "java/lang/invoke/MethodHandle" ∧ Y'.1.cls ≠ "java/lang/invoke/VarHandle" ∧ (parseMethodDescriptor Y'.1.desc).map (fun d => d.parameters.length) = some nA) ∧ Y'.2.2.1 ≤ 40 ∧
  (Cond.methodLink own idx Y'.1 ∈ BW ∨ ∃ host, Cond.methodLinkNest own idx Y'.1 host ∈ NW)
theorem toL {E : AEnv} {rest : List Value} (r1 : Option Value) : (r1.map (cV E)).toList ++ rest.map (cV E) = (r1.toList ++ rest).map (cV E) := by cases r1 <;> rfl
theorem go_callS {idx nA k1 n1 : Nat} {Y' : MI} {As rest : List Value} {r1 : Option Value} {h1 : List va_E} (hd : Dc Y pc (.invokestatic idx) pc') (hM : MLk Y.1.cls idx Y' nA) (hstat : Cond.static Y'.1 ∈ BW) (hd1 : 1 ≤ d) (hC : Calls E Y' (d - 1) k1 n1 As h r1 h1) (hn : As.length = nA) (hcat : (rest.map fun v => v.category).sum ≤ 8)
    (K : Go E Y d k n pc' ls (r1.toList ++ rest) h1 r h') : Go E Y d (k1 + k) (n1 + n) pc ls (As.reverse ++ rest) h r h' := by
  intro p l e R s m args below meth c Q C ret H locs cells slots lsA hI hS hc hs hL
  obtain ⟨rfl, dd⟩ := hd.is (n := 2) rfl
  obtain ⟨m1, m2, m3, m4, m5⟩ := hM
  have hE := C.2.2.2.2.2.1
  have hts := C.2.2.2.2.1
  have hR : (rmM (d - 1) k1 n1).frames + 1 ≤ R.frames ∧ 8 + (Y'.2.2.1 + 11) + (rmM (d - 1) k1 n1).locals ≤ R.locals := by
    have h5 := C.2.2.2.2.2.2.1
    have h6 := C.2.2.2.2.2.2.2.1
    show d - 1 + 1 ≤ R.frames ∧ 8 + (Y'.2.2.1 + 11) + (60 * (d - 1) + 20) ≤ R.locals
    omega
  have hp : PreS s H (va_Pc (As.map (cV E)) (fun U => Inv E h U.heap ∧ EnvOK E U)) (As.map (cV E)) := ⟨FB_ok, fun U hU hW => ⟨rfl, by rw [hU]; exact hI, hE.next hW (by rw [hU]; exact hS)⟩⟩
  have hst : (F0 m pc lsA ((As.reverse ++ rest).map (cV E))).stack = (As.map (cV E)).reverse ++ rest.map (cV E) := by
    show (As.reverse ++ rest).map (cV E) = _
    rw [List.map_append, List.map_reverse]
  have hrm : 2 * (F0 m pc lsA ((As.reverse ++ rest).map (cV E))).monitorRoom + ((rest.map (cV E)).map fun v => v.category).sum ≤ 8 := lv_room (by rw [cV_sum]; exact hcat)
  have kk : ∀ (H1 : Heap) (locs1 : List Loc), Inv E h1 H1 → va_S (AA E) s.heap H1 locs1 → W p l e R s m args below meth c H1 locs1 (cells + k1) (slots + n1) Q (F0 m (pc + 3) lsA ((r1.map (cV E)).toList ++ rest.map (cV E))) := by
    intro H1 locs1 hI1 hS1
    rw [toL]
    exact K p l e R s m args below meth c Q C ret H1 locs1 (cells + k1) (slots + n1) lsA hI1 hS1 (by omega) (by omega) hL
  rcases m5 with m5 | ⟨host, m5⟩
  · refine run_go (va_runS ⟨C.1, C.2.1, C.2.2.1, C.2.2.2.1, hts⟩ (hC l) ⟨callB_of nA hts (goodIn_BW m1) rfl rfl rfl (hts _ m2) (hts _ m5) m3 hR, hts _ hstat⟩ hp rfl (by rw [List.length_map]; exact hn) hL.1 hst hrm dd ⟨by omega, by omega⟩) hS kk
  · refine run_go (va_runSN ⟨C.1, C.2.1, C.2.2.1, C.2.2.2.1, hts⟩ (hC l) ⟨va_cnB nA hts (goodIn_BW m1) rfl rfl rfl (hE.2.1 _ m5) (hts _ m2) m3 hR, hts _ hstat, trivial⟩ hp rfl (by rw [List.length_map]; exact hn) hL.1 hst hrm dd ⟨by omega, by omega⟩) hS kk
theorem go_callV {idx nA k1 n1 b ci N : Nat} {T : u_T} {fs : List Value} {Y' : MI} {As rest : List Value} {r1 : Option Value} {h1 : List va_E} (hd : Dc Y pc (.invokevirtual idx) pc') (hM : MLk Y.1.cls idx Y' nA) (hinst : Cond.instanceMethod Y'.1 ∈ BW ∧ Cond.selects Y'.1.cls Y'.1 Y'.1 ∈ BW) (hd1 : 1 ≤ d) (hC : Calls E Y' (d - 1) k1 n1 (.ref b :: As) h r1 h1)
    (hrec : h[b]? = some (.inr (ci, fs))) (hci : vwCl[ci]? = some (Y'.1.cls, T, N)) (hn : As.length = nA) (hcat : (rest.map fun v => v.category).sum ≤ 8)
    (K : Go E Y d k n pc' ls (r1.toList ++ rest) h1 r h') : Go E Y d (k1 + k) (n1 + n) pc ls (As.reverse ++ .ref b :: rest) h r h' := by
  intro p l e R s m args below meth c Q C ret H locs cells slots lsA hI hS hc hs hL
  obtain ⟨rfl, dd⟩ := hd.is (n := 2) rfl
  obtain ⟨m1, m2, m3, m4, m5⟩ := hM
  have hE := C.2.2.2.2.2.1
  have hts := C.2.2.2.2.1
  have hR : (rmM (d - 1) k1 n1).frames + 1 ≤ R.frames ∧ 8 + (Y'.2.2.1 + 11) + (rmM (d - 1) k1 n1).locals ≤ R.locals := by
    have h5 := C.2.2.2.2.2.2.1
    have h6 := C.2.2.2.2.2.2.2.1
    show d - 1 + 1 ≤ R.frames ∧ 8 + (Y'.2.2.1 + 11) + (60 * (d - 1) + 20) ≤ R.locals
    omega
  have hrv := va_recv hE.1 hI.2.2 hci (cW_get (E := E) hrec)
  rw [← aR_lo hI hrec] at hrv
  have hp : PreV s H Y'.1.cls (aR E b) (va_Pc ((Value.ref b :: As).map (cV E)) (fun U => Inv E h U.heap ∧ EnvOK E U)) (As.map (cV E)) := ⟨FB_ok, hrv, fun U hU hW => ⟨rfl, by rw [hU]; exact hI, hE.next hW (by rw [hU]; exact hS)⟩⟩
  have hst : (F0 m pc lsA ((As.reverse ++ .ref b :: rest).map (cV E))).stack = (As.map (cV E)).reverse ++ .ref (aR E b) :: rest.map (cV E) := by
    show (As.reverse ++ .ref b :: rest).map (cV E) = _
    rw [List.map_append, List.map_reverse]
    rfl
  have hrm : 2 * (F0 m pc lsA ((As.reverse ++ .ref b :: rest).map (cV E))).monitorRoom + ((rest.map (cV E)).map fun v => v.category).sum ≤ 8 := lv_room (by rw [cV_sum]; exact hcat)
  have kk : ∀ (H1 : Heap) (locs1 : List Loc), Inv E h1 H1 → va_S (AA E) s.heap H1 locs1 → W p l e R s m args below meth c H1 locs1 (cells + k1) (slots + n1) Q (F0 m (pc + 3) lsA ((r1.map (cV E)).toList ++ rest.map (cV E))) := by
    intro H1 locs1 hI1 hS1
    rw [toL]
    exact K p l e R s m args below meth c Q C ret H1 locs1 (cells + k1) (slots + n1) lsA hI1 hS1 (by omega) (by omega) hL
  rcases m5 with m5 | ⟨host, m5⟩
  · refine run_go (va_runV ⟨C.1, C.2.1, C.2.2.1, C.2.2.2.1, hts⟩ (hC l) ⟨callB_of nA hts (goodIn_BW m1) rfl rfl rfl (hts _ m2) (hts _ m5) m3 hR, hts _ hinst.1, hts _ hinst.2⟩ hp rfl (by rw [List.length_map]; exact hn) hL.1 hst hrm dd ⟨by omega, by omega⟩) hS kk
  · refine run_go (va_runVN ⟨C.1, C.2.1, C.2.2.1, C.2.2.2.1, hts⟩ (hC l) ⟨va_cnB nA hts (goodIn_BW m1) rfl rfl rfl (hE.2.1 _ m5) (hts _ m2) m3 hR, hts _ hinst.1, hts _ hinst.2⟩ hp rfl (by rw [List.length_map]; exact hn) hL.1 hst hrm dd ⟨by omega, by omega⟩) hS kk
theorem go_callI {idx nA k1 n1 b : Nat} {y : MethodName} {bs : ByteArray} {mL : Nat} {As rest : List Value} {h1 : List va_E} (hd : Dc Y pc (.invokespecial idx) pc') (hM : MLk Y.1.cls idx (y, bs, mL, none) nA) (hinst : y.name = "<init>" ∧ Cond.instanceMethod y ∈ BW) (hd1 : 1 ≤ d) (hC : Calls E (y, bs, mL, none) (d - 1) k1 n1 (.ref b :: As) h none h1)
    (hn : As.length = nA) (hcat : (rest.map fun v => v.category).sum ≤ 8)
    (K : Go E Y d k n pc' ls rest h1 r h') : Go E Y d (k1 + k) (n1 + n) pc ls (As.reverse ++ .ref b :: rest) h r h' := by
  intro p l e R s m args below meth c Q C ret H locs cells slots lsA hI hS hc hs hL
  obtain ⟨rfl, dd⟩ := hd.is (n := 2) rfl
  obtain ⟨m1, m2, m3, m4, m5⟩ := hM
  have hE := C.2.2.2.2.2.1
  have hts := C.2.2.2.2.1
  have hR : (rmM (d - 1) k1 n1).frames + 1 ≤ R.frames ∧ 8 + (mL + 11) + (rmM (d - 1) k1 n1).locals ≤ R.locals := by
    have h5 := C.2.2.2.2.2.2.1
    have h6 := C.2.2.2.2.2.2.2.1
    have h7 : mL ≤ 40 := m4
    show d - 1 + 1 ≤ R.frames ∧ 8 + (mL + 11) + (60 * (d - 1) + 20) ≤ R.locals
    omega
  have hp : PreS s H (va_Pc ((Value.ref b :: As).map (cV E)) (fun U => Inv E h U.heap ∧ EnvOK E U)) (.ref (aR E b) :: As.map (cV E)) := ⟨FB_ok, fun U hU hW => ⟨rfl, by rw [hU]; exact hI, hE.next hW (by rw [hU]; exact hS)⟩⟩
  have hst : (F0 m pc lsA ((As.reverse ++ .ref b :: rest).map (cV E))).stack = (As.map (cV E)).reverse ++ .ref (aR E b) :: rest.map (cV E) := by
    show (As.reverse ++ .ref b :: rest).map (cV E) = _
    rw [List.map_append, List.map_reverse]
    rfl
  have hrm : 2 * (F0 m pc lsA ((As.reverse ++ .ref b :: rest).map (cV E))).monitorRoom + ((rest.map (cV E)).map fun v => v.category).sum ≤ 8 := lv_room (by rw [cV_sum]; exact hcat)
  have kk : ∀ (H1 : Heap) (locs1 : List Loc), Inv E h1 H1 → va_S (AA E) s.heap H1 locs1 → W p l e R s m args below meth c H1 locs1 (cells + k1) (slots + n1) Q (F0 m (pc + 3) lsA (((none : Option Value).map (cV E)).toList ++ rest.map (cV E))) := by
    intro H1 locs1 hI1 hS1
    exact K p l e R s m args below meth c Q C ret H1 locs1 (cells + k1) (slots + n1) lsA hI1 hS1 (by omega) (by omega) hL
  rcases m5 with m5 | ⟨host, m5⟩
  · refine run_go (va_runI ⟨C.1, C.2.1, C.2.2.1, C.2.2.2.1, hts⟩ (hC l) ⟨callB_of nA hts (goodIn_BW m1) rfl rfl rfl (hts _ m2) (hts _ m5) m3 hR, hinst.1, hts _ hinst.2⟩ hp rfl (by rw [List.length_map]; exact hn) hL.1 hst hrm dd ⟨by omega, by omega⟩) hS kk
  · refine run_go (va_runIN ⟨C.1, C.2.1, C.2.2.1, C.2.2.2.1, hts⟩ (hC l) ⟨va_cnB nA hts (goodIn_BW m1) rfl rfl rfl (hE.2.1 _ m5) (hts _ m2) m3 hR, hinst.1, hts _ hinst.2⟩ hp rfl (by rw [List.length_map]; exact hn) hL.1 hst hrm dd ⟨by omega, by omega⟩) hS kk
theorem go_objInit {idx a : Nat} (hd : Dc Y pc (.invokespecial idx) pc') (hlk : Cond.methodLink Y.1.cls idx objectInit ∈ BW) (hin : Cond.instanceMethod objectInit ∈ BW) (hco : Cond.code objectInit ⟨#[0xb1]⟩ 1 none ∈ BW) (hd1 : 1 ≤ d) (hcat : (st.map fun v => v.category).sum ≤ 8) (K : Go E Y d k n pc' ls st h r h') : Go E Y d k n pc ls (.ref a :: st) h r h' := by
  intro p l e R s m args below meth c Q C ret H locs cells slots lsA hI hS hc hs hL
  obtain ⟨rfl, dd⟩ := hd.is (n := 2) rfl
  have hts := C.2.2.2.2.1
  have h5 := C.2.2.2.2.2.2.1
  have h6 := C.2.2.2.2.2.2.2.1
  have hrm : 2 * (F0 m pc lsA (.ref (aR E a) :: st.map (cV E))).monitorRoom + ((st.map (cV E)).map fun v => v.category).sum ≤ 8 := lv_room (by rw [cV_sum]; exact hcat)
  exact W.objInit C.1 C.2.1 C.2.2.2.1 (hts _ hlk) (hts _ hin) (hts _ hco) rfl (hL.1.trans C.2.2.1.symm) rfl dd (by omega) (by show 2 * (F0 m pc lsA (.ref (aR E a) :: st.map (cV E))).monitorRoom + ((st.map (cV E)).map fun v => v.category).sum + 12 ≤ R.locals; omega) (K p l e R s m args below meth c Q C ret H locs cells slots lsA hI hS hc hs hL)
theorem Inv.push {H H1 : Heap} {e : va_E} (hI : Inv E h H) (hlen : h.length < BIGN) (z : H1.size = H.size + 1) (oq : ∀ q : Nat, q < H.size → H1[q]? = H[q]?) (he : va_at (ED E) vwCl (EB E + h.length, cE E e) H1) : Inv E (h ++ [e]) H1 := by
  obtain ⟨h1, h2, h3⟩ := hI
  refine ⟨by simp; omega, by simp; omega, ?_⟩
  rw [← cW_app]
  refine (h3.kept fun q x hx => oq x.1 ((h3 q x hx).lt)).app (fun q x hx => ?_)
  have hz : q < 1 := (List.getElem?_eq_some_iff.mp hx).1
  rw [show q = 0 by omega] at hx
  cases hx
  exact he
theorem va_S.grow {A : Nat → Prop} {H0 H H1 : Heap} {locs : List Loc} (hS : va_S A H0 H locs) (z : H1.size = H.size + 1) (oq : ∀ q : Nat, q < H.size → H1[q]? = H[q]?) : va_S A H0 H1 locs :=
  ⟨Nat.le_trans hS.1 (by omega), fun q g1 g2 => (oq q (Nat.lt_of_lt_of_le g1 hS.1)).trans (hS.2.1 q g1 g2), hS.2.2⟩
theorem aR_new {H : Heap} (hI : Inv E h H) (hlen : h.length < BIGN) : H.size = aR E h.length := by
  unfold aR
  rw [if_pos hlen]
  exact hI.2.1
theorem go_new {idx ci N : Nat} {C0 : String} {T : u_T} {fs : List Value} (hd : Dc Y pc (.new idx) pc') (hcl : vwCl[ci]? = some (C0, T, N)) (hlk : Cond.classLink Y.1.cls idx C0 ∈ BW) (hin : Cond.instantiable C0 N ∈ BW) (hini : Cond.initialized C0 ∈ BW) (hfs : ∀ j, j < N → defaultValue (clTy ci j) = vp_V fs j) (hno : fs.map (cV E) = fs) (hlen : h.length < BIGN)
    (K : Go E Y d k n pc' ls (.ref h.length :: st) (h ++ [.inr (ci, fs)]) r h') : Go E Y d (1 + k) (N + n) pc ls st h r h' := by
  intro p l e R s m args below meth c Q C ret H locs cells slots lsA hI hS hc hs hL
  obtain ⟨rfl, dd⟩ := hd.is (n := 2) rfl
  have hE := C.2.2.2.2.2.1
  have hts := C.2.2.2.2.1
  obtain ⟨hty0, hnm⟩ := clTy_ok ci _ _ _ hcl
  have hKn := hE.1.1 ci _ hcl
  refine W.newcK C.1 C.2.1 C.2.2.2.1 (hts _ hlk) (hts _ hin) (hts _ hini) rfl dd (by omega) (by omega) hKn.2.1 (aR_new hI hlen) fun H1 kC hkC e1 z1 o1 => ?_
  have hz : H.size = aR E h.length := aR_new hI hlen
  have e2 : aR E h.length = EB E + h.length := by rw [← hz]; exact hI.2.1
  refine K p l e R s m args below meth c Q C ret H1 locs (cells + 1) (slots + N) lsA (hI.push hlen (by rw [z1, hz]) (fun q hq => o1 q (by rw [← hz]; exact hq)) ?_) (hS.grow (by rw [z1, hz]) (fun q hq => o1 q (by rw [← hz]; exact hq))) (by omega) (by omega) hL
  rw [← e2]
  refine ⟨_, hcl, (u_born (clTy ci) hts (cl_ok ci _ hcl) hKn hkC e1 hty0).to ?_⟩
  intro j hj
  rw [hfs j hj]
  show _ = vp_V (fs.map (cV E)) j
  rw [hno]
theorem go_newint {N : Nat} {x : Int32} (hd : Dc Y pc (.newarray .int) pc') (harr : Cond.arrayClass .int ∈ BW) (hx : ¬ x < 0) (hN : x.toNatClampNeg = N) (hb : N * 4 ≤ 536870912) (hlen : h.length < BIGN)
    (K : Go E Y d k n pc' ls (.ref h.length :: st) (h ++ [.inl (0, N, .inl (fun _ => 0))]) r h') : Go E Y d (1 + k) (N + n) pc ls (.int x :: st) h r h' := by
  intro p l e R s m args below meth c Q C ret H locs cells slots lsA hI hS hc hs hL
  obtain ⟨rfl, dd⟩ := hd.is (n := 1) rfl
  have hE := C.2.2.2.2.2.1
  have hts := C.2.2.2.2.1
  have hz : H.size = aR E h.length := aR_new hI hlen
  have e2 : aR E h.length = EB E + h.length := by rw [← hz]; exact hI.2.1
  refine va_newaK (atype := .int) C.1 C.2.1 (hts _ harr) rfl dd rfl hx hN hb (by omega) (by omega) hz fun H1 cA e1 z1 o1 hAr hNm => ?_
  have hcA : cA = ETc E 0 := Option.some.inj (hNm.symm.trans (hE.1.2 0 (ETc E 0, .int) rfl).2)
  refine K p l e R s m args below meth c Q C ret H1 locs (cells + 1) (slots + N) lsA (hI.push hlen (by rw [z1, hz]) (fun q hq => o1 q (by rw [← hz]; exact hq)) ?_) (hS.grow (by rw [z1, hz]) (fun q hq => o1 q (by rw [← hz]; exact hq))) (by omega) (by omega) hL
  rw [← e2]
  show H1[aR E h.length]? = some (vp_cell (ETc E 0) (N, .inl (fun _ => 0)))
  rw [e1, hcA]
  rfl
theorem go_newchar {N : Nat} {x : Int32} (hd : Dc Y pc (.newarray .char) pc') (harr : Cond.arrayClass .char ∈ BW) (hx : ¬ x < 0) (hN : x.toNatClampNeg = N) (hb : N * 2 ≤ 536870912) (hlen : h.length < BIGN)
    (K : Go E Y d k n pc' ls (.ref h.length :: st) (h ++ [.inl (1, N, .inl (fun _ => 0))]) r h') : Go E Y d (1 + k) (N + n) pc ls (.int x :: st) h r h' := by
  intro p l e R s m args below meth c Q C ret H locs cells slots lsA hI hS hc hs hL
  obtain ⟨rfl, dd⟩ := hd.is (n := 1) rfl
  have hE := C.2.2.2.2.2.1
  have hts := C.2.2.2.2.1
  have hz : H.size = aR E h.length := aR_new hI hlen
  have e2 : aR E h.length = EB E + h.length := by rw [← hz]; exact hI.2.1
  refine va_newaK (atype := .char) C.1 C.2.1 (hts _ harr) rfl dd rfl hx hN hb (by omega) (by omega) hz fun H1 cA e1 z1 o1 hAr hNm => ?_
  have hcA : cA = ETc E 1 := Option.some.inj (hNm.symm.trans (hE.1.2 1 (ETc E 1, .char) rfl).2)
  refine K p l e R s m args below meth c Q C ret H1 locs (cells + 1) (slots + N) lsA (hI.push hlen (by rw [z1, hz]) (fun q hq => o1 q (by rw [← hz]; exact hq)) ?_) (hS.grow (by rw [z1, hz]) (fun q hq => o1 q (by rw [← hz]; exact hq))) (by omega) (by omega) hL
  rw [← e2]
  show H1[aR E h.length]? = some (vp_cell (ETc E 1) (N, .inl (fun _ => 0)))
  rw [e1, hcA]
  rfl
theorem go_newStates {idx N : Nat} {x : Int32} (hd : Dc Y pc (.anewarray idx) pc') (hlk : Cond.classLink Y.1.cls idx RX4 ∈ BW) (hx : ¬ x < 0) (hN : x.toNatClampNeg = N) (hb : N * 4 ≤ 536870912) (hlen : h.length < BIGN)
    (K : Go E Y d k n pc' ls (.ref h.length :: st) (h ++ [.inl (2, N, .inr (.inr (.inr (.inr (fun _ => none)))))]) r h') : Go E Y d (1 + k) (N + n) pc ls (.int x :: st) h r h' := by
  intro p l e R s m args below meth c Q C ret H locs cells slots lsA hI hS hc hs hL
  obtain ⟨rfl, dd⟩ := hd.is (n := 2) rfl
  have hE := C.2.2.2.2.2.1
  have hts := C.2.2.2.2.1
  have hz : H.size = aR E h.length := aR_new hI hlen
  have e2 : aR E h.length = EB E + h.length := by rw [← hz]; exact hI.2.1
  subst hN
  refine W.anew C.1 C.2.1 C.2.2.2.1 (hts _ hlk) (va_AO.use hE.2.2.1) rfl dd rfl hx hb (by omega) (by omega) fun cA kA comp f1 f2 f3 f4 => ?_
  obtain ⟨kA', comp', g1, g2, g3, g4⟩ := (hE.1.2 2 (ETc E 2, .object RX4) rfl).2
  have hcA : cA = ETc E 2 := Option.some.inj (f1.symm.trans g4)
  subst hcA
  generalize hH1 : H.push ({ cls := ETc E 2, slots := Array.replicate x.toNatClampNeg .null, vm := .none } : Cell) = H1
  have z1 : H1.size = H.size + 1 := by rw [← hH1, Array.size_push]
  have e1 : H1[H.size]? = some (arrV (ETc E 2) x.toNatClampNeg (fun _ => .null)) := by rw [← hH1, Array.getElem?_push_size, ← arrV_new]
  have o1 : ∀ q : Nat, q < H.size → H1[q]? = H[q]? := fun q hq => by rw [← hH1, Array.getElem?_push, if_neg (Nat.ne_of_lt hq)]
  show W p l e R s m args below meth c H1 locs (cells + 1) (slots + x.toNatClampNeg) Q (F0 m (pc + 3) lsA (.ref H.size :: st.map (cV E)))
  rw [hz]
  refine K p l e R s m args below meth c Q C ret H1 locs (cells + 1) (slots + x.toNatClampNeg) lsA (hI.push hlen z1 o1 ?_) (hS.grow z1 o1) (by omega) (by omega) hL
  rw [← e2, ← hz]
  exact e1
theorem go_arraycopy {idx a0 a n0 n1 : Nat} {f g : Nat → Int32} {sp dp x : Int32} (hd : Dc Y pc (.invokestatic idx) pc') (hlk : Cond.methodLink Y.1.cls idx arraycopyName ∈ BW) (hnat : Cond.native arraycopyName ∈ BW) (hstat : Cond.static arraycopyName ∈ BW) (hini : Cond.initialized "java/lang/System" ∈ BW)
    (ha0 : h[a0]? = some (.inl (0, n0, .inl f))) (ha1 : h[a]? = some (.inl (0, n1, .inl g))) (h1 : ¬ sp < 0) (h2 : ¬ dp < 0) (h3 : ¬ x < 0) (h4 : sp.toNatClampNeg + x.toNatClampNeg ≤ n0) (h5 : dp.toNatClampNeg + x.toNatClampNeg ≤ n1) (hd1 : 1 ≤ d) (hcat : (st.map fun v => v.category).sum ≤ 8)
    (K : Go E Y d k n pc' ls st (h.set a (.inl (0, n1, .inl (va_cpy f g sp.toNatClampNeg dp.toNatClampNeg x.toNatClampNeg)))) r h') : Go E Y d k n pc ls (.int x :: .int dp :: .ref a :: .int sp :: .ref a0 :: st) h r h' := by
  intro p l e R s m args below meth c Q C ret H locs cells slots lsA hI hS hc hs hL
  obtain ⟨rfl, dd⟩ := hd.is (n := 2) rfl
  have hE := C.2.2.2.2.2.1
  have hts := C.2.2.2.2.1
  have hK := hE.1
  have w0 := cW_get (E := E) ha0
  have w1 := cW_get (E := E) ha1
  have hP := hI.2.2
  have r5 := C.2.2.2.2.2.2.1
  have r6 := C.2.2.2.2.2.2.2.1
  show W p l e R s m args below meth c H locs cells slots Q (F0 m pc lsA (.int x :: .int dp :: .ref (aR E a) :: .int sp :: .ref (aR E a0) :: st.map (cV E)))
  rw [aR_lo hI ha0, aR_lo hI ha1]
  have nn : ∀ z : Int32, ¬ z < 0 → z.toInt = (z.toNatClampNeg : Int) := by
    intro z hz
    have hz0 : (0 : Int) ≤ z.toInt := by
      have := Int32.not_lt.mp hz
      simpa using Int32.le_iff_toInt_le.mp this
    show z.toInt = ((z.toInt.toNat : Nat) : Int)
    omega
  intro T hT X
  have hc0 : H[EB E + a0]? = some (vp_cell (ETc E 0) (n0, .inl f)) := hP a0 _ w0
  have hc1 : H[EB E + a]? = some (vp_cell (ETc E 0) (n1, .inl g)) := hP a _ w1
  obtain ⟨-, k0, hk0, cm0, hkk0⟩ := (hK.2 0 (ETc E 0, .int) rfl).1 n0 (fun j => .int (f j))
  obtain ⟨-, k1, hk1, cm1, hkk1⟩ := (hK.2 0 (ETc E 0, .int) rfl).1 n1 (fun j => .int (g j))
  have hcs : ((st.map (cV E)).map fun v => v.category).sum ≤ 8 := by rw [cV_sum]; exact hcat
  have hnw : nativeFrameWords "java/lang/System" "arraycopy" 5 + 11 ≤ 60 := by decide +kernel
  obtain ⟨vm', X', step⟩ := X.arraycopy C.1 C.2.2.2.1 (hts _ hlk) (hts _ hnat) (hts _ hstat) (hts _ hini) (src := EB E + a0) (dst := EB E + a) (cs := vp_cell (ETc E 0) (n0, .inl f)) (cd := vp_cell (ETc E 0) (n1, .inl g)) (srcPos := sp) (destPos := dp) (n := x) (by rw [hT]; exact hc0) (by rw [hT]; exact hc1)
    (fun _ h => by cases h) (fun _ h => by cases h) (fun h => by cases h) (fun h => by cases h) hk0 hk1 hkk0 hkk1 (by simp [show refKind FieldType.int = false from rfl]) h1 h2 h3
    (by rw [nn sp h1, nn x h3]; show ¬ _ > ((arrV (ETc E 0) n0 (fun j => .int (f j))).slots.size : Int); rw [arrV_size]; omega)
    (by rw [nn dp h2, nn x h3]; show ¬ _ > ((arrV (ETc E 0) n1 (fun j => .int (g j))).slots.size : Int); rw [arrV_size]; omega)
    (fun vm₁ _ i hi => by
      have ee : (vp_cell (ETc E 0) (n0, .inl f)).slots.getD (sp.toNatClampNeg + i) .null = .int (f (sp.toNatClampNeg + i)) := by
        show (arrV (ETc E 0) n0 (fun j => .int (f j))).slots.getD _ _ = _
        rw [Array.getD_eq_getD_getElem?, arrV_read _ _ (by omega)]
        rfl
      refine ⟨?_, ?_⟩
      · rw [ee]
        rfl
      · rw [ee]
        exact trivial)
    (g := F0 m pc lsA (.int x :: .int dp :: .ref (EB E + a) :: .int sp :: .ref (EB E + a0) :: st.map (cV E))) rfl (by show lsA.size = c.maxLocals; rw [C.2.2.1]; exact hL.1) (rest := st.map (cV E)) rfl (by rw [C.2.1]; exact dd) (by omega) (by show 2 * 0 + _ + _ ≤ _; omega)
  have e1 : copied (vp_cell (ETc E 0) (n0, .inl f)) (vp_cell (ETc E 0) (n1, .inl g)) sp dp x = vp_cell (ETc E 0) (n1, .inl (va_cpy f g sp.toNatClampNeg dp.toNatClampNeg x.toNatClampNeg)) := va_copied (fun z => .int z) (ETc E 0) (ETc E 0) f g h4
  rw [e1] at X' step
  have hl : EB E + a < H.size := (Array.getElem?_eq_some_iff.mp hc1).1
  have hheap : ((T.setVm vm').setCell (EB E + a) (vp_cell (ETc E 0) (n1, .inl (va_cpy f g sp.toNatClampNeg dp.toNatClampNeg x.toNatClampNeg)))).heap = H.setIfInBounds (EB E + a) (vp_cell (ETc E 0) (n1, .inl (va_cpy f g sp.toNatClampNeg dp.toNatClampNeg x.toNatClampNeg))) := by rw [← hT]; rfl
  have oq : ∀ q : Nat, q ≠ EB E + a → (H.setIfInBounds (EB E + a) (vp_cell (ETc E 0) (n1, .inl (va_cpy f g sp.toNatClampNeg dp.toNatClampNeg x.toNatClampNeg))))[q]? = H[q]? := fun q hq => by simp [Array.getElem?_setIfInBounds, Ne.symm hq]
  have hI2 : Inv E (h.set a (.inl (0, n1, .inl (va_cpy f g sp.toNatClampNeg dp.toNatClampNeg x.toNatClampNeg)))) (H.setIfInBounds (EB E + a) (vp_cell (ETc E 0) (n1, .inl (va_cpy f g sp.toNatClampNeg dp.toNatClampNeg x.toNatClampNeg)))) :=
    hI.set (by simp) (hP.set cW_D w1 (show (H.setIfInBounds (EB E + a) _)[EB E + a]? = some _ by simp [Array.getElem?_setIfInBounds, hl]; rfl) oq)
  obtain ⟨t, a1, b1⟩ := K p l e R s m args below meth c Q C ret _ _ cells slots lsA hI2 ⟨by simp; exact hS.1, fun q g1 g2 => by
      rw [oq q (fun e => g2 (by rw [e]; exact cW_D.2 a _ w1))]
      exact hS.2.1 q g1 g2, fun q hq => by
      rcases List.mem_append.mp hq with h | h
      · exact hS.2.2 q h
      · obtain ⟨z, -, hz⟩ := List.mem_map.mp h
        rw [← hz]
        exact cW_D.2 a _ w1⟩ hc hs hL _ hheap X'
  exact ⟨t, step t a1, b1⟩
end GC
end
