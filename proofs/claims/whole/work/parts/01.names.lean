-- ===== PART A: goes FIRST, ahead of the names: the tables' words, and 'selects' of the private methods out of them =====
/-- a private method of a class that the tables say can be made, by its rows of tables_1 -/
def lw_okq (q : MethodName × Nat) : Prop := (q.1.cls ≠ "java/lang/invoke/MethodHandle" ∧ q.1.cls ≠ "java/lang/invoke/VarHandle") ∧ Cond.instantiable q.1.cls q.2 ∈ tables_1 ∧ Cond.privateMethod q.1 ∈ tables_1 ∧ Cond.instanceMethod q.1 ∈ tables_1
theorem lw_p0 : lw_okq (⟨"LocalMenders$State", "layOut", "(IIII)V"⟩, 14) := ⟨⟨by decide +kernel, by decide +kernel⟩, List.mem_of_getElem? (i := 21) (by decide +kernel), List.mem_of_getElem? (i := 27) (by decide +kernel), List.mem_of_getElem? (i := 28) (by decide +kernel)⟩
theorem lw_p1 : lw_okq (⟨"LocalMenders$State", "cellCount", "()I"⟩, 14) := ⟨⟨by decide +kernel, by decide +kernel⟩, List.mem_of_getElem? (i := 21) (by decide +kernel), List.mem_of_getElem? (i := 34) (by decide +kernel), List.mem_of_getElem? (i := 35) (by decide +kernel)⟩
theorem lw_p2 : lw_okq (⟨"LocalMenders$State", "homeCheck", "(I)I"⟩, 14) := ⟨⟨by decide +kernel, by decide +kernel⟩, List.mem_of_getElem? (i := 21) (by decide +kernel), List.mem_of_getElem? (i := 38) (by decide +kernel), List.mem_of_getElem? (i := 39) (by decide +kernel)⟩
theorem lw_p3 : lw_okq (⟨"LocalMenders$State", "dataCount", "()I"⟩, 14) := ⟨⟨by decide +kernel, by decide +kernel⟩, List.mem_of_getElem? (i := 21) (by decide +kernel), List.mem_of_getElem? (i := 42) (by decide +kernel), List.mem_of_getElem? (i := 43) (by decide +kernel)⟩
theorem lw_p4 : lw_okq (⟨"LocalMenders", "begin", "()V"⟩, 9) := ⟨⟨by decide +kernel, by decide +kernel⟩, List.mem_of_getElem? (i := 13) (by decide +kernel), List.mem_of_getElem? (i := 245) (by decide +kernel), List.mem_of_getElem? (i := 246) (by decide +kernel)⟩
theorem lw_p5 : lw_okq (⟨"LocalMenders$State", "copyFrom", "(LLocalMenders$State;)V"⟩, 14) := ⟨⟨by decide +kernel, by decide +kernel⟩, List.mem_of_getElem? (i := 21) (by decide +kernel), List.mem_of_getElem? (i := 249) (by decide +kernel), List.mem_of_getElem? (i := 250) (by decide +kernel)⟩
theorem lw_p6 : lw_okq (⟨"LocalMenders", "finish", "(I)I"⟩, 9) := ⟨⟨by decide +kernel, by decide +kernel⟩, List.mem_of_getElem? (i := 13) (by decide +kernel), List.mem_of_getElem? (i := 264) (by decide +kernel), List.mem_of_getElem? (i := 265) (by decide +kernel)⟩
theorem lw_p7 : lw_okq (⟨"LocalMenders", "record", "()V"⟩, 9) := ⟨⟨by decide +kernel, by decide +kernel⟩, List.mem_of_getElem? (i := 13) (by decide +kernel), List.mem_of_getElem? (i := 268) (by decide +kernel), List.mem_of_getElem? (i := 269) (by decide +kernel)⟩
theorem lw_p8 : lw_okq (⟨"LocalMenders", "dropOldest", "()V"⟩, 9) := ⟨⟨by decide +kernel, by decide +kernel⟩, List.mem_of_getElem? (i := 13) (by decide +kernel), List.mem_of_getElem? (i := 272) (by decide +kernel), List.mem_of_getElem? (i := 273) (by decide +kernel)⟩
theorem lw_p9 : lw_okq (⟨"LocalMenders", "writeCell", "(III)I"⟩, 9) := ⟨⟨by decide +kernel, by decide +kernel⟩, List.mem_of_getElem? (i := 13) (by decide +kernel), List.mem_of_getElem? (i := 280) (by decide +kernel), List.mem_of_getElem? (i := 281) (by decide +kernel)⟩
theorem lw_p10 : lw_okq (⟨"LocalMenders$State", "hasCell", "(II)Z"⟩, 14) := ⟨⟨by decide +kernel, by decide +kernel⟩, List.mem_of_getElem? (i := 21) (by decide +kernel), List.mem_of_getElem? (i := 284) (by decide +kernel), List.mem_of_getElem? (i := 285) (by decide +kernel)⟩
theorem lw_p11 : lw_okq (⟨"LocalMenders$State", "hasStripe", "(I)Z"⟩, 14) := ⟨⟨by decide +kernel, by decide +kernel⟩, List.mem_of_getElem? (i := 21) (by decide +kernel), List.mem_of_getElem? (i := 288) (by decide +kernel), List.mem_of_getElem? (i := 289) (by decide +kernel)⟩
theorem lw_p12 : lw_okq (⟨"LocalMenders$State", "missingIn", "(I)I"⟩, 14) := ⟨⟨by decide +kernel, by decide +kernel⟩, List.mem_of_getElem? (i := 21) (by decide +kernel), List.mem_of_getElem? (i := 293) (by decide +kernel), List.mem_of_getElem? (i := 294) (by decide +kernel)⟩
theorem lw_p13 : lw_okq (⟨"LocalMenders$State", "valueOf", "(II)I"⟩, 14) := ⟨⟨by decide +kernel, by decide +kernel⟩, List.mem_of_getElem? (i := 21) (by decide +kernel), List.mem_of_getElem? (i := 297) (by decide +kernel), List.mem_of_getElem? (i := 298) (by decide +kernel)⟩
theorem lw_p14 : lw_okq (⟨"LocalMenders$State", "setValue", "(III)V"⟩, 14) := ⟨⟨by decide +kernel, by decide +kernel⟩, List.mem_of_getElem? (i := 21) (by decide +kernel), List.mem_of_getElem? (i := 301) (by decide +kernel), List.mem_of_getElem? (i := 302) (by decide +kernel)⟩
theorem lw_p15 : lw_okq (⟨"LocalMenders$State", "columnOf", "(I)I"⟩, 14) := ⟨⟨by decide +kernel, by decide +kernel⟩, List.mem_of_getElem? (i := 21) (by decide +kernel), List.mem_of_getElem? (i := 305) (by decide +kernel), List.mem_of_getElem? (i := 306) (by decide +kernel)⟩
def lw_privs_1 : List (MethodName × Nat) := [(⟨"LocalMenders$State", "layOut", "(IIII)V"⟩, 14), (⟨"LocalMenders$State", "cellCount", "()I"⟩, 14), (⟨"LocalMenders$State", "homeCheck", "(I)I"⟩, 14), (⟨"LocalMenders$State", "dataCount", "()I"⟩, 14), (⟨"LocalMenders", "begin", "()V"⟩, 9), (⟨"LocalMenders$State", "copyFrom", "(LLocalMenders$State;)V"⟩, 14), (⟨"LocalMenders", "finish", "(I)I"⟩, 9), (⟨"LocalMenders", "record", "()V"⟩, 9), (⟨"LocalMenders", "dropOldest", "()V"⟩, 9), (⟨"LocalMenders", "writeCell", "(III)I"⟩, 9), (⟨"LocalMenders$State", "hasCell", "(II)Z"⟩, 14), (⟨"LocalMenders$State", "hasStripe", "(I)Z"⟩, 14), (⟨"LocalMenders$State", "missingIn", "(I)I"⟩, 14), (⟨"LocalMenders$State", "valueOf", "(II)I"⟩, 14), (⟨"LocalMenders$State", "setValue", "(III)V"⟩, 14), (⟨"LocalMenders$State", "columnOf", "(I)I"⟩, 14)]
theorem lw_r1 : ∀ q ∈ lw_privs_1, lw_okq q := List.forall_mem_cons.mpr ⟨lw_p0, List.forall_mem_cons.mpr ⟨lw_p1, List.forall_mem_cons.mpr ⟨lw_p2, List.forall_mem_cons.mpr ⟨lw_p3, List.forall_mem_cons.mpr ⟨lw_p4, List.forall_mem_cons.mpr ⟨lw_p5, List.forall_mem_cons.mpr ⟨lw_p6, List.forall_mem_cons.mpr ⟨lw_p7, List.forall_mem_cons.mpr ⟨lw_p8, List.forall_mem_cons.mpr ⟨lw_p9, List.forall_mem_cons.mpr ⟨lw_p10, List.forall_mem_cons.mpr ⟨lw_p11, List.forall_mem_cons.mpr ⟨lw_p12, List.forall_mem_cons.mpr ⟨lw_p13, List.forall_mem_cons.mpr ⟨lw_p14, List.forall_mem_cons.mpr ⟨lw_p15, fun _ h => absurd h List.not_mem_nil⟩⟩⟩⟩⟩⟩⟩⟩⟩⟩⟩⟩⟩⟩⟩⟩
theorem lw_p16 : lw_okq (⟨"LocalMenders$State", "addToParities", "(II)V"⟩, 14) := ⟨⟨by decide +kernel, by decide +kernel⟩, List.mem_of_getElem? (i := 21) (by decide +kernel), List.mem_of_getElem? (i := 314) (by decide +kernel), List.mem_of_getElem? (i := 315) (by decide +kernel)⟩
theorem lw_p17 : lw_okq (⟨"LocalMenders", "alterCell", "(III)I"⟩, 9) := ⟨⟨by decide +kernel, by decide +kernel⟩, List.mem_of_getElem? (i := 13) (by decide +kernel), List.mem_of_getElem? (i := 327) (by decide +kernel), List.mem_of_getElem? (i := 328) (by decide +kernel)⟩
theorem lw_p18 : lw_okq (⟨"LocalMenders$State", "isMissing", "(II)Z"⟩, 14) := ⟨⟨by decide +kernel, by decide +kernel⟩, List.mem_of_getElem? (i := 21) (by decide +kernel), List.mem_of_getElem? (i := 331) (by decide +kernel), List.mem_of_getElem? (i := 332) (by decide +kernel)⟩
theorem lw_p19 : lw_okq (⟨"LocalMenders", "loseCell", "(II)I"⟩, 9) := ⟨⟨by decide +kernel, by decide +kernel⟩, List.mem_of_getElem? (i := 13) (by decide +kernel), List.mem_of_getElem? (i := 340) (by decide +kernel), List.mem_of_getElem? (i := 341) (by decide +kernel)⟩
theorem lw_p20 : lw_okq (⟨"LocalMenders$State", "takeAway", "(II)V"⟩, 14) := ⟨⟨by decide +kernel, by decide +kernel⟩, List.mem_of_getElem? (i := 21) (by decide +kernel), List.mem_of_getElem? (i := 344) (by decide +kernel), List.mem_of_getElem? (i := 345) (by decide +kernel)⟩
theorem lw_p21 : lw_okq (⟨"LocalMenders$State", "joinQueue", "(I)V"⟩, 14) := ⟨⟨by decide +kernel, by decide +kernel⟩, List.mem_of_getElem? (i := 21) (by decide +kernel), List.mem_of_getElem? (i := 348) (by decide +kernel), List.mem_of_getElem? (i := 349) (by decide +kernel)⟩
theorem lw_p22 : lw_okq (⟨"LocalMenders", "loseCellsOn", "(I)I"⟩, 9) := ⟨⟨by decide +kernel, by decide +kernel⟩, List.mem_of_getElem? (i := 13) (by decide +kernel), List.mem_of_getElem? (i := 356) (by decide +kernel), List.mem_of_getElem? (i := 357) (by decide +kernel)⟩
theorem lw_p23 : lw_okq (⟨"LocalMenders$State", "hasNode", "(I)Z"⟩, 14) := ⟨⟨by decide +kernel, by decide +kernel⟩, List.mem_of_getElem? (i := 21) (by decide +kernel), List.mem_of_getElem? (i := 360) (by decide +kernel), List.mem_of_getElem? (i := 361) (by decide +kernel)⟩
theorem lw_p24 : lw_okq (⟨"LocalMenders$State", "cellOn", "(II)I"⟩, 14) := ⟨⟨by decide +kernel, by decide +kernel⟩, List.mem_of_getElem? (i := 21) (by decide +kernel), List.mem_of_getElem? (i := 364) (by decide +kernel), List.mem_of_getElem? (i := 365) (by decide +kernel)⟩
theorem lw_p25 : lw_okq (⟨"LocalMenders", "mendCell", "(II)I"⟩, 9) := ⟨⟨by decide +kernel, by decide +kernel⟩, List.mem_of_getElem? (i := 13) (by decide +kernel), List.mem_of_getElem? (i := 375) (by decide +kernel), List.mem_of_getElem? (i := 376) (by decide +kernel)⟩
theorem lw_p26 : lw_okq (⟨"LocalMenders$Plan", "make", "(LLocalMenders$State;II)I"⟩, 3) := ⟨⟨by decide +kernel, by decide +kernel⟩, List.mem_of_getElem? (i := 154) (by decide +kernel), List.mem_of_getElem? (i := 379) (by decide +kernel), List.mem_of_getElem? (i := 380) (by decide +kernel)⟩
theorem lw_p27 : lw_okq (⟨"LocalMenders$State", "partnersOf", "(I)I"⟩, 14) := ⟨⟨by decide +kernel, by decide +kernel⟩, List.mem_of_getElem? (i := 21) (by decide +kernel), List.mem_of_getElem? (i := 386) (by decide +kernel), List.mem_of_getElem? (i := 387) (by decide +kernel)⟩
theorem lw_p28 : lw_okq (⟨"LocalMenders$State", "sumsOver", "(II)I"⟩, 14) := ⟨⟨by decide +kernel, by decide +kernel⟩, List.mem_of_getElem? (i := 21) (by decide +kernel), List.mem_of_getElem? (i := 391) (by decide +kernel), List.mem_of_getElem? (i := 392) (by decide +kernel)⟩
theorem lw_p29 : lw_okq (⟨"LocalMenders$State", "allCells", "()I"⟩, 14) := ⟨⟨by decide +kernel, by decide +kernel⟩, List.mem_of_getElem? (i := 21) (by decide +kernel), List.mem_of_getElem? (i := 398) (by decide +kernel), List.mem_of_getElem? (i := 399) (by decide +kernel)⟩
theorem lw_p30 : lw_okq (⟨"LocalMenders$Basis", "span", "(LLocalMenders$State;I)V"⟩, 3) := ⟨⟨by decide +kernel, by decide +kernel⟩, List.mem_of_getElem? (i := 160) (by decide +kernel), List.mem_of_getElem? (i := 402) (by decide +kernel), List.mem_of_getElem? (i := 403) (by decide +kernel)⟩
theorem lw_p31 : lw_okq (⟨"LocalMenders$Basis", "restOf", "(I)I"⟩, 3) := ⟨⟨by decide +kernel, by decide +kernel⟩, List.mem_of_getElem? (i := 160) (by decide +kernel), List.mem_of_getElem? (i := 408) (by decide +kernel), List.mem_of_getElem? (i := 409) (by decide +kernel)⟩
def lw_privs_2 : List (MethodName × Nat) := [(⟨"LocalMenders$State", "addToParities", "(II)V"⟩, 14), (⟨"LocalMenders", "alterCell", "(III)I"⟩, 9), (⟨"LocalMenders$State", "isMissing", "(II)Z"⟩, 14), (⟨"LocalMenders", "loseCell", "(II)I"⟩, 9), (⟨"LocalMenders$State", "takeAway", "(II)V"⟩, 14), (⟨"LocalMenders$State", "joinQueue", "(I)V"⟩, 14), (⟨"LocalMenders", "loseCellsOn", "(I)I"⟩, 9), (⟨"LocalMenders$State", "hasNode", "(I)Z"⟩, 14), (⟨"LocalMenders$State", "cellOn", "(II)I"⟩, 14), (⟨"LocalMenders", "mendCell", "(II)I"⟩, 9), (⟨"LocalMenders$Plan", "make", "(LLocalMenders$State;II)I"⟩, 3), (⟨"LocalMenders$State", "partnersOf", "(I)I"⟩, 14), (⟨"LocalMenders$State", "sumsOver", "(II)I"⟩, 14), (⟨"LocalMenders$State", "allCells", "()I"⟩, 14), (⟨"LocalMenders$Basis", "span", "(LLocalMenders$State;I)V"⟩, 3), (⟨"LocalMenders$Basis", "restOf", "(I)I"⟩, 3)]
theorem lw_r2 : ∀ q ∈ lw_privs_2, lw_okq q := List.forall_mem_cons.mpr ⟨lw_p16, List.forall_mem_cons.mpr ⟨lw_p17, List.forall_mem_cons.mpr ⟨lw_p18, List.forall_mem_cons.mpr ⟨lw_p19, List.forall_mem_cons.mpr ⟨lw_p20, List.forall_mem_cons.mpr ⟨lw_p21, List.forall_mem_cons.mpr ⟨lw_p22, List.forall_mem_cons.mpr ⟨lw_p23, List.forall_mem_cons.mpr ⟨lw_p24, List.forall_mem_cons.mpr ⟨lw_p25, List.forall_mem_cons.mpr ⟨lw_p26, List.forall_mem_cons.mpr ⟨lw_p27, List.forall_mem_cons.mpr ⟨lw_p28, List.forall_mem_cons.mpr ⟨lw_p29, List.forall_mem_cons.mpr ⟨lw_p30, List.forall_mem_cons.mpr ⟨lw_p31, fun _ h => absurd h List.not_mem_nil⟩⟩⟩⟩⟩⟩⟩⟩⟩⟩⟩⟩⟩⟩⟩⟩
theorem lw_p32 : lw_okq (⟨"LocalMenders$Plan", "solve", "(II)I"⟩, 3) := ⟨⟨by decide +kernel, by decide +kernel⟩, List.mem_of_getElem? (i := 154) (by decide +kernel), List.mem_of_getElem? (i := 427) (by decide +kernel), List.mem_of_getElem? (i := 428) (by decide +kernel)⟩
theorem lw_p33 : lw_okq (⟨"LocalMenders$State", "countReads", "(II)V"⟩, 14) := ⟨⟨by decide +kernel, by decide +kernel⟩, List.mem_of_getElem? (i := 21) (by decide +kernel), List.mem_of_getElem? (i := 436) (by decide +kernel), List.mem_of_getElem? (i := 437) (by decide +kernel)⟩
theorem lw_p34 : lw_okq (⟨"LocalMenders$State", "nodeOf", "(II)I"⟩, 14) := ⟨⟨by decide +kernel, by decide +kernel⟩, List.mem_of_getElem? (i := 21) (by decide +kernel), List.mem_of_getElem? (i := 440) (by decide +kernel), List.mem_of_getElem? (i := 441) (by decide +kernel)⟩
theorem lw_p35 : lw_okq (⟨"LocalMenders$State", "bringBack", "(III)V"⟩, 14) := ⟨⟨by decide +kernel, by decide +kernel⟩, List.mem_of_getElem? (i := 21) (by decide +kernel), List.mem_of_getElem? (i := 444) (by decide +kernel), List.mem_of_getElem? (i := 445) (by decide +kernel)⟩
theorem lw_p36 : lw_okq (⟨"LocalMenders$State", "leaveQueue", "(I)V"⟩, 14) := ⟨⟨by decide +kernel, by decide +kernel⟩, List.mem_of_getElem? (i := 21) (by decide +kernel), List.mem_of_getElem? (i := 448) (by decide +kernel), List.mem_of_getElem? (i := 449) (by decide +kernel)⟩
theorem lw_p37 : lw_okq (⟨"LocalMenders", "mendCellsOn", "(I)I"⟩, 9) := ⟨⟨by decide +kernel, by decide +kernel⟩, List.mem_of_getElem? (i := 13) (by decide +kernel), List.mem_of_getElem? (i := 463) (by decide +kernel), List.mem_of_getElem? (i := 464) (by decide +kernel)⟩
theorem lw_p38 : lw_okq (⟨"LocalMenders", "workOnQueue", "(I)I"⟩, 9) := ⟨⟨by decide +kernel, by decide +kernel⟩, List.mem_of_getElem? (i := 13) (by decide +kernel), List.mem_of_getElem? (i := 474) (by decide +kernel), List.mem_of_getElem? (i := 475) (by decide +kernel)⟩
theorem lw_p39 : lw_okq (⟨"LocalMenders", "scrubStripes", "()I"⟩, 9) := ⟨⟨by decide +kernel, by decide +kernel⟩, List.mem_of_getElem? (i := 13) (by decide +kernel), List.mem_of_getElem? (i := 484) (by decide +kernel), List.mem_of_getElem? (i := 485) (by decide +kernel)⟩
theorem lw_p40 : lw_okq (⟨"LocalMenders$State", "culpritIn", "(I)I"⟩, 14) := ⟨⟨by decide +kernel, by decide +kernel⟩, List.mem_of_getElem? (i := 21) (by decide +kernel), List.mem_of_getElem? (i := 488) (by decide +kernel), List.mem_of_getElem? (i := 489) (by decide +kernel)⟩
theorem lw_p41 : lw_okq (⟨"LocalMenders$Orders", "append", "(C)I"⟩, 9) := ⟨⟨by decide +kernel, by decide +kernel⟩, List.mem_of_getElem? (i := 112) (by decide +kernel), List.mem_of_getElem? (i := 501) (by decide +kernel), List.mem_of_getElem? (i := 502) (by decide +kernel)⟩
theorem lw_p42 : lw_okq (⟨"LocalMenders$Orders", "findFault", "()I"⟩, 9) := ⟨⟨by decide +kernel, by decide +kernel⟩, List.mem_of_getElem? (i := 112) (by decide +kernel), List.mem_of_getElem? (i := 513) (by decide +kernel), List.mem_of_getElem? (i := 514) (by decide +kernel)⟩
theorem lw_p43 : lw_okq (⟨"LocalMenders$Orders", "goToStart", "()V"⟩, 9) := ⟨⟨by decide +kernel, by decide +kernel⟩, List.mem_of_getElem? (i := 112) (by decide +kernel), List.mem_of_getElem? (i := 517) (by decide +kernel), List.mem_of_getElem? (i := 518) (by decide +kernel)⟩
theorem lw_p44 : lw_okq (⟨"LocalMenders$Orders", "readOrder", "()Z"⟩, 9) := ⟨⟨by decide +kernel, by decide +kernel⟩, List.mem_of_getElem? (i := 112) (by decide +kernel), List.mem_of_getElem? (i := 521) (by decide +kernel), List.mem_of_getElem? (i := 522) (by decide +kernel)⟩
theorem lw_p45 : lw_okq (⟨"LocalMenders$Orders", "sign", "()I"⟩, 9) := ⟨⟨by decide +kernel, by decide +kernel⟩, List.mem_of_getElem? (i := 112) (by decide +kernel), List.mem_of_getElem? (i := 525) (by decide +kernel), List.mem_of_getElem? (i := 526) (by decide +kernel)⟩
theorem lw_p46 : lw_okq (⟨"LocalMenders$Orders", "readNumber", "()I"⟩, 9) := ⟨⟨by decide +kernel, by decide +kernel⟩, List.mem_of_getElem? (i := 112) (by decide +kernel), List.mem_of_getElem? (i := 529) (by decide +kernel), List.mem_of_getElem? (i := 530) (by decide +kernel)⟩
theorem lw_p47 : lw_okq (⟨"LocalMenders$Orders", "readDigit", "()I"⟩, 9) := ⟨⟨by decide +kernel, by decide +kernel⟩, List.mem_of_getElem? (i := 112) (by decide +kernel), List.mem_of_getElem? (i := 533) (by decide +kernel), List.mem_of_getElem? (i := 534) (by decide +kernel)⟩
def lw_privs_3 : List (MethodName × Nat) := [(⟨"LocalMenders$Plan", "solve", "(II)I"⟩, 3), (⟨"LocalMenders$State", "countReads", "(II)V"⟩, 14), (⟨"LocalMenders$State", "nodeOf", "(II)I"⟩, 14), (⟨"LocalMenders$State", "bringBack", "(III)V"⟩, 14), (⟨"LocalMenders$State", "leaveQueue", "(I)V"⟩, 14), (⟨"LocalMenders", "mendCellsOn", "(I)I"⟩, 9), (⟨"LocalMenders", "workOnQueue", "(I)I"⟩, 9), (⟨"LocalMenders", "scrubStripes", "()I"⟩, 9), (⟨"LocalMenders$State", "culpritIn", "(I)I"⟩, 14), (⟨"LocalMenders$Orders", "append", "(C)I"⟩, 9), (⟨"LocalMenders$Orders", "findFault", "()I"⟩, 9), (⟨"LocalMenders$Orders", "goToStart", "()V"⟩, 9), (⟨"LocalMenders$Orders", "readOrder", "()Z"⟩, 9), (⟨"LocalMenders$Orders", "sign", "()I"⟩, 9), (⟨"LocalMenders$Orders", "readNumber", "()I"⟩, 9), (⟨"LocalMenders$Orders", "readDigit", "()I"⟩, 9)]
theorem lw_r3 : ∀ q ∈ lw_privs_3, lw_okq q := List.forall_mem_cons.mpr ⟨lw_p32, List.forall_mem_cons.mpr ⟨lw_p33, List.forall_mem_cons.mpr ⟨lw_p34, List.forall_mem_cons.mpr ⟨lw_p35, List.forall_mem_cons.mpr ⟨lw_p36, List.forall_mem_cons.mpr ⟨lw_p37, List.forall_mem_cons.mpr ⟨lw_p38, List.forall_mem_cons.mpr ⟨lw_p39, List.forall_mem_cons.mpr ⟨lw_p40, List.forall_mem_cons.mpr ⟨lw_p41, List.forall_mem_cons.mpr ⟨lw_p42, List.forall_mem_cons.mpr ⟨lw_p43, List.forall_mem_cons.mpr ⟨lw_p44, List.forall_mem_cons.mpr ⟨lw_p45, List.forall_mem_cons.mpr ⟨lw_p46, List.forall_mem_cons.mpr ⟨lw_p47, fun _ h => absurd h List.not_mem_nil⟩⟩⟩⟩⟩⟩⟩⟩⟩⟩⟩⟩⟩⟩⟩⟩
theorem lw_p48 : lw_okq (⟨"LocalMenders$Orders", "pass", "(C)Z"⟩, 9) := ⟨⟨by decide +kernel, by decide +kernel⟩, List.mem_of_getElem? (i := 112) (by decide +kernel), List.mem_of_getElem? (i := 537) (by decide +kernel), List.mem_of_getElem? (i := 538) (by decide +kernel)⟩
theorem lw_p49 : lw_okq (⟨"LocalMenders", "carryOut", "()I"⟩, 9) := ⟨⟨by decide +kernel, by decide +kernel⟩, List.mem_of_getElem? (i := 13) (by decide +kernel), List.mem_of_getElem? (i := 543) (by decide +kernel), List.mem_of_getElem? (i := 544) (by decide +kernel)⟩
theorem lw_p50 : lw_okq (⟨"LocalMenders$Plan", "canMendAll", "(LLocalMenders$State;I)Z"⟩, 3) := ⟨⟨by decide +kernel, by decide +kernel⟩, List.mem_of_getElem? (i := 154) (by decide +kernel), List.mem_of_getElem? (i := 610) (by decide +kernel), List.mem_of_getElem? (i := 611) (by decide +kernel)⟩
theorem lw_p51 : lw_okq (⟨"LocalMenders$Search", "run", "(LLocalMenders$State;I)V"⟩, 4) := ⟨⟨by decide +kernel, by decide +kernel⟩, List.mem_of_getElem? (i := 189) (by decide +kernel), List.mem_of_getElem? (i := 619) (by decide +kernel), List.mem_of_getElem? (i := 620) (by decide +kernel)⟩
theorem lw_p52 : lw_okq (⟨"LocalMenders$Search", "choose", "(LLocalMenders$State;IIIZ)V"⟩, 4) := ⟨⟨by decide +kernel, by decide +kernel⟩, List.mem_of_getElem? (i := 189) (by decide +kernel), List.mem_of_getElem? (i := 627) (by decide +kernel), List.mem_of_getElem? (i := 628) (by decide +kernel)⟩
theorem lw_p53 : lw_okq (⟨"LocalMenders$Search", "note", "(LLocalMenders$State;I)V"⟩, 4) := ⟨⟨by decide +kernel, by decide +kernel⟩, List.mem_of_getElem? (i := 189) (by decide +kernel), List.mem_of_getElem? (i := 631) (by decide +kernel), List.mem_of_getElem? (i := 632) (by decide +kernel)⟩
theorem lw_p54 : lw_okq (⟨"LocalMenders$State", "nodesOf", "(II)I"⟩, 14) := ⟨⟨by decide +kernel, by decide +kernel⟩, List.mem_of_getElem? (i := 21) (by decide +kernel), List.mem_of_getElem? (i := 635) (by decide +kernel), List.mem_of_getElem? (i := 636) (by decide +kernel)⟩
theorem lw_p55 : lw_okq (⟨"LocalMenders$Search", "takeOut", "(IIII)V"⟩, 4) := ⟨⟨by decide +kernel, by decide +kernel⟩, List.mem_of_getElem? (i := 189) (by decide +kernel), List.mem_of_getElem? (i := 640) (by decide +kernel), List.mem_of_getElem? (i := 641) (by decide +kernel)⟩
theorem lw_p56 : lw_okq (⟨"LocalMendersModel", "product", "(II)I"⟩, 15) := ⟨⟨by decide +kernel, by decide +kernel⟩, List.mem_of_getElem? (i := 656) (by decide +kernel), List.mem_of_getElem? (i := 665) (by decide +kernel), List.mem_of_getElem? (i := 666) (by decide +kernel)⟩
theorem lw_p57 : lw_okq (⟨"LocalMendersModel", "remember", "()V"⟩, 15) := ⟨⟨by decide +kernel, by decide +kernel⟩, List.mem_of_getElem? (i := 656) (by decide +kernel), List.mem_of_getElem? (i := 727) (by decide +kernel), List.mem_of_getElem? (i := 728) (by decide +kernel)⟩
theorem lw_p58 : lw_okq (⟨"LocalMendersModel", "changed", "(I)I"⟩, 15) := ⟨⟨by decide +kernel, by decide +kernel⟩, List.mem_of_getElem? (i := 656) (by decide +kernel), List.mem_of_getElem? (i := 731) (by decide +kernel), List.mem_of_getElem? (i := 732) (by decide +kernel)⟩
theorem lw_p59 : lw_okq (⟨"LocalMendersModel", "cells", "()I"⟩, 15) := ⟨⟨by decide +kernel, by decide +kernel⟩, List.mem_of_getElem? (i := 656) (by decide +kernel), List.mem_of_getElem? (i := 742) (by decide +kernel), List.mem_of_getElem? (i := 743) (by decide +kernel)⟩
theorem lw_p60 : lw_okq (⟨"LocalMendersModel", "dataCells", "()I"⟩, 15) := ⟨⟨by decide +kernel, by decide +kernel⟩, List.mem_of_getElem? (i := 656) (by decide +kernel), List.mem_of_getElem? (i := 746) (by decide +kernel), List.mem_of_getElem? (i := 747) (by decide +kernel)⟩
theorem lw_p61 : lw_okq (⟨"LocalMendersModel", "writeCell", "(III)I"⟩, 15) := ⟨⟨by decide +kernel, by decide +kernel⟩, List.mem_of_getElem? (i := 656) (by decide +kernel), List.mem_of_getElem? (i := 754) (by decide +kernel), List.mem_of_getElem? (i := 755) (by decide +kernel)⟩
theorem lw_p62 : lw_okq (⟨"LocalMendersModel", "isStripe", "(I)Z"⟩, 15) := ⟨⟨by decide +kernel, by decide +kernel⟩, List.mem_of_getElem? (i := 656) (by decide +kernel), List.mem_of_getElem? (i := 758) (by decide +kernel), List.mem_of_getElem? (i := 759) (by decide +kernel)⟩
theorem lw_p63 : lw_okq (⟨"LocalMendersModel", "lostCells", "(I)I"⟩, 15) := ⟨⟨by decide +kernel, by decide +kernel⟩, List.mem_of_getElem? (i := 656) (by decide +kernel), List.mem_of_getElem? (i := 762) (by decide +kernel), List.mem_of_getElem? (i := 763) (by decide +kernel)⟩
def lw_privs_4 : List (MethodName × Nat) := [(⟨"LocalMenders$Orders", "pass", "(C)Z"⟩, 9), (⟨"LocalMenders", "carryOut", "()I"⟩, 9), (⟨"LocalMenders$Plan", "canMendAll", "(LLocalMenders$State;I)Z"⟩, 3), (⟨"LocalMenders$Search", "run", "(LLocalMenders$State;I)V"⟩, 4), (⟨"LocalMenders$Search", "choose", "(LLocalMenders$State;IIIZ)V"⟩, 4), (⟨"LocalMenders$Search", "note", "(LLocalMenders$State;I)V"⟩, 4), (⟨"LocalMenders$State", "nodesOf", "(II)I"⟩, 14), (⟨"LocalMenders$Search", "takeOut", "(IIII)V"⟩, 4), (⟨"LocalMendersModel", "product", "(II)I"⟩, 15), (⟨"LocalMendersModel", "remember", "()V"⟩, 15), (⟨"LocalMendersModel", "changed", "(I)I"⟩, 15), (⟨"LocalMendersModel", "cells", "()I"⟩, 15), (⟨"LocalMendersModel", "dataCells", "()I"⟩, 15), (⟨"LocalMendersModel", "writeCell", "(III)I"⟩, 15), (⟨"LocalMendersModel", "isStripe", "(I)Z"⟩, 15), (⟨"LocalMendersModel", "lostCells", "(I)I"⟩, 15)]
theorem lw_r4 : ∀ q ∈ lw_privs_4, lw_okq q := List.forall_mem_cons.mpr ⟨lw_p48, List.forall_mem_cons.mpr ⟨lw_p49, List.forall_mem_cons.mpr ⟨lw_p50, List.forall_mem_cons.mpr ⟨lw_p51, List.forall_mem_cons.mpr ⟨lw_p52, List.forall_mem_cons.mpr ⟨lw_p53, List.forall_mem_cons.mpr ⟨lw_p54, List.forall_mem_cons.mpr ⟨lw_p55, List.forall_mem_cons.mpr ⟨lw_p56, List.forall_mem_cons.mpr ⟨lw_p57, List.forall_mem_cons.mpr ⟨lw_p58, List.forall_mem_cons.mpr ⟨lw_p59, List.forall_mem_cons.mpr ⟨lw_p60, List.forall_mem_cons.mpr ⟨lw_p61, List.forall_mem_cons.mpr ⟨lw_p62, List.forall_mem_cons.mpr ⟨lw_p63, fun _ h => absurd h List.not_mem_nil⟩⟩⟩⟩⟩⟩⟩⟩⟩⟩⟩⟩⟩⟩⟩⟩
theorem lw_p64 : lw_okq (⟨"LocalMendersModel", "isLost", "(II)Z"⟩, 15) := ⟨⟨by decide +kernel, by decide +kernel⟩, List.mem_of_getElem? (i := 656) (by decide +kernel), List.mem_of_getElem? (i := 766) (by decide +kernel), List.mem_of_getElem? (i := 767) (by decide +kernel)⟩
theorem lw_p65 : lw_okq (⟨"LocalMendersModel", "cellValue", "(II)I"⟩, 15) := ⟨⟨by decide +kernel, by decide +kernel⟩, List.mem_of_getElem? (i := 656) (by decide +kernel), List.mem_of_getElem? (i := 770) (by decide +kernel), List.mem_of_getElem? (i := 771) (by decide +kernel)⟩
theorem lw_p66 : lw_okq (⟨"LocalMendersModel", "groupOf", "(I)I"⟩, 15) := ⟨⟨by decide +kernel, by decide +kernel⟩, List.mem_of_getElem? (i := 656) (by decide +kernel), List.mem_of_getElem? (i := 774) (by decide +kernel), List.mem_of_getElem? (i := 775) (by decide +kernel)⟩
theorem lw_p67 : lw_okq (⟨"LocalMendersModel", "setValue", "(III)V"⟩, 15) := ⟨⟨by decide +kernel, by decide +kernel⟩, List.mem_of_getElem? (i := 656) (by decide +kernel), List.mem_of_getElem? (i := 778) (by decide +kernel), List.mem_of_getElem? (i := 779) (by decide +kernel)⟩
theorem lw_p68 : lw_okq (⟨"LocalMendersModel", "isCell", "(II)Z"⟩, 15) := ⟨⟨by decide +kernel, by decide +kernel⟩, List.mem_of_getElem? (i := 656) (by decide +kernel), List.mem_of_getElem? (i := 786) (by decide +kernel), List.mem_of_getElem? (i := 787) (by decide +kernel)⟩
theorem lw_p69 : lw_okq (⟨"LocalMendersModel", "loseCell", "(II)I"⟩, 15) := ⟨⟨by decide +kernel, by decide +kernel⟩, List.mem_of_getElem? (i := 656) (by decide +kernel), List.mem_of_getElem? (i := 794) (by decide +kernel), List.mem_of_getElem? (i := 795) (by decide +kernel)⟩
theorem lw_p70 : lw_okq (⟨"LocalMendersModel", "joinQueue", "(II)V"⟩, 15) := ⟨⟨by decide +kernel, by decide +kernel⟩, List.mem_of_getElem? (i := 656) (by decide +kernel), List.mem_of_getElem? (i := 798) (by decide +kernel), List.mem_of_getElem? (i := 799) (by decide +kernel)⟩
theorem lw_p71 : lw_okq (⟨"LocalMendersModel", "loseAll", "(I)I"⟩, 15) := ⟨⟨by decide +kernel, by decide +kernel⟩, List.mem_of_getElem? (i := 656) (by decide +kernel), List.mem_of_getElem? (i := 806) (by decide +kernel), List.mem_of_getElem? (i := 807) (by decide +kernel)⟩
theorem lw_p72 : lw_okq (⟨"LocalMendersModel", "isNode", "(I)Z"⟩, 15) := ⟨⟨by decide +kernel, by decide +kernel⟩, List.mem_of_getElem? (i := 656) (by decide +kernel), List.mem_of_getElem? (i := 810) (by decide +kernel), List.mem_of_getElem? (i := 811) (by decide +kernel)⟩
theorem lw_p73 : lw_okq (⟨"LocalMendersModel", "cellOn", "(II)I"⟩, 15) := ⟨⟨by decide +kernel, by decide +kernel⟩, List.mem_of_getElem? (i := 656) (by decide +kernel), List.mem_of_getElem? (i := 814) (by decide +kernel), List.mem_of_getElem? (i := 815) (by decide +kernel)⟩
theorem lw_p74 : lw_okq (⟨"LocalMendersModel", "mendCell", "(II)I"⟩, 15) := ⟨⟨by decide +kernel, by decide +kernel⟩, List.mem_of_getElem? (i := 656) (by decide +kernel), List.mem_of_getElem? (i := 822) (by decide +kernel), List.mem_of_getElem? (i := 823) (by decide +kernel)⟩
theorem lw_p75 : lw_okq (⟨"LocalMendersModel", "wayNow", "(II)I"⟩, 15) := ⟨⟨by decide +kernel, by decide +kernel⟩, List.mem_of_getElem? (i := 656) (by decide +kernel), List.mem_of_getElem? (i := 826) (by decide +kernel), List.mem_of_getElem? (i := 827) (by decide +kernel)⟩
theorem lw_p76 : lw_okq (⟨"LocalMendersModel", "wayOf", "(II)I"⟩, 15) := ⟨⟨by decide +kernel, by decide +kernel⟩, List.mem_of_getElem? (i := 656) (by decide +kernel), List.mem_of_getElem? (i := 830) (by decide +kernel), List.mem_of_getElem? (i := 831) (by decide +kernel)⟩
theorem lw_p77 : lw_okq (⟨"LocalMendersModel", "groupCells", "(I)I"⟩, 15) := ⟨⟨by decide +kernel, by decide +kernel⟩, List.mem_of_getElem? (i := 656) (by decide +kernel), List.mem_of_getElem? (i := 834) (by decide +kernel), List.mem_of_getElem? (i := 835) (by decide +kernel)⟩
theorem lw_p78 : lw_okq (⟨"LocalMendersModel", "tellingPair", "(II)I"⟩, 15) := ⟨⟨by decide +kernel, by decide +kernel⟩, List.mem_of_getElem? (i := 656) (by decide +kernel), List.mem_of_getElem? (i := 838) (by decide +kernel), List.mem_of_getElem? (i := 839) (by decide +kernel)⟩
theorem lw_p79 : lw_okq (⟨"LocalMendersModel", "isSum", "(IIII)Z"⟩, 15) := ⟨⟨by decide +kernel, by decide +kernel⟩, List.mem_of_getElem? (i := 656) (by decide +kernel), List.mem_of_getElem? (i := 842) (by decide +kernel), List.mem_of_getElem? (i := 843) (by decide +kernel)⟩
def lw_privs_5 : List (MethodName × Nat) := [(⟨"LocalMendersModel", "isLost", "(II)Z"⟩, 15), (⟨"LocalMendersModel", "cellValue", "(II)I"⟩, 15), (⟨"LocalMendersModel", "groupOf", "(I)I"⟩, 15), (⟨"LocalMendersModel", "setValue", "(III)V"⟩, 15), (⟨"LocalMendersModel", "isCell", "(II)Z"⟩, 15), (⟨"LocalMendersModel", "loseCell", "(II)I"⟩, 15), (⟨"LocalMendersModel", "joinQueue", "(II)V"⟩, 15), (⟨"LocalMendersModel", "loseAll", "(I)I"⟩, 15), (⟨"LocalMendersModel", "isNode", "(I)Z"⟩, 15), (⟨"LocalMendersModel", "cellOn", "(II)I"⟩, 15), (⟨"LocalMendersModel", "mendCell", "(II)I"⟩, 15), (⟨"LocalMendersModel", "wayNow", "(II)I"⟩, 15), (⟨"LocalMendersModel", "wayOf", "(II)I"⟩, 15), (⟨"LocalMendersModel", "groupCells", "(I)I"⟩, 15), (⟨"LocalMendersModel", "tellingPair", "(II)I"⟩, 15), (⟨"LocalMendersModel", "isSum", "(IIII)Z"⟩, 15)]
theorem lw_r5 : ∀ q ∈ lw_privs_5, lw_okq q := List.forall_mem_cons.mpr ⟨lw_p64, List.forall_mem_cons.mpr ⟨lw_p65, List.forall_mem_cons.mpr ⟨lw_p66, List.forall_mem_cons.mpr ⟨lw_p67, List.forall_mem_cons.mpr ⟨lw_p68, List.forall_mem_cons.mpr ⟨lw_p69, List.forall_mem_cons.mpr ⟨lw_p70, List.forall_mem_cons.mpr ⟨lw_p71, List.forall_mem_cons.mpr ⟨lw_p72, List.forall_mem_cons.mpr ⟨lw_p73, List.forall_mem_cons.mpr ⟨lw_p74, List.forall_mem_cons.mpr ⟨lw_p75, List.forall_mem_cons.mpr ⟨lw_p76, List.forall_mem_cons.mpr ⟨lw_p77, List.forall_mem_cons.mpr ⟨lw_p78, List.forall_mem_cons.mpr ⟨lw_p79, fun _ h => absurd h List.not_mem_nil⟩⟩⟩⟩⟩⟩⟩⟩⟩⟩⟩⟩⟩⟩⟩⟩
theorem lw_p80 : lw_okq (⟨"LocalMendersModel", "globalPart", "(III)I"⟩, 15) := ⟨⟨by decide +kernel, by decide +kernel⟩, List.mem_of_getElem? (i := 656) (by decide +kernel), List.mem_of_getElem? (i := 846) (by decide +kernel), List.mem_of_getElem? (i := 847) (by decide +kernel)⟩
theorem lw_p81 : lw_okq (⟨"LocalMendersModel", "canHold", "(II)Z"⟩, 15) := ⟨⟨by decide +kernel, by decide +kernel⟩, List.mem_of_getElem? (i := 656) (by decide +kernel), List.mem_of_getElem? (i := 850) (by decide +kernel), List.mem_of_getElem? (i := 851) (by decide +kernel)⟩
theorem lw_p82 : lw_okq (⟨"LocalMendersModel", "localSum", "(II)I"⟩, 15) := ⟨⟨by decide +kernel, by decide +kernel⟩, List.mem_of_getElem? (i := 656) (by decide +kernel), List.mem_of_getElem? (i := 854) (by decide +kernel), List.mem_of_getElem? (i := 855) (by decide +kernel)⟩
theorem lw_p83 : lw_okq (⟨"LocalMendersModel", "sumThere", "(III)I"⟩, 15) := ⟨⟨by decide +kernel, by decide +kernel⟩, List.mem_of_getElem? (i := 656) (by decide +kernel), List.mem_of_getElem? (i := 858) (by decide +kernel), List.mem_of_getElem? (i := 859) (by decide +kernel)⟩
theorem lw_p84 : lw_okq (⟨"LocalMendersModel", "factorOf", "(III)I"⟩, 15) := ⟨⟨by decide +kernel, by decide +kernel⟩, List.mem_of_getElem? (i := 656) (by decide +kernel), List.mem_of_getElem? (i := 862) (by decide +kernel), List.mem_of_getElem? (i := 863) (by decide +kernel)⟩
theorem lw_p85 : lw_okq (⟨"LocalMendersModel", "mendedValue", "(III)I"⟩, 15) := ⟨⟨by decide +kernel, by decide +kernel⟩, List.mem_of_getElem? (i := 656) (by decide +kernel), List.mem_of_getElem? (i := 866) (by decide +kernel), List.mem_of_getElem? (i := 867) (by decide +kernel)⟩
theorem lw_p86 : lw_okq (⟨"LocalMendersModel", "weighed", "(IZ)I"⟩, 15) := ⟨⟨by decide +kernel, by decide +kernel⟩, List.mem_of_getElem? (i := 656) (by decide +kernel), List.mem_of_getElem? (i := 870) (by decide +kernel), List.mem_of_getElem? (i := 871) (by decide +kernel)⟩
theorem lw_p87 : lw_okq (⟨"LocalMendersModel", "isRead", "(IIII)Z"⟩, 15) := ⟨⟨by decide +kernel, by decide +kernel⟩, List.mem_of_getElem? (i := 656) (by decide +kernel), List.mem_of_getElem? (i := 874) (by decide +kernel), List.mem_of_getElem? (i := 875) (by decide +kernel)⟩
theorem lw_p88 : lw_okq (⟨"LocalMendersModel", "nodeOf", "(II)I"⟩, 15) := ⟨⟨by decide +kernel, by decide +kernel⟩, List.mem_of_getElem? (i := 656) (by decide +kernel), List.mem_of_getElem? (i := 878) (by decide +kernel), List.mem_of_getElem? (i := 879) (by decide +kernel)⟩
theorem lw_p89 : lw_okq (⟨"LocalMendersModel", "leaveQueue", "(II)V"⟩, 15) := ⟨⟨by decide +kernel, by decide +kernel⟩, List.mem_of_getElem? (i := 656) (by decide +kernel), List.mem_of_getElem? (i := 882) (by decide +kernel), List.mem_of_getElem? (i := 883) (by decide +kernel)⟩
theorem lw_p90 : lw_okq (⟨"LocalMendersModel", "mendAll", "(I)I"⟩, 15) := ⟨⟨by decide +kernel, by decide +kernel⟩, List.mem_of_getElem? (i := 656) (by decide +kernel), List.mem_of_getElem? (i := 890) (by decide +kernel), List.mem_of_getElem? (i := 891) (by decide +kernel)⟩
theorem lw_p91 : lw_okq (⟨"LocalMendersModel", "takeBack", "()V"⟩, 15) := ⟨⟨by decide +kernel, by decide +kernel⟩, List.mem_of_getElem? (i := 656) (by decide +kernel), List.mem_of_getElem? (i := 894) (by decide +kernel), List.mem_of_getElem? (i := 895) (by decide +kernel)⟩
theorem lw_p92 : lw_okq (⟨"LocalMendersModel", "findCulprit", "(I)I"⟩, 15) := ⟨⟨by decide +kernel, by decide +kernel⟩, List.mem_of_getElem? (i := 656) (by decide +kernel), List.mem_of_getElem? (i := 906) (by decide +kernel), List.mem_of_getElem? (i := 907) (by decide +kernel)⟩
theorem lw_p93 : lw_okq (⟨"LocalMendersModel", "failingChecks", "(I)I"⟩, 15) := ⟨⟨by decide +kernel, by decide +kernel⟩, List.mem_of_getElem? (i := 656) (by decide +kernel), List.mem_of_getElem? (i := 910) (by decide +kernel), List.mem_of_getElem? (i := 911) (by decide +kernel)⟩
theorem lw_p94 : lw_okq (⟨"LocalMendersModel", "findFault", "()I"⟩, 15) := ⟨⟨by decide +kernel, by decide +kernel⟩, List.mem_of_getElem? (i := 656) (by decide +kernel), List.mem_of_getElem? (i := 926) (by decide +kernel), List.mem_of_getElem? (i := 927) (by decide +kernel)⟩
theorem lw_p95 : lw_okq (⟨"LocalMendersModel", "readsOrder", "()Z"⟩, 15) := ⟨⟨by decide +kernel, by decide +kernel⟩, List.mem_of_getElem? (i := 656) (by decide +kernel), List.mem_of_getElem? (i := 930) (by decide +kernel), List.mem_of_getElem? (i := 931) (by decide +kernel)⟩
def lw_privs_6 : List (MethodName × Nat) := [(⟨"LocalMendersModel", "globalPart", "(III)I"⟩, 15), (⟨"LocalMendersModel", "canHold", "(II)Z"⟩, 15), (⟨"LocalMendersModel", "localSum", "(II)I"⟩, 15), (⟨"LocalMendersModel", "sumThere", "(III)I"⟩, 15), (⟨"LocalMendersModel", "factorOf", "(III)I"⟩, 15), (⟨"LocalMendersModel", "mendedValue", "(III)I"⟩, 15), (⟨"LocalMendersModel", "weighed", "(IZ)I"⟩, 15), (⟨"LocalMendersModel", "isRead", "(IIII)Z"⟩, 15), (⟨"LocalMendersModel", "nodeOf", "(II)I"⟩, 15), (⟨"LocalMendersModel", "leaveQueue", "(II)V"⟩, 15), (⟨"LocalMendersModel", "mendAll", "(I)I"⟩, 15), (⟨"LocalMendersModel", "takeBack", "()V"⟩, 15), (⟨"LocalMendersModel", "findCulprit", "(I)I"⟩, 15), (⟨"LocalMendersModel", "failingChecks", "(I)I"⟩, 15), (⟨"LocalMendersModel", "findFault", "()I"⟩, 15), (⟨"LocalMendersModel", "readsOrder", "()Z"⟩, 15)]
theorem lw_r6 : ∀ q ∈ lw_privs_6, lw_okq q := List.forall_mem_cons.mpr ⟨lw_p80, List.forall_mem_cons.mpr ⟨lw_p81, List.forall_mem_cons.mpr ⟨lw_p82, List.forall_mem_cons.mpr ⟨lw_p83, List.forall_mem_cons.mpr ⟨lw_p84, List.forall_mem_cons.mpr ⟨lw_p85, List.forall_mem_cons.mpr ⟨lw_p86, List.forall_mem_cons.mpr ⟨lw_p87, List.forall_mem_cons.mpr ⟨lw_p88, List.forall_mem_cons.mpr ⟨lw_p89, List.forall_mem_cons.mpr ⟨lw_p90, List.forall_mem_cons.mpr ⟨lw_p91, List.forall_mem_cons.mpr ⟨lw_p92, List.forall_mem_cons.mpr ⟨lw_p93, List.forall_mem_cons.mpr ⟨lw_p94, List.forall_mem_cons.mpr ⟨lw_p95, fun _ h => absurd h List.not_mem_nil⟩⟩⟩⟩⟩⟩⟩⟩⟩⟩⟩⟩⟩⟩⟩⟩
theorem lw_p96 : lw_okq (⟨"LocalMendersModel", "next", "()I"⟩, 15) := ⟨⟨by decide +kernel, by decide +kernel⟩, List.mem_of_getElem? (i := 656) (by decide +kernel), List.mem_of_getElem? (i := 934) (by decide +kernel), List.mem_of_getElem? (i := 935) (by decide +kernel)⟩
theorem lw_p97 : lw_okq (⟨"LocalMendersModel", "readsRest", "(I)Z"⟩, 15) := ⟨⟨by decide +kernel, by decide +kernel⟩, List.mem_of_getElem? (i := 656) (by decide +kernel), List.mem_of_getElem? (i := 938) (by decide +kernel), List.mem_of_getElem? (i := 939) (by decide +kernel)⟩
theorem lw_p98 : lw_okq (⟨"LocalMendersModel", "readsPlace", "()Z"⟩, 15) := ⟨⟨by decide +kernel, by decide +kernel⟩, List.mem_of_getElem? (i := 656) (by decide +kernel), List.mem_of_getElem? (i := 942) (by decide +kernel), List.mem_of_getElem? (i := 943) (by decide +kernel)⟩
theorem lw_p99 : lw_okq (⟨"LocalMendersModel", "readsDigit", "(I)Z"⟩, 15) := ⟨⟨by decide +kernel, by decide +kernel⟩, List.mem_of_getElem? (i := 656) (by decide +kernel), List.mem_of_getElem? (i := 946) (by decide +kernel), List.mem_of_getElem? (i := 947) (by decide +kernel)⟩
theorem lw_p100 : lw_okq (⟨"LocalMendersModel", "takes", "(I)Z"⟩, 15) := ⟨⟨by decide +kernel, by decide +kernel⟩, List.mem_of_getElem? (i := 656) (by decide +kernel), List.mem_of_getElem? (i := 950) (by decide +kernel), List.mem_of_getElem? (i := 951) (by decide +kernel)⟩
theorem lw_p101 : lw_okq (⟨"LocalMendersModel", "readsNumber", "(I)Z"⟩, 15) := ⟨⟨by decide +kernel, by decide +kernel⟩, List.mem_of_getElem? (i := 656) (by decide +kernel), List.mem_of_getElem? (i := 954) (by decide +kernel), List.mem_of_getElem? (i := 955) (by decide +kernel)⟩
theorem lw_p102 : lw_okq (⟨"LocalMendersModel", "carryOut", "(I)I"⟩, 15) := ⟨⟨by decide +kernel, by decide +kernel⟩, List.mem_of_getElem? (i := 656) (by decide +kernel), List.mem_of_getElem? (i := 958) (by decide +kernel), List.mem_of_getElem? (i := 959) (by decide +kernel)⟩
theorem lw_p103 : lw_okq (⟨"LocalMendersModel", "readMany", "(III)I"⟩, 15) := ⟨⟨by decide +kernel, by decide +kernel⟩, List.mem_of_getElem? (i := 656) (by decide +kernel), List.mem_of_getElem? (i := 999) (by decide +kernel), List.mem_of_getElem? (i := 1000) (by decide +kernel)⟩
theorem lw_p104 : lw_okq (⟨"LocalMendersModel", "isSurvived", "(I)Z"⟩, 15) := ⟨⟨by decide +kernel, by decide +kernel⟩, List.mem_of_getElem? (i := 656) (by decide +kernel), List.mem_of_getElem? (i := 1015) (by decide +kernel), List.mem_of_getElem? (i := 1016) (by decide +kernel)⟩
theorem lw_p105 : lw_okq (⟨"LocalMendersModel", "leastNodes", "(I)I"⟩, 15) := ⟨⟨by decide +kernel, by decide +kernel⟩, List.mem_of_getElem? (i := 656) (by decide +kernel), List.mem_of_getElem? (i := 1030) (by decide +kernel), List.mem_of_getElem? (i := 1031) (by decide +kernel)⟩
theorem lw_p106 : lw_okq (⟨"LocalMendersModel", "nodesOf", "(II)I"⟩, 15) := ⟨⟨by decide +kernel, by decide +kernel⟩, List.mem_of_getElem? (i := 656) (by decide +kernel), List.mem_of_getElem? (i := 1034) (by decide +kernel), List.mem_of_getElem? (i := 1035) (by decide +kernel)⟩
def lw_privs_7 : List (MethodName × Nat) := [(⟨"LocalMendersModel", "next", "()I"⟩, 15), (⟨"LocalMendersModel", "readsRest", "(I)Z"⟩, 15), (⟨"LocalMendersModel", "readsPlace", "()Z"⟩, 15), (⟨"LocalMendersModel", "readsDigit", "(I)Z"⟩, 15), (⟨"LocalMendersModel", "takes", "(I)Z"⟩, 15), (⟨"LocalMendersModel", "readsNumber", "(I)Z"⟩, 15), (⟨"LocalMendersModel", "carryOut", "(I)I"⟩, 15), (⟨"LocalMendersModel", "readMany", "(III)I"⟩, 15), (⟨"LocalMendersModel", "isSurvived", "(I)Z"⟩, 15), (⟨"LocalMendersModel", "leastNodes", "(I)I"⟩, 15), (⟨"LocalMendersModel", "nodesOf", "(II)I"⟩, 15)]
theorem lw_r7 : ∀ q ∈ lw_privs_7, lw_okq q := List.forall_mem_cons.mpr ⟨lw_p96, List.forall_mem_cons.mpr ⟨lw_p97, List.forall_mem_cons.mpr ⟨lw_p98, List.forall_mem_cons.mpr ⟨lw_p99, List.forall_mem_cons.mpr ⟨lw_p100, List.forall_mem_cons.mpr ⟨lw_p101, List.forall_mem_cons.mpr ⟨lw_p102, List.forall_mem_cons.mpr ⟨lw_p103, List.forall_mem_cons.mpr ⟨lw_p104, List.forall_mem_cons.mpr ⟨lw_p105, List.forall_mem_cons.mpr ⟨lw_p106, fun _ h => absurd h List.not_mem_nil⟩⟩⟩⟩⟩⟩⟩⟩⟩⟩⟩
def lw_privs : List (MethodName × Nat) := lw_privs_1 ++ (lw_privs_2 ++ (lw_privs_3 ++ (lw_privs_4 ++ (lw_privs_5 ++ (lw_privs_6 ++ (lw_privs_7))))))
def lw_tbl : List Cond := k2_sels lw_privs ++ tables_1
theorem lw_privs_ok : ∀ q ∈ lw_privs, lw_okq q := by
  show ∀ q ∈ lw_privs_1 ++ (lw_privs_2 ++ (lw_privs_3 ++ (lw_privs_4 ++ (lw_privs_5 ++ (lw_privs_6 ++ (lw_privs_7)))))), lw_okq q
  exact List.forall_mem_append.mpr ⟨lw_r1, List.forall_mem_append.mpr ⟨lw_r2, List.forall_mem_append.mpr ⟨lw_r3, List.forall_mem_append.mpr ⟨lw_r4, List.forall_mem_append.mpr ⟨lw_r5, List.forall_mem_append.mpr ⟨lw_r6, lw_r7⟩⟩⟩⟩⟩⟩
-- ===== end of PART A; then your names; then what follows =====
def RX0 : String := "LocalMenders$Basis"
def TX0 : u_T := fun k => match k with
  | 0 => ("LocalMenders$Basis", "columns", "[I", true)
  | 1 => ("LocalMenders$Basis", "leads", "[I", true)
  | _ => ("LocalMenders$Basis", "rank", "I", false)
def tyX0 : Nat → FieldType := fun k => match k with
  | 0 => .array .int
  | 1 => .array .int
  | _ => .int
abbrev wsX00 : List Cond := u_ws RX0 TX0 3
theorem nmX0 : ∀ a, a < 3 → ∀ b, b < 3 → a ≠ b → (TX0 a).2.1 ≠ (TX0 b).2.1 := by decide +kernel
theorem tyX0_ok : ∀ k, k < 3 → parseFieldDescriptor (TX0 k).2.2.1 = some (tyX0 k) := by decide +kernel
abbrev cX0_init : ByteArray := prog_2_method_1_code
def yX0_init : MethodName := ⟨RX0, "<init>", "()V"⟩
abbrev cX0_span : ByteArray := prog_2_method_2_code
def yX0_span : MethodName := ⟨RX0, "span", "(LLocalMenders$State;I)V"⟩
abbrev cX0_restOf : ByteArray := prog_2_method_3_code
def yX0_restOf : MethodName := ⟨RX0, "restOf", "(I)I"⟩
def RX1 : String := "LocalMenders$Orders"
def TX1 : u_T := fun k => match k with
  | 0 => ("LocalMenders$Orders", "signs", "[C", true)
  | 1 => ("LocalMenders$Orders", "length", "I", false)
  | 2 => ("LocalMenders$Orders", "place", "I", false)
  | 3 => ("LocalMenders$Orders", "count", "I", false)
  | 4 => ("LocalMenders$Orders", "kind", "I", false)
  | 5 => ("LocalMenders$Orders", "stripe", "I", false)
  | 6 => ("LocalMenders$Orders", "cell", "I", false)
  | 7 => ("LocalMenders$Orders", "node", "I", false)
  | _ => ("LocalMenders$Orders", "value", "I", false)
def tyX1 : Nat → FieldType := fun k => match k with
  | 0 => .array .char
  | 1 => .int
  | 2 => .int
  | 3 => .int
  | 4 => .int
  | 5 => .int
  | 6 => .int
  | 7 => .int
  | _ => .int
abbrev wsX10 : List Cond := u_ws RX1 TX1 9
theorem nmX1 : ∀ a, a < 9 → ∀ b, b < 9 → a ≠ b → (TX1 a).2.1 ≠ (TX1 b).2.1 := by decide +kernel
theorem tyX1_ok : ∀ k, k < 9 → parseFieldDescriptor (TX1 k).2.2.1 = some (tyX1 k) := by decide +kernel
abbrev cX1_init : ByteArray := prog_3_method_1_code
def yX1_init : MethodName := ⟨RX1, "<init>", "()V"⟩
abbrev cX1_append : ByteArray := prog_3_method_2_code
def yX1_append : MethodName := ⟨RX1, "append", "(C)I"⟩
abbrev cX1_goToStart : ByteArray := prog_3_method_3_code
def yX1_goToStart : MethodName := ⟨RX1, "goToStart", "()V"⟩
abbrev cX1_findFault : ByteArray := prog_3_method_4_code
def yX1_findFault : MethodName := ⟨RX1, "findFault", "()I"⟩
abbrev cX1_readOrder : ByteArray := prog_3_method_5_code
def yX1_readOrder : MethodName := ⟨RX1, "readOrder", "()Z"⟩
abbrev cX1_readNumber : ByteArray := prog_3_method_6_code
def yX1_readNumber : MethodName := ⟨RX1, "readNumber", "()I"⟩
abbrev cX1_readDigit : ByteArray := prog_3_method_7_code
def yX1_readDigit : MethodName := ⟨RX1, "readDigit", "()I"⟩
abbrev cX1_pass : ByteArray := prog_3_method_8_code
def yX1_pass : MethodName := ⟨RX1, "pass", "(C)Z"⟩
abbrev cX1_sign : ByteArray := prog_3_method_9_code
def yX1_sign : MethodName := ⟨RX1, "sign", "()I"⟩
def RX2 : String := "LocalMenders$Plan"
def TX2 : u_T := fun k => match k with
  | 0 => ("LocalMenders$Plan", "basis", "LLocalMenders$Basis;", true)
  | 1 => ("LocalMenders$Plan", "sources", "I", false)
  | _ => ("LocalMenders$Plan", "outcome", "I", false)
def tyX2 : Nat → FieldType := fun k => match k with
  | 0 => .object "LocalMenders$Basis"
  | 1 => .int
  | _ => .int
abbrev wsX20 : List Cond := u_ws RX2 TX2 3
theorem nmX2 : ∀ a, a < 3 → ∀ b, b < 3 → a ≠ b → (TX2 a).2.1 ≠ (TX2 b).2.1 := by decide +kernel
theorem tyX2_ok : ∀ k, k < 3 → parseFieldDescriptor (TX2 k).2.2.1 = some (tyX2 k) := by decide +kernel
abbrev cX2_init : ByteArray := prog_4_method_1_code
def yX2_init : MethodName := ⟨RX2, "<init>", "()V"⟩
abbrev cX2_make : ByteArray := prog_4_method_2_code
def yX2_make : MethodName := ⟨RX2, "make", "(LLocalMenders$State;II)I"⟩
abbrev cX2_solve : ByteArray := prog_4_method_3_code
def yX2_solve : MethodName := ⟨RX2, "solve", "(II)I"⟩
abbrev cX2_canMendAll : ByteArray := prog_4_method_4_code
def yX2_canMendAll : MethodName := ⟨RX2, "canMendAll", "(LLocalMenders$State;I)Z"⟩
def RX3 : String := "LocalMenders$Search"
def TX3 : u_T := fun k => match k with
  | 0 => ("LocalMenders$Search", "rests", "[I", true)
  | 1 => ("LocalMenders$Search", "wanted", "I", false)
  | 2 => ("LocalMenders$Search", "found", "I", false)
  | _ => ("LocalMenders$Search", "leastNodes", "I", false)
def tyX3 : Nat → FieldType := fun k => match k with
  | 0 => .array .int
  | 1 => .int
  | 2 => .int
  | _ => .int
abbrev wsX30 : List Cond := u_ws RX3 TX3 4
theorem nmX3 : ∀ a, a < 4 → ∀ b, b < 4 → a ≠ b → (TX3 a).2.1 ≠ (TX3 b).2.1 := by decide +kernel
theorem tyX3_ok : ∀ k, k < 4 → parseFieldDescriptor (TX3 k).2.2.1 = some (tyX3 k) := by decide +kernel
abbrev cX3_init : ByteArray := prog_5_method_1_code
def yX3_init : MethodName := ⟨RX3, "<init>", "()V"⟩
abbrev cX3_run : ByteArray := prog_5_method_2_code
def yX3_run : MethodName := ⟨RX3, "run", "(LLocalMenders$State;I)V"⟩
abbrev cX3_choose : ByteArray := prog_5_method_3_code
def yX3_choose : MethodName := ⟨RX3, "choose", "(LLocalMenders$State;IIIZ)V"⟩
abbrev cX3_takeOut : ByteArray := prog_5_method_4_code
def yX3_takeOut : MethodName := ⟨RX3, "takeOut", "(IIII)V"⟩
abbrev cX3_note : ByteArray := prog_5_method_5_code
def yX3_note : MethodName := ⟨RX3, "note", "(LLocalMenders$State;I)V"⟩
def RX4 : String := "LocalMenders$State"
def TX4 : u_T := fun k => match k with
  | 0 => ("LocalMenders$State", "groups", "I", false)
  | 1 => ("LocalMenders$State", "size", "I", false)
  | 2 => ("LocalMenders$State", "stripes", "I", false)
  | 3 => ("LocalMenders$State", "shift", "I", false)
  | 4 => ("LocalMenders$State", "readsSoFar", "I", false)
  | 5 => ("LocalMenders$State", "mendsSoFar", "I", false)
  | 6 => ("LocalMenders$State", "localMendsSoFar", "I", false)
  | 7 => ("LocalMenders$State", "lossesSoFar", "I", false)
  | 8 => ("LocalMenders$State", "queueLength", "I", false)
  | 9 => ("LocalMenders$State", "queue", "[I", true)
  | 10 => ("LocalMenders$State", "values", "[I", true)
  | 11 => ("LocalMenders$State", "missing", "[I", true)
  | 12 => ("LocalMenders$State", "loads", "[I", true)
  | _ => ("LocalMenders$State", "columns", "[I", true)
def tyX4 : Nat → FieldType := fun k => match k with
  | 0 => .int
  | 1 => .int
  | 2 => .int
  | 3 => .int
  | 4 => .int
  | 5 => .int
  | 6 => .int
  | 7 => .int
  | 8 => .int
  | 9 => .array .int
  | 10 => .array .int
  | 11 => .array .int
  | 12 => .array .int
  | _ => .array .int
abbrev wsX40 : List Cond := u_ws RX4 TX4 14
theorem nmX4 : ∀ a, a < 14 → ∀ b, b < 14 → a ≠ b → (TX4 a).2.1 ≠ (TX4 b).2.1 := by decide +kernel
theorem tyX4_ok : ∀ k, k < 14 → parseFieldDescriptor (TX4 k).2.2.1 = some (tyX4 k) := by decide +kernel
abbrev cX4_init : ByteArray := prog_6_method_1_code
def yX4_init : MethodName := ⟨RX4, "<init>", "()V"⟩
abbrev cX4_copyFrom : ByteArray := prog_6_method_2_code
def yX4_copyFrom : MethodName := ⟨RX4, "copyFrom", "(LLocalMenders$State;)V"⟩
abbrev cX4_layOut : ByteArray := prog_6_method_3_code
def yX4_layOut : MethodName := ⟨RX4, "layOut", "(IIII)V"⟩
abbrev cX4_dataCount : ByteArray := prog_6_method_4_code
def yX4_dataCount : MethodName := ⟨RX4, "dataCount", "()I"⟩
abbrev cX4_cellCount : ByteArray := prog_6_method_5_code
def yX4_cellCount : MethodName := ⟨RX4, "cellCount", "()I"⟩
abbrev cX4_allCells : ByteArray := prog_6_method_6_code
def yX4_allCells : MethodName := ⟨RX4, "allCells", "()I"⟩
abbrev cX4_hasStripe : ByteArray := prog_6_method_7_code
def yX4_hasStripe : MethodName := ⟨RX4, "hasStripe", "(I)Z"⟩
abbrev cX4_hasCell : ByteArray := prog_6_method_8_code
def yX4_hasCell : MethodName := ⟨RX4, "hasCell", "(II)Z"⟩
abbrev cX4_hasNode : ByteArray := prog_6_method_9_code
def yX4_hasNode : MethodName := ⟨RX4, "hasNode", "(I)Z"⟩
abbrev cX4_nodeOf : ByteArray := prog_6_method_10_code
def yX4_nodeOf : MethodName := ⟨RX4, "nodeOf", "(II)I"⟩
abbrev cX4_cellOn : ByteArray := prog_6_method_11_code
def yX4_cellOn : MethodName := ⟨RX4, "cellOn", "(II)I"⟩
abbrev cX4_nodesOf : ByteArray := prog_6_method_12_code
def yX4_nodesOf : MethodName := ⟨RX4, "nodesOf", "(II)I"⟩
abbrev cX4_homeCheck : ByteArray := prog_6_method_13_code
def yX4_homeCheck : MethodName := ⟨RX4, "homeCheck", "(I)I"⟩
abbrev cX4_columnOf : ByteArray := prog_6_method_14_code
def yX4_columnOf : MethodName := ⟨RX4, "columnOf", "(I)I"⟩
abbrev cX4_partnersOf : ByteArray := prog_6_method_15_code
def yX4_partnersOf : MethodName := ⟨RX4, "partnersOf", "(I)I"⟩
abbrev cX4_valueOf : ByteArray := prog_6_method_16_code
def yX4_valueOf : MethodName := ⟨RX4, "valueOf", "(II)I"⟩
abbrev cX4_setValue : ByteArray := prog_6_method_17_code
def yX4_setValue : MethodName := ⟨RX4, "setValue", "(III)V"⟩
abbrev cX4_addToParities : ByteArray := prog_6_method_18_code
def yX4_addToParities : MethodName := ⟨RX4, "addToParities", "(II)V"⟩
abbrev cX4_missingIn : ByteArray := prog_6_method_19_code
def yX4_missingIn : MethodName := ⟨RX4, "missingIn", "(I)I"⟩
abbrev cX4_isMissing : ByteArray := prog_6_method_20_code
def yX4_isMissing : MethodName := ⟨RX4, "isMissing", "(II)Z"⟩
abbrev cX4_sumsOver : ByteArray := prog_6_method_21_code
def yX4_sumsOver : MethodName := ⟨RX4, "sumsOver", "(II)I"⟩
abbrev cX4_culpritIn : ByteArray := prog_6_method_22_code
def yX4_culpritIn : MethodName := ⟨RX4, "culpritIn", "(I)I"⟩
abbrev cX4_takeAway : ByteArray := prog_6_method_23_code
def yX4_takeAway : MethodName := ⟨RX4, "takeAway", "(II)V"⟩
abbrev cX4_bringBack : ByteArray := prog_6_method_24_code
def yX4_bringBack : MethodName := ⟨RX4, "bringBack", "(III)V"⟩
abbrev cX4_countReads : ByteArray := prog_6_method_25_code
def yX4_countReads : MethodName := ⟨RX4, "countReads", "(II)V"⟩
abbrev cX4_joinQueue : ByteArray := prog_6_method_26_code
def yX4_joinQueue : MethodName := ⟨RX4, "joinQueue", "(I)V"⟩
abbrev cX4_leaveQueue : ByteArray := prog_6_method_27_code
def yX4_leaveQueue : MethodName := ⟨RX4, "leaveQueue", "(I)V"⟩
def RX5 : String := "LocalMenders"
def TX5 : u_T := fun k => match k with
  | 0 => ("LocalMenders", "now", "LLocalMenders$State;", true)
  | 1 => ("LocalMenders", "before", "LLocalMenders$State;", true)
  | 2 => ("LocalMenders", "snapshot", "LLocalMenders$State;", true)
  | 3 => ("LocalMenders", "history", "[LLocalMenders$State;", true)
  | 4 => ("LocalMenders", "orders", "LLocalMenders$Orders;", true)
  | 5 => ("LocalMenders", "plan", "LLocalMenders$Plan;", true)
  | 6 => ("LocalMenders", "search", "LLocalMenders$Search;", true)
  | 7 => ("LocalMenders", "historyLength", "I", false)
  | _ => ("LocalMenders", "snapshotTaken", "Z", false)
def tyX5 : Nat → FieldType := fun k => match k with
  | 0 => .object "LocalMenders$State"
  | 1 => .object "LocalMenders$State"
  | 2 => .object "LocalMenders$State"
  | 3 => .array (.object "LocalMenders$State")
  | 4 => .object "LocalMenders$Orders"
  | 5 => .object "LocalMenders$Plan"
  | 6 => .object "LocalMenders$Search"
  | 7 => .int
  | _ => .boolean
abbrev wsX50 : List Cond := u_ws RX5 TX5 9
theorem nmX5 : ∀ a, a < 9 → ∀ b, b < 9 → a ≠ b → (TX5 a).2.1 ≠ (TX5 b).2.1 := by decide +kernel
theorem tyX5_ok : ∀ k, k < 9 → parseFieldDescriptor (TX5 k).2.2.1 = some (tyX5 k) := by decide +kernel
abbrev cX5_init : ByteArray := prog_1_method_1_code
def yX5_init : MethodName := ⟨RX5, "<init>", "()V"⟩
abbrev cX5_setLayout : ByteArray := prog_1_method_2_code
def yX5_setLayout : MethodName := ⟨RX5, "setLayout", "(IIII)I"⟩
abbrev cX5_write : ByteArray := prog_1_method_3_code
def yX5_write : MethodName := ⟨RX5, "write", "(III)I"⟩
abbrev cX5_alter : ByteArray := prog_1_method_4_code
def yX5_alter : MethodName := ⟨RX5, "alter", "(III)I"⟩
abbrev cX5_lose : ByteArray := prog_1_method_5_code
def yX5_lose : MethodName := ⟨RX5, "lose", "(II)I"⟩
abbrev cX5_loseNode : ByteArray := prog_1_method_6_code
def yX5_loseNode : MethodName := ⟨RX5, "loseNode", "(I)I"⟩
abbrev cX5_mend : ByteArray := prog_1_method_7_code
def yX5_mend : MethodName := ⟨RX5, "mend", "(II)I"⟩
abbrev cX5_mendNode : ByteArray := prog_1_method_8_code
def yX5_mendNode : MethodName := ⟨RX5, "mendNode", "(I)I"⟩
abbrev cX5_work : ByteArray := prog_1_method_9_code
def yX5_work : MethodName := ⟨RX5, "work", "(I)I"⟩
abbrev cX5_scrub : ByteArray := prog_1_method_10_code
def yX5_scrub : MethodName := ⟨RX5, "scrub", "()I"⟩
abbrev cX5_type : ByteArray := prog_1_method_11_code
def yX5_type : MethodName := ⟨RX5, "type", "(C)I"⟩
abbrev cX5_clearText : ByteArray := prog_1_method_12_code
def yX5_clearText : MethodName := ⟨RX5, "clearText", "()I"⟩
abbrev cX5_perform : ByteArray := prog_1_method_13_code
def yX5_perform : MethodName := ⟨RX5, "perform", "()I"⟩
abbrev cX5_undo : ByteArray := prog_1_method_14_code
def yX5_undo : MethodName := ⟨RX5, "undo", "()I"⟩
abbrev cX5_keep : ByteArray := prog_1_method_15_code
def yX5_keep : MethodName := ⟨RX5, "keep", "()I"⟩
abbrev cX5_restore : ByteArray := prog_1_method_16_code
def yX5_restore : MethodName := ⟨RX5, "restore", "()I"⟩
abbrev cX5_value : ByteArray := prog_1_method_17_code
def yX5_value : MethodName := ⟨RX5, "value", "(II)I"⟩
abbrev cX5_node : ByteArray := prog_1_method_18_code
def yX5_node : MethodName := ⟨RX5, "node", "(II)I"⟩
abbrev cX5_load : ByteArray := prog_1_method_19_code
def yX5_load : MethodName := ⟨RX5, "load", "(I)I"⟩
abbrev cX5_lost : ByteArray := prog_1_method_20_code
def yX5_lost : MethodName := ⟨RX5, "lost", "(I)I"⟩
abbrev cX5_waiting : ByteArray := prog_1_method_21_code
def yX5_waiting : MethodName := ⟨RX5, "waiting", "(I)I"⟩
abbrev cX5_failing : ByteArray := prog_1_method_22_code
def yX5_failing : MethodName := ⟨RX5, "failing", "(I)I"⟩
abbrev cX5_total : ByteArray := prog_1_method_23_code
def yX5_total : MethodName := ⟨RX5, "total", "(I)I"⟩
abbrev cX5_way : ByteArray := prog_1_method_24_code
def yX5_way : MethodName := ⟨RX5, "way", "(II)I"⟩
abbrev cX5_reads : ByteArray := prog_1_method_25_code
def yX5_reads : MethodName := ⟨RX5, "reads", "(II)I"⟩
abbrev cX5_mended : ByteArray := prog_1_method_26_code
def yX5_mended : MethodName := ⟨RX5, "mended", "(II)I"⟩
abbrev cX5_culprit : ByteArray := prog_1_method_27_code
def yX5_culprit : MethodName := ⟨RX5, "culprit", "(I)I"⟩
abbrev cX5_survives : ByteArray := prog_1_method_28_code
def yX5_survives : MethodName := ⟨RX5, "survives", "(I)I"⟩
abbrev cX5_fatalSets : ByteArray := prog_1_method_29_code
def yX5_fatalSets : MethodName := ⟨RX5, "fatalSets", "(I)I"⟩
abbrev cX5_fatalNodes : ByteArray := prog_1_method_30_code
def yX5_fatalNodes : MethodName := ⟨RX5, "fatalNodes", "()I"⟩
abbrev cX5_busiest : ByteArray := prog_1_method_31_code
def yX5_busiest : MethodName := ⟨RX5, "busiest", "()I"⟩
abbrev cX5_begin : ByteArray := prog_1_method_32_code
def yX5_begin : MethodName := ⟨RX5, "begin", "()V"⟩
abbrev cX5_finish : ByteArray := prog_1_method_33_code
def yX5_finish : MethodName := ⟨RX5, "finish", "(I)I"⟩
abbrev cX5_record : ByteArray := prog_1_method_34_code
def yX5_record : MethodName := ⟨RX5, "record", "()V"⟩
abbrev cX5_dropOldest : ByteArray := prog_1_method_35_code
def yX5_dropOldest : MethodName := ⟨RX5, "dropOldest", "()V"⟩
abbrev cX5_writeCell : ByteArray := prog_1_method_36_code
def yX5_writeCell : MethodName := ⟨RX5, "writeCell", "(III)I"⟩
abbrev cX5_alterCell : ByteArray := prog_1_method_37_code
def yX5_alterCell : MethodName := ⟨RX5, "alterCell", "(III)I"⟩
abbrev cX5_loseCell : ByteArray := prog_1_method_38_code
def yX5_loseCell : MethodName := ⟨RX5, "loseCell", "(II)I"⟩
abbrev cX5_loseCellsOn : ByteArray := prog_1_method_39_code
def yX5_loseCellsOn : MethodName := ⟨RX5, "loseCellsOn", "(I)I"⟩
abbrev cX5_mendCell : ByteArray := prog_1_method_40_code
def yX5_mendCell : MethodName := ⟨RX5, "mendCell", "(II)I"⟩
abbrev cX5_mendCellsOn : ByteArray := prog_1_method_41_code
def yX5_mendCellsOn : MethodName := ⟨RX5, "mendCellsOn", "(I)I"⟩
abbrev cX5_workOnQueue : ByteArray := prog_1_method_42_code
def yX5_workOnQueue : MethodName := ⟨RX5, "workOnQueue", "(I)I"⟩
abbrev cX5_scrubStripes : ByteArray := prog_1_method_43_code
def yX5_scrubStripes : MethodName := ⟨RX5, "scrubStripes", "()I"⟩
abbrev cX5_carryOut : ByteArray := prog_1_method_44_code
def yX5_carryOut : MethodName := ⟨RX5, "carryOut", "()I"⟩
abbrev cX5_isWithin : ByteArray := prog_1_method_45_code
def yX5_isWithin : MethodName := ⟨RX5, "isWithin", "(III)Z"⟩
abbrev cX5_at : ByteArray := prog_1_method_46_code
def yX5_at : MethodName := ⟨RX5, "at", "([II)I"⟩
abbrev cX5_put : ByteArray := prog_1_method_47_code
def yX5_put : MethodName := ⟨RX5, "put", "([III)V"⟩
abbrev cX5_copyRow : ByteArray := prog_1_method_48_code
def yX5_copyRow : MethodName := ⟨RX5, "copyRow", "([I[I)V"⟩
abbrev cX5_scaled : ByteArray := prog_1_method_49_code
def yX5_scaled : MethodName := ⟨RX5, "scaled", "(II)I"⟩
abbrev cX5_element : ByteArray := prog_1_method_50_code
def yX5_element : MethodName := ⟨RX5, "element", "(II)I"⟩
abbrev cX5_leadOf : ByteArray := prog_1_method_51_code
def yX5_leadOf : MethodName := ⟨RX5, "leadOf", "(I)I"⟩
abbrev cX5_unitOf : ByteArray := prog_1_method_52_code
def yX5_unitOf : MethodName := ⟨RX5, "unitOf", "(II)I"⟩
def RX6 : String := "LocalMendersModel"
def TX6 : u_T := fun k => match k with
  | 0 => ("LocalMendersModel", "state", "[I", true)
  | 1 => ("LocalMendersModel", "before", "[I", true)
  | 2 => ("LocalMendersModel", "history", "[I", true)
  | 3 => ("LocalMendersModel", "states", "I", false)
  | 4 => ("LocalMendersModel", "snapshot", "[I", true)
  | 5 => ("LocalMendersModel", "hasSnapshot", "Z", false)
  | 6 => ("LocalMendersModel", "text", "[I", true)
  | 7 => ("LocalMendersModel", "length", "I", false)
  | 8 => ("LocalMendersModel", "at", "I", false)
  | 9 => ("LocalMendersModel", "numbers", "[I", true)
  | 10 => ("LocalMendersModel", "products", "[I", true)
  | 11 => ("LocalMendersModel", "firstFactor", "[I", true)
  | 12 => ("LocalMendersModel", "secondFactor", "[I", true)
  | 13 => ("LocalMendersModel", "localFactor", "[I", true)
  | _ => ("LocalMendersModel", "goodValue", "I", false)
def tyX6 : Nat → FieldType := fun k => match k with
  | 0 => .array .int
  | 1 => .array .int
  | 2 => .array .int
  | 3 => .int
  | 4 => .array .int
  | 5 => .boolean
  | 6 => .array .int
  | 7 => .int
  | 8 => .int
  | 9 => .array .int
  | 10 => .array .int
  | 11 => .array .int
  | 12 => .array .int
  | 13 => .array .int
  | _ => .int
abbrev wsX60 : List Cond := u_ws RX6 TX6 15
theorem nmX6 : ∀ a, a < 15 → ∀ b, b < 15 → a ≠ b → (TX6 a).2.1 ≠ (TX6 b).2.1 := by decide +kernel
theorem tyX6_ok : ∀ k, k < 15 → parseFieldDescriptor (TX6 k).2.2.1 = some (tyX6 k) := by decide +kernel
abbrev cX6_init : ByteArray := prog_8_method_1_code
def yX6_init : MethodName := ⟨RX6, "<init>", "()V"⟩
abbrev cX6_within : ByteArray := prog_8_method_2_code
def yX6_within : MethodName := ⟨RX6, "within", "(III)Z"⟩
abbrev cX6_multiplied : ByteArray := prog_8_method_3_code
def yX6_multiplied : MethodName := ⟨RX6, "multiplied", "(II)I"⟩
abbrev cX6_product : ByteArray := prog_8_method_4_code
def yX6_product : MethodName := ⟨RX6, "product", "(II)I"⟩
abbrev cX6_dataCells : ByteArray := prog_8_method_5_code
def yX6_dataCells : MethodName := ⟨RX6, "dataCells", "()I"⟩
abbrev cX6_cells : ByteArray := prog_8_method_6_code
def yX6_cells : MethodName := ⟨RX6, "cells", "()I"⟩
abbrev cX6_isStripe : ByteArray := prog_8_method_7_code
def yX6_isStripe : MethodName := ⟨RX6, "isStripe", "(I)Z"⟩
abbrev cX6_isCell : ByteArray := prog_8_method_8_code
def yX6_isCell : MethodName := ⟨RX6, "isCell", "(II)Z"⟩
abbrev cX6_isNode : ByteArray := prog_8_method_9_code
def yX6_isNode : MethodName := ⟨RX6, "isNode", "(I)Z"⟩
abbrev cX6_groupOf : ByteArray := prog_8_method_10_code
def yX6_groupOf : MethodName := ⟨RX6, "groupOf", "(I)I"⟩
abbrev cX6_nodeOf : ByteArray := prog_8_method_11_code
def yX6_nodeOf : MethodName := ⟨RX6, "nodeOf", "(II)I"⟩
abbrev cX6_cellOn : ByteArray := prog_8_method_12_code
def yX6_cellOn : MethodName := ⟨RX6, "cellOn", "(II)I"⟩
abbrev cX6_cellValue : ByteArray := prog_8_method_13_code
def yX6_cellValue : MethodName := ⟨RX6, "cellValue", "(II)I"⟩
abbrev cX6_setValue : ByteArray := prog_8_method_14_code
def yX6_setValue : MethodName := ⟨RX6, "setValue", "(III)V"⟩
abbrev cX6_isLost : ByteArray := prog_8_method_15_code
def yX6_isLost : MethodName := ⟨RX6, "isLost", "(II)Z"⟩
abbrev cX6_lostCells : ByteArray := prog_8_method_16_code
def yX6_lostCells : MethodName := ⟨RX6, "lostCells", "(I)I"⟩
abbrev cX6_remember : ByteArray := prog_8_method_17_code
def yX6_remember : MethodName := ⟨RX6, "remember", "()V"⟩
abbrev cX6_takeBack : ByteArray := prog_8_method_18_code
def yX6_takeBack : MethodName := ⟨RX6, "takeBack", "()V"⟩
abbrev cX6_changed : ByteArray := prog_8_method_19_code
def yX6_changed : MethodName := ⟨RX6, "changed", "(I)I"⟩
abbrev cX6_undo : ByteArray := prog_8_method_20_code
def yX6_undo : MethodName := ⟨RX6, "undo", "()I"⟩
abbrev cX6_keep : ByteArray := prog_8_method_21_code
def yX6_keep : MethodName := ⟨RX6, "keep", "()I"⟩
abbrev cX6_restore : ByteArray := prog_8_method_22_code
def yX6_restore : MethodName := ⟨RX6, "restore", "()I"⟩
abbrev cX6_localSum : ByteArray := prog_8_method_23_code
def yX6_localSum : MethodName := ⟨RX6, "localSum", "(II)I"⟩
abbrev cX6_weighed : ByteArray := prog_8_method_24_code
def yX6_weighed : MethodName := ⟨RX6, "weighed", "(IZ)I"⟩
abbrev cX6_failingChecks : ByteArray := prog_8_method_25_code
def yX6_failingChecks : MethodName := ⟨RX6, "failingChecks", "(I)I"⟩
abbrev cX6_globalPart : ByteArray := prog_8_method_26_code
def yX6_globalPart : MethodName := ⟨RX6, "globalPart", "(III)I"⟩
abbrev cX6_isSum : ByteArray := prog_8_method_27_code
def yX6_isSum : MethodName := ⟨RX6, "isSum", "(IIII)Z"⟩
abbrev cX6_factorOf : ByteArray := prog_8_method_28_code
def yX6_factorOf : MethodName := ⟨RX6, "factorOf", "(III)I"⟩
abbrev cX6_sumThere : ByteArray := prog_8_method_29_code
def yX6_sumThere : MethodName := ⟨RX6, "sumThere", "(III)I"⟩
abbrev cX6_canHold : ByteArray := prog_8_method_30_code
def yX6_canHold : MethodName := ⟨RX6, "canHold", "(II)Z"⟩
abbrev cX6_tellingPair : ByteArray := prog_8_method_31_code
def yX6_tellingPair : MethodName := ⟨RX6, "tellingPair", "(II)I"⟩
abbrev cX6_groupCells : ByteArray := prog_8_method_32_code
def yX6_groupCells : MethodName := ⟨RX6, "groupCells", "(I)I"⟩
abbrev cX6_wayOf : ByteArray := prog_8_method_33_code
def yX6_wayOf : MethodName := ⟨RX6, "wayOf", "(II)I"⟩
abbrev cX6_wayNow : ByteArray := prog_8_method_34_code
def yX6_wayNow : MethodName := ⟨RX6, "wayNow", "(II)I"⟩
abbrev cX6_isRead : ByteArray := prog_8_method_35_code
def yX6_isRead : MethodName := ⟨RX6, "isRead", "(IIII)Z"⟩
abbrev cX6_readMany : ByteArray := prog_8_method_36_code
def yX6_readMany : MethodName := ⟨RX6, "readMany", "(III)I"⟩
abbrev cX6_mendedValue : ByteArray := prog_8_method_37_code
def yX6_mendedValue : MethodName := ⟨RX6, "mendedValue", "(III)I"⟩
abbrev cX6_leaveQueue : ByteArray := prog_8_method_38_code
def yX6_leaveQueue : MethodName := ⟨RX6, "leaveQueue", "(II)V"⟩
abbrev cX6_joinQueue : ByteArray := prog_8_method_39_code
def yX6_joinQueue : MethodName := ⟨RX6, "joinQueue", "(II)V"⟩
abbrev cX6_mendCell : ByteArray := prog_8_method_40_code
def yX6_mendCell : MethodName := ⟨RX6, "mendCell", "(II)I"⟩
abbrev cX6_mendAll : ByteArray := prog_8_method_41_code
def yX6_mendAll : MethodName := ⟨RX6, "mendAll", "(I)I"⟩
abbrev cX6_setLayout : ByteArray := prog_8_method_42_code
def yX6_setLayout : MethodName := ⟨RX6, "setLayout", "(IIII)I"⟩
abbrev cX6_writeCell : ByteArray := prog_8_method_43_code
def yX6_writeCell : MethodName := ⟨RX6, "writeCell", "(III)I"⟩
abbrev cX6_write : ByteArray := prog_8_method_44_code
def yX6_write : MethodName := ⟨RX6, "write", "(III)I"⟩
abbrev cX6_alter : ByteArray := prog_8_method_45_code
def yX6_alter : MethodName := ⟨RX6, "alter", "(III)I"⟩
abbrev cX6_loseCell : ByteArray := prog_8_method_46_code
def yX6_loseCell : MethodName := ⟨RX6, "loseCell", "(II)I"⟩
abbrev cX6_lose : ByteArray := prog_8_method_47_code
def yX6_lose : MethodName := ⟨RX6, "lose", "(II)I"⟩
abbrev cX6_loseAll : ByteArray := prog_8_method_48_code
def yX6_loseAll : MethodName := ⟨RX6, "loseAll", "(I)I"⟩
abbrev cX6_loseNode : ByteArray := prog_8_method_49_code
def yX6_loseNode : MethodName := ⟨RX6, "loseNode", "(I)I"⟩
abbrev cX6_mend : ByteArray := prog_8_method_50_code
def yX6_mend : MethodName := ⟨RX6, "mend", "(II)I"⟩
abbrev cX6_mendNode : ByteArray := prog_8_method_51_code
def yX6_mendNode : MethodName := ⟨RX6, "mendNode", "(I)I"⟩
abbrev cX6_work : ByteArray := prog_8_method_52_code
def yX6_work : MethodName := ⟨RX6, "work", "(I)I"⟩
abbrev cX6_findCulprit : ByteArray := prog_8_method_53_code
def yX6_findCulprit : MethodName := ⟨RX6, "findCulprit", "(I)I"⟩
abbrev cX6_scrub : ByteArray := prog_8_method_54_code
def yX6_scrub : MethodName := ⟨RX6, "scrub", "()I"⟩
abbrev cX6_type : ByteArray := prog_8_method_55_code
def yX6_type : MethodName := ⟨RX6, "type", "(C)I"⟩
abbrev cX6_clearText : ByteArray := prog_8_method_56_code
def yX6_clearText : MethodName := ⟨RX6, "clearText", "()I"⟩
abbrev cX6_next : ByteArray := prog_8_method_57_code
def yX6_next : MethodName := ⟨RX6, "next", "()I"⟩
abbrev cX6_takes : ByteArray := prog_8_method_58_code
def yX6_takes : MethodName := ⟨RX6, "takes", "(I)Z"⟩
abbrev cX6_readsDigit : ByteArray := prog_8_method_59_code
def yX6_readsDigit : MethodName := ⟨RX6, "readsDigit", "(I)Z"⟩
abbrev cX6_readsNumber : ByteArray := prog_8_method_60_code
def yX6_readsNumber : MethodName := ⟨RX6, "readsNumber", "(I)Z"⟩
abbrev cX6_readsPlace : ByteArray := prog_8_method_61_code
def yX6_readsPlace : MethodName := ⟨RX6, "readsPlace", "()Z"⟩
abbrev cX6_readsRest : ByteArray := prog_8_method_62_code
def yX6_readsRest : MethodName := ⟨RX6, "readsRest", "(I)Z"⟩
abbrev cX6_readsOrder : ByteArray := prog_8_method_63_code
def yX6_readsOrder : MethodName := ⟨RX6, "readsOrder", "()Z"⟩
abbrev cX6_findFault : ByteArray := prog_8_method_64_code
def yX6_findFault : MethodName := ⟨RX6, "findFault", "()I"⟩
abbrev cX6_carryOut : ByteArray := prog_8_method_65_code
def yX6_carryOut : MethodName := ⟨RX6, "carryOut", "(I)I"⟩
abbrev cX6_perform : ByteArray := prog_8_method_66_code
def yX6_perform : MethodName := ⟨RX6, "perform", "()I"⟩
abbrev cX6_value : ByteArray := prog_8_method_67_code
def yX6_value : MethodName := ⟨RX6, "value", "(II)I"⟩
abbrev cX6_node : ByteArray := prog_8_method_68_code
def yX6_node : MethodName := ⟨RX6, "node", "(II)I"⟩
abbrev cX6_load : ByteArray := prog_8_method_69_code
def yX6_load : MethodName := ⟨RX6, "load", "(I)I"⟩
abbrev cX6_lost : ByteArray := prog_8_method_70_code
def yX6_lost : MethodName := ⟨RX6, "lost", "(I)I"⟩
abbrev cX6_waiting : ByteArray := prog_8_method_71_code
def yX6_waiting : MethodName := ⟨RX6, "waiting", "(I)I"⟩
abbrev cX6_failing : ByteArray := prog_8_method_72_code
def yX6_failing : MethodName := ⟨RX6, "failing", "(I)I"⟩
abbrev cX6_total : ByteArray := prog_8_method_73_code
def yX6_total : MethodName := ⟨RX6, "total", "(I)I"⟩
abbrev cX6_way : ByteArray := prog_8_method_74_code
def yX6_way : MethodName := ⟨RX6, "way", "(II)I"⟩
abbrev cX6_reads : ByteArray := prog_8_method_75_code
def yX6_reads : MethodName := ⟨RX6, "reads", "(II)I"⟩
abbrev cX6_mended : ByteArray := prog_8_method_76_code
def yX6_mended : MethodName := ⟨RX6, "mended", "(II)I"⟩
abbrev cX6_culprit : ByteArray := prog_8_method_77_code
def yX6_culprit : MethodName := ⟨RX6, "culprit", "(I)I"⟩
abbrev cX6_isSurvived : ByteArray := prog_8_method_78_code
def yX6_isSurvived : MethodName := ⟨RX6, "isSurvived", "(I)Z"⟩
abbrev cX6_survives : ByteArray := prog_8_method_79_code
def yX6_survives : MethodName := ⟨RX6, "survives", "(I)I"⟩
abbrev cX6_nextSet : ByteArray := prog_8_method_80_code
def yX6_nextSet : MethodName := ⟨RX6, "nextSet", "(I)I"⟩
abbrev cX6_fatalSets : ByteArray := prog_8_method_81_code
def yX6_fatalSets : MethodName := ⟨RX6, "fatalSets", "(I)I"⟩
abbrev cX6_nodesOf : ByteArray := prog_8_method_82_code
def yX6_nodesOf : MethodName := ⟨RX6, "nodesOf", "(II)I"⟩
abbrev cX6_leastNodes : ByteArray := prog_8_method_83_code
def yX6_leastNodes : MethodName := ⟨RX6, "leastNodes", "(I)I"⟩
abbrev cX6_fatalNodes : ByteArray := prog_8_method_84_code
def yX6_fatalNodes : MethodName := ⟨RX6, "fatalNodes", "()I"⟩
abbrev cX6_busiest : ByteArray := prog_8_method_85_code
def yX6_busiest : MethodName := ⟨RX6, "busiest", "()I"⟩
def RJ6 : String := "java/lang/Integer"
def TJ6 : u_T := fun k => match k with
  | _ => ("", "", "", false)
def tyJ6 : Nat → FieldType := fun k => match k with
  | _ => .int
abbrev wsJ60 : List Cond := u_ws RJ6 TJ6 0
theorem nmJ6 : ∀ a, a < 0 → ∀ b, b < 0 → a ≠ b → (TJ6 a).2.1 ≠ (TJ6 b).2.1 := by decide +kernel
theorem tyJ6_ok : ∀ k, k < 0 → parseFieldDescriptor (TJ6 k).2.2.1 = some (tyJ6 k) := by decide +kernel
abbrev cJ6_bitCount_0f7a4 : ByteArray := prog_9_method_49_code
def yJ6_bitCount_0f7a4 : MethodName := ⟨RJ6, "bitCount", "(I)I"⟩
def RJ9 : String := "java/lang/Math"
def TJ9 : u_T := fun k => match k with
  | _ => ("", "", "", false)
def tyJ9 : Nat → FieldType := fun k => match k with
  | _ => .int
abbrev wsJ90 : List Cond := u_ws RJ9 TJ9 0
theorem nmJ9 : ∀ a, a < 0 → ∀ b, b < 0 → a ≠ b → (TJ9 a).2.1 ≠ (TJ9 b).2.1 := by decide +kernel
theorem tyJ9_ok : ∀ k, k < 0 → parseFieldDescriptor (TJ9 k).2.2.1 = some (tyJ9 k) := by decide +kernel
abbrev cJ9_floorMod_7cf53 : ByteArray := prog_10_method_50_code
def yJ9_floorMod_7cf53 : MethodName := ⟨RJ9, "floorMod", "(II)I"⟩
abbrev cJ9_max_7cf53 : ByteArray := prog_10_method_65_code
def yJ9_max_7cf53 : MethodName := ⟨RJ9, "max", "(II)I"⟩
abbrev cJ9_min_7cf53 : ByteArray := prog_10_method_69_code
def yJ9_min_7cf53 : MethodName := ⟨RJ9, "min", "(II)I"⟩
def RJ10 : String := "java/lang/System"
def TJ10 : u_T := fun k => match k with
  | _ => ("", "", "", false)
def tyJ10 : Nat → FieldType := fun k => match k with
  | _ => .int
abbrev wsJ100 : List Cond := u_ws RJ10 TJ10 0
theorem nmJ10 : ∀ a, a < 0 → ∀ b, b < 0 → a ≠ b → (TJ10 a).2.1 ≠ (TJ10 b).2.1 := by decide +kernel
theorem tyJ10_ok : ∀ k, k < 0 → parseFieldDescriptor (TJ10 k).2.2.1 = some (tyJ10 k) := by decide +kernel
def RJ7 : String := "java/util/Arrays"
def TJ7 : u_T := fun k => match k with
  | _ => ("", "", "", false)
def tyJ7 : Nat → FieldType := fun k => match k with
  | _ => .int
abbrev wsJ70 : List Cond := u_ws RJ7 TJ7 0
theorem nmJ7 : ∀ a, a < 0 → ∀ b, b < 0 → a ≠ b → (TJ7 a).2.1 ≠ (TJ7 b).2.1 := by decide +kernel
theorem tyJ7_ok : ∀ k, k < 0 → parseFieldDescriptor (TJ7 k).2.2.1 = some (tyJ7 k) := by decide +kernel
abbrev cJ7_fill_53178 : ByteArray := prog_12_method_103_code
def yJ7_fill_53178 : MethodName := ⟨RJ7, "fill", "([II)V"⟩
def RL : String := "LocalMendersLaw"
abbrev cL_law : ByteArray := code
def yL_law : MethodName := ⟨RL, "law", "([I)Z"⟩
abbrev vwCl : List vw_C := [(RX0, TX0, 3), (RX1, TX1, 9), (RX2, TX2, 3), (RX3, TX3, 4), (RX4, TX4, 14), (RX5, TX5, 9), (RX6, TX6, 15)]
