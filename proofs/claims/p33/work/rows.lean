section
-- ===== PART A: goes FIRST, ahead of the names: the tables' words, and 'selects' of the private methods out of them =====
/-- a private method of a class that the tables say can be made, by its rows of tables_1 -/
def lw_okq (q : MethodName × Nat) : Prop := (q.1.cls ≠ "java/lang/invoke/MethodHandle" ∧ q.1.cls ≠ "java/lang/invoke/VarHandle") ∧ Cond.instantiable q.1.cls q.2 ∈ tables_1 ∧ Cond.privateMethod q.1 ∈ tables_1 ∧ Cond.instanceMethod q.1 ∈ tables_1
theorem lw_p0 : lw_okq (⟨"LocalMenders$State", "layOut", "(IIII)V"⟩, 14) := ⟨⟨by decide +kernel, by decide +kernel⟩, List.mem_of_getElem? (i := 20) (by decide +kernel), List.mem_of_getElem? (i := 26) (by decide +kernel), List.mem_of_getElem? (i := 27) (by decide +kernel)⟩
theorem lw_p1 : lw_okq (⟨"LocalMenders$State", "cellCount", "()I"⟩, 14) := ⟨⟨by decide +kernel, by decide +kernel⟩, List.mem_of_getElem? (i := 20) (by decide +kernel), List.mem_of_getElem? (i := 33) (by decide +kernel), List.mem_of_getElem? (i := 34) (by decide +kernel)⟩
theorem lw_p2 : lw_okq (⟨"LocalMenders$State", "homeCheck", "(I)I"⟩, 14) := ⟨⟨by decide +kernel, by decide +kernel⟩, List.mem_of_getElem? (i := 20) (by decide +kernel), List.mem_of_getElem? (i := 37) (by decide +kernel), List.mem_of_getElem? (i := 38) (by decide +kernel)⟩
theorem lw_p3 : lw_okq (⟨"LocalMenders$State", "dataCount", "()I"⟩, 14) := ⟨⟨by decide +kernel, by decide +kernel⟩, List.mem_of_getElem? (i := 20) (by decide +kernel), List.mem_of_getElem? (i := 41) (by decide +kernel), List.mem_of_getElem? (i := 42) (by decide +kernel)⟩
theorem lw_p4 : lw_okq (⟨"LocalMenders", "begin", "()V"⟩, 9) := ⟨⟨by decide +kernel, by decide +kernel⟩, List.mem_of_getElem? (i := 12) (by decide +kernel), List.mem_of_getElem? (i := 235) (by decide +kernel), List.mem_of_getElem? (i := 236) (by decide +kernel)⟩
theorem lw_p5 : lw_okq (⟨"LocalMenders$State", "copyFrom", "(LLocalMenders$State;)V"⟩, 14) := ⟨⟨by decide +kernel, by decide +kernel⟩, List.mem_of_getElem? (i := 20) (by decide +kernel), List.mem_of_getElem? (i := 239) (by decide +kernel), List.mem_of_getElem? (i := 240) (by decide +kernel)⟩
theorem lw_p6 : lw_okq (⟨"LocalMenders", "finish", "(I)I"⟩, 9) := ⟨⟨by decide +kernel, by decide +kernel⟩, List.mem_of_getElem? (i := 12) (by decide +kernel), List.mem_of_getElem? (i := 254) (by decide +kernel), List.mem_of_getElem? (i := 255) (by decide +kernel)⟩
theorem lw_p7 : lw_okq (⟨"LocalMenders", "record", "()V"⟩, 9) := ⟨⟨by decide +kernel, by decide +kernel⟩, List.mem_of_getElem? (i := 12) (by decide +kernel), List.mem_of_getElem? (i := 258) (by decide +kernel), List.mem_of_getElem? (i := 259) (by decide +kernel)⟩
theorem lw_p8 : lw_okq (⟨"LocalMenders", "dropOldest", "()V"⟩, 9) := ⟨⟨by decide +kernel, by decide +kernel⟩, List.mem_of_getElem? (i := 12) (by decide +kernel), List.mem_of_getElem? (i := 262) (by decide +kernel), List.mem_of_getElem? (i := 263) (by decide +kernel)⟩
theorem lw_p9 : lw_okq (⟨"LocalMenders", "workOnQueue", "(I)I"⟩, 9) := ⟨⟨by decide +kernel, by decide +kernel⟩, List.mem_of_getElem? (i := 12) (by decide +kernel), List.mem_of_getElem? (i := 270) (by decide +kernel), List.mem_of_getElem? (i := 271) (by decide +kernel)⟩
theorem lw_p10 : lw_okq (⟨"LocalMenders", "mendCell", "(II)I"⟩, 9) := ⟨⟨by decide +kernel, by decide +kernel⟩, List.mem_of_getElem? (i := 12) (by decide +kernel), List.mem_of_getElem? (i := 275) (by decide +kernel), List.mem_of_getElem? (i := 276) (by decide +kernel)⟩
theorem lw_p11 : lw_okq (⟨"LocalMenders$Plan", "make", "(LLocalMenders$State;II)I"⟩, 3) := ⟨⟨by decide +kernel, by decide +kernel⟩, List.mem_of_getElem? (i := 146) (by decide +kernel), List.mem_of_getElem? (i := 279) (by decide +kernel), List.mem_of_getElem? (i := 280) (by decide +kernel)⟩
theorem lw_p12 : lw_okq (⟨"LocalMenders$State", "hasCell", "(II)Z"⟩, 14) := ⟨⟨by decide +kernel, by decide +kernel⟩, List.mem_of_getElem? (i := 20) (by decide +kernel), List.mem_of_getElem? (i := 283) (by decide +kernel), List.mem_of_getElem? (i := 284) (by decide +kernel)⟩
theorem lw_p13 : lw_okq (⟨"LocalMenders$State", "hasStripe", "(I)Z"⟩, 14) := ⟨⟨by decide +kernel, by decide +kernel⟩, List.mem_of_getElem? (i := 20) (by decide +kernel), List.mem_of_getElem? (i := 287) (by decide +kernel), List.mem_of_getElem? (i := 288) (by decide +kernel)⟩
theorem lw_p14 : lw_okq (⟨"LocalMenders$State", "isMissing", "(II)Z"⟩, 14) := ⟨⟨by decide +kernel, by decide +kernel⟩, List.mem_of_getElem? (i := 20) (by decide +kernel), List.mem_of_getElem? (i := 291) (by decide +kernel), List.mem_of_getElem? (i := 292) (by decide +kernel)⟩
theorem lw_p15 : lw_okq (⟨"LocalMenders$State", "missingIn", "(I)I"⟩, 14) := ⟨⟨by decide +kernel, by decide +kernel⟩, List.mem_of_getElem? (i := 20) (by decide +kernel), List.mem_of_getElem? (i := 295) (by decide +kernel), List.mem_of_getElem? (i := 296) (by decide +kernel)⟩
def lw_privs_1 : List (MethodName × Nat) := [(⟨"LocalMenders$State", "layOut", "(IIII)V"⟩, 14), (⟨"LocalMenders$State", "cellCount", "()I"⟩, 14), (⟨"LocalMenders$State", "homeCheck", "(I)I"⟩, 14), (⟨"LocalMenders$State", "dataCount", "()I"⟩, 14), (⟨"LocalMenders", "begin", "()V"⟩, 9), (⟨"LocalMenders$State", "copyFrom", "(LLocalMenders$State;)V"⟩, 14), (⟨"LocalMenders", "finish", "(I)I"⟩, 9), (⟨"LocalMenders", "record", "()V"⟩, 9), (⟨"LocalMenders", "dropOldest", "()V"⟩, 9), (⟨"LocalMenders", "workOnQueue", "(I)I"⟩, 9), (⟨"LocalMenders", "mendCell", "(II)I"⟩, 9), (⟨"LocalMenders$Plan", "make", "(LLocalMenders$State;II)I"⟩, 3), (⟨"LocalMenders$State", "hasCell", "(II)Z"⟩, 14), (⟨"LocalMenders$State", "hasStripe", "(I)Z"⟩, 14), (⟨"LocalMenders$State", "isMissing", "(II)Z"⟩, 14), (⟨"LocalMenders$State", "missingIn", "(I)I"⟩, 14)]
theorem lw_r1 : ∀ q ∈ lw_privs_1, lw_okq q := List.forall_mem_cons.mpr ⟨lw_p0, List.forall_mem_cons.mpr ⟨lw_p1, List.forall_mem_cons.mpr ⟨lw_p2, List.forall_mem_cons.mpr ⟨lw_p3, List.forall_mem_cons.mpr ⟨lw_p4, List.forall_mem_cons.mpr ⟨lw_p5, List.forall_mem_cons.mpr ⟨lw_p6, List.forall_mem_cons.mpr ⟨lw_p7, List.forall_mem_cons.mpr ⟨lw_p8, List.forall_mem_cons.mpr ⟨lw_p9, List.forall_mem_cons.mpr ⟨lw_p10, List.forall_mem_cons.mpr ⟨lw_p11, List.forall_mem_cons.mpr ⟨lw_p12, List.forall_mem_cons.mpr ⟨lw_p13, List.forall_mem_cons.mpr ⟨lw_p14, List.forall_mem_cons.mpr ⟨lw_p15, fun _ h => absurd h List.not_mem_nil⟩⟩⟩⟩⟩⟩⟩⟩⟩⟩⟩⟩⟩⟩⟩⟩
theorem lw_p16 : lw_okq (⟨"LocalMenders$State", "partnersOf", "(I)I"⟩, 14) := ⟨⟨by decide +kernel, by decide +kernel⟩, List.mem_of_getElem? (i := 20) (by decide +kernel), List.mem_of_getElem? (i := 300) (by decide +kernel), List.mem_of_getElem? (i := 301) (by decide +kernel)⟩
theorem lw_p17 : lw_okq (⟨"LocalMenders$State", "sumsOver", "(II)I"⟩, 14) := ⟨⟨by decide +kernel, by decide +kernel⟩, List.mem_of_getElem? (i := 20) (by decide +kernel), List.mem_of_getElem? (i := 305) (by decide +kernel), List.mem_of_getElem? (i := 306) (by decide +kernel)⟩
theorem lw_p18 : lw_okq (⟨"LocalMenders$State", "columnOf", "(I)I"⟩, 14) := ⟨⟨by decide +kernel, by decide +kernel⟩, List.mem_of_getElem? (i := 20) (by decide +kernel), List.mem_of_getElem? (i := 309) (by decide +kernel), List.mem_of_getElem? (i := 310) (by decide +kernel)⟩
theorem lw_p19 : lw_okq (⟨"LocalMenders$State", "valueOf", "(II)I"⟩, 14) := ⟨⟨by decide +kernel, by decide +kernel⟩, List.mem_of_getElem? (i := 20) (by decide +kernel), List.mem_of_getElem? (i := 313) (by decide +kernel), List.mem_of_getElem? (i := 314) (by decide +kernel)⟩
theorem lw_p20 : lw_okq (⟨"LocalMenders$State", "allCells", "()I"⟩, 14) := ⟨⟨by decide +kernel, by decide +kernel⟩, List.mem_of_getElem? (i := 20) (by decide +kernel), List.mem_of_getElem? (i := 325) (by decide +kernel), List.mem_of_getElem? (i := 326) (by decide +kernel)⟩
theorem lw_p21 : lw_okq (⟨"LocalMenders$Basis", "span", "(LLocalMenders$State;I)V"⟩, 3) := ⟨⟨by decide +kernel, by decide +kernel⟩, List.mem_of_getElem? (i := 152) (by decide +kernel), List.mem_of_getElem? (i := 329) (by decide +kernel), List.mem_of_getElem? (i := 330) (by decide +kernel)⟩
theorem lw_p22 : lw_okq (⟨"LocalMenders$Basis", "restOf", "(I)I"⟩, 3) := ⟨⟨by decide +kernel, by decide +kernel⟩, List.mem_of_getElem? (i := 152) (by decide +kernel), List.mem_of_getElem? (i := 335) (by decide +kernel), List.mem_of_getElem? (i := 336) (by decide +kernel)⟩
theorem lw_p23 : lw_okq (⟨"LocalMenders$Plan", "solve", "(II)I"⟩, 3) := ⟨⟨by decide +kernel, by decide +kernel⟩, List.mem_of_getElem? (i := 146) (by decide +kernel), List.mem_of_getElem? (i := 354) (by decide +kernel), List.mem_of_getElem? (i := 355) (by decide +kernel)⟩
theorem lw_p24 : lw_okq (⟨"LocalMenders$State", "countReads", "(II)V"⟩, 14) := ⟨⟨by decide +kernel, by decide +kernel⟩, List.mem_of_getElem? (i := 20) (by decide +kernel), List.mem_of_getElem? (i := 363) (by decide +kernel), List.mem_of_getElem? (i := 364) (by decide +kernel)⟩
theorem lw_p25 : lw_okq (⟨"LocalMenders$State", "nodeOf", "(II)I"⟩, 14) := ⟨⟨by decide +kernel, by decide +kernel⟩, List.mem_of_getElem? (i := 20) (by decide +kernel), List.mem_of_getElem? (i := 367) (by decide +kernel), List.mem_of_getElem? (i := 368) (by decide +kernel)⟩
theorem lw_p26 : lw_okq (⟨"LocalMenders$State", "bringBack", "(III)V"⟩, 14) := ⟨⟨by decide +kernel, by decide +kernel⟩, List.mem_of_getElem? (i := 20) (by decide +kernel), List.mem_of_getElem? (i := 374) (by decide +kernel), List.mem_of_getElem? (i := 375) (by decide +kernel)⟩
theorem lw_p27 : lw_okq (⟨"LocalMenders$State", "setValue", "(III)V"⟩, 14) := ⟨⟨by decide +kernel, by decide +kernel⟩, List.mem_of_getElem? (i := 20) (by decide +kernel), List.mem_of_getElem? (i := 378) (by decide +kernel), List.mem_of_getElem? (i := 379) (by decide +kernel)⟩
theorem lw_p28 : lw_okq (⟨"LocalMenders$State", "leaveQueue", "(I)V"⟩, 14) := ⟨⟨by decide +kernel, by decide +kernel⟩, List.mem_of_getElem? (i := 20) (by decide +kernel), List.mem_of_getElem? (i := 382) (by decide +kernel), List.mem_of_getElem? (i := 383) (by decide +kernel)⟩
theorem lw_p29 : lw_okq (⟨"LocalMenders$State", "joinQueue", "(I)V"⟩, 14) := ⟨⟨by decide +kernel, by decide +kernel⟩, List.mem_of_getElem? (i := 20) (by decide +kernel), List.mem_of_getElem? (i := 394) (by decide +kernel), List.mem_of_getElem? (i := 395) (by decide +kernel)⟩
theorem lw_p30 : lw_okq (⟨"LocalMenders$Plan", "canMendAll", "(LLocalMenders$State;I)Z"⟩, 3) := ⟨⟨by decide +kernel, by decide +kernel⟩, List.mem_of_getElem? (i := 146) (by decide +kernel), List.mem_of_getElem? (i := 422) (by decide +kernel), List.mem_of_getElem? (i := 423) (by decide +kernel)⟩
theorem lw_p31 : lw_okq (⟨"LocalMenders$State", "hasNode", "(I)Z"⟩, 14) := ⟨⟨by decide +kernel, by decide +kernel⟩, List.mem_of_getElem? (i := 20) (by decide +kernel), List.mem_of_getElem? (i := 477) (by decide +kernel), List.mem_of_getElem? (i := 478) (by decide +kernel)⟩
def lw_privs_2 : List (MethodName × Nat) := [(⟨"LocalMenders$State", "partnersOf", "(I)I"⟩, 14), (⟨"LocalMenders$State", "sumsOver", "(II)I"⟩, 14), (⟨"LocalMenders$State", "columnOf", "(I)I"⟩, 14), (⟨"LocalMenders$State", "valueOf", "(II)I"⟩, 14), (⟨"LocalMenders$State", "allCells", "()I"⟩, 14), (⟨"LocalMenders$Basis", "span", "(LLocalMenders$State;I)V"⟩, 3), (⟨"LocalMenders$Basis", "restOf", "(I)I"⟩, 3), (⟨"LocalMenders$Plan", "solve", "(II)I"⟩, 3), (⟨"LocalMenders$State", "countReads", "(II)V"⟩, 14), (⟨"LocalMenders$State", "nodeOf", "(II)I"⟩, 14), (⟨"LocalMenders$State", "bringBack", "(III)V"⟩, 14), (⟨"LocalMenders$State", "setValue", "(III)V"⟩, 14), (⟨"LocalMenders$State", "leaveQueue", "(I)V"⟩, 14), (⟨"LocalMenders$State", "joinQueue", "(I)V"⟩, 14), (⟨"LocalMenders$Plan", "canMendAll", "(LLocalMenders$State;I)Z"⟩, 3), (⟨"LocalMenders$State", "hasNode", "(I)Z"⟩, 14)]
theorem lw_r2 : ∀ q ∈ lw_privs_2, lw_okq q := List.forall_mem_cons.mpr ⟨lw_p16, List.forall_mem_cons.mpr ⟨lw_p17, List.forall_mem_cons.mpr ⟨lw_p18, List.forall_mem_cons.mpr ⟨lw_p19, List.forall_mem_cons.mpr ⟨lw_p20, List.forall_mem_cons.mpr ⟨lw_p21, List.forall_mem_cons.mpr ⟨lw_p22, List.forall_mem_cons.mpr ⟨lw_p23, List.forall_mem_cons.mpr ⟨lw_p24, List.forall_mem_cons.mpr ⟨lw_p25, List.forall_mem_cons.mpr ⟨lw_p26, List.forall_mem_cons.mpr ⟨lw_p27, List.forall_mem_cons.mpr ⟨lw_p28, List.forall_mem_cons.mpr ⟨lw_p29, List.forall_mem_cons.mpr ⟨lw_p30, List.forall_mem_cons.mpr ⟨lw_p31, fun _ h => absurd h List.not_mem_nil⟩⟩⟩⟩⟩⟩⟩⟩⟩⟩⟩⟩⟩⟩⟩⟩
theorem lw_p32 : lw_okq (⟨"LocalMenders$State", "culpritIn", "(I)I"⟩, 14) := ⟨⟨by decide +kernel, by decide +kernel⟩, List.mem_of_getElem? (i := 20) (by decide +kernel), List.mem_of_getElem? (i := 513) (by decide +kernel), List.mem_of_getElem? (i := 514) (by decide +kernel)⟩
theorem lw_p33 : lw_okq (⟨"LocalMenders", "writeCell", "(III)I"⟩, 9) := ⟨⟨by decide +kernel, by decide +kernel⟩, List.mem_of_getElem? (i := 12) (by decide +kernel), List.mem_of_getElem? (i := 531) (by decide +kernel), List.mem_of_getElem? (i := 532) (by decide +kernel)⟩
theorem lw_p34 : lw_okq (⟨"LocalMenders$State", "addToParities", "(II)V"⟩, 14) := ⟨⟨by decide +kernel, by decide +kernel⟩, List.mem_of_getElem? (i := 20) (by decide +kernel), List.mem_of_getElem? (i := 538) (by decide +kernel), List.mem_of_getElem? (i := 539) (by decide +kernel)⟩
theorem lw_p35 : lw_okq (⟨"LocalMenders", "loseCell", "(II)I"⟩, 9) := ⟨⟨by decide +kernel, by decide +kernel⟩, List.mem_of_getElem? (i := 12) (by decide +kernel), List.mem_of_getElem? (i := 546) (by decide +kernel), List.mem_of_getElem? (i := 547) (by decide +kernel)⟩
theorem lw_p36 : lw_okq (⟨"LocalMenders$State", "takeAway", "(II)V"⟩, 14) := ⟨⟨by decide +kernel, by decide +kernel⟩, List.mem_of_getElem? (i := 20) (by decide +kernel), List.mem_of_getElem? (i := 550) (by decide +kernel), List.mem_of_getElem? (i := 551) (by decide +kernel)⟩
theorem lw_p37 : lw_okq (⟨"LocalMenders", "loseCellsOn", "(I)I"⟩, 9) := ⟨⟨by decide +kernel, by decide +kernel⟩, List.mem_of_getElem? (i := 12) (by decide +kernel), List.mem_of_getElem? (i := 559) (by decide +kernel), List.mem_of_getElem? (i := 560) (by decide +kernel)⟩
theorem lw_p38 : lw_okq (⟨"LocalMenders$State", "cellOn", "(II)I"⟩, 14) := ⟨⟨by decide +kernel, by decide +kernel⟩, List.mem_of_getElem? (i := 20) (by decide +kernel), List.mem_of_getElem? (i := 563) (by decide +kernel), List.mem_of_getElem? (i := 564) (by decide +kernel)⟩
theorem lw_p39 : lw_okq (⟨"LocalMenders", "mendCellsOn", "(I)I"⟩, 9) := ⟨⟨by decide +kernel, by decide +kernel⟩, List.mem_of_getElem? (i := 12) (by decide +kernel), List.mem_of_getElem? (i := 575) (by decide +kernel), List.mem_of_getElem? (i := 576) (by decide +kernel)⟩
def lw_privs_3 : List (MethodName × Nat) := [(⟨"LocalMenders$State", "culpritIn", "(I)I"⟩, 14), (⟨"LocalMenders", "writeCell", "(III)I"⟩, 9), (⟨"LocalMenders$State", "addToParities", "(II)V"⟩, 14), (⟨"LocalMenders", "loseCell", "(II)I"⟩, 9), (⟨"LocalMenders$State", "takeAway", "(II)V"⟩, 14), (⟨"LocalMenders", "loseCellsOn", "(I)I"⟩, 9), (⟨"LocalMenders$State", "cellOn", "(II)I"⟩, 14), (⟨"LocalMenders", "mendCellsOn", "(I)I"⟩, 9)]
theorem lw_r3 : ∀ q ∈ lw_privs_3, lw_okq q := List.forall_mem_cons.mpr ⟨lw_p32, List.forall_mem_cons.mpr ⟨lw_p33, List.forall_mem_cons.mpr ⟨lw_p34, List.forall_mem_cons.mpr ⟨lw_p35, List.forall_mem_cons.mpr ⟨lw_p36, List.forall_mem_cons.mpr ⟨lw_p37, List.forall_mem_cons.mpr ⟨lw_p38, List.forall_mem_cons.mpr ⟨lw_p39, fun _ h => absurd h List.not_mem_nil⟩⟩⟩⟩⟩⟩⟩⟩
def lw_privs : List (MethodName × Nat) := lw_privs_1 ++ (lw_privs_2 ++ (lw_privs_3))
def lw_tbl : List Cond := k2_sels lw_privs ++ tables_1
theorem lw_privs_ok : ∀ q ∈ lw_privs, lw_okq q := by
  show ∀ q ∈ lw_privs_1 ++ (lw_privs_2 ++ (lw_privs_3)), lw_okq q
  exact List.forall_mem_append.mpr ⟨lw_r1, List.forall_mem_append.mpr ⟨lw_r2, lw_r3⟩⟩
-- ===== end of PART A; then your names; then what follows =====
def RX0 : String := "LocalMenders$Basis"
def TX0 : u_T := fun k => match k with
  | 0 => ("LocalMenders$Basis", "columns", "[I", true)
  | 1 => ("LocalMenders$Basis", "leads", "[I", true)
  | _ => ("LocalMenders$Basis", "rank", "I", false)
def tyX0 : Nat → FieldType := fun k => match k with
  | 0 => .array .int
  | 1 => .array .int
  | _ => .int
abbrev wsX00 : List Cond := u_ws RX0 TX0 3
theorem nmX0 : ∀ a, a < 3 → ∀ b, b < 3 → a ≠ b → (TX0 a).2.1 ≠ (TX0 b).2.1 := by decide +kernel
theorem tyX0_ok : ∀ k, k < 3 → parseFieldDescriptor (TX0 k).2.2.1 = some (tyX0 k) := by decide +kernel
abbrev cX0_init : ByteArray := prog_2_method_1_code
def yX0_init : MethodName := ⟨RX0, "<init>", "()V"⟩
abbrev cX0_span : ByteArray := prog_2_method_2_code
def yX0_span : MethodName := ⟨RX0, "span", "(LLocalMenders$State;I)V"⟩
abbrev cX0_restOf : ByteArray := prog_2_method_3_code
def yX0_restOf : MethodName := ⟨RX0, "restOf", "(I)I"⟩
def RX1 : String := "LocalMenders$Orders"
def TX1 : u_T := fun k => match k with
  | 0 => ("LocalMenders$Orders", "signs", "[C", true)
  | 1 => ("LocalMenders$Orders", "length", "I", false)
  | 2 => ("LocalMenders$Orders", "place", "I", false)
  | 3 => ("LocalMenders$Orders", "count", "I", false)
  | 4 => ("LocalMenders$Orders", "kind", "I", false)
  | 5 => ("LocalMenders$Orders", "stripe", "I", false)
  | 6 => ("LocalMenders$Orders", "cell", "I", false)
  | 7 => ("LocalMenders$Orders", "node", "I", false)
  | _ => ("LocalMenders$Orders", "value", "I", false)
def tyX1 : Nat → FieldType := fun k => match k with
  | 0 => .array .char
  | 1 => .int
  | 2 => .int
  | 3 => .int
  | 4 => .int
  | 5 => .int
  | 6 => .int
  | 7 => .int
  | _ => .int
abbrev wsX10 : List Cond := u_ws RX1 TX1 9
theorem nmX1 : ∀ a, a < 9 → ∀ b, b < 9 → a ≠ b → (TX1 a).2.1 ≠ (TX1 b).2.1 := by decide +kernel
theorem tyX1_ok : ∀ k, k < 9 → parseFieldDescriptor (TX1 k).2.2.1 = some (tyX1 k) := by decide +kernel
abbrev cX1_init : ByteArray := prog_3_method_1_code
def yX1_init : MethodName := ⟨RX1, "<init>", "()V"⟩
def RX2 : String := "LocalMenders$Plan"
def TX2 : u_T := fun k => match k with
  | 0 => ("LocalMenders$Plan", "basis", "LLocalMenders$Basis;", true)
  | 1 => ("LocalMenders$Plan", "sources", "I", false)
  | _ => ("LocalMenders$Plan", "outcome", "I", false)
def tyX2 : Nat → FieldType := fun k => match k with
  | 0 => .object "LocalMenders$Basis"
  | 1 => .int
  | _ => .int
abbrev wsX20 : List Cond := u_ws RX2 TX2 3
theorem nmX2 : ∀ a, a < 3 → ∀ b, b < 3 → a ≠ b → (TX2 a).2.1 ≠ (TX2 b).2.1 := by decide +kernel
theorem tyX2_ok : ∀ k, k < 3 → parseFieldDescriptor (TX2 k).2.2.1 = some (tyX2 k) := by decide +kernel
abbrev cX2_init : ByteArray := prog_4_method_1_code
def yX2_init : MethodName := ⟨RX2, "<init>", "()V"⟩
abbrev cX2_make : ByteArray := prog_4_method_2_code
def yX2_make : MethodName := ⟨RX2, "make", "(LLocalMenders$State;II)I"⟩
abbrev cX2_solve : ByteArray := prog_4_method_3_code
def yX2_solve : MethodName := ⟨RX2, "solve", "(II)I"⟩
abbrev cX2_canMendAll : ByteArray := prog_4_method_4_code
def yX2_canMendAll : MethodName := ⟨RX2, "canMendAll", "(LLocalMenders$State;I)Z"⟩
def RX3 : String := "LocalMenders$Search"
def TX3 : u_T := fun k => match k with
  | 0 => ("LocalMenders$Search", "rests", "[I", true)
  | 1 => ("LocalMenders$Search", "wanted", "I", false)
  | 2 => ("LocalMenders$Search", "found", "I", false)
  | _ => ("LocalMenders$Search", "leastNodes", "I", false)
def tyX3 : Nat → FieldType := fun k => match k with
  | 0 => .array .int
  | 1 => .int
  | 2 => .int
  | _ => .int
abbrev wsX30 : List Cond := u_ws RX3 TX3 4
theorem nmX3 : ∀ a, a < 4 → ∀ b, b < 4 → a ≠ b → (TX3 a).2.1 ≠ (TX3 b).2.1 := by decide +kernel
theorem tyX3_ok : ∀ k, k < 4 → parseFieldDescriptor (TX3 k).2.2.1 = some (tyX3 k) := by decide +kernel
abbrev cX3_init : ByteArray := prog_5_method_1_code
def yX3_init : MethodName := ⟨RX3, "<init>", "()V"⟩
def RX4 : String := "LocalMenders$State"
def TX4 : u_T := fun k => match k with
  | 0 => ("LocalMenders$State", "groups", "I", false)
  | 1 => ("LocalMenders$State", "size", "I", false)
  | 2 => ("LocalMenders$State", "stripes", "I", false)
  | 3 => ("LocalMenders$State", "shift", "I", false)
  | 4 => ("LocalMenders$State", "readsSoFar", "I", false)
  | 5 => ("LocalMenders$State", "mendsSoFar", "I", false)
  | 6 => ("LocalMenders$State", "localMendsSoFar", "I", false)
  | 7 => ("LocalMenders$State", "lossesSoFar", "I", false)
  | 8 => ("LocalMenders$State", "queueLength", "I", false)
  | 9 => ("LocalMenders$State", "queue", "[I", true)
  | 10 => ("LocalMenders$State", "values", "[I", true)
  | 11 => ("LocalMenders$State", "missing", "[I", true)
  | 12 => ("LocalMenders$State", "loads", "[I", true)
  | _ => ("LocalMenders$State", "columns", "[I", true)
def tyX4 : Nat → FieldType := fun k => match k with
  | 0 => .int
  | 1 => .int
  | 2 => .int
  | 3 => .int
  | 4 => .int
  | 5 => .int
  | 6 => .int
  | 7 => .int
  | 8 => .int
  | 9 => .array .int
  | 10 => .array .int
  | 11 => .array .int
  | 12 => .array .int
  | _ => .array .int
abbrev wsX40 : List Cond := u_ws RX4 TX4 14
theorem nmX4 : ∀ a, a < 14 → ∀ b, b < 14 → a ≠ b → (TX4 a).2.1 ≠ (TX4 b).2.1 := by decide +kernel
theorem tyX4_ok : ∀ k, k < 14 → parseFieldDescriptor (TX4 k).2.2.1 = some (tyX4 k) := by decide +kernel
abbrev cX4_init : ByteArray := prog_6_method_1_code
def yX4_init : MethodName := ⟨RX4, "<init>", "()V"⟩
abbrev cX4_copyFrom : ByteArray := prog_6_method_2_code
def yX4_copyFrom : MethodName := ⟨RX4, "copyFrom", "(LLocalMenders$State;)V"⟩
abbrev cX4_layOut : ByteArray := prog_6_method_3_code
def yX4_layOut : MethodName := ⟨RX4, "layOut", "(IIII)V"⟩
abbrev cX4_dataCount : ByteArray := prog_6_method_4_code
def yX4_dataCount : MethodName := ⟨RX4, "dataCount", "()I"⟩
abbrev cX4_cellCount : ByteArray := prog_6_method_5_code
def yX4_cellCount : MethodName := ⟨RX4, "cellCount", "()I"⟩
abbrev cX4_allCells : ByteArray := prog_6_method_6_code
def yX4_allCells : MethodName := ⟨RX4, "allCells", "()I"⟩
abbrev cX4_hasStripe : ByteArray := prog_6_method_7_code
def yX4_hasStripe : MethodName := ⟨RX4, "hasStripe", "(I)Z"⟩
abbrev cX4_hasCell : ByteArray := prog_6_method_8_code
def yX4_hasCell : MethodName := ⟨RX4, "hasCell", "(II)Z"⟩
abbrev cX4_hasNode : ByteArray := prog_6_method_9_code
def yX4_hasNode : MethodName := ⟨RX4, "hasNode", "(I)Z"⟩
abbrev cX4_nodeOf : ByteArray := prog_6_method_10_code
def yX4_nodeOf : MethodName := ⟨RX4, "nodeOf", "(II)I"⟩
abbrev cX4_cellOn : ByteArray := prog_6_method_11_code
def yX4_cellOn : MethodName := ⟨RX4, "cellOn", "(II)I"⟩
abbrev cX4_homeCheck : ByteArray := prog_6_method_13_code
def yX4_homeCheck : MethodName := ⟨RX4, "homeCheck", "(I)I"⟩
abbrev cX4_columnOf : ByteArray := prog_6_method_14_code
def yX4_columnOf : MethodName := ⟨RX4, "columnOf", "(I)I"⟩
abbrev cX4_partnersOf : ByteArray := prog_6_method_15_code
def yX4_partnersOf : MethodName := ⟨RX4, "partnersOf", "(I)I"⟩
abbrev cX4_valueOf : ByteArray := prog_6_method_16_code
def yX4_valueOf : MethodName := ⟨RX4, "valueOf", "(II)I"⟩
abbrev cX4_setValue : ByteArray := prog_6_method_17_code
def yX4_setValue : MethodName := ⟨RX4, "setValue", "(III)V"⟩
abbrev cX4_addToParities : ByteArray := prog_6_method_18_code
def yX4_addToParities : MethodName := ⟨RX4, "addToParities", "(II)V"⟩
abbrev cX4_missingIn : ByteArray := prog_6_method_19_code
def yX4_missingIn : MethodName := ⟨RX4, "missingIn", "(I)I"⟩
abbrev cX4_isMissing : ByteArray := prog_6_method_20_code
def yX4_isMissing : MethodName := ⟨RX4, "isMissing", "(II)Z"⟩
abbrev cX4_sumsOver : ByteArray := prog_6_method_21_code
def yX4_sumsOver : MethodName := ⟨RX4, "sumsOver", "(II)I"⟩
abbrev cX4_culpritIn : ByteArray := prog_6_method_22_code
def yX4_culpritIn : MethodName := ⟨RX4, "culpritIn", "(I)I"⟩
abbrev cX4_takeAway : ByteArray := prog_6_method_23_code
def yX4_takeAway : MethodName := ⟨RX4, "takeAway", "(II)V"⟩
abbrev cX4_bringBack : ByteArray := prog_6_method_24_code
def yX4_bringBack : MethodName := ⟨RX4, "bringBack", "(III)V"⟩
abbrev cX4_countReads : ByteArray := prog_6_method_25_code
def yX4_countReads : MethodName := ⟨RX4, "countReads", "(II)V"⟩
abbrev cX4_joinQueue : ByteArray := prog_6_method_26_code
def yX4_joinQueue : MethodName := ⟨RX4, "joinQueue", "(I)V"⟩
abbrev cX4_leaveQueue : ByteArray := prog_6_method_27_code
def yX4_leaveQueue : MethodName := ⟨RX4, "leaveQueue", "(I)V"⟩
def RX5 : String := "LocalMenders"
def TX5 : u_T := fun k => match k with
  | 0 => ("LocalMenders", "now", "LLocalMenders$State;", true)
  | 1 => ("LocalMenders", "before", "LLocalMenders$State;", true)
  | 2 => ("LocalMenders", "snapshot", "LLocalMenders$State;", true)
  | 3 => ("LocalMenders", "history", "[LLocalMenders$State;", true)
  | 4 => ("LocalMenders", "orders", "LLocalMenders$Orders;", true)
  | 5 => ("LocalMenders", "plan", "LLocalMenders$Plan;", true)
  | 6 => ("LocalMenders", "search", "LLocalMenders$Search;", true)
  | 7 => ("LocalMenders", "historyLength", "I", false)
  | _ => ("LocalMenders", "snapshotTaken", "Z", false)
def tyX5 : Nat → FieldType := fun k => match k with
  | 0 => .object "LocalMenders$State"
  | 1 => .object "LocalMenders$State"
  | 2 => .object "LocalMenders$State"
  | 3 => .array (.object "LocalMenders$State")
  | 4 => .object "LocalMenders$Orders"
  | 5 => .object "LocalMenders$Plan"
  | 6 => .object "LocalMenders$Search"
  | 7 => .int
  | _ => .boolean
abbrev wsX50 : List Cond := u_ws RX5 TX5 9
theorem nmX5 : ∀ a, a < 9 → ∀ b, b < 9 → a ≠ b → (TX5 a).2.1 ≠ (TX5 b).2.1 := by decide +kernel
theorem tyX5_ok : ∀ k, k < 9 → parseFieldDescriptor (TX5 k).2.2.1 = some (tyX5 k) := by decide +kernel
abbrev cX5_init : ByteArray := prog_1_method_1_code
def yX5_init : MethodName := ⟨RX5, "<init>", "()V"⟩
abbrev cX5_setLayout : ByteArray := prog_1_method_2_code
def yX5_setLayout : MethodName := ⟨RX5, "setLayout", "(IIII)I"⟩
abbrev cX5_write : ByteArray := prog_1_method_3_code
def yX5_write : MethodName := ⟨RX5, "write", "(III)I"⟩
abbrev cX5_lose : ByteArray := prog_1_method_5_code
def yX5_lose : MethodName := ⟨RX5, "lose", "(II)I"⟩
abbrev cX5_loseNode : ByteArray := prog_1_method_6_code
def yX5_loseNode : MethodName := ⟨RX5, "loseNode", "(I)I"⟩
abbrev cX5_mend : ByteArray := prog_1_method_7_code
def yX5_mend : MethodName := ⟨RX5, "mend", "(II)I"⟩
abbrev cX5_mendNode : ByteArray := prog_1_method_8_code
def yX5_mendNode : MethodName := ⟨RX5, "mendNode", "(I)I"⟩
abbrev cX5_work : ByteArray := prog_1_method_9_code
def yX5_work : MethodName := ⟨RX5, "work", "(I)I"⟩
abbrev cX5_undo : ByteArray := prog_1_method_14_code
def yX5_undo : MethodName := ⟨RX5, "undo", "()I"⟩
abbrev cX5_value : ByteArray := prog_1_method_17_code
def yX5_value : MethodName := ⟨RX5, "value", "(II)I"⟩
abbrev cX5_node : ByteArray := prog_1_method_18_code
def yX5_node : MethodName := ⟨RX5, "node", "(II)I"⟩
abbrev cX5_load : ByteArray := prog_1_method_19_code
def yX5_load : MethodName := ⟨RX5, "load", "(I)I"⟩
abbrev cX5_lost : ByteArray := prog_1_method_20_code
def yX5_lost : MethodName := ⟨RX5, "lost", "(I)I"⟩
abbrev cX5_waiting : ByteArray := prog_1_method_21_code
def yX5_waiting : MethodName := ⟨RX5, "waiting", "(I)I"⟩
abbrev cX5_failing : ByteArray := prog_1_method_22_code
def yX5_failing : MethodName := ⟨RX5, "failing", "(I)I"⟩
abbrev cX5_total : ByteArray := prog_1_method_23_code
def yX5_total : MethodName := ⟨RX5, "total", "(I)I"⟩
abbrev cX5_way : ByteArray := prog_1_method_24_code
def yX5_way : MethodName := ⟨RX5, "way", "(II)I"⟩
abbrev cX5_reads : ByteArray := prog_1_method_25_code
def yX5_reads : MethodName := ⟨RX5, "reads", "(II)I"⟩
abbrev cX5_mended : ByteArray := prog_1_method_26_code
def yX5_mended : MethodName := ⟨RX5, "mended", "(II)I"⟩
abbrev cX5_culprit : ByteArray := prog_1_method_27_code
def yX5_culprit : MethodName := ⟨RX5, "culprit", "(I)I"⟩
abbrev cX5_survives : ByteArray := prog_1_method_28_code
def yX5_survives : MethodName := ⟨RX5, "survives", "(I)I"⟩
abbrev cX5_busiest : ByteArray := prog_1_method_31_code
def yX5_busiest : MethodName := ⟨RX5, "busiest", "()I"⟩
abbrev cX5_begin : ByteArray := prog_1_method_32_code
def yX5_begin : MethodName := ⟨RX5, "begin", "()V"⟩
abbrev cX5_finish : ByteArray := prog_1_method_33_code
def yX5_finish : MethodName := ⟨RX5, "finish", "(I)I"⟩
abbrev cX5_record : ByteArray := prog_1_method_34_code
def yX5_record : MethodName := ⟨RX5, "record", "()V"⟩
abbrev cX5_dropOldest : ByteArray := prog_1_method_35_code
def yX5_dropOldest : MethodName := ⟨RX5, "dropOldest", "()V"⟩
abbrev cX5_writeCell : ByteArray := prog_1_method_36_code
def yX5_writeCell : MethodName := ⟨RX5, "writeCell", "(III)I"⟩
abbrev cX5_loseCell : ByteArray := prog_1_method_38_code
def yX5_loseCell : MethodName := ⟨RX5, "loseCell", "(II)I"⟩
abbrev cX5_loseCellsOn : ByteArray := prog_1_method_39_code
def yX5_loseCellsOn : MethodName := ⟨RX5, "loseCellsOn", "(I)I"⟩
abbrev cX5_mendCell : ByteArray := prog_1_method_40_code
def yX5_mendCell : MethodName := ⟨RX5, "mendCell", "(II)I"⟩
abbrev cX5_mendCellsOn : ByteArray := prog_1_method_41_code
def yX5_mendCellsOn : MethodName := ⟨RX5, "mendCellsOn", "(I)I"⟩
abbrev cX5_workOnQueue : ByteArray := prog_1_method_42_code
def yX5_workOnQueue : MethodName := ⟨RX5, "workOnQueue", "(I)I"⟩
abbrev cX5_isWithin : ByteArray := prog_1_method_45_code
def yX5_isWithin : MethodName := ⟨RX5, "isWithin", "(III)Z"⟩
abbrev cX5_at : ByteArray := prog_1_method_46_code
def yX5_at : MethodName := ⟨RX5, "at", "([II)I"⟩
abbrev cX5_put : ByteArray := prog_1_method_47_code
def yX5_put : MethodName := ⟨RX5, "put", "([III)V"⟩
abbrev cX5_copyRow : ByteArray := prog_1_method_48_code
def yX5_copyRow : MethodName := ⟨RX5, "copyRow", "([I[I)V"⟩
abbrev cX5_scaled : ByteArray := prog_1_method_49_code
def yX5_scaled : MethodName := ⟨RX5, "scaled", "(II)I"⟩
abbrev cX5_element : ByteArray := prog_1_method_50_code
def yX5_element : MethodName := ⟨RX5, "element", "(II)I"⟩
abbrev cX5_leadOf : ByteArray := prog_1_method_51_code
def yX5_leadOf : MethodName := ⟨RX5, "leadOf", "(I)I"⟩
abbrev cX5_unitOf : ByteArray := prog_1_method_52_code
def yX5_unitOf : MethodName := ⟨RX5, "unitOf", "(II)I"⟩
def RX6 : String := "LocalMendersModel"
def TX6 : u_T := fun k => match k with
  | _ => ("", "", "", false)
def tyX6 : Nat → FieldType := fun k => match k with
  | _ => .int
abbrev wsX60 : List Cond := u_ws RX6 TX6 0
theorem nmX6 : ∀ a, a < 0 → ∀ b, b < 0 → a ≠ b → (TX6 a).2.1 ≠ (TX6 b).2.1 := by decide +kernel
theorem tyX6_ok : ∀ k, k < 0 → parseFieldDescriptor (TX6 k).2.2.1 = some (tyX6 k) := by decide +kernel
def RJ6 : String := "java/lang/Integer"
def TJ6 : u_T := fun k => match k with
  | _ => ("", "", "", false)
def tyJ6 : Nat → FieldType := fun k => match k with
  | _ => .int
abbrev wsJ60 : List Cond := u_ws RJ6 TJ6 0
theorem nmJ6 : ∀ a, a < 0 → ∀ b, b < 0 → a ≠ b → (TJ6 a).2.1 ≠ (TJ6 b).2.1 := by decide +kernel
theorem tyJ6_ok : ∀ k, k < 0 → parseFieldDescriptor (TJ6 k).2.2.1 = some (tyJ6 k) := by decide +kernel
abbrev cJ6_bitCount_0f7a4 : ByteArray := prog_9_method_49_code
def yJ6_bitCount_0f7a4 : MethodName := ⟨RJ6, "bitCount", "(I)I"⟩
def RJ9 : String := "java/lang/Math"
def TJ9 : u_T := fun k => match k with
  | _ => ("", "", "", false)
def tyJ9 : Nat → FieldType := fun k => match k with
  | _ => .int
abbrev wsJ90 : List Cond := u_ws RJ9 TJ9 0
theorem nmJ9 : ∀ a, a < 0 → ∀ b, b < 0 → a ≠ b → (TJ9 a).2.1 ≠ (TJ9 b).2.1 := by decide +kernel
theorem tyJ9_ok : ∀ k, k < 0 → parseFieldDescriptor (TJ9 k).2.2.1 = some (tyJ9 k) := by decide +kernel
abbrev cJ9_floorMod_7cf53 : ByteArray := prog_10_method_50_code
def yJ9_floorMod_7cf53 : MethodName := ⟨RJ9, "floorMod", "(II)I"⟩
abbrev cJ9_max_7cf53 : ByteArray := prog_10_method_65_code
def yJ9_max_7cf53 : MethodName := ⟨RJ9, "max", "(II)I"⟩
abbrev cJ9_min_7cf53 : ByteArray := prog_10_method_69_code
def yJ9_min_7cf53 : MethodName := ⟨RJ9, "min", "(II)I"⟩
def RJ10 : String := "java/lang/System"
def TJ10 : u_T := fun k => match k with
  | _ => ("", "", "", false)
def tyJ10 : Nat → FieldType := fun k => match k with
  | _ => .int
abbrev wsJ100 : List Cond := u_ws RJ10 TJ10 0
theorem nmJ10 : ∀ a, a < 0 → ∀ b, b < 0 → a ≠ b → (TJ10 a).2.1 ≠ (TJ10 b).2.1 := by decide +kernel
theorem tyJ10_ok : ∀ k, k < 0 → parseFieldDescriptor (TJ10 k).2.2.1 = some (tyJ10 k) := by decide +kernel
def RJ7 : String := "java/util/Arrays"
def TJ7 : u_T := fun k => match k with
  | _ => ("", "", "", false)
def tyJ7 : Nat → FieldType := fun k => match k with
  | _ => .int
abbrev wsJ70 : List Cond := u_ws RJ7 TJ7 0
theorem nmJ7 : ∀ a, a < 0 → ∀ b, b < 0 → a ≠ b → (TJ7 a).2.1 ≠ (TJ7 b).2.1 := by decide +kernel
theorem tyJ7_ok : ∀ k, k < 0 → parseFieldDescriptor (TJ7 k).2.2.1 = some (tyJ7 k) := by decide +kernel
abbrev cJ7_fill_53178 : ByteArray := prog_12_method_103_code
def yJ7_fill_53178 : MethodName := ⟨RJ7, "fill", "([II)V"⟩
def RL : String := "LocalMendersLaw"
abbrev cL_cell : ByteArray := method_2_code
def yL_cell : MethodName := ⟨RL, "cell", "([II)I"⟩
abbrev cL_low : ByteArray := method_3_code
def yL_low : MethodName := ⟨RL, "low", "(II)I"⟩
abbrev cL_data : ByteArray := method_4_code
def yL_data : MethodName := ⟨RL, "data", "([I)I"⟩
abbrev cL_all : ByteArray := method_5_code
def yL_all : MethodName := ⟨RL, "all", "([I)I"⟩
abbrev cL_group : ByteArray := method_6_code
def yL_group : MethodName := ⟨RL, "group", "(I[I)I"⟩
abbrev cL_node : ByteArray := method_7_code
def yL_node : MethodName := ⟨RL, "node", "(II[I)I"⟩
abbrev cL_cellOn : ByteArray := method_8_code
def yL_cellOn : MethodName := ⟨RL, "cellOn", "(II[I)I"⟩
abbrev cL_ones : ByteArray := method_9_code
def yL_ones : MethodName := ⟨RL, "ones", "(I)I"⟩
abbrev cL_times : ByteArray := method_10_code
def yL_times : MethodName := ⟨RL, "times", "(II)I"⟩
abbrev cL_power : ByteArray := method_11_code
def yL_power : MethodName := ⟨RL, "power", "(I)I"⟩
abbrev cL_nearWay : ByteArray := method_12_code
def yL_nearWay : MethodName := ⟨RL, "nearWay", "(II[I[I)I"⟩
abbrev cL_reads : ByteArray := method_13_code
def yL_reads : MethodName := ⟨RL, "reads", "(II[I[I)I"⟩
abbrev cL_isWay : ByteArray := method_14_code
def yL_isWay : MethodName := ⟨RL, "isWay", "(LLocalMenders;II[I[I[I)Z"⟩
abbrev cL_lose : ByteArray := method_15_code
def yL_lose : MethodName := ⟨RL, "lose", "(II[I[I[I)V"⟩
abbrev cL_leave : ByteArray := method_16_code
def yL_leave : MethodName := ⟨RL, "leave", "(II[I[I)V"⟩
abbrev cL_mend : ByteArray := method_17_code
def yL_mend : MethodName := ⟨RL, "mend", "(III[I[I[I[I)V"⟩
abbrev cL_write : ByteArray := method_18_code
def yL_write : MethodName := ⟨RL, "write", "(III[I[I)V"⟩
abbrev cL_told : ByteArray := method_19_code
def yL_told : MethodName := ⟨RL, "told", "(LLocalMenders;)J"⟩
abbrev cL_isSo : ByteArray := method_20_code
def yL_isSo : MethodName := ⟨RL, "isSo", "(LLocalMenders;[I[I[I[I[I)Z"⟩
abbrev cL_call : ByteArray := method_21_code
def yL_call : MethodName := ⟨RL, "call", "(LLocalMenders;IIII)I"⟩
abbrev cL_does : ByteArray := method_22_code
def yL_does : MethodName := ⟨RL, "does", "(I[I[I[I[I[I[I[I)Z"⟩
abbrev cL_nodeDue : ByteArray := method_23_code
def yL_nodeDue : MethodName := ⟨RL, "nodeDue", "(I[II[I[I)I"⟩
abbrev cL_law : ByteArray := code
def yL_law : MethodName := ⟨RL, "law", "([I)Z"⟩
abbrev vwCl : List vw_C := [(RX0, TX0, 3), (RX1, TX1, 9), (RX2, TX2, 3), (RX3, TX3, 4), (RX4, TX4, 14), (RX5, TX5, 9)]
end
section
/-! THE ABSTRACT HEAP: cell i of the list h lies at the address base + i; '.ref i' in h, in locals and on stacks means that cell. Three cells that were there before are named by BIGN, BIGN + 1, BIGN + 2 (POWERS, INVERSES, the script). -/
abbrev AEnv : Type := Nat × va_G × (Nat → ClassId) × (Nat → Nat) × (Nat × (Nat → Int32))
def EB (E : AEnv) : Nat := E.1
def ED (E : AEnv) : va_G := E.2.1
def ETc (E : AEnv) : Nat → ClassId := E.2.2.1
def ESp (E : AEnv) : Nat → Nat := E.2.2.2.1
def ESc (E : AEnv) : Nat × (Nat → Int32) := E.2.2.2.2
def BIGN : Nat := 1000000
def aR (E : AEnv) (k : Nat) : Nat := if k < BIGN then EB E + k else ESp E (k - BIGN)
def cV (E : AEnv) (v : Value) : Value := match v with
  | .ref k => .ref (aR E k)
  | w => w
def cAr (E : AEnv) (x : vp_A) : vp_A := match x with
  | (n, .inr (.inr (.inr (.inr f)))) => (n, .inr (.inr (.inr (.inr (fun j => (f j).map (aR E))))))
  | y => y
def cE (E : AEnv) (e : va_E) : va_E := match e with
  | .inl (t, x) => .inl (ETc E t, cAr E x)
  | .inr (ci, fs) => .inr (ci, fs.map (cV E))
def cW (E : AEnv) (h : List va_E) : va_W := h.mapIdx (fun i e => (EB E + i, cE E e))
def AA (E : AEnv) : Nat → Prop := fun q => EB E ≤ q
def tysE (E : AEnv) : List (ClassId × FieldType) := [(ETc E 0, .int), (ETc E 1, .char), (ETc E 2, .object RX4)]
def Inv (E : AEnv) (h : List va_E) (H : Heap) : Prop := h.length ≤ BIGN ∧ H.size = EB E + h.length ∧ va_P (ED E) vwCl (cW E h) H
def POWf : Nat → Int32 := fun j => ([1, 2, 4, 8, 3, 6, 12, 11, 5, 10, 7, 14, 15, 13, 9] : List Int32).getD j 0
def INVf : Nat → Int32 := fun j => ([0, 1, 9, 14, 13, 11, 7, 6, 15, 2, 12, 5, 10, 4, 3, 8] : List Int32).getD j 0
def isNestW (w : Cond) : Bool := match w with
  | .methodLinkNest _ _ _ _ => true
  | .fieldLinkNest _ _ _ _ _ _ => true
  | _ => false
/-- the nest words of the tables, and all other words that stay -/
def NW : List Cond := tables_1.filter isNestW
def BW : List Cond := lw_tbl.filter goodWord
def EnvOK (E : AEnv) (s : State) : Prop :=
  va_K (ED E) vwCl (tysE E) s ∧ (∀ w ∈ NW, va_Nw w s) ∧ va_AO RX4 s ∧ EB E ≤ s.heap.size ∧
  va_T .int (ESp E 0) 15 (fun j => .int (POWf j)) (AA E) s s.heap ∧ va_T .int (ESp E 1) 16 (fun j => .int (INVf j)) (AA E) s s.heap ∧
  va_T .int (ESp E 2) (ESc E).1 (fun j => .int ((ESc E).2 j)) (AA E) s s.heap ∧
  va_Z "LocalMenders" "POWERS" "[I" (.ref (ESp E 0)) (AA E) s s.heap ∧ va_Z "LocalMenders" "INVERSES" "[I" (.ref (ESp E 1)) (AA E) s s.heap
theorem cW_get {E : AEnv} {h : List va_E} {a : Nat} {e : va_E} (hg : h[a]? = some e) : (cW E h)[a]? = some (EB E + a, cE E e) := by
  unfold cW
  rw [List.getElem?_mapIdx, hg]
  rfl
theorem cW_inv {E : AEnv} {h : List va_E} {a : Nat} {q : Nat × va_E} (hg : (cW E h)[a]? = some q) : q.1 = EB E + a ∧ ∃ e, h[a]? = some e ∧ q.2 = cE E e := by
  unfold cW at hg
  rw [List.getElem?_mapIdx] at hg
  cases he : h[a]? with
  | none => rw [he] at hg; cases hg
  | some e =>
    rw [he] at hg
    cases hg
    exact ⟨rfl, e, rfl, rfl⟩
theorem cW_set {E : AEnv} {h : List va_E} {a : Nat} {e : va_E} : (cW E h).set a (EB E + a, cE E e) = cW E (h.set a e) := by
  apply List.ext_getElem?
  intro i
  unfold cW
  rw [List.getElem?_mapIdx, List.getElem?_set, List.getElem?_set, List.getElem?_mapIdx, List.length_mapIdx]
  by_cases hi : a = i
  · subst hi
    by_cases hl : a < h.length
    · simp [hl]
    · simp [hl]
  · simp [hi]
theorem cW_app {E : AEnv} {h : List va_E} {e : va_E} : cW E h ++ [(EB E + h.length, cE E e)] = cW E (h ++ [e]) := by
  unfold cW
  rw [List.mapIdx_append]
  simp
theorem cW_D {E : AEnv} {h : List va_E} : va_D (AA E) (cW E h) := by
  refine ⟨fun i j p q hi hj he => ?_, fun k q hk => ?_⟩
  · have h1 := (cW_inv hi).1
    have h2 := (cW_inv hj).1
    omega
  · have h1 := (cW_inv hk).1
    show EB E ≤ q.1
    omega
theorem aR_lo {E : AEnv} {h : List va_E} {H : Heap} (hI : Inv E h H) {a : Nat} {e : va_E} (hg : h[a]? = some e) : aR E a = EB E + a := by
  have h1 := (List.getElem?_eq_some_iff.mp hg).1
  have h2 := hI.1
  unfold aR
  rw [if_pos (by omega)]
theorem cV_int {E : AEnv} {x : Int32} : cV E (.int x) = .int x := rfl
theorem cV_ref {E : AEnv} {a : Nat} : cV E (.ref a) = .ref (aR E a) := rfl
theorem cV_cat {E : AEnv} (v : Value) : (cV E v).category = v.category := by cases v <;> rfl
theorem cV_sum {E : AEnv} (vs : List Value) : ((vs.map (cV E)).map fun v => v.category).sum = (vs.map fun v => v.category).sum := by
  induction vs with
  | nil => rfl
  | cons v vs ih => simp only [List.map_cons, List.sum_cons, ih, cV_cat]
theorem EnvOK.next {E : AEnv} {s U : State} {locs : List Loc} (h : EnvOK E s) (hW : s.WarmedH U.vm) (hS : va_S (AA E) s.heap U.heap locs) : EnvOK E U := by
  obtain ⟨h1, h2, h3, h4, h5, h6, h7, h8, h9⟩ := h
  have hq : ∀ a : Nat, a < s.heap.size → ¬ AA E a → U.heap[a]? = s.heap[a]? := hS.2.1
  refine ⟨h1.moved hW.alike, fun w hw => ?_, h3.moved hW.alike, Nat.le_trans h4 hS.1, (h5.moved hW.alike).kept hq, (h6.moved hW.alike).kept hq, (h7.moved hW.alike).kept hq, (h8.moved hW.alike).kept hq, (h9.moved hW.alike).kept hq⟩
  have hn : isNestW w = true := (List.mem_filter.mp hw).2
  have hz := h2 w hw
  cases w <;> first | exact hz.warmM hW | exact hz.warmF hW | (simp [isNestW] at hn)
theorem EnvOK.calling {E : AEnv} {U : State} {g : JFrame} {mk : MethodId} {a : Array Value} (h : EnvOK E U) : EnvOK E (U.calling g mk a) := by
  obtain ⟨h1, h2, h3, h4, h5, h6, h7, h8, h9⟩ := h
  have hA : U.vm.Alike (U.calling g mk a).vm := Vm.Alike.refl U.vm
  refine ⟨h1.moved hA, fun w hw => ?_, h3.moved hA, h4, h5.moved hA, h6.moved hA, h7.moved hA, h8.moved hA, h9.moved hA⟩
  have hn : isNestW w = true := (List.mem_filter.mp hw).2
  have hz := h2 w hw
  cases w <;> first | exact va_Nw.same rfl (rfl : U.vm = (U.calling g mk a).vm) hz | (simp [isNestW] at hn)
/-! THE INSTRUCTIONS OF A METHOD, AND ITS CONTRACT -/
abbrev MI : Type := MethodName × ByteArray × Nat × Option FieldType
def wsM (Y : MI) : List Cond := Cond.code Y.1 Y.2.1 Y.2.2.1 Y.2.2.2 :: BW
def rmM (d k n : Nat) : Room := { frames := d, cells := k, slots := n, locals := 36 * d + 20 }
/-- a method's end: an answer and a heap of which Ψ holds -/
abbrev Pst : Type := Option Value → List va_E → Prop
def QR (E : AEnv) (Ψ : Pst) : Array Value → State → Outcome → State → Prop := fun _ st o t => ∃ (r : Option Value) (h' : List va_E), Ψ r h' ∧ o = .returned (r.map (cV E)) ∧ Inv E h' t.heap ∧ va_F (AA E) st t
/-- method Y, at depth d, called with args in the heap h, comes back with an answer and a heap of which Ψ holds; it makes at most k cells of n slots -/
def Calls (E : AEnv) (Y : MI) (d k n : Nat) (args : List Value) (h : List va_E) (Ψ : Pst) : Prop :=
  ∀ l : Launch, Met l Y.1 (wsM Y) (rmM d k n) (va_Pc (args.map (cV E)) (fun U => Inv E h U.heap ∧ EnvOK E U)) (QR E Ψ) k n (AA E)
def RetOK (Y : MI) (r : Option Value) : Prop := (r = none ∧ Y.2.2.2 = none) ∨ (∃ (x : Int32) (ty : FieldType), r = some (.int x) ∧ Y.2.2.2 = some ty ∧ narrow ty (.int x) = .int x) ∨ ∃ x : Int64, r = some (.long x) ∧ Y.2.2.2 = some .long
/-- the instruction that ends with it -/
def retI (r : Option Value) : Instr := match r with
  | none => .return_
  | some (.long _) => .lreturn
  | some _ => .ireturn
def Ctx (E : AEnv) (Y : MI) (d : Nat) (p : Program) (R : Room) (s : State) (m : MethodId) (args : Array Value) (meth : Method) (c : Code) : Prop :=
  p.tables.exec = Jvm.exec ∧ c.code = Y.2.1 ∧ c.maxLocals = Y.2.2.1 ∧ s.vm.findClass Y.1.cls = some m.cls ∧ (∀ w ∈ BW, w.before args s = true) ∧ EnvOK E s ∧ d ≤ R.frames ∧ 36 * d + 20 ≤ R.locals ∧ meth.name = Y.1.name
def LV (E : AEnv) (nL : Nat) (ls : List (Option Value)) (lsA : Array Slot) : Prop := lsA.size = nL ∧ lv_wf lsA ∧ ls.length ≤ nL ∧ ∀ (i : Nat) (v : Value), ls[i]? = some (some v) → v.category = 1 ∨ ls[i + 1]? = some none → lsA[i]? = some (.val (cV E v))
def RetH (E : AEnv) (Y : MI) (p : Program) (l : Launch) (e : Env) (R : Room) (s : State) (m : MethodId) (args : Array Value) (below : List Frame) (meth : Method) (c : Code) (Q : State → Prop) (Ψ : Pst) : Prop :=
  ∀ (r : Option Value) (h' : List va_E) (H : Heap) (locs : List Loc) (cells slots : Nat) (lsA : Array Slot) (pc : Nat), Ψ r h' → RetOK Y r → Inv E h' H → va_S (AA E) s.heap H locs → cells ≤ R.cells → slots ≤ R.slots → decode Y.2.1 pc = .ok (retI r, 1) →
    W p l e R s m args below meth c H locs cells slots Q (F0 m pc lsA (r.toList.map (cV E)))
/-- in method Y, at pc, with the locals ls, the stack st, the heap h: it comes to its end with an answer and a heap of which Ψ holds -/
def Go (E : AEnv) (Y : MI) (d k n pc : Nat) (ls : List (Option Value)) (st : List Value) (h : List va_E) (Ψ : Pst) : Prop :=
  ∀ (p : Program) (l : Launch) (e : Env) (R : Room) (s : State) (m : MethodId) (args : Array Value) (below : List Frame) (meth : Method) (c : Code) (Q : State → Prop),
    Ctx E Y d p R s m args meth c → RetH E Y p l e R s m args below meth c Q Ψ →
    ∀ (H : Heap) (locs : List Loc) (cells slots : Nat) (lsA : Array Slot), Inv E h H → va_S (AA E) s.heap H locs → cells + k ≤ R.cells → slots + n ≤ R.slots → LV E Y.2.2.1 ls lsA →
    W p l e R s m args below meth c H locs cells slots Q (F0 m pc lsA (st.map (cV E)))
def ilen (i : Instr) : Nat := match i with
  | .bipush _ => 2 | .sipush _ => 3 | .ldc _ => 2 | .ldc_w _ => 3 | .iload _ => 2 | .aload _ => 2 | .istore _ => 2 | .astore _ => 2 | .iinc _ _ => 3
  | .newarray _ => 2 | .anewarray _ => 3 | .new _ => 3 | .getfield _ => 3 | .putfield _ => 3 | .getstatic _ => 3 | .invokevirtual _ => 3 | .invokestatic _ => 3 | .invokespecial _ => 3
  | .ldc2_w _ => 3 | .lload _ => 2 | .lstore _ => 2 | .goto _ => 3 | .if_icmp _ _ => 3 | .ifCond _ _ => 3 | .ifnull _ => 3 | .ifnonnull _ => 3 | .tableswitch _ _ _ _ => 0 | .lookupswitch _ _ => 0
  | _ => 1
def Dc (Y : MI) (pc : Nat) (i : Instr) (pc' : Nat) : Prop := decode Y.2.1 pc = .ok (i, pc' - pc) ∧ (ilen i = 0 ∨ pc' = pc + ilen i)
theorem Dc.is {Y : MI} {pc pc' n : Nat} {i : Instr} (h : Dc Y pc i pc') (hn : ilen i = n + 1) : pc' = pc + (n + 1) ∧ decode Y.2.1 pc = .ok (i, n + 1) := by
  obtain ⟨h1, h2⟩ := h
  have h3 : pc' = pc + (n + 1) := by rcases h2 with h2 | h2 <;> omega
  refine ⟨h3, ?_⟩
  rw [h1, h3, Nat.add_sub_cancel_left]
def DAll (Y : MI) (L : List (Nat × Instr × Nat)) : Prop := ∀ q ∈ L, Dc Y q.1 q.2.1 q.2.2
def dchk (Y : MI) (L : List (Nat × Instr × Nat)) : Bool := L.all fun q => decide (decode Y.2.1 q.1 = .ok (q.2.1, q.2.2 - q.1)) && (ilen q.2.1 == 0 || q.2.2 == q.1 + ilen q.2.1)
theorem DAll.of {Y : MI} {L : List (Nat × Instr × Nat)} (h : dchk Y L = true) : DAll Y L := by
  intro q hq
  have h1 := List.all_eq_true.mp h q hq
  simp only [Bool.and_eq_true, Bool.or_eq_true, beq_iff_eq, decide_eq_true_eq] at h1
  exact ⟨h1.1, h1.2⟩
theorem DAll.at {Y : MI} {L : List (Nat × Instr × Nat)} (h : DAll Y L) (i : Nat) {pc pc' : Nat} {ins : Instr} (e : L[i]? = some (pc, ins, pc')) : Dc Y pc ins pc' := h (pc, ins, pc') (List.mem_of_getElem? e)
/-! words of the tables by their places -/
theorem BW_mem {w : Cond} (h : w ∈ lw_tbl) (hg : goodWord w = true) : w ∈ BW := List.mem_filter.mpr ⟨h, hg⟩
theorem BW_good : ∀ w ∈ BW, goodWord w = true := fun _ h => (List.mem_filter.mp h).2
theorem goodIn_BW {Y : MI} (hc : Cond.code Y.1 Y.2.1 Y.2.2.1 Y.2.2.2 ∈ BW) : GoodIn BW (wsM Y) := by
  intro w hw
  rcases List.mem_cons.mp hw with rfl | hw
  · exact ⟨hc, good_of_word (BW_good _ hc)⟩
  · exact ⟨hw, good_of_word (BW_good _ hw)⟩
theorem FB_ok {E : AEnv} {args : List Value} {h : List va_E} : FrameBlind (va_Pc (args.map (cV E)) (fun U => Inv E h U.heap ∧ EnvOK E U)) := by
  intro a U g mk hq
  obtain ⟨h1, h2, h3⟩ := hq
  exact ⟨h1, h2, h3.calling⟩
end
section
/-! THE RULES OF Go: an instruction each. A rule takes the instruction (Dc), what it needs, and the goal behind it. -/
section GR
variable {E : AEnv} {Y : MI} {d k n pc pc' : Nat} {ls : List (Option Value)} {st : List Value} {h : List va_E} {Ψ : Pst}
theorem go_iconst {i : Int} {v : Int32} (hd : Dc Y pc (.iconst i) pc') (hv : Int32.ofInt i = v) (K : Go E Y d k n pc' ls (.int v :: st) h Ψ) : Go E Y d k n pc ls st h Ψ := by
  intro p l e R s m args below meth c Q C ret H locs cells slots lsA hI hS hc hs hL
  obtain ⟨rfl, dd⟩ := hd.is (n := 0) rfl
  exact lv_iconst C.1 C.2.1 dd hv (K p l e R s m args below meth c Q C ret H locs cells slots lsA hI hS hc hs hL)
theorem go_bipush {i : Int} {v : Int32} (hd : Dc Y pc (.bipush i) pc') (hv : (Int8.ofInt i).toInt32 = v) (K : Go E Y d k n pc' ls (.int v :: st) h Ψ) : Go E Y d k n pc ls st h Ψ := by
  intro p l e R s m args below meth c Q C ret H locs cells slots lsA hI hS hc hs hL
  obtain ⟨rfl, dd⟩ := hd.is (n := 1) rfl
  exact lv_bipush C.1 C.2.1 dd hv (K p l e R s m args below meth c Q C ret H locs cells slots lsA hI hS hc hs hL)
theorem go_sipush {i : Int} {v : Int32} (hd : Dc Y pc (.sipush i) pc') (hv : (Int16.ofInt i).toInt32 = v) (K : Go E Y d k n pc' ls (.int v :: st) h Ψ) : Go E Y d k n pc ls st h Ψ := by
  intro p l e R s m args below meth c Q C ret H locs cells slots lsA hI hS hc hs hL
  obtain ⟨rfl, dd⟩ := hd.is (n := 2) rfl
  exact lv_sipush C.1 C.2.1 dd hv (K p l e R s m args below meth c Q C ret H locs cells slots lsA hI hS hc hs hL)
theorem go_ldc {i : Nat} {v : Int32} (hd : Dc Y pc (.ldc i) pc') (hv : Jvm.Cond.constant Y.1.cls i v ∈ BW) (K : Go E Y d k n pc' ls (.int v :: st) h Ψ) : Go E Y d k n pc ls st h Ψ := by
  intro p l e R s m args below meth c Q C ret H locs cells slots lsA hI hS hc hs hL
  obtain ⟨rfl, dd⟩ := hd.is (n := 1) rfl
  exact lv_ldc C.1 C.2.1 C.2.2.2.1 (C.2.2.2.2.1 _ hv) dd (K p l e R s m args below meth c Q C ret H locs cells slots lsA hI hS hc hs hL)
theorem go_ldcw {i : Nat} {v : Int32} (hd : Dc Y pc (.ldc_w i) pc') (hv : Jvm.Cond.constant Y.1.cls i v ∈ BW) (K : Go E Y d k n pc' ls (.int v :: st) h Ψ) : Go E Y d k n pc ls st h Ψ := by
  intro p l e R s m args below meth c Q C ret H locs cells slots lsA hI hS hc hs hL
  obtain ⟨rfl, dd⟩ := hd.is (n := 2) rfl
  exact lv_ldcw C.1 C.2.1 C.2.2.2.1 (C.2.2.2.2.1 _ hv) dd (K p l e R s m args below meth c Q C ret H locs cells slots lsA hI hS hc hs hL)
theorem go_iadd {x y : Int32} (hd : Dc Y pc (.iadd) pc') (K : Go E Y d k n pc' ls (.int (x + y) :: st) h Ψ) : Go E Y d k n pc ls (.int y :: .int x :: st) h Ψ := by
  intro p l e R s m args below meth c Q C ret H locs cells slots lsA hI hS hc hs hL
  obtain ⟨rfl, dd⟩ := hd.is (n := 0) rfl
  exact lv_iadd C.1 C.2.1 dd (K p l e R s m args below meth c Q C ret H locs cells slots lsA hI hS hc hs hL)
theorem go_isub {x y : Int32} (hd : Dc Y pc (.isub) pc') (K : Go E Y d k n pc' ls (.int (x - y) :: st) h Ψ) : Go E Y d k n pc ls (.int y :: .int x :: st) h Ψ := by
  intro p l e R s m args below meth c Q C ret H locs cells slots lsA hI hS hc hs hL
  obtain ⟨rfl, dd⟩ := hd.is (n := 0) rfl
  exact lv_isub C.1 C.2.1 dd (K p l e R s m args below meth c Q C ret H locs cells slots lsA hI hS hc hs hL)
theorem go_imul {x y : Int32} (hd : Dc Y pc (.imul) pc') (K : Go E Y d k n pc' ls (.int (x * y) :: st) h Ψ) : Go E Y d k n pc ls (.int y :: .int x :: st) h Ψ := by
  intro p l e R s m args below meth c Q C ret H locs cells slots lsA hI hS hc hs hL
  obtain ⟨rfl, dd⟩ := hd.is (n := 0) rfl
  exact lv_imul C.1 C.2.1 dd (K p l e R s m args below meth c Q C ret H locs cells slots lsA hI hS hc hs hL)
theorem go_iand {x y : Int32} (hd : Dc Y pc (.iand) pc') (K : Go E Y d k n pc' ls (.int (x &&& y) :: st) h Ψ) : Go E Y d k n pc ls (.int y :: .int x :: st) h Ψ := by
  intro p l e R s m args below meth c Q C ret H locs cells slots lsA hI hS hc hs hL
  obtain ⟨rfl, dd⟩ := hd.is (n := 0) rfl
  exact lv_iand C.1 C.2.1 dd (K p l e R s m args below meth c Q C ret H locs cells slots lsA hI hS hc hs hL)
theorem go_ior {x y : Int32} (hd : Dc Y pc (.ior) pc') (K : Go E Y d k n pc' ls (.int (x ||| y) :: st) h Ψ) : Go E Y d k n pc ls (.int y :: .int x :: st) h Ψ := by
  intro p l e R s m args below meth c Q C ret H locs cells slots lsA hI hS hc hs hL
  obtain ⟨rfl, dd⟩ := hd.is (n := 0) rfl
  exact lv_ior C.1 C.2.1 dd (K p l e R s m args below meth c Q C ret H locs cells slots lsA hI hS hc hs hL)
theorem go_ixor {x y : Int32} (hd : Dc Y pc (.ixor) pc') (K : Go E Y d k n pc' ls (.int (x ^^^ y) :: st) h Ψ) : Go E Y d k n pc ls (.int y :: .int x :: st) h Ψ := by
  intro p l e R s m args below meth c Q C ret H locs cells slots lsA hI hS hc hs hL
  obtain ⟨rfl, dd⟩ := hd.is (n := 0) rfl
  exact lv_ixor C.1 C.2.1 dd (K p l e R s m args below meth c Q C ret H locs cells slots lsA hI hS hc hs hL)
theorem go_ishl {x y : Int32} (hd : Dc Y pc (.ishl) pc') (K : Go E Y d k n pc' ls (.int (x <<< (y &&& 31)) :: st) h Ψ) : Go E Y d k n pc ls (.int y :: .int x :: st) h Ψ := by
  intro p l e R s m args below meth c Q C ret H locs cells slots lsA hI hS hc hs hL
  obtain ⟨rfl, dd⟩ := hd.is (n := 0) rfl
  exact lv_ishl C.1 C.2.1 dd (K p l e R s m args below meth c Q C ret H locs cells slots lsA hI hS hc hs hL)
theorem go_ishr {x y : Int32} (hd : Dc Y pc (.ishr) pc') (K : Go E Y d k n pc' ls (.int (x >>> (y &&& 31)) :: st) h Ψ) : Go E Y d k n pc ls (.int y :: .int x :: st) h Ψ := by
  intro p l e R s m args below meth c Q C ret H locs cells slots lsA hI hS hc hs hL
  obtain ⟨rfl, dd⟩ := hd.is (n := 0) rfl
  exact lv_ishr C.1 C.2.1 dd (K p l e R s m args below meth c Q C ret H locs cells slots lsA hI hS hc hs hL)
theorem go_idiv {x y : Int32} (hd : Dc Y pc (.idiv) pc') (hy : ¬ y = 0) (K : Go E Y d k n pc' ls (.int (x / y) :: st) h Ψ) : Go E Y d k n pc ls (.int y :: .int x :: st) h Ψ := by
  intro p l e R s m args below meth c Q C ret H locs cells slots lsA hI hS hc hs hL
  obtain ⟨rfl, dd⟩ := hd.is (n := 0) rfl
  exact lv_idiv C.1 C.2.1 dd hy (K p l e R s m args below meth c Q C ret H locs cells slots lsA hI hS hc hs hL)
theorem go_irem {x y : Int32} (hd : Dc Y pc (.irem) pc') (hy : ¬ y = 0) (K : Go E Y d k n pc' ls (.int (x - x / y * y) :: st) h Ψ) : Go E Y d k n pc ls (.int y :: .int x :: st) h Ψ := by
  intro p l e R s m args below meth c Q C ret H locs cells slots lsA hI hS hc hs hL
  obtain ⟨rfl, dd⟩ := hd.is (n := 0) rfl
  exact lv_irem C.1 C.2.1 dd hy (K p l e R s m args below meth c Q C ret H locs cells slots lsA hI hS hc hs hL)
theorem go_ineg {x : Int32} (hd : Dc Y pc (.ineg) pc') (K : Go E Y d k n pc' ls (.int (-x) :: st) h Ψ) : Go E Y d k n pc ls (.int x :: st) h Ψ := by
  intro p l e R s m args below meth c Q C ret H locs cells slots lsA hI hS hc hs hL
  obtain ⟨rfl, dd⟩ := hd.is (n := 0) rfl
  exact lv_ineg C.1 C.2.1 dd (K p l e R s m args below meth c Q C ret H locs cells slots lsA hI hS hc hs hL)
theorem go_i2c {x : Int32} (hd : Dc Y pc (.i2c) pc') (K : Go E Y d k n pc' ls (.int (x.toUInt32 % 65536).toInt32 :: st) h Ψ) : Go E Y d k n pc ls (.int x :: st) h Ψ := by
  intro p l e R s m args below meth c Q C ret H locs cells slots lsA hI hS hc hs hL
  obtain ⟨rfl, dd⟩ := hd.is (n := 0) rfl
  exact lv_i2c C.1 C.2.1 dd rfl (K p l e R s m args below meth c Q C ret H locs cells slots lsA hI hS hc hs hL)
theorem go_iushr {x y : Int32} (hd : Dc Y pc (.iushr) pc') (K : Go E Y d k n pc' ls (.int (x.toUInt32 >>> (y.toUInt32 &&& Int32.toUInt32 31)).toInt32 :: st) h Ψ) : Go E Y d k n pc ls (.int y :: .int x :: st) h Ψ := by
  intro p l e R s m args below meth c Q C ret H locs cells slots lsA hI hS hc hs hL
  obtain ⟨rfl, dd⟩ := hd.is (n := 0) rfl
  exact lv_iushr C.1 C.2.1 dd rfl (K p l e R s m args below meth c Q C ret H locs cells slots lsA hI hS hc hs hL)
theorem go_dup {v : Value} (hd : Dc Y pc (.dup) pc') (hv : v.category = 1) (K : Go E Y d k n pc' ls (v :: v :: st) h Ψ) : Go E Y d k n pc ls (v :: st) h Ψ := by
  intro p l e R s m args below meth c Q C ret H locs cells slots lsA hI hS hc hs hL
  obtain ⟨rfl, dd⟩ := hd.is (n := 0) rfl
  exact lv_dup C.1 C.2.1 dd ((cV_cat v).trans hv) (K p l e R s m args below meth c Q C ret H locs cells slots lsA hI hS hc hs hL)
theorem go_pop {v : Value} (hd : Dc Y pc (.pop) pc') (hv : v.category = 1) (K : Go E Y d k n pc' ls st h Ψ) : Go E Y d k n pc ls (v :: st) h Ψ := by
  intro p l e R s m args below meth c Q C ret H locs cells slots lsA hI hS hc hs hL
  obtain ⟨rfl, dd⟩ := hd.is (n := 0) rfl
  exact lv_pop C.1 C.2.1 dd ((cV_cat v).trans hv) (K p l e R s m args below meth c Q C ret H locs cells slots lsA hI hS hc hs hL)
theorem go_dup2 {v w : Value} (hd : Dc Y pc (.dup2) pc') (hv : v.category = 1) (hw : w.category = 1) (K : Go E Y d k n pc' ls (v :: w :: v :: w :: st) h Ψ) : Go E Y d k n pc ls (v :: w :: st) h Ψ := by
  intro p l e R s m args below meth c Q C ret H locs cells slots lsA hI hS hc hs hL
  obtain ⟨rfl, dd⟩ := hd.is (n := 0) rfl
  exact lv_dup2_11 C.1 C.2.1 dd ((cV_cat v).trans hv) ((cV_cat w).trans hw) (K p l e R s m args below meth c Q C ret H locs cells slots lsA hI hS hc hs hL)
theorem go_if_eq {x : Int32} {off : Int} (tgt : Nat) (hd : Dc Y pc (.ifCond .eq off) pc') (ht : (pc : Int) + off = (tgt : Int)) (K1 : x = 0 → Go E Y d k n tgt ls st h Ψ) (K2 : ¬ x = 0 → Go E Y d k n pc' ls st h Ψ) : Go E Y d k n pc ls (.int x :: st) h Ψ := by
  intro p l e R s m args below meth c Q C ret H locs cells slots lsA hI hS hc hs hL
  obtain ⟨rfl, dd⟩ := hd.is (n := 2) rfl
  exact lv_if_eq C.1 C.2.1 dd ht (fun q => K1 q p l e R s m args below meth c Q C ret H locs cells slots lsA hI hS hc hs hL) (fun q => K2 q p l e R s m args below meth c Q C ret H locs cells slots lsA hI hS hc hs hL)
theorem go_if_ne {x : Int32} {off : Int} (tgt : Nat) (hd : Dc Y pc (.ifCond .ne off) pc') (ht : (pc : Int) + off = (tgt : Int)) (K1 : ¬ x = 0 → Go E Y d k n tgt ls st h Ψ) (K2 : x = 0 → Go E Y d k n pc' ls st h Ψ) : Go E Y d k n pc ls (.int x :: st) h Ψ := by
  intro p l e R s m args below meth c Q C ret H locs cells slots lsA hI hS hc hs hL
  obtain ⟨rfl, dd⟩ := hd.is (n := 2) rfl
  exact lv_if_ne C.1 C.2.1 dd ht (fun q => K1 q p l e R s m args below meth c Q C ret H locs cells slots lsA hI hS hc hs hL) (fun q => K2 q p l e R s m args below meth c Q C ret H locs cells slots lsA hI hS hc hs hL)
theorem go_if_lt {x : Int32} {off : Int} (tgt : Nat) (hd : Dc Y pc (.ifCond .lt off) pc') (ht : (pc : Int) + off = (tgt : Int)) (K1 : x < 0 → Go E Y d k n tgt ls st h Ψ) (K2 : ¬ x < 0 → Go E Y d k n pc' ls st h Ψ) : Go E Y d k n pc ls (.int x :: st) h Ψ := by
  intro p l e R s m args below meth c Q C ret H locs cells slots lsA hI hS hc hs hL
  obtain ⟨rfl, dd⟩ := hd.is (n := 2) rfl
  exact lv_if_lt C.1 C.2.1 dd ht (fun q => K1 q p l e R s m args below meth c Q C ret H locs cells slots lsA hI hS hc hs hL) (fun q => K2 q p l e R s m args below meth c Q C ret H locs cells slots lsA hI hS hc hs hL)
theorem go_if_ge {x : Int32} {off : Int} (tgt : Nat) (hd : Dc Y pc (.ifCond .ge off) pc') (ht : (pc : Int) + off = (tgt : Int)) (K1 : 0 ≤ x → Go E Y d k n tgt ls st h Ψ) (K2 : ¬ 0 ≤ x → Go E Y d k n pc' ls st h Ψ) : Go E Y d k n pc ls (.int x :: st) h Ψ := by
  intro p l e R s m args below meth c Q C ret H locs cells slots lsA hI hS hc hs hL
  obtain ⟨rfl, dd⟩ := hd.is (n := 2) rfl
  exact lv_if_ge C.1 C.2.1 dd ht (fun q => K1 q p l e R s m args below meth c Q C ret H locs cells slots lsA hI hS hc hs hL) (fun q => K2 q p l e R s m args below meth c Q C ret H locs cells slots lsA hI hS hc hs hL)
theorem go_if_gt {x : Int32} {off : Int} (tgt : Nat) (hd : Dc Y pc (.ifCond .gt off) pc') (ht : (pc : Int) + off = (tgt : Int)) (K1 : 0 < x → Go E Y d k n tgt ls st h Ψ) (K2 : ¬ 0 < x → Go E Y d k n pc' ls st h Ψ) : Go E Y d k n pc ls (.int x :: st) h Ψ := by
  intro p l e R s m args below meth c Q C ret H locs cells slots lsA hI hS hc hs hL
  obtain ⟨rfl, dd⟩ := hd.is (n := 2) rfl
  exact lv_if_gt C.1 C.2.1 dd ht (fun q => K1 q p l e R s m args below meth c Q C ret H locs cells slots lsA hI hS hc hs hL) (fun q => K2 q p l e R s m args below meth c Q C ret H locs cells slots lsA hI hS hc hs hL)
theorem go_if_le {x : Int32} {off : Int} (tgt : Nat) (hd : Dc Y pc (.ifCond .le off) pc') (ht : (pc : Int) + off = (tgt : Int)) (K1 : x ≤ 0 → Go E Y d k n tgt ls st h Ψ) (K2 : ¬ x ≤ 0 → Go E Y d k n pc' ls st h Ψ) : Go E Y d k n pc ls (.int x :: st) h Ψ := by
  intro p l e R s m args below meth c Q C ret H locs cells slots lsA hI hS hc hs hL
  obtain ⟨rfl, dd⟩ := hd.is (n := 2) rfl
  exact lv_if_le C.1 C.2.1 dd ht (fun q => K1 q p l e R s m args below meth c Q C ret H locs cells slots lsA hI hS hc hs hL) (fun q => K2 q p l e R s m args below meth c Q C ret H locs cells slots lsA hI hS hc hs hL)
theorem go_icmp_eq {x y : Int32} {off : Int} (tgt : Nat) (hd : Dc Y pc (.if_icmp .eq off) pc') (ht : (pc : Int) + off = (tgt : Int)) (K1 : x = y → Go E Y d k n tgt ls st h Ψ) (K2 : ¬ x = y → Go E Y d k n pc' ls st h Ψ) : Go E Y d k n pc ls (.int y :: .int x :: st) h Ψ := by
  intro p l e R s m args below meth c Q C ret H locs cells slots lsA hI hS hc hs hL
  obtain ⟨rfl, dd⟩ := hd.is (n := 2) rfl
  exact lv_icmp_eq C.1 C.2.1 dd ht (fun q => K1 q p l e R s m args below meth c Q C ret H locs cells slots lsA hI hS hc hs hL) (fun q => K2 q p l e R s m args below meth c Q C ret H locs cells slots lsA hI hS hc hs hL)
theorem go_icmp_ne {x y : Int32} {off : Int} (tgt : Nat) (hd : Dc Y pc (.if_icmp .ne off) pc') (ht : (pc : Int) + off = (tgt : Int)) (K1 : ¬ x = y → Go E Y d k n tgt ls st h Ψ) (K2 : x = y → Go E Y d k n pc' ls st h Ψ) : Go E Y d k n pc ls (.int y :: .int x :: st) h Ψ := by
  intro p l e R s m args below meth c Q C ret H locs cells slots lsA hI hS hc hs hL
  obtain ⟨rfl, dd⟩ := hd.is (n := 2) rfl
  exact lv_icmp_ne C.1 C.2.1 dd ht (fun q => K1 q p l e R s m args below meth c Q C ret H locs cells slots lsA hI hS hc hs hL) (fun q => K2 q p l e R s m args below meth c Q C ret H locs cells slots lsA hI hS hc hs hL)
theorem go_icmp_lt {x y : Int32} {off : Int} (tgt : Nat) (hd : Dc Y pc (.if_icmp .lt off) pc') (ht : (pc : Int) + off = (tgt : Int)) (K1 : x < y → Go E Y d k n tgt ls st h Ψ) (K2 : ¬ x < y → Go E Y d k n pc' ls st h Ψ) : Go E Y d k n pc ls (.int y :: .int x :: st) h Ψ := by
  intro p l e R s m args below meth c Q C ret H locs cells slots lsA hI hS hc hs hL
  obtain ⟨rfl, dd⟩ := hd.is (n := 2) rfl
  exact lv_icmp_lt C.1 C.2.1 dd ht (fun q => K1 q p l e R s m args below meth c Q C ret H locs cells slots lsA hI hS hc hs hL) (fun q => K2 q p l e R s m args below meth c Q C ret H locs cells slots lsA hI hS hc hs hL)
theorem go_icmp_ge {x y : Int32} {off : Int} (tgt : Nat) (hd : Dc Y pc (.if_icmp .ge off) pc') (ht : (pc : Int) + off = (tgt : Int)) (K1 : y ≤ x → Go E Y d k n tgt ls st h Ψ) (K2 : ¬ y ≤ x → Go E Y d k n pc' ls st h Ψ) : Go E Y d k n pc ls (.int y :: .int x :: st) h Ψ := by
  intro p l e R s m args below meth c Q C ret H locs cells slots lsA hI hS hc hs hL
  obtain ⟨rfl, dd⟩ := hd.is (n := 2) rfl
  exact lv_icmp_ge C.1 C.2.1 dd ht (fun q => K1 q p l e R s m args below meth c Q C ret H locs cells slots lsA hI hS hc hs hL) (fun q => K2 q p l e R s m args below meth c Q C ret H locs cells slots lsA hI hS hc hs hL)
theorem go_icmp_gt {x y : Int32} {off : Int} (tgt : Nat) (hd : Dc Y pc (.if_icmp .gt off) pc') (ht : (pc : Int) + off = (tgt : Int)) (K1 : y < x → Go E Y d k n tgt ls st h Ψ) (K2 : ¬ y < x → Go E Y d k n pc' ls st h Ψ) : Go E Y d k n pc ls (.int y :: .int x :: st) h Ψ := by
  intro p l e R s m args below meth c Q C ret H locs cells slots lsA hI hS hc hs hL
  obtain ⟨rfl, dd⟩ := hd.is (n := 2) rfl
  exact lv_icmp_gt C.1 C.2.1 dd ht (fun q => K1 q p l e R s m args below meth c Q C ret H locs cells slots lsA hI hS hc hs hL) (fun q => K2 q p l e R s m args below meth c Q C ret H locs cells slots lsA hI hS hc hs hL)
theorem go_icmp_le {x y : Int32} {off : Int} (tgt : Nat) (hd : Dc Y pc (.if_icmp .le off) pc') (ht : (pc : Int) + off = (tgt : Int)) (K1 : x ≤ y → Go E Y d k n tgt ls st h Ψ) (K2 : ¬ x ≤ y → Go E Y d k n pc' ls st h Ψ) : Go E Y d k n pc ls (.int y :: .int x :: st) h Ψ := by
  intro p l e R s m args below meth c Q C ret H locs cells slots lsA hI hS hc hs hL
  obtain ⟨rfl, dd⟩ := hd.is (n := 2) rfl
  exact lv_icmp_le C.1 C.2.1 dd ht (fun q => K1 q p l e R s m args below meth c Q C ret H locs cells slots lsA hI hS hc hs hL) (fun q => K2 q p l e R s m args below meth c Q C ret H locs cells slots lsA hI hS hc hs hL)
theorem go_goto {off : Int} (tgt : Nat) (hd : Dc Y pc (.goto off) pc') (ht : (pc : Int) + off = (tgt : Int)) (K : Go E Y d k n tgt ls st h Ψ) : Go E Y d k n pc ls st h Ψ := by
  intro p l e R s m args below meth c Q C ret H locs cells slots lsA hI hS hc hs hL
  obtain ⟨rfl, dd⟩ := hd.is (n := 2) rfl
  exact lv_goto C.1 C.2.1 dd ht (K p l e R s m args below meth c Q C ret H locs cells slots lsA hI hS hc hs hL)
theorem go_ifnull {off : Int} {a : Nat} (hd : Dc Y pc (.ifnull off) pc') (K : Go E Y d k n pc' ls st h Ψ) : Go E Y d k n pc ls (.ref a :: st) h Ψ := by
  intro p l e R s m args below meth c Q C ret H locs cells slots lsA hI hS hc hs hL
  obtain ⟨rfl, dd⟩ := hd.is (n := 2) rfl
  exact lv_ifnull C.1 C.2.1 dd (K p l e R s m args below meth c Q C ret H locs cells slots lsA hI hS hc hs hL)
theorem go_ifnonnull {off : Int} {a : Nat} (tgt : Nat) (hd : Dc Y pc (.ifnonnull off) pc') (ht : (pc : Int) + off = (tgt : Int)) (K : Go E Y d k n tgt ls st h Ψ) : Go E Y d k n pc ls (.ref a :: st) h Ψ := by
  intro p l e R s m args below meth c Q C ret H locs cells slots lsA hI hS hc hs hL
  obtain ⟨rfl, dd⟩ := hd.is (n := 2) rfl
  exact lv_ifnonnull C.1 C.2.1 dd ht (K p l e R s m args below meth c Q C ret H locs cells slots lsA hI hS hc hs hL)
theorem go_tableOut {dflt lo hi : Int} {offs : Array Int} {x : Int32} (tgt : Nat) (hd : Dc Y pc (.tableswitch dflt lo hi offs) pc') (h1 : x.toInt < lo ∨ hi < x.toInt) (ht : (pc : Int) + dflt = (tgt : Int)) (K : Go E Y d k n tgt ls st h Ψ) : Go E Y d k n pc ls (.int x :: st) h Ψ := by
  intro p l e R s m args below meth c Q C ret H locs cells slots lsA hI hS hc hs hL
  exact lv_tableOut C.1 C.2.1 hd.1 h1 ht (K p l e R s m args below meth c Q C ret H locs cells slots lsA hI hS hc hs hL)
theorem go_tableIn {dflt lo hi : Int} {offs : Array Int} {x : Int32} {off : Int} (tgt : Nat) (hd : Dc Y pc (.tableswitch dflt lo hi offs) pc') (h1 : ¬ x.toInt < lo) (h2 : ¬ hi < x.toInt) (ho : offs[(x.toInt - lo).toNat]? = some off) (ht : (pc : Int) + off = (tgt : Int)) (K : Go E Y d k n tgt ls st h Ψ) : Go E Y d k n pc ls (.int x :: st) h Ψ := by
  intro p l e R s m args below meth c Q C ret H locs cells slots lsA hI hS hc hs hL
  exact lv_tableIn C.1 C.2.1 hd.1 h1 h2 ho ht (K p l e R s m args below meth c Q C ret H locs cells slots lsA hI hS hc hs hL)
theorem go_lookup {dflt : Int} {ps : Array (Int × Int)} {x : Int32} {off : Int} (tgt : Nat) (hd : Dc Y pc (.lookupswitch dflt ps) pc') (hp : (ps.toList.zip (ps.toList.drop 1)).all (fun (a, next) => a.1 < next.1) = true) (ho : Op.lookupswitch.offset ps.toList dflt x.toInt = off) (ht : (pc : Int) + off = (tgt : Int)) (K : Go E Y d k n tgt ls st h Ψ) : Go E Y d k n pc ls (.int x :: st) h Ψ := by
  intro p l e R s m args below meth c Q C ret H locs cells slots lsA hI hS hc hs hL
  exact lv_lookup C.1 C.2.1 hd.1 hp ho ht (K p l e R s m args below meth c Q C ret H locs cells slots lsA hI hS hc hs hL)
theorem LV.get {nL i : Nat} {lsA : Array Slot} {v : Value} (hL : LV E nL ls lsA) (hv : v.category = 1) (hi : ls[i]? = some (some v)) : lsA[i]? = some (.val (cV E v)) := hL.2.2.2 i v hi (Or.inl hv)
theorem LV.has {nL : Nat} {lsA : Array Slot} (hL : LV E nL ls lsA) : lv_has lsA nL ((List.range ls.length).filterMap (fun i => match ls[i]? with | some (some v) => if v.category = 1 ∨ ls[i + 1]? = some none then some (i, cV E v) else none | _ => none)) := by
  obtain ⟨h1, h2, h3, h4⟩ := hL
  refine ⟨h1, h2, fun q hq => ?_⟩
  obtain ⟨i, -, hi⟩ := List.mem_filterMap.mp hq
  split at hi
  · rename_i v hv
    split at hi
    · rename_i hc
      cases hi
      exact h4 i v hv hc
    · cases hi
  · cases hi
theorem LV.put {nL i : Nat} {lsA lsB : Array Slot} {v : Value} (hL : LV E nL ls lsA) (hv : v.category = 1)
    (hB : lv_has lsB nL ((i, cV E v) :: ((List.range ls.length).filterMap (fun i => match ls[i]? with | some (some v) => if v.category = 1 ∨ ls[i + 1]? = some none then some (i, cV E v) else none | _ => none)).filter (fun q => !(q.1 == i) && !(q.1 + 1 == i && q.2.category == 2)))) : LV E nL (ls.set i (some v)) lsB := by
  obtain ⟨h1, h2, h3, h4⟩ := hL
  obtain ⟨b1, b2, b3⟩ := hB
  refine ⟨b1, b2, by rw [List.length_set]; exact h3, fun j w hj hc => ?_⟩
  rw [List.getElem?_set] at hj
  by_cases hij : i = j
  · subst hij
    rw [if_pos rfl] at hj
    split at hj
    · cases hj
      exact b3 (i, cV E v) List.mem_cons_self
    · cases hj
  · rw [if_neg hij] at hj
    have hjl := (List.getElem?_eq_some_iff.mp hj).1
    have hc2 : w.category = 1 ∨ (i ≠ j + 1 ∧ ls[j + 1]? = some none) := by
      rcases hc with hc | hc
      · exact Or.inl hc
      · rw [List.getElem?_set] at hc
        by_cases hij2 : i = j + 1
        · rw [if_pos hij2] at hc
          split at hc <;> cases hc
        · rw [if_neg hij2] at hc
          exact Or.inr ⟨hij2, hc⟩
    have hm : (j, cV E w) ∈ (List.range ls.length).filterMap (fun i => match ls[i]? with | some (some v) => if v.category = 1 ∨ ls[i + 1]? = some none then some (i, cV E v) else none | _ => none) := by
      refine List.mem_filterMap.mpr ⟨j, List.mem_range.mpr hjl, ?_⟩
      rw [hj]
      exact if_pos (hc2.imp id (fun q => q.2))
    refine b3 (j, cV E w) (List.mem_cons_of_mem _ (List.mem_filter.mpr ⟨hm, ?_⟩))
    have e1 : (j == i) = false := by simp; exact fun h => hij h.symm
    rcases hc2 with hc2 | hc2
    · have e2 : ((cV E w).category == 2) = false := by rw [cV_cat, hc2]; rfl
      simp [e1, e2]
    · have e2 : (j + 1 == i) = false := by simp; exact fun h => hc2.1 h.symm
      simp [e1, e2]
theorem LV.put2 {nL i : Nat} {lsA lsB : Array Slot} {x : Int64} (hL : LV E nL ls lsA)
    (hB : lv_has lsB nL ((i, Value.long x) :: ((List.range ls.length).filterMap (fun i => match ls[i]? with | some (some v) => if v.category = 1 ∨ ls[i + 1]? = some none then some (i, cV E v) else none | _ => none)).filter (fun q => !(q.1 == i) && (!(q.1 == i + 1) && !(q.1 + 1 == i && q.2.category == 2))))) : LV E nL ((ls.set i (some (.long x))).set (i + 1) none) lsB := by
  obtain ⟨h1, h2, h3, h4⟩ := hL
  obtain ⟨b1, b2, b3⟩ := hB
  refine ⟨b1, b2, by rw [List.length_set, List.length_set]; exact h3, fun j w hj hc => ?_⟩
  rw [List.getElem?_set] at hj
  by_cases hi1 : i + 1 = j
  · rw [if_pos hi1] at hj
    split at hj <;> cases hj
  rw [if_neg hi1, List.getElem?_set] at hj
  by_cases hij : i = j
  · subst hij
    rw [if_pos rfl] at hj
    split at hj
    · cases hj
      exact b3 (i, Value.long x) List.mem_cons_self
    · cases hj
  · rw [if_neg hij] at hj
    have hjl := (List.getElem?_eq_some_iff.mp hj).1
    have hc2 : w.category = 1 ∨ (i ≠ j + 1 ∧ ls[j + 1]? = some none) := by
      rcases hc with hc | hc
      · exact Or.inl hc
      · rw [List.getElem?_set, if_neg (by omega), List.getElem?_set] at hc
        by_cases hij2 : i = j + 1
        · rw [if_pos hij2] at hc
          split at hc <;> cases hc
        · rw [if_neg hij2] at hc
          exact Or.inr ⟨hij2, hc⟩
    have hm : (j, cV E w) ∈ (List.range ls.length).filterMap (fun i => match ls[i]? with | some (some v) => if v.category = 1 ∨ ls[i + 1]? = some none then some (i, cV E v) else none | _ => none) := by
      refine List.mem_filterMap.mpr ⟨j, List.mem_range.mpr hjl, ?_⟩
      rw [hj]
      exact if_pos (hc2.imp id (fun q => q.2))
    refine b3 (j, cV E w) (List.mem_cons_of_mem _ (List.mem_filter.mpr ⟨hm, ?_⟩))
    have e1 : (j == i) = false := by simp; exact fun h => hij h.symm
    have e3 : (j == i + 1) = false := by simp; exact fun h => hi1 h.symm
    rcases hc2 with hc2 | hc2
    · have e2 : ((cV E w).category == 2) = false := by rw [cV_cat, hc2]; rfl
      simp [e1, e2, e3]
    · have e2 : (j + 1 == i) = false := by simp; exact fun h => hc2.1 h.symm
      simp [e1, e2, e3]
theorem go_iloadn {i : Fin 4} {x : Int32} (hd : Dc Y pc (.iload_n i) pc') (hi : ls[(i : Nat)]? = some (some (.int x))) (K : Go E Y d k n pc' ls (.int x :: st) h Ψ) : Go E Y d k n pc ls st h Ψ := by
  intro p l e R s m args below meth c Q C ret H locs cells slots lsA hI hS hc hs hL
  obtain ⟨rfl, dd⟩ := hd.is (n := 0) rfl
  exact lv_iload_n C.1 C.2.1 dd rfl (hL.get rfl hi) (K p l e R s m args below meth c Q C ret H locs cells slots lsA hI hS hc hs hL)
theorem go_iload {i : Nat} {x : Int32} (hd : Dc Y pc (.iload i) pc') (hi : ls[i]? = some (some (.int x))) (K : Go E Y d k n pc' ls (.int x :: st) h Ψ) : Go E Y d k n pc ls st h Ψ := by
  intro p l e R s m args below meth c Q C ret H locs cells slots lsA hI hS hc hs hL
  obtain ⟨rfl, dd⟩ := hd.is (n := 1) rfl
  exact lv_iload C.1 C.2.1 dd (hL.get rfl hi) (K p l e R s m args below meth c Q C ret H locs cells slots lsA hI hS hc hs hL)
theorem go_istoren {i : Fin 4} {x : Int32} (hd : Dc Y pc (.istore_n i) pc') (hi : (i : Nat) < ls.length) (K : Go E Y d k n pc' (ls.set i (some (.int x))) st h Ψ) : Go E Y d k n pc ls (.int x :: st) h Ψ := by
  intro p l e R s m args below meth c Q C ret H locs cells slots lsA hI hS hc hs hL
  obtain ⟨rfl, dd⟩ := hd.is (n := 0) rfl
  exact lv_istore_n C.1 C.2.1 dd rfl hL.has (Nat.lt_of_lt_of_le hi hL.2.2.1) rfl (fun lsB hB => K p l e R s m args below meth c Q C ret H locs cells slots lsB hI hS hc hs (hL.put (v := .int x) rfl hB))
theorem go_istore {i : Nat} {x : Int32} (hd : Dc Y pc (.istore i) pc') (hi : i < ls.length) (K : Go E Y d k n pc' (ls.set i (some (.int x))) st h Ψ) : Go E Y d k n pc ls (.int x :: st) h Ψ := by
  intro p l e R s m args below meth c Q C ret H locs cells slots lsA hI hS hc hs hL
  obtain ⟨rfl, dd⟩ := hd.is (n := 1) rfl
  exact lv_istore C.1 C.2.1 dd hL.has (Nat.lt_of_lt_of_le hi hL.2.2.1) rfl (fun lsB hB => K p l e R s m args below meth c Q C ret H locs cells slots lsB hI hS hc hs (hL.put (v := .int x) rfl hB))
theorem go_aloadn {i : Fin 4} {x : Nat} (hd : Dc Y pc (.aload_n i) pc') (hi : ls[(i : Nat)]? = some (some (.ref x))) (K : Go E Y d k n pc' ls (.ref x :: st) h Ψ) : Go E Y d k n pc ls st h Ψ := by
  intro p l e R s m args below meth c Q C ret H locs cells slots lsA hI hS hc hs hL
  obtain ⟨rfl, dd⟩ := hd.is (n := 0) rfl
  exact lv_aload_n C.1 C.2.1 dd rfl (hL.get rfl hi) (K p l e R s m args below meth c Q C ret H locs cells slots lsA hI hS hc hs hL)
theorem go_aload {i : Nat} {x : Nat} (hd : Dc Y pc (.aload i) pc') (hi : ls[i]? = some (some (.ref x))) (K : Go E Y d k n pc' ls (.ref x :: st) h Ψ) : Go E Y d k n pc ls st h Ψ := by
  intro p l e R s m args below meth c Q C ret H locs cells slots lsA hI hS hc hs hL
  obtain ⟨rfl, dd⟩ := hd.is (n := 1) rfl
  exact lv_aload C.1 C.2.1 dd (hL.get rfl hi) (K p l e R s m args below meth c Q C ret H locs cells slots lsA hI hS hc hs hL)
theorem go_astoren {i : Fin 4} {x : Nat} (hd : Dc Y pc (.astore_n i) pc') (hi : (i : Nat) < ls.length) (K : Go E Y d k n pc' (ls.set i (some (.ref x))) st h Ψ) : Go E Y d k n pc ls (.ref x :: st) h Ψ := by
  intro p l e R s m args below meth c Q C ret H locs cells slots lsA hI hS hc hs hL
  obtain ⟨rfl, dd⟩ := hd.is (n := 0) rfl
  exact lv_astore_n C.1 C.2.1 dd rfl hL.has (Nat.lt_of_lt_of_le hi hL.2.2.1) rfl (fun lsB hB => K p l e R s m args below meth c Q C ret H locs cells slots lsB hI hS hc hs (hL.put (v := .ref x) rfl hB))
theorem go_astore {i : Nat} {x : Nat} (hd : Dc Y pc (.astore i) pc') (hi : i < ls.length) (K : Go E Y d k n pc' (ls.set i (some (.ref x))) st h Ψ) : Go E Y d k n pc ls (.ref x :: st) h Ψ := by
  intro p l e R s m args below meth c Q C ret H locs cells slots lsA hI hS hc hs hL
  obtain ⟨rfl, dd⟩ := hd.is (n := 1) rfl
  exact lv_astore C.1 C.2.1 dd hL.has (Nat.lt_of_lt_of_le hi hL.2.2.1) rfl (fun lsB hB => K p l e R s m args below meth c Q C ret H locs cells slots lsB hI hS hc hs (hL.put (v := .ref x) rfl hB))
theorem go_iinc {i : Nat} {z : Int} {x v : Int32} (hd : Dc Y pc (.iinc i z) pc') (hi : ls[i]? = some (some (.int x))) (hv : x + Int32.ofInt z = v) (K : Go E Y d k n pc' (ls.set i (some (.int v))) st h Ψ) : Go E Y d k n pc ls st h Ψ := by
  intro p l e R s m args below meth c Q C ret H locs cells slots lsA hI hS hc hs hL
  obtain ⟨rfl, dd⟩ := hd.is (n := 2) rfl
  have hlen := (List.getElem?_eq_some_iff.mp hi).1
  have hh := hL.has
  have hmem : (i, Value.int x) ∈ ((List.range ls.length).filterMap (fun i => match ls[i]? with | some (some v) => if v.category = 1 ∨ ls[i + 1]? = some none then some (i, cV E v) else none | _ => none)) := List.mem_filterMap.mpr ⟨i, List.mem_range.mpr hlen, by rw [hi]; exact if_pos (Or.inl rfl)⟩
  obtain ⟨kk, hkk⟩ := List.getElem?_of_mem hmem
  exact lv_iinc C.1 C.2.1 dd hh hkk hv (Nat.lt_of_lt_of_le hlen hL.2.2.1) rfl (fun lsB hB => K p l e R s m args below meth c Q C ret H locs cells slots lsB hI hS hc hs (hL.put (v := .int v) rfl hB))
theorem go_iload_0 {x : Int32} (hd : Dc Y pc (.iload_n 0) pc') (K : Go E Y d k n pc' (some (.int x) :: ls) (.int x :: st) h Ψ) : Go E Y d k n pc (some (.int x) :: ls) st h Ψ := go_iloadn hd rfl K
theorem go_istore_0 {b0 : Option Value} {x : Int32} (hd : Dc Y pc (.istore_n 0) pc') (K : Go E Y d k n pc' (some (.int x) :: ls) st h Ψ) : Go E Y d k n pc (b0 :: ls) (.int x :: st) h Ψ := go_istoren hd (by simp only [List.length_cons]; show 0 < _; omega) K
theorem go_aload_0 {x : Nat} (hd : Dc Y pc (.aload_n 0) pc') (K : Go E Y d k n pc' (some (.ref x) :: ls) (.ref x :: st) h Ψ) : Go E Y d k n pc (some (.ref x) :: ls) st h Ψ := go_aloadn hd rfl K
theorem go_astore_0 {b0 : Option Value} {x : Nat} (hd : Dc Y pc (.astore_n 0) pc') (K : Go E Y d k n pc' (some (.ref x) :: ls) st h Ψ) : Go E Y d k n pc (b0 :: ls) (.ref x :: st) h Ψ := go_astoren hd (by simp only [List.length_cons]; show 0 < _; omega) K
theorem go_iinc_0 {z : Int} {x v : Int32} (hd : Dc Y pc (.iinc 0 z) pc') (hv : x + Int32.ofInt z = v) (K : Go E Y d k n pc' (some (.int v) :: ls) st h Ψ) : Go E Y d k n pc (some (.int x) :: ls) st h Ψ := go_iinc hd rfl hv K
theorem go_iload_1 {b0 : Option Value} {x : Int32} (hd : Dc Y pc (.iload_n 1) pc') (K : Go E Y d k n pc' (b0 :: some (.int x) :: ls) (.int x :: st) h Ψ) : Go E Y d k n pc (b0 :: some (.int x) :: ls) st h Ψ := go_iloadn hd rfl K
theorem go_istore_1 {b0 b1 : Option Value} {x : Int32} (hd : Dc Y pc (.istore_n 1) pc') (K : Go E Y d k n pc' (b0 :: some (.int x) :: ls) st h Ψ) : Go E Y d k n pc (b0 :: b1 :: ls) (.int x :: st) h Ψ := go_istoren hd (by simp only [List.length_cons]; show 1 < _; omega) K
theorem go_aload_1 {b0 : Option Value} {x : Nat} (hd : Dc Y pc (.aload_n 1) pc') (K : Go E Y d k n pc' (b0 :: some (.ref x) :: ls) (.ref x :: st) h Ψ) : Go E Y d k n pc (b0 :: some (.ref x) :: ls) st h Ψ := go_aloadn hd rfl K
theorem go_astore_1 {b0 b1 : Option Value} {x : Nat} (hd : Dc Y pc (.astore_n 1) pc') (K : Go E Y d k n pc' (b0 :: some (.ref x) :: ls) st h Ψ) : Go E Y d k n pc (b0 :: b1 :: ls) (.ref x :: st) h Ψ := go_astoren hd (by simp only [List.length_cons]; show 1 < _; omega) K
theorem go_iinc_1 {b0 : Option Value} {z : Int} {x v : Int32} (hd : Dc Y pc (.iinc 1 z) pc') (hv : x + Int32.ofInt z = v) (K : Go E Y d k n pc' (b0 :: some (.int v) :: ls) st h Ψ) : Go E Y d k n pc (b0 :: some (.int x) :: ls) st h Ψ := go_iinc hd rfl hv K
theorem go_iload_2 {b0 b1 : Option Value} {x : Int32} (hd : Dc Y pc (.iload_n 2) pc') (K : Go E Y d k n pc' (b0 :: b1 :: some (.int x) :: ls) (.int x :: st) h Ψ) : Go E Y d k n pc (b0 :: b1 :: some (.int x) :: ls) st h Ψ := go_iloadn hd rfl K
theorem go_istore_2 {b0 b1 b2 : Option Value} {x : Int32} (hd : Dc Y pc (.istore_n 2) pc') (K : Go E Y d k n pc' (b0 :: b1 :: some (.int x) :: ls) st h Ψ) : Go E Y d k n pc (b0 :: b1 :: b2 :: ls) (.int x :: st) h Ψ := go_istoren hd (by simp only [List.length_cons]; show 2 < _; omega) K
theorem go_aload_2 {b0 b1 : Option Value} {x : Nat} (hd : Dc Y pc (.aload_n 2) pc') (K : Go E Y d k n pc' (b0 :: b1 :: some (.ref x) :: ls) (.ref x :: st) h Ψ) : Go E Y d k n pc (b0 :: b1 :: some (.ref x) :: ls) st h Ψ := go_aloadn hd rfl K
theorem go_astore_2 {b0 b1 b2 : Option Value} {x : Nat} (hd : Dc Y pc (.astore_n 2) pc') (K : Go E Y d k n pc' (b0 :: b1 :: some (.ref x) :: ls) st h Ψ) : Go E Y d k n pc (b0 :: b1 :: b2 :: ls) (.ref x :: st) h Ψ := go_astoren hd (by simp only [List.length_cons]; show 2 < _; omega) K
theorem go_iinc_2 {b0 b1 : Option Value} {z : Int} {x v : Int32} (hd : Dc Y pc (.iinc 2 z) pc') (hv : x + Int32.ofInt z = v) (K : Go E Y d k n pc' (b0 :: b1 :: some (.int v) :: ls) st h Ψ) : Go E Y d k n pc (b0 :: b1 :: some (.int x) :: ls) st h Ψ := go_iinc hd rfl hv K
theorem go_iload_3 {b0 b1 b2 : Option Value} {x : Int32} (hd : Dc Y pc (.iload_n 3) pc') (K : Go E Y d k n pc' (b0 :: b1 :: b2 :: some (.int x) :: ls) (.int x :: st) h Ψ) : Go E Y d k n pc (b0 :: b1 :: b2 :: some (.int x) :: ls) st h Ψ := go_iloadn hd rfl K
theorem go_istore_3 {b0 b1 b2 b3 : Option Value} {x : Int32} (hd : Dc Y pc (.istore_n 3) pc') (K : Go E Y d k n pc' (b0 :: b1 :: b2 :: some (.int x) :: ls) st h Ψ) : Go E Y d k n pc (b0 :: b1 :: b2 :: b3 :: ls) (.int x :: st) h Ψ := go_istoren hd (by simp only [List.length_cons]; show 3 < _; omega) K
theorem go_aload_3 {b0 b1 b2 : Option Value} {x : Nat} (hd : Dc Y pc (.aload_n 3) pc') (K : Go E Y d k n pc' (b0 :: b1 :: b2 :: some (.ref x) :: ls) (.ref x :: st) h Ψ) : Go E Y d k n pc (b0 :: b1 :: b2 :: some (.ref x) :: ls) st h Ψ := go_aloadn hd rfl K
theorem go_astore_3 {b0 b1 b2 b3 : Option Value} {x : Nat} (hd : Dc Y pc (.astore_n 3) pc') (K : Go E Y d k n pc' (b0 :: b1 :: b2 :: some (.ref x) :: ls) st h Ψ) : Go E Y d k n pc (b0 :: b1 :: b2 :: b3 :: ls) (.ref x :: st) h Ψ := go_astoren hd (by simp only [List.length_cons]; show 3 < _; omega) K
theorem go_iinc_3 {b0 b1 b2 : Option Value} {z : Int} {x v : Int32} (hd : Dc Y pc (.iinc 3 z) pc') (hv : x + Int32.ofInt z = v) (K : Go E Y d k n pc' (b0 :: b1 :: b2 :: some (.int v) :: ls) st h Ψ) : Go E Y d k n pc (b0 :: b1 :: b2 :: some (.int x) :: ls) st h Ψ := go_iinc hd rfl hv K
theorem go_iload_4 {b0 b1 b2 b3 : Option Value} {x : Int32} (hd : Dc Y pc (.iload 4) pc') (K : Go E Y d k n pc' (b0 :: b1 :: b2 :: b3 :: some (.int x) :: ls) (.int x :: st) h Ψ) : Go E Y d k n pc (b0 :: b1 :: b2 :: b3 :: some (.int x) :: ls) st h Ψ := go_iload hd rfl K
theorem go_istore_4 {b0 b1 b2 b3 b4 : Option Value} {x : Int32} (hd : Dc Y pc (.istore 4) pc') (K : Go E Y d k n pc' (b0 :: b1 :: b2 :: b3 :: some (.int x) :: ls) st h Ψ) : Go E Y d k n pc (b0 :: b1 :: b2 :: b3 :: b4 :: ls) (.int x :: st) h Ψ := go_istore hd (by simp only [List.length_cons]; show 4 < _; omega) K
theorem go_aload_4 {b0 b1 b2 b3 : Option Value} {x : Nat} (hd : Dc Y pc (.aload 4) pc') (K : Go E Y d k n pc' (b0 :: b1 :: b2 :: b3 :: some (.ref x) :: ls) (.ref x :: st) h Ψ) : Go E Y d k n pc (b0 :: b1 :: b2 :: b3 :: some (.ref x) :: ls) st h Ψ := go_aload hd rfl K
theorem go_astore_4 {b0 b1 b2 b3 b4 : Option Value} {x : Nat} (hd : Dc Y pc (.astore 4) pc') (K : Go E Y d k n pc' (b0 :: b1 :: b2 :: b3 :: some (.ref x) :: ls) st h Ψ) : Go E Y d k n pc (b0 :: b1 :: b2 :: b3 :: b4 :: ls) (.ref x :: st) h Ψ := go_astore hd (by simp only [List.length_cons]; show 4 < _; omega) K
theorem go_iinc_4 {b0 b1 b2 b3 : Option Value} {z : Int} {x v : Int32} (hd : Dc Y pc (.iinc 4 z) pc') (hv : x + Int32.ofInt z = v) (K : Go E Y d k n pc' (b0 :: b1 :: b2 :: b3 :: some (.int v) :: ls) st h Ψ) : Go E Y d k n pc (b0 :: b1 :: b2 :: b3 :: some (.int x) :: ls) st h Ψ := go_iinc hd rfl hv K
theorem go_iload_5 {b0 b1 b2 b3 b4 : Option Value} {x : Int32} (hd : Dc Y pc (.iload 5) pc') (K : Go E Y d k n pc' (b0 :: b1 :: b2 :: b3 :: b4 :: some (.int x) :: ls) (.int x :: st) h Ψ) : Go E Y d k n pc (b0 :: b1 :: b2 :: b3 :: b4 :: some (.int x) :: ls) st h Ψ := go_iload hd rfl K
theorem go_istore_5 {b0 b1 b2 b3 b4 b5 : Option Value} {x : Int32} (hd : Dc Y pc (.istore 5) pc') (K : Go E Y d k n pc' (b0 :: b1 :: b2 :: b3 :: b4 :: some (.int x) :: ls) st h Ψ) : Go E Y d k n pc (b0 :: b1 :: b2 :: b3 :: b4 :: b5 :: ls) (.int x :: st) h Ψ := go_istore hd (by simp only [List.length_cons]; show 5 < _; omega) K
theorem go_aload_5 {b0 b1 b2 b3 b4 : Option Value} {x : Nat} (hd : Dc Y pc (.aload 5) pc') (K : Go E Y d k n pc' (b0 :: b1 :: b2 :: b3 :: b4 :: some (.ref x) :: ls) (.ref x :: st) h Ψ) : Go E Y d k n pc (b0 :: b1 :: b2 :: b3 :: b4 :: some (.ref x) :: ls) st h Ψ := go_aload hd rfl K
theorem go_astore_5 {b0 b1 b2 b3 b4 b5 : Option Value} {x : Nat} (hd : Dc Y pc (.astore 5) pc') (K : Go E Y d k n pc' (b0 :: b1 :: b2 :: b3 :: b4 :: some (.ref x) :: ls) st h Ψ) : Go E Y d k n pc (b0 :: b1 :: b2 :: b3 :: b4 :: b5 :: ls) (.ref x :: st) h Ψ := go_astore hd (by simp only [List.length_cons]; show 5 < _; omega) K
theorem go_iinc_5 {b0 b1 b2 b3 b4 : Option Value} {z : Int} {x v : Int32} (hd : Dc Y pc (.iinc 5 z) pc') (hv : x + Int32.ofInt z = v) (K : Go E Y d k n pc' (b0 :: b1 :: b2 :: b3 :: b4 :: some (.int v) :: ls) st h Ψ) : Go E Y d k n pc (b0 :: b1 :: b2 :: b3 :: b4 :: some (.int x) :: ls) st h Ψ := go_iinc hd rfl hv K
theorem go_iload_6 {b0 b1 b2 b3 b4 b5 : Option Value} {x : Int32} (hd : Dc Y pc (.iload 6) pc') (K : Go E Y d k n pc' (b0 :: b1 :: b2 :: b3 :: b4 :: b5 :: some (.int x) :: ls) (.int x :: st) h Ψ) : Go E Y d k n pc (b0 :: b1 :: b2 :: b3 :: b4 :: b5 :: some (.int x) :: ls) st h Ψ := go_iload hd rfl K
theorem go_istore_6 {b0 b1 b2 b3 b4 b5 b6 : Option Value} {x : Int32} (hd : Dc Y pc (.istore 6) pc') (K : Go E Y d k n pc' (b0 :: b1 :: b2 :: b3 :: b4 :: b5 :: some (.int x) :: ls) st h Ψ) : Go E Y d k n pc (b0 :: b1 :: b2 :: b3 :: b4 :: b5 :: b6 :: ls) (.int x :: st) h Ψ := go_istore hd (by simp only [List.length_cons]; show 6 < _; omega) K
theorem go_aload_6 {b0 b1 b2 b3 b4 b5 : Option Value} {x : Nat} (hd : Dc Y pc (.aload 6) pc') (K : Go E Y d k n pc' (b0 :: b1 :: b2 :: b3 :: b4 :: b5 :: some (.ref x) :: ls) (.ref x :: st) h Ψ) : Go E Y d k n pc (b0 :: b1 :: b2 :: b3 :: b4 :: b5 :: some (.ref x) :: ls) st h Ψ := go_aload hd rfl K
theorem go_astore_6 {b0 b1 b2 b3 b4 b5 b6 : Option Value} {x : Nat} (hd : Dc Y pc (.astore 6) pc') (K : Go E Y d k n pc' (b0 :: b1 :: b2 :: b3 :: b4 :: b5 :: some (.ref x) :: ls) st h Ψ) : Go E Y d k n pc (b0 :: b1 :: b2 :: b3 :: b4 :: b5 :: b6 :: ls) (.ref x :: st) h Ψ := go_astore hd (by simp only [List.length_cons]; show 6 < _; omega) K
theorem go_iinc_6 {b0 b1 b2 b3 b4 b5 : Option Value} {z : Int} {x v : Int32} (hd : Dc Y pc (.iinc 6 z) pc') (hv : x + Int32.ofInt z = v) (K : Go E Y d k n pc' (b0 :: b1 :: b2 :: b3 :: b4 :: b5 :: some (.int v) :: ls) st h Ψ) : Go E Y d k n pc (b0 :: b1 :: b2 :: b3 :: b4 :: b5 :: some (.int x) :: ls) st h Ψ := go_iinc hd rfl hv K
theorem go_iload_7 {b0 b1 b2 b3 b4 b5 b6 : Option Value} {x : Int32} (hd : Dc Y pc (.iload 7) pc') (K : Go E Y d k n pc' (b0 :: b1 :: b2 :: b3 :: b4 :: b5 :: b6 :: some (.int x) :: ls) (.int x :: st) h Ψ) : Go E Y d k n pc (b0 :: b1 :: b2 :: b3 :: b4 :: b5 :: b6 :: some (.int x) :: ls) st h Ψ := go_iload hd rfl K
theorem go_istore_7 {b0 b1 b2 b3 b4 b5 b6 b7 : Option Value} {x : Int32} (hd : Dc Y pc (.istore 7) pc') (K : Go E Y d k n pc' (b0 :: b1 :: b2 :: b3 :: b4 :: b5 :: b6 :: some (.int x) :: ls) st h Ψ) : Go E Y d k n pc (b0 :: b1 :: b2 :: b3 :: b4 :: b5 :: b6 :: b7 :: ls) (.int x :: st) h Ψ := go_istore hd (by simp only [List.length_cons]; show 7 < _; omega) K
theorem go_aload_7 {b0 b1 b2 b3 b4 b5 b6 : Option Value} {x : Nat} (hd : Dc Y pc (.aload 7) pc') (K : Go E Y d k n pc' (b0 :: b1 :: b2 :: b3 :: b4 :: b5 :: b6 :: some (.ref x) :: ls) (.ref x :: st) h Ψ) : Go E Y d k n pc (b0 :: b1 :: b2 :: b3 :: b4 :: b5 :: b6 :: some (.ref x) :: ls) st h Ψ := go_aload hd rfl K
theorem go_astore_7 {b0 b1 b2 b3 b4 b5 b6 b7 : Option Value} {x : Nat} (hd : Dc Y pc (.astore 7) pc') (K : Go E Y d k n pc' (b0 :: b1 :: b2 :: b3 :: b4 :: b5 :: b6 :: some (.ref x) :: ls) st h Ψ) : Go E Y d k n pc (b0 :: b1 :: b2 :: b3 :: b4 :: b5 :: b6 :: b7 :: ls) (.ref x :: st) h Ψ := go_astore hd (by simp only [List.length_cons]; show 7 < _; omega) K
theorem go_iinc_7 {b0 b1 b2 b3 b4 b5 b6 : Option Value} {z : Int} {x v : Int32} (hd : Dc Y pc (.iinc 7 z) pc') (hv : x + Int32.ofInt z = v) (K : Go E Y d k n pc' (b0 :: b1 :: b2 :: b3 :: b4 :: b5 :: b6 :: some (.int v) :: ls) st h Ψ) : Go E Y d k n pc (b0 :: b1 :: b2 :: b3 :: b4 :: b5 :: b6 :: some (.int x) :: ls) st h Ψ := go_iinc hd rfl hv K
theorem go_iload_8 {b0 b1 b2 b3 b4 b5 b6 b7 : Option Value} {x : Int32} (hd : Dc Y pc (.iload 8) pc') (K : Go E Y d k n pc' (b0 :: b1 :: b2 :: b3 :: b4 :: b5 :: b6 :: b7 :: some (.int x) :: ls) (.int x :: st) h Ψ) : Go E Y d k n pc (b0 :: b1 :: b2 :: b3 :: b4 :: b5 :: b6 :: b7 :: some (.int x) :: ls) st h Ψ := go_iload hd rfl K
theorem go_istore_8 {b0 b1 b2 b3 b4 b5 b6 b7 b8 : Option Value} {x : Int32} (hd : Dc Y pc (.istore 8) pc') (K : Go E Y d k n pc' (b0 :: b1 :: b2 :: b3 :: b4 :: b5 :: b6 :: b7 :: some (.int x) :: ls) st h Ψ) : Go E Y d k n pc (b0 :: b1 :: b2 :: b3 :: b4 :: b5 :: b6 :: b7 :: b8 :: ls) (.int x :: st) h Ψ := go_istore hd (by simp only [List.length_cons]; show 8 < _; omega) K
theorem go_aload_8 {b0 b1 b2 b3 b4 b5 b6 b7 : Option Value} {x : Nat} (hd : Dc Y pc (.aload 8) pc') (K : Go E Y d k n pc' (b0 :: b1 :: b2 :: b3 :: b4 :: b5 :: b6 :: b7 :: some (.ref x) :: ls) (.ref x :: st) h Ψ) : Go E Y d k n pc (b0 :: b1 :: b2 :: b3 :: b4 :: b5 :: b6 :: b7 :: some (.ref x) :: ls) st h Ψ := go_aload hd rfl K
theorem go_astore_8 {b0 b1 b2 b3 b4 b5 b6 b7 b8 : Option Value} {x : Nat} (hd : Dc Y pc (.astore 8) pc') (K : Go E Y d k n pc' (b0 :: b1 :: b2 :: b3 :: b4 :: b5 :: b6 :: b7 :: some (.ref x) :: ls) st h Ψ) : Go E Y d k n pc (b0 :: b1 :: b2 :: b3 :: b4 :: b5 :: b6 :: b7 :: b8 :: ls) (.ref x :: st) h Ψ := go_astore hd (by simp only [List.length_cons]; show 8 < _; omega) K
theorem go_iinc_8 {b0 b1 b2 b3 b4 b5 b6 b7 : Option Value} {z : Int} {x v : Int32} (hd : Dc Y pc (.iinc 8 z) pc') (hv : x + Int32.ofInt z = v) (K : Go E Y d k n pc' (b0 :: b1 :: b2 :: b3 :: b4 :: b5 :: b6 :: b7 :: some (.int v) :: ls) st h Ψ) : Go E Y d k n pc (b0 :: b1 :: b2 :: b3 :: b4 :: b5 :: b6 :: b7 :: some (.int x) :: ls) st h Ψ := go_iinc hd rfl hv K
theorem go_iload_9 {b0 b1 b2 b3 b4 b5 b6 b7 b8 : Option Value} {x : Int32} (hd : Dc Y pc (.iload 9) pc') (K : Go E Y d k n pc' (b0 :: b1 :: b2 :: b3 :: b4 :: b5 :: b6 :: b7 :: b8 :: some (.int x) :: ls) (.int x :: st) h Ψ) : Go E Y d k n pc (b0 :: b1 :: b2 :: b3 :: b4 :: b5 :: b6 :: b7 :: b8 :: some (.int x) :: ls) st h Ψ := go_iload hd rfl K
theorem go_istore_9 {b0 b1 b2 b3 b4 b5 b6 b7 b8 b9 : Option Value} {x : Int32} (hd : Dc Y pc (.istore 9) pc') (K : Go E Y d k n pc' (b0 :: b1 :: b2 :: b3 :: b4 :: b5 :: b6 :: b7 :: b8 :: some (.int x) :: ls) st h Ψ) : Go E Y d k n pc (b0 :: b1 :: b2 :: b3 :: b4 :: b5 :: b6 :: b7 :: b8 :: b9 :: ls) (.int x :: st) h Ψ := go_istore hd (by simp only [List.length_cons]; show 9 < _; omega) K
theorem go_aload_9 {b0 b1 b2 b3 b4 b5 b6 b7 b8 : Option Value} {x : Nat} (hd : Dc Y pc (.aload 9) pc') (K : Go E Y d k n pc' (b0 :: b1 :: b2 :: b3 :: b4 :: b5 :: b6 :: b7 :: b8 :: some (.ref x) :: ls) (.ref x :: st) h Ψ) : Go E Y d k n pc (b0 :: b1 :: b2 :: b3 :: b4 :: b5 :: b6 :: b7 :: b8 :: some (.ref x) :: ls) st h Ψ := go_aload hd rfl K
theorem go_astore_9 {b0 b1 b2 b3 b4 b5 b6 b7 b8 b9 : Option Value} {x : Nat} (hd : Dc Y pc (.astore 9) pc') (K : Go E Y d k n pc' (b0 :: b1 :: b2 :: b3 :: b4 :: b5 :: b6 :: b7 :: b8 :: some (.ref x) :: ls) st h Ψ) : Go E Y d k n pc (b0 :: b1 :: b2 :: b3 :: b4 :: b5 :: b6 :: b7 :: b8 :: b9 :: ls) (.ref x :: st) h Ψ := go_astore hd (by simp only [List.length_cons]; show 9 < _; omega) K
theorem go_iinc_9 {b0 b1 b2 b3 b4 b5 b6 b7 b8 : Option Value} {z : Int} {x v : Int32} (hd : Dc Y pc (.iinc 9 z) pc') (hv : x + Int32.ofInt z = v) (K : Go E Y d k n pc' (b0 :: b1 :: b2 :: b3 :: b4 :: b5 :: b6 :: b7 :: b8 :: some (.int v) :: ls) st h Ψ) : Go E Y d k n pc (b0 :: b1 :: b2 :: b3 :: b4 :: b5 :: b6 :: b7 :: b8 :: some (.int x) :: ls) st h Ψ := go_iinc hd rfl hv K
theorem go_iload_10 {b0 b1 b2 b3 b4 b5 b6 b7 b8 b9 : Option Value} {x : Int32} (hd : Dc Y pc (.iload 10) pc') (K : Go E Y d k n pc' (b0 :: b1 :: b2 :: b3 :: b4 :: b5 :: b6 :: b7 :: b8 :: b9 :: some (.int x) :: ls) (.int x :: st) h Ψ) : Go E Y d k n pc (b0 :: b1 :: b2 :: b3 :: b4 :: b5 :: b6 :: b7 :: b8 :: b9 :: some (.int x) :: ls) st h Ψ := go_iload hd rfl K
theorem go_istore_10 {b0 b1 b2 b3 b4 b5 b6 b7 b8 b9 b10 : Option Value} {x : Int32} (hd : Dc Y pc (.istore 10) pc') (K : Go E Y d k n pc' (b0 :: b1 :: b2 :: b3 :: b4 :: b5 :: b6 :: b7 :: b8 :: b9 :: some (.int x) :: ls) st h Ψ) : Go E Y d k n pc (b0 :: b1 :: b2 :: b3 :: b4 :: b5 :: b6 :: b7 :: b8 :: b9 :: b10 :: ls) (.int x :: st) h Ψ := go_istore hd (by simp only [List.length_cons]; show 10 < _; omega) K
theorem go_aload_10 {b0 b1 b2 b3 b4 b5 b6 b7 b8 b9 : Option Value} {x : Nat} (hd : Dc Y pc (.aload 10) pc') (K : Go E Y d k n pc' (b0 :: b1 :: b2 :: b3 :: b4 :: b5 :: b6 :: b7 :: b8 :: b9 :: some (.ref x) :: ls) (.ref x :: st) h Ψ) : Go E Y d k n pc (b0 :: b1 :: b2 :: b3 :: b4 :: b5 :: b6 :: b7 :: b8 :: b9 :: some (.ref x) :: ls) st h Ψ := go_aload hd rfl K
theorem go_astore_10 {b0 b1 b2 b3 b4 b5 b6 b7 b8 b9 b10 : Option Value} {x : Nat} (hd : Dc Y pc (.astore 10) pc') (K : Go E Y d k n pc' (b0 :: b1 :: b2 :: b3 :: b4 :: b5 :: b6 :: b7 :: b8 :: b9 :: some (.ref x) :: ls) st h Ψ) : Go E Y d k n pc (b0 :: b1 :: b2 :: b3 :: b4 :: b5 :: b6 :: b7 :: b8 :: b9 :: b10 :: ls) (.ref x :: st) h Ψ := go_astore hd (by simp only [List.length_cons]; show 10 < _; omega) K
theorem go_iinc_10 {b0 b1 b2 b3 b4 b5 b6 b7 b8 b9 : Option Value} {z : Int} {x v : Int32} (hd : Dc Y pc (.iinc 10 z) pc') (hv : x + Int32.ofInt z = v) (K : Go E Y d k n pc' (b0 :: b1 :: b2 :: b3 :: b4 :: b5 :: b6 :: b7 :: b8 :: b9 :: some (.int v) :: ls) st h Ψ) : Go E Y d k n pc (b0 :: b1 :: b2 :: b3 :: b4 :: b5 :: b6 :: b7 :: b8 :: b9 :: some (.int x) :: ls) st h Ψ := go_iinc hd rfl hv K
theorem go_iload_11 {b0 b1 b2 b3 b4 b5 b6 b7 b8 b9 b10 : Option Value} {x : Int32} (hd : Dc Y pc (.iload 11) pc') (K : Go E Y d k n pc' (b0 :: b1 :: b2 :: b3 :: b4 :: b5 :: b6 :: b7 :: b8 :: b9 :: b10 :: some (.int x) :: ls) (.int x :: st) h Ψ) : Go E Y d k n pc (b0 :: b1 :: b2 :: b3 :: b4 :: b5 :: b6 :: b7 :: b8 :: b9 :: b10 :: some (.int x) :: ls) st h Ψ := go_iload hd rfl K
theorem go_istore_11 {b0 b1 b2 b3 b4 b5 b6 b7 b8 b9 b10 b11 : Option Value} {x : Int32} (hd : Dc Y pc (.istore 11) pc') (K : Go E Y d k n pc' (b0 :: b1 :: b2 :: b3 :: b4 :: b5 :: b6 :: b7 :: b8 :: b9 :: b10 :: some (.int x) :: ls) st h Ψ) : Go E Y d k n pc (b0 :: b1 :: b2 :: b3 :: b4 :: b5 :: b6 :: b7 :: b8 :: b9 :: b10 :: b11 :: ls) (.int x :: st) h Ψ := go_istore hd (by simp only [List.length_cons]; show 11 < _; omega) K
theorem go_aload_11 {b0 b1 b2 b3 b4 b5 b6 b7 b8 b9 b10 : Option Value} {x : Nat} (hd : Dc Y pc (.aload 11) pc') (K : Go E Y d k n pc' (b0 :: b1 :: b2 :: b3 :: b4 :: b5 :: b6 :: b7 :: b8 :: b9 :: b10 :: some (.ref x) :: ls) (.ref x :: st) h Ψ) : Go E Y d k n pc (b0 :: b1 :: b2 :: b3 :: b4 :: b5 :: b6 :: b7 :: b8 :: b9 :: b10 :: some (.ref x) :: ls) st h Ψ := go_aload hd rfl K
theorem go_astore_11 {b0 b1 b2 b3 b4 b5 b6 b7 b8 b9 b10 b11 : Option Value} {x : Nat} (hd : Dc Y pc (.astore 11) pc') (K : Go E Y d k n pc' (b0 :: b1 :: b2 :: b3 :: b4 :: b5 :: b6 :: b7 :: b8 :: b9 :: b10 :: some (.ref x) :: ls) st h Ψ) : Go E Y d k n pc (b0 :: b1 :: b2 :: b3 :: b4 :: b5 :: b6 :: b7 :: b8 :: b9 :: b10 :: b11 :: ls) (.ref x :: st) h Ψ := go_astore hd (by simp only [List.length_cons]; show 11 < _; omega) K
theorem go_iinc_11 {b0 b1 b2 b3 b4 b5 b6 b7 b8 b9 b10 : Option Value} {z : Int} {x v : Int32} (hd : Dc Y pc (.iinc 11 z) pc') (hv : x + Int32.ofInt z = v) (K : Go E Y d k n pc' (b0 :: b1 :: b2 :: b3 :: b4 :: b5 :: b6 :: b7 :: b8 :: b9 :: b10 :: some (.int v) :: ls) st h Ψ) : Go E Y d k n pc (b0 :: b1 :: b2 :: b3 :: b4 :: b5 :: b6 :: b7 :: b8 :: b9 :: b10 :: some (.int x) :: ls) st h Ψ := go_iinc hd rfl hv K
theorem go_iload_12 {b0 b1 b2 b3 b4 b5 b6 b7 b8 b9 b10 b11 : Option Value} {x : Int32} (hd : Dc Y pc (.iload 12) pc') (K : Go E Y d k n pc' (b0 :: b1 :: b2 :: b3 :: b4 :: b5 :: b6 :: b7 :: b8 :: b9 :: b10 :: b11 :: some (.int x) :: ls) (.int x :: st) h Ψ) : Go E Y d k n pc (b0 :: b1 :: b2 :: b3 :: b4 :: b5 :: b6 :: b7 :: b8 :: b9 :: b10 :: b11 :: some (.int x) :: ls) st h Ψ := go_iload hd rfl K
theorem go_istore_12 {b0 b1 b2 b3 b4 b5 b6 b7 b8 b9 b10 b11 b12 : Option Value} {x : Int32} (hd : Dc Y pc (.istore 12) pc') (K : Go E Y d k n pc' (b0 :: b1 :: b2 :: b3 :: b4 :: b5 :: b6 :: b7 :: b8 :: b9 :: b10 :: b11 :: some (.int x) :: ls) st h Ψ) : Go E Y d k n pc (b0 :: b1 :: b2 :: b3 :: b4 :: b5 :: b6 :: b7 :: b8 :: b9 :: b10 :: b11 :: b12 :: ls) (.int x :: st) h Ψ := go_istore hd (by simp only [List.length_cons]; show 12 < _; omega) K
theorem go_aload_12 {b0 b1 b2 b3 b4 b5 b6 b7 b8 b9 b10 b11 : Option Value} {x : Nat} (hd : Dc Y pc (.aload 12) pc') (K : Go E Y d k n pc' (b0 :: b1 :: b2 :: b3 :: b4 :: b5 :: b6 :: b7 :: b8 :: b9 :: b10 :: b11 :: some (.ref x) :: ls) (.ref x :: st) h Ψ) : Go E Y d k n pc (b0 :: b1 :: b2 :: b3 :: b4 :: b5 :: b6 :: b7 :: b8 :: b9 :: b10 :: b11 :: some (.ref x) :: ls) st h Ψ := go_aload hd rfl K
theorem go_astore_12 {b0 b1 b2 b3 b4 b5 b6 b7 b8 b9 b10 b11 b12 : Option Value} {x : Nat} (hd : Dc Y pc (.astore 12) pc') (K : Go E Y d k n pc' (b0 :: b1 :: b2 :: b3 :: b4 :: b5 :: b6 :: b7 :: b8 :: b9 :: b10 :: b11 :: some (.ref x) :: ls) st h Ψ) : Go E Y d k n pc (b0 :: b1 :: b2 :: b3 :: b4 :: b5 :: b6 :: b7 :: b8 :: b9 :: b10 :: b11 :: b12 :: ls) (.ref x :: st) h Ψ := go_astore hd (by simp only [List.length_cons]; show 12 < _; omega) K
theorem go_iinc_12 {b0 b1 b2 b3 b4 b5 b6 b7 b8 b9 b10 b11 : Option Value} {z : Int} {x v : Int32} (hd : Dc Y pc (.iinc 12 z) pc') (hv : x + Int32.ofInt z = v) (K : Go E Y d k n pc' (b0 :: b1 :: b2 :: b3 :: b4 :: b5 :: b6 :: b7 :: b8 :: b9 :: b10 :: b11 :: some (.int v) :: ls) st h Ψ) : Go E Y d k n pc (b0 :: b1 :: b2 :: b3 :: b4 :: b5 :: b6 :: b7 :: b8 :: b9 :: b10 :: b11 :: some (.int x) :: ls) st h Ψ := go_iinc hd rfl hv K
theorem go_iload_13 {b0 b1 b2 b3 b4 b5 b6 b7 b8 b9 b10 b11 b12 : Option Value} {x : Int32} (hd : Dc Y pc (.iload 13) pc') (K : Go E Y d k n pc' (b0 :: b1 :: b2 :: b3 :: b4 :: b5 :: b6 :: b7 :: b8 :: b9 :: b10 :: b11 :: b12 :: some (.int x) :: ls) (.int x :: st) h Ψ) : Go E Y d k n pc (b0 :: b1 :: b2 :: b3 :: b4 :: b5 :: b6 :: b7 :: b8 :: b9 :: b10 :: b11 :: b12 :: some (.int x) :: ls) st h Ψ := go_iload hd rfl K
theorem go_istore_13 {b0 b1 b2 b3 b4 b5 b6 b7 b8 b9 b10 b11 b12 b13 : Option Value} {x : Int32} (hd : Dc Y pc (.istore 13) pc') (K : Go E Y d k n pc' (b0 :: b1 :: b2 :: b3 :: b4 :: b5 :: b6 :: b7 :: b8 :: b9 :: b10 :: b11 :: b12 :: some (.int x) :: ls) st h Ψ) : Go E Y d k n pc (b0 :: b1 :: b2 :: b3 :: b4 :: b5 :: b6 :: b7 :: b8 :: b9 :: b10 :: b11 :: b12 :: b13 :: ls) (.int x :: st) h Ψ := go_istore hd (by simp only [List.length_cons]; show 13 < _; omega) K
theorem go_aload_13 {b0 b1 b2 b3 b4 b5 b6 b7 b8 b9 b10 b11 b12 : Option Value} {x : Nat} (hd : Dc Y pc (.aload 13) pc') (K : Go E Y d k n pc' (b0 :: b1 :: b2 :: b3 :: b4 :: b5 :: b6 :: b7 :: b8 :: b9 :: b10 :: b11 :: b12 :: some (.ref x) :: ls) (.ref x :: st) h Ψ) : Go E Y d k n pc (b0 :: b1 :: b2 :: b3 :: b4 :: b5 :: b6 :: b7 :: b8 :: b9 :: b10 :: b11 :: b12 :: some (.ref x) :: ls) st h Ψ := go_aload hd rfl K
theorem go_astore_13 {b0 b1 b2 b3 b4 b5 b6 b7 b8 b9 b10 b11 b12 b13 : Option Value} {x : Nat} (hd : Dc Y pc (.astore 13) pc') (K : Go E Y d k n pc' (b0 :: b1 :: b2 :: b3 :: b4 :: b5 :: b6 :: b7 :: b8 :: b9 :: b10 :: b11 :: b12 :: some (.ref x) :: ls) st h Ψ) : Go E Y d k n pc (b0 :: b1 :: b2 :: b3 :: b4 :: b5 :: b6 :: b7 :: b8 :: b9 :: b10 :: b11 :: b12 :: b13 :: ls) (.ref x :: st) h Ψ := go_astore hd (by simp only [List.length_cons]; show 13 < _; omega) K
theorem go_iinc_13 {b0 b1 b2 b3 b4 b5 b6 b7 b8 b9 b10 b11 b12 : Option Value} {z : Int} {x v : Int32} (hd : Dc Y pc (.iinc 13 z) pc') (hv : x + Int32.ofInt z = v) (K : Go E Y d k n pc' (b0 :: b1 :: b2 :: b3 :: b4 :: b5 :: b6 :: b7 :: b8 :: b9 :: b10 :: b11 :: b12 :: some (.int v) :: ls) st h Ψ) : Go E Y d k n pc (b0 :: b1 :: b2 :: b3 :: b4 :: b5 :: b6 :: b7 :: b8 :: b9 :: b10 :: b11 :: b12 :: some (.int x) :: ls) st h Ψ := go_iinc hd rfl hv K
/-- field k of class ci, by the entry idx of class own -/
def FLk (own : String) (idx ci kf : Nat) : Prop := ∃ (C : String) (T : u_T) (N : Nat), vwCl[ci]? = some (C, T, N) ∧ kf < N ∧ (Jvm.Cond.fieldLink own idx (T kf).1 (T kf).2.1 (T kf).2.2.1 ∈ BW ∨ ∃ host, Jvm.Cond.fieldLinkNest own idx (T kf).1 (T kf).2.1 (T kf).2.2.1 host ∈ NW)
/-- what a class's words give, for all classes of the world -/
theorem cl_ok : ∀ (ci : Nat) (q : vw_C), vwCl[ci]? = some q → (∀ w ∈ u_ws q.1 q.2.1 q.2.2, w ∈ BW) := by
  intro ci q hq
  have key : vwCl.all (fun q => (u_ws q.1 q.2.1 q.2.2).all (fun w => decide (w ∈ lw_tbl) && goodWord w)) = true := by decide +kernel
  intro w hw
  have h1 := List.all_eq_true.mp (List.all_eq_true.mp key q (List.mem_of_getElem? hq)) w hw
  simp only [Bool.and_eq_true, decide_eq_true_eq] at h1
  exact BW_mem h1.1 h1.2
def clTy (ci : Nat) : Nat → FieldType := match ci with
  | 0 => tyX0 | 1 => tyX1 | 2 => tyX2 | 3 => tyX3 | 4 => tyX4 | _ => tyX5
theorem clTy_ok : ∀ (ci : Nat) (C : String) (T : u_T) (N : Nat), vwCl[ci]? = some (C, T, N) → (∀ j, j < N → parseFieldDescriptor (T j).2.2.1 = some (clTy ci j)) ∧ (∀ a, a < N → ∀ b, b < N → a ≠ b → (T a).2.1 ≠ (T b).2.1) := by
  intro ci C T N hq
  match ci, hq with
  | 0, hq => cases hq; exact ⟨tyX0_ok, nmX0⟩
  | 1, hq => cases hq; exact ⟨tyX1_ok, nmX1⟩
  | 2, hq => cases hq; exact ⟨tyX2_ok, nmX2⟩
  | 3, hq => cases hq; exact ⟨tyX3_ok, nmX3⟩
  | 4, hq => cases hq; exact ⟨tyX4_ok, nmX4⟩
  | 5, hq => cases hq; exact ⟨tyX5_ok, nmX5⟩
  | i + 6, hq => simp at hq
theorem go_getfield {idx a ci kf : Nat} {fs : List Value} {v : Value} (hd : Dc Y pc (.getfield idx) pc') (hF : FLk Y.1.cls idx ci kf) (hg : h[a]? = some (.inr (ci, fs))) (hv : fs[kf]? = some v) (K : Go E Y d k n pc' ls (v :: st) h Ψ) : Go E Y d k n pc ls (.ref a :: st) h Ψ := by
  intro p l e R s m args below meth c Q C ret H locs cells slots lsA hI hS hc hs hL
  obtain ⟨rfl, dd⟩ := hd.is (n := 2) rfl
  obtain ⟨CN, T, N, f1, f2, f3⟩ := hF
  have hE := C.2.2.2.2.2.1
  have hW := cW_get (E := E) hg
  have hv2 : (fs.map (cV E))[kf]? = some (cV E v) := by rw [List.getElem?_map, hv]; rfl
  show W p l e R s m args below meth c H locs cells slots Q (F0 m pc lsA (.ref (aR E a) :: st.map (cV E)))
  rw [aR_lo hI hg]
  rcases f3 with f3 | ⟨host, f3⟩
  · exact va_get C.1 C.2.1 C.2.2.2.2.1 (cl_ok ci _ f1) C.2.2.2.1 hE.1 hI.2.2 a hW f1 kf f2 (C.2.2.2.2.1 _ f3) (fun x hx => hx) hv2 dd (K p l e R s m args below meth c Q C ret H locs cells slots lsA hI hS hc hs hL)
  · exact va_getN C.1 C.2.1 C.2.2.2.2.1 (cl_ok ci _ f1) C.2.2.2.1 hE.1 hI.2.2 a hW f1 kf f2 (va_Nw.use rfl (hE.2.1 _ f3)) (fun x hx => hx) hv2 dd (K p l e R s m args below meth c Q C ret H locs cells slots lsA hI hS hc hs hL)
theorem Inv.set {H1 H : Heap} {a : Nat} {e : va_E} (hI : Inv E h H) (z : H1.size = H.size) (hP : va_P (ED E) vwCl ((cW E h).set a (EB E + a, cE E e)) H1) : Inv E (h.set a e) H1 := by
  refine ⟨by rw [List.length_set]; exact hI.1, by rw [List.length_set, z]; exact hI.2.1, ?_⟩
  rw [← cW_set]
  exact hP
/-- a field that isn't final -/
theorem go_putfield {idx a ci kf : Nat} {C0 : String} {T : u_T} {N : Nat} {fs : List Value} {v : Value} (hd : Dc Y pc (.putfield idx) pc') (hF : FLk Y.1.cls idx ci kf) (hcl : vwCl[ci]? = some (C0, T, N)) (hfin : (T kf).2.2.2 = false) (hg : h[a]? = some (.inr (ci, fs))) (hl : kf < fs.length)
    (hty : ∀ w : Value, w = cV E v → narrow (clTy ci kf) w = w ∧ fits (clTy ci kf) w = true) (K : Go E Y d k n pc' ls st (h.set a (.inr (ci, fs.set kf v))) Ψ) : Go E Y d k n pc ls (v :: .ref a :: st) h Ψ := by
  intro p l e R s m args below meth c Q C ret H locs cells slots lsA hI hS hc hs hL
  obtain ⟨rfl, dd⟩ := hd.is (n := 2) rfl
  obtain ⟨CN, T', N', f1, f2, f3⟩ := hF
  cases f1.symm.trans hcl
  have hE := C.2.2.2.2.2.1
  have hx := C.1
  have hb := C.2.1
  have hown := C.2.2.2.1
  have hts := C.2.2.2.2.1
  have hin := cl_ok ci _ hcl
  have hK := hE.1
  obtain ⟨hty0, hnm⟩ := clTy_ok ci _ _ _ hcl
  obtain ⟨hn, hfit⟩ := hty _ rfl
  have he := cW_get (E := E) hg
  have hP := hI.2.2
  show W p l e R s m args below meth c H locs cells slots Q (F0 m pc lsA (cV E v :: .ref (aR E a) :: st.map (cV E)))
  rw [aR_lo hI hg]
  have hap := va_apart (own := Y.1.cls) hts hin (clTy ci) hty0 hnm hK hcl
  obtain ⟨r', h1, cell, q1, q2, q3, q4⟩ := hP a _ he
  cases h1.symm.trans hcl
  obtain ⟨hSl, hfc, kC, hkC, hkind⟩ := hK.1 ci _ hcl
  obtain ⟨cf, kf', fi, f, hi, hsl⟩ := hSl kf f2
  have hlay := hts _ (hin _ (u_in_lay f2))
  unfold u_lay at hlay
  rw [if_neg (by rw [hfin]; decide)] at hlay
  have hst := (u_facts hfc hkC (u_lays hts hin f2) hi).1
  have h6 := u_store hfc hkC hkind hlay hi (hty0 kf f2) hn hfit
  have hlen : kf < (fs.map (cV E)).length := by rw [List.length_map]; exact hl
  have fin : ∀ H1 : Heap, H1[EB E + a]? = some (cell.setSlot f.slot (cV E v)) → H1.size = H.size → (∀ q, q ≠ EB E + a → H1[q]? = H[q]?) → W p l e R s m args below meth c H locs cells slots Q (F0 m pc lsA (cV E v :: .ref (EB E + a) :: st.map (cV E))) ∨ W p l e R s m args below meth c H1 (locs ++ [⟨EB E + a, f.slot⟩]) cells slots Q (F0 m (pc + 3) lsA (st.map (cV E))) := by
    intro H1 e1 e2 e3
    refine Or.inr (K p l e R s m args below meth c Q C ret H1 _ cells slots lsA (hI.set e2 ?_) (hS.put e2 e3 (cW_D.2 a _ he)) hc hs hL)
    have e4 := hP.set cW_D he (e := .inr (ci, (fs.map (cV E)).set kf (cV E v))) ⟨_, hcl, t_OB.to (V := updV (vp_V (fs.map (cV E))) kf (cV E v)) ⟨_, e1, q2, q3, by rw [hsl]; exact t_set q4 hap f2 (cV E v)⟩ (fun j _ => vp_updV_set hlen (cV E v) j)⟩ e3
    rw [show (fs.map (cV E)).set kf (cV E v) = (fs.set kf v).map (cV E) from by rw [List.map_set]] at e4
    exact e4
  rcases f3 with f3 | ⟨host, f3⟩
  · refine W.putK hx hb (f := f) ⟨hown, hts _ f3, ⟨_, _, _, hi⟩, hst⟩ (by rw [q2]; exact h6) q1 q3 (by rw [hsl]; exact k2_hasslot (q4 kf f2)) rfl rfl dd fun H1 e1 e2 e3 => ?_
    refine K p l e R s m args below meth c Q C ret H1 _ cells slots lsA (hI.set e2 ?_) (hS.put e2 e3 (cW_D.2 a _ he)) hc hs hL
    have e4 := hP.set cW_D he (e := .inr (ci, (fs.map (cV E)).set kf (cV E v))) ⟨_, hcl, t_OB.to (V := updV (vp_V (fs.map (cV E))) kf (cV E v)) ⟨_, e1, q2, q3, by rw [hsl]; exact t_set q4 hap f2 (cV E v)⟩ (fun j _ => vp_updV_set hlen (cV E v) j)⟩ e3
    rw [show (fs.map (cV E)).set kf (cV E v) = (fs.set kf v).map (cV E) from by rw [List.map_set]] at e4
    exact e4
  · refine va_WputK hx hb (f := f) hown (va_Nw.use rfl (hE.2.1 _ f3)) hi hst (by rw [q2]; exact h6) q1 q3 (by rw [hsl]; exact k2_hasslot (q4 kf f2)) rfl rfl dd fun H1 e1 e2 e3 => ?_
    refine K p l e R s m args below meth c Q C ret H1 _ cells slots lsA (hI.set e2 ?_) (hS.put e2 e3 (cW_D.2 a _ he)) hc hs hL
    have e4 := hP.set cW_D he (e := .inr (ci, (fs.map (cV E)).set kf (cV E v))) ⟨_, hcl, t_OB.to (V := updV (vp_V (fs.map (cV E))) kf (cV E v)) ⟨_, e1, q2, q3, by rw [hsl]; exact t_set q4 hap f2 (cV E v)⟩ (fun j _ => vp_updV_set hlen (cV E v) j)⟩ e3
    rw [show (fs.map (cV E)).set kf (cV E v) = (fs.set kf v).map (cV E) from by rw [List.map_set]] at e4
    exact e4
/-- a final field, in a constructor of its own class -/
theorem go_putfinal {idx a ci kf : Nat} {C0 : String} {T : u_T} {N : Nat} {fs : List Value} {v : Value} (hd : Dc Y pc (.putfield idx) pc') (hF : Jvm.Cond.fieldLink Y.1.cls idx (T kf).1 (T kf).2.1 (T kf).2.2.1 ∈ BW) (hcl : vwCl[ci]? = some (C0, T, N)) (hkN : kf < N) (hfin : (T kf).2.2.2 = true) (hin2 : Y.1.name = "<init>") (hdecl : (T kf).1 = Y.1.cls) (hg : h[a]? = some (.inr (ci, fs))) (hl : kf < fs.length)
    (hty : ∀ w : Value, w = cV E v → narrow (clTy ci kf) w = w ∧ fits (clTy ci kf) w = true) (K : Go E Y d k n pc' ls st (h.set a (.inr (ci, fs.set kf v))) Ψ) : Go E Y d k n pc ls (v :: .ref a :: st) h Ψ := by
  intro p l e R s m args below meth c Q C ret H locs cells slots lsA hI hS hc hs hL
  obtain ⟨rfl, dd⟩ := hd.is (n := 2) rfl
  have hE := C.2.2.2.2.2.1
  have hx := C.1
  have hb := C.2.1
  have hown := C.2.2.2.1
  have hts := C.2.2.2.2.1
  have hin := cl_ok ci _ hcl
  have hK := hE.1
  obtain ⟨hty0, hnm⟩ := clTy_ok ci _ _ _ hcl
  obtain ⟨hn, hfit⟩ := hty _ rfl
  have he := cW_get (E := E) hg
  have hP := hI.2.2
  show W p l e R s m args below meth c H locs cells slots Q (F0 m pc lsA (cV E v :: .ref (aR E a) :: st.map (cV E)))
  rw [aR_lo hI hg]
  have hap := va_apart (own := Y.1.cls) hts hin (clTy ci) hty0 hnm hK hcl
  obtain ⟨r', h1, cell, q1, q2, q3, q4⟩ := hP a _ he
  cases h1.symm.trans hcl
  obtain ⟨hSl, hfc, kC, hkC, hkind⟩ := hK.1 ci _ hcl
  obtain ⟨cf, kf', fi, f, hi, hsl⟩ := hSl kf hkN
  have hlay := hts _ (hin _ (u_in_lay hkN))
  unfold u_lay at hlay
  rw [if_pos hfin] at hlay
  have hst := (u_facts hfc hkC (u_lays hts hin hkN) hi).1
  have hcf : m.cls = cf := by
    obtain ⟨_, _, c', _, _, _, -, -, hf', -, -, -, hown2, -⟩ := Cond.laysFinal_spec hlay
    have e1 : c' = cf := by have := hi.symm.trans hf'; simp at this; exact this.1.symm
    rw [hdecl] at hown2
    rw [← e1]; exact Option.some.inj (hown.symm.trans hown2)
  have h6 := u_fits hfc hkC hkind (Or.inr hlay) hi (hty0 kf hkN) hn hfit
  have hlen : kf < (fs.map (cV E)).length := by rw [List.length_map]; exact hl
  refine W.putFinK hx hb hown (hts _ hF) hi hst hcf (C.2.2.2.2.2.2.2.2.trans hin2) (by rw [q2]; exact h6) q1 q3 (by rw [hsl]; exact k2_hasslot (q4 kf hkN)) rfl rfl dd fun H1 e1 e2 e3 => ?_
  refine K p l e R s m args below meth c Q C ret H1 _ cells slots lsA (hI.set e2 ?_) (hS.put e2 e3 (cW_D.2 a _ he)) hc hs hL
  have e4 := hP.set cW_D he (e := .inr (ci, (fs.map (cV E)).set kf (cV E v))) ⟨_, hcl, t_OB.to (V := updV (vp_V (fs.map (cV E))) kf (cV E v)) ⟨_, e1, q2, q3, by rw [hsl]; exact t_set q4 hap hkN (cV E v)⟩ (fun j _ => vp_updV_set hlen (cV E v) j)⟩ e3
  rw [show (fs.map (cV E)).set kf (cV E v) = (fs.set kf v).map (cV E) from by rw [List.map_set]] at e4
  exact e4
/-- POWERS, INVERSES -/
theorem go_powers {idx : Nat} (hd : Dc Y pc (.getstatic idx) pc') (hF : Jvm.Cond.fieldLink Y.1.cls idx "LocalMenders" "POWERS" "[I" ∈ BW ∨ ∃ host, Jvm.Cond.fieldLinkNest Y.1.cls idx "LocalMenders" "POWERS" "[I" host ∈ NW) (K : Go E Y d k n pc' ls (.ref BIGN :: st) h Ψ) : Go E Y d k n pc ls st h Ψ := by
  intro p l e R s m args below meth c Q C ret H locs cells slots lsA hI hS hc hs hL
  obtain ⟨rfl, dd⟩ := hd.is (n := 2) rfl
  have hE := C.2.2.2.2.2.1
  rcases hF with hF | ⟨host, hF⟩
  · exact va_gets C.1 C.2.1 hE.2.2.2.2.2.2.2.1 hS C.2.2.2.1 (C.2.2.2.2.1 _ hF) (fun x hx => hx) dd (K p l e R s m args below meth c Q C ret H locs cells slots lsA hI hS hc hs hL)
  · exact va_getsN C.1 C.2.1 hE.2.2.2.2.2.2.2.1 hS C.2.2.2.1 (va_Nw.use rfl (hE.2.1 _ hF)) (fun x hx => hx) dd (K p l e R s m args below meth c Q C ret H locs cells slots lsA hI hS hc hs hL)
theorem go_inverses {idx : Nat} (hd : Dc Y pc (.getstatic idx) pc') (hF : Jvm.Cond.fieldLink Y.1.cls idx "LocalMenders" "INVERSES" "[I" ∈ BW ∨ ∃ host, Jvm.Cond.fieldLinkNest Y.1.cls idx "LocalMenders" "INVERSES" "[I" host ∈ NW) (K : Go E Y d k n pc' ls (.ref (BIGN + 1) :: st) h Ψ) : Go E Y d k n pc ls st h Ψ := by
  intro p l e R s m args below meth c Q C ret H locs cells slots lsA hI hS hc hs hL
  obtain ⟨rfl, dd⟩ := hd.is (n := 2) rfl
  have hE := C.2.2.2.2.2.1
  rcases hF with hF | ⟨host, hF⟩
  · exact va_gets C.1 C.2.1 hE.2.2.2.2.2.2.2.2 hS C.2.2.2.1 (C.2.2.2.2.1 _ hF) (fun x hx => hx) dd (K p l e R s m args below meth c Q C ret H locs cells slots lsA hI hS hc hs hL)
  · exact va_getsN C.1 C.2.1 hE.2.2.2.2.2.2.2.2 hS C.2.2.2.1 (va_Nw.use rfl (hE.2.1 _ hF)) (fun x hx => hx) dd (K p l e R s m args below meth c Q C ret H locs cells slots lsA hI hS hc hs hL)
/-! arrays: '.inl (0, n, .inl f)': ints; '.inl (1, ..)': chars; '.inl (2, n, ..)': States -/
/-- an int array that can be read -/
def ArrR (E : AEnv) (h : List va_E) (a n : Nat) (f : Nat → Int32) : Prop :=
  h[a]? = some (.inl (0, n, .inl f)) ∨ (a = BIGN ∧ n = 15 ∧ f = POWf) ∨ (a = BIGN + 1 ∧ n = 16 ∧ f = INVf) ∨ (a = BIGN + 2 ∧ n = (ESc E).1 ∧ f = (ESc E).2)
theorem go_iaload {a N : Nat} {f : Nat → Int32} {i : Int32} (hd : Dc Y pc .iaload pc') (hg : ArrR E h a N f) (hin : vp_in i N) (K : Go E Y d k n pc' ls (.int (f i.toNatClampNeg) :: st) h Ψ) : Go E Y d k n pc ls (.int i :: .ref a :: st) h Ψ := by
  intro p l e R s m args below meth c Q C ret H locs cells slots lsA hI hS hc hs hL
  obtain ⟨rfl, dd⟩ := hd.is (n := 0) rfl
  have hE := C.2.2.2.2.2.1
  rcases hg with hg | ⟨rfl, rfl, rfl⟩ | ⟨rfl, rfl, rfl⟩ | ⟨rfl, rfl, rfl⟩
  · have hW := cW_get (E := E) hg
    show W p l e R s m args below meth c H locs cells slots Q (F0 m pc lsA (.int i :: .ref (aR E a) :: st.map (cV E)))
    rw [aR_lo hI hg]
    exact va_iald C.1 C.2.1 hE.1 hI.2.2 a 0 hW rfl hin dd (K p l e R s m args below meth c Q C ret H locs cells slots lsA hI hS hc hs hL)
  · exact va_ti (v := .int (POWf i.toNatClampNeg)) C.1 C.2.1 hE.2.2.2.2.1 hS hin rfl dd (K p l e R s m args below meth c Q C ret H locs cells slots lsA hI hS hc hs hL)
  · exact va_ti (v := .int (INVf i.toNatClampNeg)) C.1 C.2.1 hE.2.2.2.2.2.1 hS hin rfl dd (K p l e R s m args below meth c Q C ret H locs cells slots lsA hI hS hc hs hL)
  · exact va_ti (v := .int ((ESc E).2 i.toNatClampNeg)) C.1 C.2.1 hE.2.2.2.2.2.2.1 hS hin rfl dd (K p l e R s m args below meth c Q C ret H locs cells slots lsA hI hS hc hs hL)
theorem go_alen {a N : Nat} {f : Nat → Int32} {v : Int32} (hd : Dc Y pc .arraylength pc') (hg : ArrR E h a N f) (hv : Int32.ofNat N = v) (K : Go E Y d k n pc' ls (.int v :: st) h Ψ) : Go E Y d k n pc ls (.ref a :: st) h Ψ := by
  intro p l e R s m args below meth c Q C ret H locs cells slots lsA hI hS hc hs hL
  obtain ⟨rfl, dd⟩ := hd.is (n := 0) rfl
  have hE := C.2.2.2.2.2.1
  rcases hg with hg | ⟨rfl, rfl, rfl⟩ | ⟨rfl, rfl, rfl⟩ | ⟨rfl, rfl, rfl⟩
  · have hW := cW_get (E := E) hg
    show W p l e R s m args below meth c H locs cells slots Q (F0 m pc lsA (.ref (aR E a) :: st.map (cV E)))
    rw [aR_lo hI hg]
    exact va_alen C.1 C.2.1 hE.1 hI.2.2 a 0 hW rfl hv dd (K p l e R s m args below meth c Q C ret H locs cells slots lsA hI hS hc hs hL)
  · exact va_tlen C.1 C.2.1 hE.2.2.2.2.1 hS hv dd (K p l e R s m args below meth c Q C ret H locs cells slots lsA hI hS hc hs hL)
  · exact va_tlen C.1 C.2.1 hE.2.2.2.2.2.1 hS hv dd (K p l e R s m args below meth c Q C ret H locs cells slots lsA hI hS hc hs hL)
  · exact va_tlen C.1 C.2.1 hE.2.2.2.2.2.2.1 hS hv dd (K p l e R s m args below meth c Q C ret H locs cells slots lsA hI hS hc hs hL)
theorem go_alenC {a N : Nat} {f : Nat → Int32} {v : Int32} (hd : Dc Y pc .arraylength pc') (hg : h[a]? = some (.inl (1, N, .inl f))) (hv : Int32.ofNat N = v) (K : Go E Y d k n pc' ls (.int v :: st) h Ψ) : Go E Y d k n pc ls (.ref a :: st) h Ψ := by
  intro p l e R s m args below meth c Q C ret H locs cells slots lsA hI hS hc hs hL
  obtain ⟨rfl, dd⟩ := hd.is (n := 0) rfl
  have hE := C.2.2.2.2.2.1
  have hW := cW_get (E := E) hg
  show W p l e R s m args below meth c H locs cells slots Q (F0 m pc lsA (.ref (aR E a) :: st.map (cV E)))
  rw [aR_lo hI hg]
  exact va_alen C.1 C.2.1 hE.1 hI.2.2 a 1 hW rfl hv dd (K p l e R s m args below meth c Q C ret H locs cells slots lsA hI hS hc hs hL)
theorem go_alenS {a N : Nat} {f : Nat → Option Nat} {v : Int32} (hd : Dc Y pc .arraylength pc') (hg : h[a]? = some (.inl (2, N, .inr (.inr (.inr (.inr f)))))) (hv : Int32.ofNat N = v) (K : Go E Y d k n pc' ls (.int v :: st) h Ψ) : Go E Y d k n pc ls (.ref a :: st) h Ψ := by
  intro p l e R s m args below meth c Q C ret H locs cells slots lsA hI hS hc hs hL
  obtain ⟨rfl, dd⟩ := hd.is (n := 0) rfl
  have hE := C.2.2.2.2.2.1
  have hW := cW_get (E := E) hg
  show W p l e R s m args below meth c H locs cells slots Q (F0 m pc lsA (.ref (aR E a) :: st.map (cV E)))
  rw [aR_lo hI hg]
  exact va_alen C.1 C.2.1 hE.1 hI.2.2 a 2 hW rfl hv dd (K p l e R s m args below meth c Q C ret H locs cells slots lsA hI hS hc hs hL)
theorem go_caload {a N : Nat} {f : Nat → Int32} {i : Int32} (hd : Dc Y pc .caload pc') (hg : h[a]? = some (.inl (1, N, .inl f))) (hin : vp_in i N) (K : Go E Y d k n pc' ls (.int (f i.toNatClampNeg) :: st) h Ψ) : Go E Y d k n pc ls (.int i :: .ref a :: st) h Ψ := by
  intro p l e R s m args below meth c Q C ret H locs cells slots lsA hI hS hc hs hL
  obtain ⟨rfl, dd⟩ := hd.is (n := 0) rfl
  have hE := C.2.2.2.2.2.1
  have hW := cW_get (E := E) hg
  show W p l e R s m args below meth c H locs cells slots Q (F0 m pc lsA (.int i :: .ref (aR E a) :: st.map (cV E)))
  rw [aR_lo hI hg]
  exact va_cald C.1 C.2.1 hE.1 hI.2.2 a 1 hW rfl hin dd (K p l e R s m args below meth c Q C ret H locs cells slots lsA hI hS hc hs hL)
theorem go_aaload {a N b : Nat} {f : Nat → Option Nat} {i : Int32} (hd : Dc Y pc .aaload pc') (hg : h[a]? = some (.inl (2, N, .inr (.inr (.inr (.inr f)))))) (hin : vp_in i N) (hb : f i.toNatClampNeg = some b) (K : Go E Y d k n pc' ls (.ref b :: st) h Ψ) : Go E Y d k n pc ls (.int i :: .ref a :: st) h Ψ := by
  intro p l e R s m args below meth c Q C ret H locs cells slots lsA hI hS hc hs hL
  obtain ⟨rfl, dd⟩ := hd.is (n := 0) rfl
  have hE := C.2.2.2.2.2.1
  have hW := cW_get (E := E) hg
  show W p l e R s m args below meth c H locs cells slots Q (F0 m pc lsA (.int i :: .ref (aR E a) :: st.map (cV E)))
  rw [aR_lo hI hg]
  refine va_aldq C.1 C.2.1 hE.1 hI.2.2 a 2 hW rfl hin dd ?_
  show W p l e R s m args below meth c H locs cells slots Q (F0 m (pc + 1) lsA (va_rf ((f i.toNatClampNeg).map (aR E)) :: st.map (cV E)))
  rw [hb]
  exact (K p l e R s m args below meth c Q C ret H locs cells slots lsA hI hS hc hs hL)
theorem go_iastore {a N : Nat} {f : Nat → Int32} {i x : Int32} (hd : Dc Y pc .iastore pc') (hg : h[a]? = some (.inl (0, N, .inl f))) (hin : vp_in i N) (K : Go E Y d k n pc' ls st (h.set a (.inl (0, N, .inl (upd f i.toNatClampNeg x)))) Ψ) : Go E Y d k n pc ls (.int x :: .int i :: .ref a :: st) h Ψ := by
  intro p l e R s m args below meth c Q C ret H locs cells slots lsA hI hS hc hs hL
  obtain ⟨rfl, dd⟩ := hd.is (n := 0) rfl
  have hE := C.2.2.2.2.2.1
  have he := cW_get (E := E) hg
  have hP := hI.2.2
  show W p l e R s m args below meth c H locs cells slots Q (F0 m pc lsA (.int x :: .int i :: .ref (aR E a) :: st.map (cV E)))
  rw [aR_lo hI hg]
  refine W.iast C.1 C.2.1 (hP a _ he) ((hE.1.2 0 (ETc E 0, .int) rfl).1 N (fun j => .int (f j))) (fun q => by cases q) (by show ¬ (i < 0 ∨ (arrV _ _ _).slots.size ≤ _); rw [arrV_size]; exact hin) rfl rfl dd fun H1 e1 z oq => ?_
  refine K p l e R s m args below meth c Q C ret H1 _ cells slots lsA (hI.set z (hP.set cW_D he ?_ oq)) (hS.put z oq (cW_D.2 a _ he)) hc hs hL
  show H1[EB E + a]? = some (vp_cell _ _)
  rw [e1]
  show some (Cell.setSlot (vp_cell (ETc E 0) (N, .inl f)) _ _) = some (vp_cell (ETc E 0) (N, .inl (upd f i.toNatClampNeg x)))
  rw [vp_cell_i, vp_cell_i, arrV_store]
  congr 2
  funext q
  by_cases hq : q = i.toNatClampNeg
  · subst hq
    simp [updV, upd]
  · simp [updV, upd, hq]
theorem go_castore {a N : Nat} {f : Nat → Int32} {i x : Int32} (hd : Dc Y pc .castore pc') (hg : h[a]? = some (.inl (1, N, .inl f))) (hin : vp_in i N) (K : Go E Y d k n pc' ls st (h.set a (.inl (1, N, .inl (upd f i.toNatClampNeg (vp_nar .char x))))) Ψ) : Go E Y d k n pc ls (.int x :: .int i :: .ref a :: st) h Ψ := by
  intro p l e R s m args below meth c Q C ret H locs cells slots lsA hI hS hc hs hL
  obtain ⟨rfl, dd⟩ := hd.is (n := 0) rfl
  have hE := C.2.2.2.2.2.1
  have he := cW_get (E := E) hg
  have hP := hI.2.2
  show W p l e R s m args below meth c H locs cells slots Q (F0 m pc lsA (.int x :: .int i :: .ref (aR E a) :: st.map (cV E)))
  rw [aR_lo hI hg]
  refine W.cast C.1 C.2.1 (hP a _ he) ((hE.1.2 1 (ETc E 1, .char) rfl).1 N (fun j => .int (f j))) (fun q => by cases q) (by show ¬ (i < 0 ∨ (arrV _ _ _).slots.size ≤ _); rw [arrV_size]; exact hin) rfl rfl dd fun H1 e1 z oq => ?_
  refine K p l e R s m args below meth c Q C ret H1 _ cells slots lsA (hI.set z (hP.set cW_D he ?_ oq)) (hS.put z oq (cW_D.2 a _ he)) hc hs hL
  show H1[EB E + a]? = some (vp_cell _ _)
  rw [e1]
  show some (Cell.setSlot (vp_cell (ETc E 1) (N, .inl f)) _ _) = some (vp_cell (ETc E 1) (N, .inl (upd f i.toNatClampNeg (vp_nar .char x))))
  rw [vp_cell_i, vp_cell_i, arrV_store]
  congr 2
  funext q
  by_cases hq : q = i.toNatClampNeg
  · subst hq
    simp [updV, upd, vp_nar]
    try rfl
  · simp [updV, upd, hq]
theorem go_aastore {a N b : Nat} {f : Nat → Option Nat} {i : Int32} {fs : List Value} (hd : Dc Y pc .aastore pc') (hg : h[a]? = some (.inl (2, N, .inr (.inr (.inr (.inr f)))))) (hin : vp_in i N) (hb : h[b]? = some (.inr (4, fs))) (K : Go E Y d k n pc' ls st (h.set a (.inl (2, N, .inr (.inr (.inr (.inr (va_up f i.toNatClampNeg (some b)))))))) Ψ) : Go E Y d k n pc ls (.ref b :: .int i :: .ref a :: st) h Ψ := by
  intro p l e R s m args below meth c Q C ret H locs cells slots lsA hI hS hc hs hL
  obtain ⟨rfl, dd⟩ := hd.is (n := 0) rfl
  have hE := C.2.2.2.2.2.1
  have hK := hE.1
  have he := cW_get (E := E) hg
  have hv := cW_get (E := E) hb
  have hP := hI.2.2
  have eb := aR_lo hI hb
  show W p l e R s m args below meth c H locs cells slots Q (F0 m pc lsA (.ref (aR E b) :: .int i :: .ref (aR E a) :: st.map (cV E)))
  rw [aR_lo hI hg, eb]
  have hlt : i.toNatClampNeg < N := Nat.not_le.mp fun q => hin (Or.inr q)
  have h0 : ¬ i < 0 := fun q => hin (Or.inl q)
  obtain ⟨r', hr', cellV, g1, g2, g3, -⟩ := hP b _ hv
  have hcls := (hK.1 4 (RX4, TX4, 14) rfl).2
  obtain ⟨kA, comp, k1, k2, k3, -⟩ := (hK.2 2 (ETc E 2, .object RX4) rfl).2
  have hcomp : comp = (ED E).1 4 := Option.some.inj (k3.symm.trans hcls.1)
  subst hcomp
  obtain ⟨kC, hkC, -⟩ := hcls.2
  refine W.aast C.1 C.2.1 (hP a _ he) (fun q h => by cases h) (fun h => by cases h) k1 k2 rfl hkC ⟨h0, by show _ < (arrV _ _ _).slots.size; rw [arrV_size]; exact hlt⟩ g1 (fun q h => by rw [g3] at h; cases h) (by rw [g2]; exact hkC) (by rw [g2]; exact va_assign hcls) rfl rfl dd fun H1 e1 z oq => ?_
  refine K p l e R s m args below meth c Q C ret H1 _ cells slots lsA (hI.set z (hP.set cW_D he ?_ oq)) (hS.put z oq (cW_D.2 a _ he)) hc hs hL
  show H1[EB E + a]? = some (vp_cell _ _)
  rw [e1]
  show some (Cell.setSlot (vp_cell (ETc E 2) (N, .inr (.inr (.inr (.inr (fun j => (f j).map (aR E))))))) _ _) = some (vp_cell (ETc E 2) (N, .inr (.inr (.inr (.inr (fun j => (va_up f i.toNatClampNeg (some b) j).map (aR E)))))))
  rw [vp_cell_q, vp_cell_q, arrV_store]
  congr 2
  funext q
  by_cases hq : q = i.toNatClampNeg
  · subst hq
    simp [updV, va_up, va_rf, eb]
  · simp [updV, va_up, hq]

end GR
end
section
/-! ENTRY, END, CALLS AND MAKING -/
section GC
variable {E : AEnv} {Y : MI} {d k n pc pc' : Nat} {ls : List (Option Value)} {st : List Value} {h : List va_E} {Ψ : Pst}
theorem go_iret {x : Int32} {ty : FieldType} (hd : Dc Y pc .ireturn pc') (hty : Y.2.2.2 = some ty) (hn : narrow ty (.int x) = .int x) (hΨ : Ψ (some (.int x)) h) : Go E Y d k n pc ls [.int x] h Ψ := by
  intro p l e R s m args below meth c Q C ret H locs cells slots lsA hI hS hc hs hL
  obtain ⟨rfl, dd⟩ := hd.is (n := 0) rfl
  exact ret (some (.int x)) h H locs cells slots lsA pc hΨ (Or.inr (Or.inl ⟨x, ty, rfl, hty, hn⟩)) hI hS (by omega) (by omega) dd
theorem go_return (hd : Dc Y pc .return_ pc') (hty : Y.2.2.2 = none) (hΨ : Ψ none h) : Go E Y d k n pc ls [] h Ψ := by
  intro p l e R s m args below meth c Q C ret H locs cells slots lsA hI hS hc hs hL
  obtain ⟨rfl, dd⟩ := hd.is (n := 0) rfl
  exact ret none h H locs cells slots lsA pc hΨ (Or.inl ⟨rfl, hty⟩) hI hS (by omega) (by omega) dd
theorem sl_len : ∀ (vs : List Value), (∀ v ∈ vs, v.category = 1) → (lg_sl vs).length = vs.length
  | [], _ => rfl
  | v :: vs, hv => by
    have h1 := hv v List.mem_cons_self
    have h2 := sl_len vs (fun w hw => hv w (List.mem_cons_of_mem _ hw))
    have h3 : lg_sl (v :: vs) = [.val v] ++ lg_sl vs := by
      simp [lg_sl, h1]
    rw [h3, List.length_append, h2, List.length_cons]
    simp only [List.length_cons, List.length_nil]
    omega
theorem args_mem : ∀ (vs : List Value) (a i : Nat) (v : Value), (∀ w ∈ vs, w.category = 1) → vs[i]? = some v → (a + i, v) ∈ lv_args a vs
  | [], _, _, _, _, hi => by simp at hi
  | w :: vs, a, 0, v, hv, hi => by
    rw [List.getElem?_cons_zero] at hi
    cases hi
    exact List.mem_cons_self
  | w :: vs, a, i + 1, v, hv, hi => by
    rw [List.getElem?_cons_succ] at hi
    have h1 := hv w List.mem_cons_self
    have h2 := args_mem vs (a + 1) i v (fun z hz => hv z (List.mem_cons_of_mem _ hz)) hi
    show _ ∈ (a, w) :: lv_args (if w.category = 2 then a + 2 else a + 1) vs
    rw [if_neg (by omega)]
    rw [show a + (i + 1) = a + 1 + i by omega]
    exact List.mem_cons_of_mem _ h2
theorem Met_ofWF {l : Launch} {y : MethodName} {ws ws' : List Cond} {rm : Room} {Pc : Array Value → State → Prop} {Qc : Array Value → State → Outcome → State → Prop} {mc ms : Nat} {free : Addr → Prop} {cc : ByteArray} {maxL : Nat} {ret : Option FieldType}
    (hy : plainFor y = true) (hw : ws = Cond.code y cc maxL ret :: ws')
    (body : ∀ p e s m args below meth c s₁, BodyLoose p l y (headSpec ws rm) cc maxL ret e s m args below meth c s₁ → c.maxLocals = maxL → Pc args s →
      W p l e (headSpec ws rm).room s m args below meth c s.heap [] 0 0 (MQ below Qc args s mc ms free) (entryFrame m args maxL)) : Met l y ws rm Pc Qc mc ms free := by
  refine MetFree.of_bodySF (code := cc) (maxLocals := maxL) (ret := ret) hy ?_ ?_
  · intro args s m h hn
    obtain ⟨meth, c, h1, h2, h3, h4, h5, h6, -, -⟩ := Cond.code_spec hn (atoms_spec (ws := ws) h _ (by rw [hw]; exact List.mem_cons_self))
    exact ⟨meth, c, h1, h2, h3, h4, h5, h6⟩
  · intro p e s m args below meth c s₁ B hml hP _
    have hh0 : s₁.heap = s.heap := by rw [B.state]; rfl
    obtain ⟨t, a1, o, b1, b2, b3⟩ := body p e s m args below meth c s₁ B hml hP s₁ hh0 (Stand.of_body B)
    exact ⟨t, o, a1, b1, b2, ⟨b3.1, b3.2⟩⟩
theorem Calls.of {args : List Value} (hpl : plainFor Y.1 = true) (hls : args.map some ++ List.replicate (Y.2.2.1 - args.length) none = ls) (hlen : args.length ≤ Y.2.2.1) (hcat : ∀ v ∈ args, v.category = 1)
    (G : Go E Y d k n 0 ls [] h Ψ) : Calls E Y d k n args h Ψ := by
  intro l
  refine Met_ofWF (cc := Y.2.1) (maxL := Y.2.2.1) (ret := Y.2.2.2) hpl rfl ?_
  intro p e s m av below meth c s₁ B hml hv
  obtain ⟨rfl, hI, hE⟩ := hv
  have hpre := atoms_spec (ws := wsM Y) B.pre
  have C : Ctx E Y d p (rmM d k n) s m (args.map (cV E)).toArray meth c := ⟨B.exec, B.bytes, hml, findClass_of_methodNamed B.named, fun w hw => hpre w (List.mem_cons_of_mem _ hw), hE, Nat.le_refl _, Nat.le_refl _, (name_of_methodNamed B.named B.method).1⟩
  have hcat' : ∀ v ∈ args.map (cV E), v.category = 1 := by
    intro v hv
    obtain ⟨w, hw, rfl⟩ := List.mem_map.mp hv
    rw [cV_cat]
    exact hcat w hw
  have hsl := sl_len (args.map (cV E)) hcat'
  rw [List.length_map] at hsl
  have hen := lv_entry (args.map (cV E)) (n := Y.2.2.1) (by rw [hsl]; exact hlen)
  rw [lg_entry_eq]
  refine G p l e _ s m _ below meth c _ C ?_ s.heap [] 0 0 _ hI va_S.rf (by show 0 + k ≤ k; omega) (by show 0 + n ≤ n; omega) ?_
  · intro r h' H locs cells slots lsA pc hΨ hr hI' hS' hc hs hdg
    refine W.widen (k := k) (n := n) hc hs ?_
    rcases hr with ⟨rfl, h2⟩ | ⟨x, ty, rfl, h2, h3⟩ | ⟨x, rfl, h2⟩
    · exact W.vret B.exec B.bytes (B.returns.trans h2) (fun t ht hw => ⟨_, h', hΨ, rfl, by rw [ht]; exact hI', hS'.F ht⟩) hS'.2.2 hdg B.notSynchronized
    · exact W.zret B.exec B.bytes (B.returns.trans h2) h3 (fun t ht hw => ⟨_, h', hΨ, rfl, by rw [ht]; exact hI', hS'.F ht⟩) hS'.2.2 hdg B.notSynchronized
    · exact W.lret B.exec B.bytes (B.returns.trans h2) (fun t ht hw => ⟨_, h', hΨ, rfl, by rw [ht]; exact hI', hS'.F ht⟩) hS'.2.2 hdg B.notSynchronized
  · refine ⟨hen.1, hen.2.1, by rw [← hls]; simp; omega, fun i v hi => ?_⟩
    rw [← hls] at hi
    have hi2 : args[i]? = some v := by
      by_cases hl : i < args.length
      · rw [List.getElem?_append_left (by rw [List.length_map]; exact hl), List.getElem?_map] at hi
        cases hq : args[i]? with
        | none => rw [hq] at hi; cases hi
        | some w => rw [hq] at hi; cases hi; rfl
      · rw [List.getElem?_append_right (by rw [List.length_map]; omega)] at hi
        have h3 := List.mem_of_getElem? hi
        have h4 := (List.mem_replicate.mp h3).2
        cases h4
    intro _
    have h5 := args_mem (args.map (cV E)) 0 i (cV E v) hcat' (by rw [List.getElem?_map, hi2]; rfl)
    rw [Nat.zero_add] at h5
    exact hen.2.2 _ h5
section RG
variable {p : Program} {l : Launch} {e : Env} {R : Room} {s : State} {m : MethodId} {args : Array Value} {below : List Frame} {meth : Method} {c : Code} {H : Heap} {locs : List Loc} {cells slots : Nat} {Q : State → Prop}
theorem run_go {k1 n1 : Nat} {lsA : Array Slot} {st0 rest0 : List Value} {Ψ1 : Pst} {a : Array Value} (hr : va_Run p l e R s m args below meth c H locs cells slots k1 n1 (F0 m pc lsA st0) rest0 (QR E Ψ1 a) (AA E)) (hS : va_S (AA E) s.heap H locs)
    (kk : ∀ (r1 : Option Value) (h1 : List va_E) (H1 : Heap) (locs1 : List Loc), Ψ1 r1 h1 → Inv E h1 H1 → va_S (AA E) s.heap H1 locs1 → W p l e R s m args below meth c H1 locs1 (cells + k1) (slots + n1) Q (F0 m (pc + 3) lsA ((r1.map (cV E)).toList ++ rest0))) : W p l e R s m args below meth c H locs cells slots Q (F0 m pc lsA st0) := by
  intro T hT X
  obtain ⟨v, st₀, t, T', L, h0, X', hL, e1, e2, ⟨r1, h1, hΨ1, hv, hI1, hz, hk⟩, stp⟩ := hr T hT X
  cases hv
  rw [h0] at hz hk
  obtain ⟨t2, a1, b1⟩ := kk r1 h1 T'.heap (locs ++ L) hΨ1 (by rw [e1]; exact hI1) ⟨Nat.le_trans hS.1 (by rw [e1]; exact hz), fun q g1 g2 => by rw [e1, hk q (Nat.lt_of_lt_of_le g1 hS.1) g2]; exact hS.2.1 q g1 g2, fun q hq => by
      rcases List.mem_append.mp hq with g | g
      · exact hS.2.2 q g
      · exact hL q g⟩ T' rfl X'
  exact ⟨t2, stp t2 a1, b1⟩
end RG
/-- what a call of Y' by the entry idx of class own needs of the tables -/
def MLk (own : String) (idx : Nat) (Y' : MI) (nA : Nat) : Prop :=
  Cond.code Y'.1 Y'.2.1 Y'.2.2.1 Y'.2.2.2 ∈ BW ∧ Cond.initialized Y'.1.cls ∈ BW ∧ (Y'.1.cls ≠ "java/lang/invoke/MethodHandle" ∧ Y'.1.cls ≠ "java/lang/invoke/VarHandle" ∧ (parseMethodDescriptor Y'.1.desc).map (fun d => d.parameters.length) = some nA) ∧ Y'.2.2.1 ≤ 17 ∧
  (Cond.methodLink own idx Y'.1 ∈ BW ∨ ∃ host, Cond.methodLinkNest own idx Y'.1 host ∈ NW)
theorem toL {E : AEnv} {rest : List Value} (r1 : Option Value) : (r1.map (cV E)).toList ++ rest.map (cV E) = (r1.toList ++ rest).map (cV E) := by cases r1 <;> rfl
theorem go_callS {idx nA k1 n1 : Nat} {Y' : MI} {As rest : List Value} {Ψ1 : Pst} (hd : Dc Y pc (.invokestatic idx) pc') (hM : MLk Y.1.cls idx Y' nA) (hstat : Cond.static Y'.1 ∈ BW) (hd1 : 1 ≤ d) (hC : Calls E Y' (d - 1) k1 n1 As h Ψ1) (hn : As.length = nA) (hcat : (rest.map fun v => v.category).sum ≤ 8)
    (K : ∀ r1 h1, Ψ1 r1 h1 → Go E Y d k n pc' ls (r1.toList ++ rest) h1 Ψ) : Go E Y d (k1 + k) (n1 + n) pc ls (As.reverse ++ rest) h Ψ := by
  intro p l e R s m args below meth c Q C ret H locs cells slots lsA hI hS hc hs hL
  obtain ⟨rfl, dd⟩ := hd.is (n := 2) rfl
  obtain ⟨m1, m2, m3, m4, m5⟩ := hM
  have hE := C.2.2.2.2.2.1
  have hts := C.2.2.2.2.1
  have hR : (rmM (d - 1) k1 n1).frames + 1 ≤ R.frames ∧ 8 + (Y'.2.2.1 + 11) + (rmM (d - 1) k1 n1).locals ≤ R.locals := by
    have h5 := C.2.2.2.2.2.2.1
    have h6 := C.2.2.2.2.2.2.2.1
    show d - 1 + 1 ≤ R.frames ∧ 8 + (Y'.2.2.1 + 11) + (36 * (d - 1) + 20) ≤ R.locals
    omega
  have hp : PreS s H (va_Pc (As.map (cV E)) (fun U => Inv E h U.heap ∧ EnvOK E U)) (As.map (cV E)) := ⟨FB_ok, fun U hU hW => ⟨rfl, by rw [hU]; exact hI, hE.next hW (by rw [hU]; exact hS)⟩⟩
  have hst : (F0 m pc lsA ((As.reverse ++ rest).map (cV E))).stack = (As.map (cV E)).reverse ++ rest.map (cV E) := by
    show (As.reverse ++ rest).map (cV E) = _
    rw [List.map_append, List.map_reverse]
  have hrm : 2 * (F0 m pc lsA ((As.reverse ++ rest).map (cV E))).monitorRoom + ((rest.map (cV E)).map fun v => v.category).sum ≤ 8 := lv_room (by rw [cV_sum]; exact hcat)
  have kk : ∀ (r1 : Option Value) (h1 : List va_E) (H1 : Heap) (locs1 : List Loc), Ψ1 r1 h1 → Inv E h1 H1 → va_S (AA E) s.heap H1 locs1 → W p l e R s m args below meth c H1 locs1 (cells + k1) (slots + n1) Q (F0 m (pc + 3) lsA ((r1.map (cV E)).toList ++ rest.map (cV E))) := by
    intro r1 h1 H1 locs1 hΨ1 hI1 hS1
    rw [toL]
    exact K r1 h1 hΨ1 p l e R s m args below meth c Q C ret H1 locs1 (cells + k1) (slots + n1) lsA hI1 hS1 (by omega) (by omega) hL
  rcases m5 with m5 | ⟨host, m5⟩
  · refine run_go (va_runS ⟨C.1, C.2.1, C.2.2.1, C.2.2.2.1, hts⟩ (hC l) ⟨callB_of nA hts (goodIn_BW m1) rfl rfl rfl (hts _ m2) (hts _ m5) m3 hR, hts _ hstat⟩ hp rfl (by rw [List.length_map]; exact hn) hL.1 hst hrm dd ⟨by omega, by omega⟩) hS kk
  · refine run_go (va_runSN ⟨C.1, C.2.1, C.2.2.1, C.2.2.2.1, hts⟩ (hC l) ⟨va_cnB nA hts (goodIn_BW m1) rfl rfl rfl (hE.2.1 _ m5) (hts _ m2) m3 hR, hts _ hstat, trivial⟩ hp rfl (by rw [List.length_map]; exact hn) hL.1 hst hrm dd ⟨by omega, by omega⟩) hS kk
theorem go_callV {idx nA k1 n1 b ci N : Nat} {T : u_T} {fs : List Value} {Y' : MI} {As rest : List Value} {Ψ1 : Pst} (hd : Dc Y pc (.invokevirtual idx) pc') (hM : MLk Y.1.cls idx Y' nA) (hinst : Cond.instanceMethod Y'.1 ∈ BW ∧ Cond.selects Y'.1.cls Y'.1 Y'.1 ∈ BW) (hd1 : 1 ≤ d) (hC : Calls E Y' (d - 1) k1 n1 (.ref b :: As) h Ψ1)
    (hrec : h[b]? = some (.inr (ci, fs))) (hci : vwCl[ci]? = some (Y'.1.cls, T, N)) (hn : As.length = nA) (hcat : (rest.map fun v => v.category).sum ≤ 8)
    (K : ∀ r1 h1, Ψ1 r1 h1 → Go E Y d k n pc' ls (r1.toList ++ rest) h1 Ψ) : Go E Y d (k1 + k) (n1 + n) pc ls (As.reverse ++ .ref b :: rest) h Ψ := by
  intro p l e R s m args below meth c Q C ret H locs cells slots lsA hI hS hc hs hL
  obtain ⟨rfl, dd⟩ := hd.is (n := 2) rfl
  obtain ⟨m1, m2, m3, m4, m5⟩ := hM
  have hE := C.2.2.2.2.2.1
  have hts := C.2.2.2.2.1
  have hR : (rmM (d - 1) k1 n1).frames + 1 ≤ R.frames ∧ 8 + (Y'.2.2.1 + 11) + (rmM (d - 1) k1 n1).locals ≤ R.locals := by
    have h5 := C.2.2.2.2.2.2.1
    have h6 := C.2.2.2.2.2.2.2.1
    show d - 1 + 1 ≤ R.frames ∧ 8 + (Y'.2.2.1 + 11) + (36 * (d - 1) + 20) ≤ R.locals
    omega
  have hrv := va_recv hE.1 hI.2.2 hci (cW_get (E := E) hrec)
  rw [← aR_lo hI hrec] at hrv
  have hp : PreV s H Y'.1.cls (aR E b) (va_Pc ((Value.ref b :: As).map (cV E)) (fun U => Inv E h U.heap ∧ EnvOK E U)) (As.map (cV E)) := ⟨FB_ok, hrv, fun U hU hW => ⟨rfl, by rw [hU]; exact hI, hE.next hW (by rw [hU]; exact hS)⟩⟩
  have hst : (F0 m pc lsA ((As.reverse ++ .ref b :: rest).map (cV E))).stack = (As.map (cV E)).reverse ++ .ref (aR E b) :: rest.map (cV E) := by
    show (As.reverse ++ .ref b :: rest).map (cV E) = _
    rw [List.map_append, List.map_reverse]
    rfl
  have hrm : 2 * (F0 m pc lsA ((As.reverse ++ .ref b :: rest).map (cV E))).monitorRoom + ((rest.map (cV E)).map fun v => v.category).sum ≤ 8 := lv_room (by rw [cV_sum]; exact hcat)
  have kk : ∀ (r1 : Option Value) (h1 : List va_E) (H1 : Heap) (locs1 : List Loc), Ψ1 r1 h1 → Inv E h1 H1 → va_S (AA E) s.heap H1 locs1 → W p l e R s m args below meth c H1 locs1 (cells + k1) (slots + n1) Q (F0 m (pc + 3) lsA ((r1.map (cV E)).toList ++ rest.map (cV E))) := by
    intro r1 h1 H1 locs1 hΨ1 hI1 hS1
    rw [toL]
    exact K r1 h1 hΨ1 p l e R s m args below meth c Q C ret H1 locs1 (cells + k1) (slots + n1) lsA hI1 hS1 (by omega) (by omega) hL
  rcases m5 with m5 | ⟨host, m5⟩
  · refine run_go (va_runV ⟨C.1, C.2.1, C.2.2.1, C.2.2.2.1, hts⟩ (hC l) ⟨callB_of nA hts (goodIn_BW m1) rfl rfl rfl (hts _ m2) (hts _ m5) m3 hR, hts _ hinst.1, hts _ hinst.2⟩ hp rfl (by rw [List.length_map]; exact hn) hL.1 hst hrm dd ⟨by omega, by omega⟩) hS kk
  · refine run_go (va_runVN ⟨C.1, C.2.1, C.2.2.1, C.2.2.2.1, hts⟩ (hC l) ⟨va_cnB nA hts (goodIn_BW m1) rfl rfl rfl (hE.2.1 _ m5) (hts _ m2) m3 hR, hts _ hinst.1, hts _ hinst.2⟩ hp rfl (by rw [List.length_map]; exact hn) hL.1 hst hrm dd ⟨by omega, by omega⟩) hS kk
theorem go_callI {idx nA k1 n1 b : Nat} {y : MethodName} {bs : ByteArray} {mL : Nat} {As rest : List Value} {P1 : List va_E → Prop} (hd : Dc Y pc (.invokespecial idx) pc') (hM : MLk Y.1.cls idx (y, bs, mL, none) nA) (hinst : y.name = "<init>" ∧ Cond.instanceMethod y ∈ BW) (hd1 : 1 ≤ d) (hC : Calls E (y, bs, mL, none) (d - 1) k1 n1 (.ref b :: As) h (fun r1 h1 => r1 = none ∧ P1 h1))
    (hn : As.length = nA) (hcat : (rest.map fun v => v.category).sum ≤ 8)
    (K : ∀ h1, P1 h1 → Go E Y d k n pc' ls rest h1 Ψ) : Go E Y d (k1 + k) (n1 + n) pc ls (As.reverse ++ .ref b :: rest) h Ψ := by
  intro p l e R s m args below meth c Q C ret H locs cells slots lsA hI hS hc hs hL
  obtain ⟨rfl, dd⟩ := hd.is (n := 2) rfl
  obtain ⟨m1, m2, m3, m4, m5⟩ := hM
  have hE := C.2.2.2.2.2.1
  have hts := C.2.2.2.2.1
  have hR : (rmM (d - 1) k1 n1).frames + 1 ≤ R.frames ∧ 8 + (mL + 11) + (rmM (d - 1) k1 n1).locals ≤ R.locals := by
    have h5 := C.2.2.2.2.2.2.1
    have h6 := C.2.2.2.2.2.2.2.1
    have h7 : mL ≤ 17 := m4
    show d - 1 + 1 ≤ R.frames ∧ 8 + (mL + 11) + (36 * (d - 1) + 20) ≤ R.locals
    omega
  have hp : PreS s H (va_Pc ((Value.ref b :: As).map (cV E)) (fun U => Inv E h U.heap ∧ EnvOK E U)) (.ref (aR E b) :: As.map (cV E)) := ⟨FB_ok, fun U hU hW => ⟨rfl, by rw [hU]; exact hI, hE.next hW (by rw [hU]; exact hS)⟩⟩
  have hst : (F0 m pc lsA ((As.reverse ++ .ref b :: rest).map (cV E))).stack = (As.map (cV E)).reverse ++ .ref (aR E b) :: rest.map (cV E) := by
    show (As.reverse ++ .ref b :: rest).map (cV E) = _
    rw [List.map_append, List.map_reverse]
    rfl
  have hrm : 2 * (F0 m pc lsA ((As.reverse ++ .ref b :: rest).map (cV E))).monitorRoom + ((rest.map (cV E)).map fun v => v.category).sum ≤ 8 := lv_room (by rw [cV_sum]; exact hcat)
  have kk : ∀ (r1 : Option Value) (h1 : List va_E) (H1 : Heap) (locs1 : List Loc), (r1 = none ∧ P1 h1) → Inv E h1 H1 → va_S (AA E) s.heap H1 locs1 → W p l e R s m args below meth c H1 locs1 (cells + k1) (slots + n1) Q (F0 m (pc + 3) lsA ((r1.map (cV E)).toList ++ rest.map (cV E))) := by
    intro r1 h1 H1 locs1 hΨ1 hI1 hS1
    obtain ⟨rfl, hΨ1⟩ := hΨ1
    exact K h1 hΨ1 p l e R s m args below meth c Q C ret H1 locs1 (cells + k1) (slots + n1) lsA hI1 hS1 (by omega) (by omega) hL
  rcases m5 with m5 | ⟨host, m5⟩
  · refine run_go (va_runI ⟨C.1, C.2.1, C.2.2.1, C.2.2.2.1, hts⟩ (hC l) ⟨callB_of nA hts (goodIn_BW m1) rfl rfl rfl (hts _ m2) (hts _ m5) m3 hR, hinst.1, hts _ hinst.2⟩ hp rfl (by rw [List.length_map]; exact hn) hL.1 hst hrm dd ⟨by omega, by omega⟩) hS kk
  · refine run_go (va_runIN ⟨C.1, C.2.1, C.2.2.1, C.2.2.2.1, hts⟩ (hC l) ⟨va_cnB nA hts (goodIn_BW m1) rfl rfl rfl (hE.2.1 _ m5) (hts _ m2) m3 hR, hinst.1, hts _ hinst.2⟩ hp rfl (by rw [List.length_map]; exact hn) hL.1 hst hrm dd ⟨by omega, by omega⟩) hS kk
theorem go_objInit {idx a : Nat} (hd : Dc Y pc (.invokespecial idx) pc') (hlk : Cond.methodLink Y.1.cls idx objectInit ∈ BW) (hin : Cond.instanceMethod objectInit ∈ BW) (hco : Cond.code objectInit ⟨#[0xb1]⟩ 1 none ∈ BW) (hd1 : 1 ≤ d) (hcat : (st.map fun v => v.category).sum ≤ 8) (K : Go E Y d k n pc' ls st h Ψ) : Go E Y d k n pc ls (.ref a :: st) h Ψ := by
  intro p l e R s m args below meth c Q C ret H locs cells slots lsA hI hS hc hs hL
  obtain ⟨rfl, dd⟩ := hd.is (n := 2) rfl
  have hts := C.2.2.2.2.1
  have h5 := C.2.2.2.2.2.2.1
  have h6 := C.2.2.2.2.2.2.2.1
  have hrm : 2 * (F0 m pc lsA (.ref (aR E a) :: st.map (cV E))).monitorRoom + ((st.map (cV E)).map fun v => v.category).sum ≤ 8 := lv_room (by rw [cV_sum]; exact hcat)
  exact W.objInit C.1 C.2.1 C.2.2.2.1 (hts _ hlk) (hts _ hin) (hts _ hco) rfl (hL.1.trans C.2.2.1.symm) rfl dd (by omega) (by show 2 * (F0 m pc lsA (.ref (aR E a) :: st.map (cV E))).monitorRoom + ((st.map (cV E)).map fun v => v.category).sum + 12 ≤ R.locals; omega) (K p l e R s m args below meth c Q C ret H locs cells slots lsA hI hS hc hs hL)
theorem Inv.push {H H1 : Heap} {e : va_E} (hI : Inv E h H) (hlen : h.length < BIGN) (z : H1.size = H.size + 1) (oq : ∀ q : Nat, q < H.size → H1[q]? = H[q]?) (he : va_at (ED E) vwCl (EB E + h.length, cE E e) H1) : Inv E (h ++ [e]) H1 := by
  obtain ⟨h1, h2, h3⟩ := hI
  refine ⟨by simp; omega, by simp; omega, ?_⟩
  rw [← cW_app]
  refine (h3.kept fun q x hx => oq x.1 ((h3 q x hx).lt)).app (fun q x hx => ?_)
  have hz : q < 1 := (List.getElem?_eq_some_iff.mp hx).1
  rw [show q = 0 by omega] at hx
  cases hx
  exact he
theorem va_S.grow {A : Nat → Prop} {H0 H H1 : Heap} {locs : List Loc} (hS : va_S A H0 H locs) (z : H1.size = H.size + 1) (oq : ∀ q : Nat, q < H.size → H1[q]? = H[q]?) : va_S A H0 H1 locs :=
  ⟨Nat.le_trans hS.1 (by omega), fun q g1 g2 => (oq q (Nat.lt_of_lt_of_le g1 hS.1)).trans (hS.2.1 q g1 g2), hS.2.2⟩
theorem aR_new {H : Heap} (hI : Inv E h H) (hlen : h.length < BIGN) : H.size = aR E h.length := by
  unfold aR
  rw [if_pos hlen]
  exact hI.2.1
theorem go_new {idx ci N : Nat} {C0 : String} {T : u_T} {fs : List Value} (hd : Dc Y pc (.new idx) pc') (hcl : vwCl[ci]? = some (C0, T, N)) (hlk : Cond.classLink Y.1.cls idx C0 ∈ BW) (hin : Cond.instantiable C0 N ∈ BW) (hini : Cond.initialized C0 ∈ BW) (hfs : ∀ j, j < N → defaultValue (clTy ci j) = vp_V fs j) (hno : fs.map (cV E) = fs) (hlen : h.length < BIGN)
    (K : Go E Y d k n pc' ls (.ref h.length :: st) (h ++ [.inr (ci, fs)]) Ψ) : Go E Y d (1 + k) (N + n) pc ls st h Ψ := by
  intro p l e R s m args below meth c Q C ret H locs cells slots lsA hI hS hc hs hL
  obtain ⟨rfl, dd⟩ := hd.is (n := 2) rfl
  have hE := C.2.2.2.2.2.1
  have hts := C.2.2.2.2.1
  obtain ⟨hty0, hnm⟩ := clTy_ok ci _ _ _ hcl
  have hKn := hE.1.1 ci _ hcl
  refine W.newcK C.1 C.2.1 C.2.2.2.1 (hts _ hlk) (hts _ hin) (hts _ hini) rfl dd (by omega) (by omega) hKn.2.1 (aR_new hI hlen) fun H1 kC hkC e1 z1 o1 => ?_
  have hz : H.size = aR E h.length := aR_new hI hlen
  have e2 : aR E h.length = EB E + h.length := by rw [← hz]; exact hI.2.1
  refine K p l e R s m args below meth c Q C ret H1 locs (cells + 1) (slots + N) lsA (hI.push hlen (by rw [z1, hz]) (fun q hq => o1 q (by rw [← hz]; exact hq)) ?_) (hS.grow (by rw [z1, hz]) (fun q hq => o1 q (by rw [← hz]; exact hq))) (by omega) (by omega) hL
  rw [← e2]
  refine ⟨_, hcl, (u_born (clTy ci) hts (cl_ok ci _ hcl) hKn hkC e1 hty0).to ?_⟩
  intro j hj
  rw [hfs j hj]
  show _ = vp_V (fs.map (cV E)) j
  rw [hno]
theorem go_newint {N : Nat} {x : Int32} (hd : Dc Y pc (.newarray .int) pc') (harr : Cond.arrayClass .int ∈ BW) (hx : ¬ x < 0) (hN : x.toNatClampNeg = N) (hb : N * 4 ≤ 536870912) (hlen : h.length < BIGN)
    (K : Go E Y d k n pc' ls (.ref h.length :: st) (h ++ [.inl (0, N, .inl (fun _ => 0))]) Ψ) : Go E Y d (1 + k) (N + n) pc ls (.int x :: st) h Ψ := by
  intro p l e R s m args below meth c Q C ret H locs cells slots lsA hI hS hc hs hL
  obtain ⟨rfl, dd⟩ := hd.is (n := 1) rfl
  have hE := C.2.2.2.2.2.1
  have hts := C.2.2.2.2.1
  have hz : H.size = aR E h.length := aR_new hI hlen
  have e2 : aR E h.length = EB E + h.length := by rw [← hz]; exact hI.2.1
  refine va_newaK (atype := .int) C.1 C.2.1 (hts _ harr) rfl dd rfl hx hN hb (by omega) (by omega) hz fun H1 cA e1 z1 o1 hAr hNm => ?_
  have hcA : cA = ETc E 0 := Option.some.inj (hNm.symm.trans (hE.1.2 0 (ETc E 0, .int) rfl).2)
  refine K p l e R s m args below meth c Q C ret H1 locs (cells + 1) (slots + N) lsA (hI.push hlen (by rw [z1, hz]) (fun q hq => o1 q (by rw [← hz]; exact hq)) ?_) (hS.grow (by rw [z1, hz]) (fun q hq => o1 q (by rw [← hz]; exact hq))) (by omega) (by omega) hL
  rw [← e2]
  show H1[aR E h.length]? = some (vp_cell (ETc E 0) (N, .inl (fun _ => 0)))
  rw [e1, hcA]
  rfl
theorem go_newchar {N : Nat} {x : Int32} (hd : Dc Y pc (.newarray .char) pc') (harr : Cond.arrayClass .char ∈ BW) (hx : ¬ x < 0) (hN : x.toNatClampNeg = N) (hb : N * 2 ≤ 536870912) (hlen : h.length < BIGN)
    (K : Go E Y d k n pc' ls (.ref h.length :: st) (h ++ [.inl (1, N, .inl (fun _ => 0))]) Ψ) : Go E Y d (1 + k) (N + n) pc ls (.int x :: st) h Ψ := by
  intro p l e R s m args below meth c Q C ret H locs cells slots lsA hI hS hc hs hL
  obtain ⟨rfl, dd⟩ := hd.is (n := 1) rfl
  have hE := C.2.2.2.2.2.1
  have hts := C.2.2.2.2.1
  have hz : H.size = aR E h.length := aR_new hI hlen
  have e2 : aR E h.length = EB E + h.length := by rw [← hz]; exact hI.2.1
  refine va_newaK (atype := .char) C.1 C.2.1 (hts _ harr) rfl dd rfl hx hN hb (by omega) (by omega) hz fun H1 cA e1 z1 o1 hAr hNm => ?_
  have hcA : cA = ETc E 1 := Option.some.inj (hNm.symm.trans (hE.1.2 1 (ETc E 1, .char) rfl).2)
  refine K p l e R s m args below meth c Q C ret H1 locs (cells + 1) (slots + N) lsA (hI.push hlen (by rw [z1, hz]) (fun q hq => o1 q (by rw [← hz]; exact hq)) ?_) (hS.grow (by rw [z1, hz]) (fun q hq => o1 q (by rw [← hz]; exact hq))) (by omega) (by omega) hL
  rw [← e2]
  show H1[aR E h.length]? = some (vp_cell (ETc E 1) (N, .inl (fun _ => 0)))
  rw [e1, hcA]
  rfl
theorem go_newStates {idx N : Nat} {x : Int32} (hd : Dc Y pc (.anewarray idx) pc') (hlk : Cond.classLink Y.1.cls idx RX4 ∈ BW) (hx : ¬ x < 0) (hN : x.toNatClampNeg = N) (hb : N * 4 ≤ 536870912) (hlen : h.length < BIGN)
    (K : Go E Y d k n pc' ls (.ref h.length :: st) (h ++ [.inl (2, N, .inr (.inr (.inr (.inr (fun _ => none)))))]) Ψ) : Go E Y d (1 + k) (N + n) pc ls (.int x :: st) h Ψ := by
  intro p l e R s m args below meth c Q C ret H locs cells slots lsA hI hS hc hs hL
  obtain ⟨rfl, dd⟩ := hd.is (n := 2) rfl
  have hE := C.2.2.2.2.2.1
  have hts := C.2.2.2.2.1
  have hz : H.size = aR E h.length := aR_new hI hlen
  have e2 : aR E h.length = EB E + h.length := by rw [← hz]; exact hI.2.1
  subst hN
  refine W.anew C.1 C.2.1 C.2.2.2.1 (hts _ hlk) (va_AO.use hE.2.2.1) rfl dd rfl hx hb (by omega) (by omega) fun cA kA comp f1 f2 f3 f4 => ?_
  obtain ⟨kA', comp', g1, g2, g3, g4⟩ := (hE.1.2 2 (ETc E 2, .object RX4) rfl).2
  have hcA : cA = ETc E 2 := Option.some.inj (f1.symm.trans g4)
  subst hcA
  generalize hH1 : H.push ({ cls := ETc E 2, slots := Array.replicate x.toNatClampNeg .null, vm := .none } : Cell) = H1
  have z1 : H1.size = H.size + 1 := by rw [← hH1, Array.size_push]
  have e1 : H1[H.size]? = some (arrV (ETc E 2) x.toNatClampNeg (fun _ => .null)) := by rw [← hH1, Array.getElem?_push_size, ← arrV_new]
  have o1 : ∀ q : Nat, q < H.size → H1[q]? = H[q]? := fun q hq => by rw [← hH1, Array.getElem?_push, if_neg (Nat.ne_of_lt hq)]
  show W p l e R s m args below meth c H1 locs (cells + 1) (slots + x.toNatClampNeg) Q (F0 m (pc + 3) lsA (.ref H.size :: st.map (cV E)))
  rw [hz]
  refine K p l e R s m args below meth c Q C ret H1 locs (cells + 1) (slots + x.toNatClampNeg) lsA (hI.push hlen z1 o1 ?_) (hS.grow z1 o1) (by omega) (by omega) hL
  rw [← e2, ← hz]
  exact e1
theorem go_arraycopy {idx a0 a n0 n1 : Nat} {f g : Nat → Int32} {sp dp x : Int32} (hd : Dc Y pc (.invokestatic idx) pc') (hlk : Cond.methodLink Y.1.cls idx arraycopyName ∈ BW) (hnat : Cond.native arraycopyName ∈ BW) (hstat : Cond.static arraycopyName ∈ BW) (hini : Cond.initialized "java/lang/System" ∈ BW)
    (ha0 : h[a0]? = some (.inl (0, n0, .inl f))) (ha1 : h[a]? = some (.inl (0, n1, .inl g))) (h1 : ¬ sp < 0) (h2 : ¬ dp < 0) (h3 : ¬ x < 0) (h4 : sp.toNatClampNeg + x.toNatClampNeg ≤ n0) (h5 : dp.toNatClampNeg + x.toNatClampNeg ≤ n1) (hd1 : 1 ≤ d) (hcat : (st.map fun v => v.category).sum ≤ 8)
    (K : Go E Y d k n pc' ls st (h.set a (.inl (0, n1, .inl (va_cpy f g sp.toNatClampNeg dp.toNatClampNeg x.toNatClampNeg)))) Ψ) : Go E Y d k n pc ls (.int x :: .int dp :: .ref a :: .int sp :: .ref a0 :: st) h Ψ := by
  intro p l e R s m args below meth c Q C ret H locs cells slots lsA hI hS hc hs hL
  obtain ⟨rfl, dd⟩ := hd.is (n := 2) rfl
  have hE := C.2.2.2.2.2.1
  have hts := C.2.2.2.2.1
  have hK := hE.1
  have w0 := cW_get (E := E) ha0
  have w1 := cW_get (E := E) ha1
  have hP := hI.2.2
  have r5 := C.2.2.2.2.2.2.1
  have r6 := C.2.2.2.2.2.2.2.1
  show W p l e R s m args below meth c H locs cells slots Q (F0 m pc lsA (.int x :: .int dp :: .ref (aR E a) :: .int sp :: .ref (aR E a0) :: st.map (cV E)))
  rw [aR_lo hI ha0, aR_lo hI ha1]
  have nn : ∀ z : Int32, ¬ z < 0 → z.toInt = (z.toNatClampNeg : Int) := by
    intro z hz
    have hz0 : (0 : Int) ≤ z.toInt := by
      have := Int32.not_lt.mp hz
      simpa using Int32.le_iff_toInt_le.mp this
    show z.toInt = ((z.toInt.toNat : Nat) : Int)
    omega
  intro T hT X
  have hc0 : H[EB E + a0]? = some (vp_cell (ETc E 0) (n0, .inl f)) := hP a0 _ w0
  have hc1 : H[EB E + a]? = some (vp_cell (ETc E 0) (n1, .inl g)) := hP a _ w1
  obtain ⟨-, k0, hk0, cm0, hkk0⟩ := (hK.2 0 (ETc E 0, .int) rfl).1 n0 (fun j => .int (f j))
  obtain ⟨-, k1, hk1, cm1, hkk1⟩ := (hK.2 0 (ETc E 0, .int) rfl).1 n1 (fun j => .int (g j))
  have hcs : ((st.map (cV E)).map fun v => v.category).sum ≤ 8 := by rw [cV_sum]; exact hcat
  have hnw : nativeFrameWords "java/lang/System" "arraycopy" 5 + 11 ≤ 36 := by decide +kernel
  obtain ⟨vm', X', step⟩ := X.arraycopy C.1 C.2.2.2.1 (hts _ hlk) (hts _ hnat) (hts _ hstat) (hts _ hini) (src := EB E + a0) (dst := EB E + a) (cs := vp_cell (ETc E 0) (n0, .inl f)) (cd := vp_cell (ETc E 0) (n1, .inl g)) (srcPos := sp) (destPos := dp) (n := x) (by rw [hT]; exact hc0) (by rw [hT]; exact hc1)
    (fun _ h => by cases h) (fun _ h => by cases h) (fun h => by cases h) (fun h => by cases h) hk0 hk1 hkk0 hkk1 (by simp [show refKind FieldType.int = false from rfl]) h1 h2 h3
    (by rw [nn sp h1, nn x h3]; show ¬ _ > ((arrV (ETc E 0) n0 (fun j => .int (f j))).slots.size : Int); rw [arrV_size]; omega)
    (by rw [nn dp h2, nn x h3]; show ¬ _ > ((arrV (ETc E 0) n1 (fun j => .int (g j))).slots.size : Int); rw [arrV_size]; omega)
    (fun vm₁ _ i hi => by
      have ee : (vp_cell (ETc E 0) (n0, .inl f)).slots.getD (sp.toNatClampNeg + i) .null = .int (f (sp.toNatClampNeg + i)) := by
        show (arrV (ETc E 0) n0 (fun j => .int (f j))).slots.getD _ _ = _
        rw [Array.getD_eq_getD_getElem?, arrV_read _ _ (by omega)]
        rfl
      refine ⟨?_, ?_⟩
      · rw [ee]
        rfl
      · rw [ee]
        exact trivial)
    (g := F0 m pc lsA (.int x :: .int dp :: .ref (EB E + a) :: .int sp :: .ref (EB E + a0) :: st.map (cV E))) rfl (by show lsA.size = c.maxLocals; rw [C.2.2.1]; exact hL.1) (rest := st.map (cV E)) rfl (by rw [C.2.1]; exact dd) (by omega) (by show 2 * 0 + _ + _ ≤ _; omega)
  have e1 : copied (vp_cell (ETc E 0) (n0, .inl f)) (vp_cell (ETc E 0) (n1, .inl g)) sp dp x = vp_cell (ETc E 0) (n1, .inl (va_cpy f g sp.toNatClampNeg dp.toNatClampNeg x.toNatClampNeg)) := va_copied (fun z => .int z) (ETc E 0) (ETc E 0) f g h4
  rw [e1] at X' step
  have hl : EB E + a < H.size := (Array.getElem?_eq_some_iff.mp hc1).1
  have hheap : ((T.setVm vm').setCell (EB E + a) (vp_cell (ETc E 0) (n1, .inl (va_cpy f g sp.toNatClampNeg dp.toNatClampNeg x.toNatClampNeg)))).heap = H.setIfInBounds (EB E + a) (vp_cell (ETc E 0) (n1, .inl (va_cpy f g sp.toNatClampNeg dp.toNatClampNeg x.toNatClampNeg))) := by rw [← hT]; rfl
  have oq : ∀ q : Nat, q ≠ EB E + a → (H.setIfInBounds (EB E + a) (vp_cell (ETc E 0) (n1, .inl (va_cpy f g sp.toNatClampNeg dp.toNatClampNeg x.toNatClampNeg))))[q]? = H[q]? := fun q hq => by simp [Array.getElem?_setIfInBounds, Ne.symm hq]
  have hI2 : Inv E (h.set a (.inl (0, n1, .inl (va_cpy f g sp.toNatClampNeg dp.toNatClampNeg x.toNatClampNeg)))) (H.setIfInBounds (EB E + a) (vp_cell (ETc E 0) (n1, .inl (va_cpy f g sp.toNatClampNeg dp.toNatClampNeg x.toNatClampNeg)))) :=
    hI.set (by simp) (hP.set cW_D w1 (show (H.setIfInBounds (EB E + a) _)[EB E + a]? = some _ by simp [Array.getElem?_setIfInBounds, hl]; rfl) oq)
  obtain ⟨t, a1, b1⟩ := K p l e R s m args below meth c Q C ret _ _ cells slots lsA hI2 ⟨by simp; exact hS.1, fun q g1 g2 => by
      rw [oq q (fun e => g2 (by rw [e]; exact cW_D.2 a _ w1))]
      exact hS.2.1 q g1 g2, fun q hq => by
      rcases List.mem_append.mp hq with h | h
      · exact hS.2.2 q h
      · obtain ⟨z, -, hz⟩ := List.mem_map.mp h
        rw [← hz]
        exact cW_D.2 a _ w1⟩ hc hs hL _ hheap X'
  exact ⟨t, step t a1, b1⟩
end GC
end
section
/-! METHODS: name, bytes, locals, what they return; their instructions; links. By program (wip/whole/gen/mk05.py). -/
def mX0_init : MI := (yX0_init, cX0_init, 1, none)
def lX0_init : List (Nat × Instr × Nat) := [(0, .aload_n 0, 1), (1, .invokespecial 3, 4), (4, .aload_n 0, 5), (5, .bipush 6, 7), (7, .newarray .int, 9), (9, .putfield 9, 12), (12, .aload_n 0, 13), (13, .bipush 6, 15), (15, .newarray .int, 17), (17, .putfield 15, 20), (20, .aload_n 0, 21), (21, .iconst 0, 22), (22, .putfield 18, 25), (25, .return_, 26)]
def mX0_span : MI := (yX0_span, cX0_span, 6, none)
def lX0_span : List (Nat × Instr × Nat) := [(0, .aload_n 0, 1), (1, .iconst 0, 2), (2, .putfield 18, 5), (5, .iconst 0, 6), (6, .istore_n 3, 7), (7, .iload_n 3, 8), (8, .aload_n 1, 9), (9, .invokevirtual 22, 12), (12, .if_icmp .ge 94, 15), (15, .iload_n 2, 16), (16, .iload_n 3, 17), (17, .ishr, 18), (18, .iconst 1, 19), (19, .iand, 20), (20, .ifCond .eq 15, 23), (23, .aload_n 0, 24), (24, .aload_n 1, 25), (25, .iload_n 3, 26), (26, .invokevirtual 28, 29), (29, .invokevirtual 32, 32), (32, .goto 4, 35), (35, .iconst 0, 36), (36, .istore 4, 38), (38, .iload 4, 40), (40, .ifCond .eq 60, 43), (43, .aload_n 0, 44), (44, .getfield 18, 47), (47, .bipush 6, 49), (49, .if_icmp .ge 51, 52), (52, .iload 4, 54), (54, .invokestatic 35, 57), (57, .istore 5, 59), (59, .aload_n 0, 60), (60, .getfield 9, 63), (63, .aload_n 0, 64), (64, .getfield 18, 67), (67, .iload 4, 69), (69, .iload 5, 71), (71, .invokestatic 38, 74), (74, .invokestatic 42, 77), (77, .aload_n 0, 78), (78, .getfield 15, 81), (81, .aload_n 0, 82), (82, .getfield 18, 85), (85, .iload 5, 87), (87, .invokestatic 42, 90), (90, .aload_n 0, 91), (91, .dup, 92), (92, .getfield 18, 95), (95, .iconst 1, 96), (96, .iadd, 97), (97, .putfield 18, 100), (100, .iinc 3 1, 103), (103, .goto (-96), 106), (106, .return_, 107)]
def mX0_restOf : MI := (yX0_restOf, cX0_restOf, 4, (some .int))
def lX0_restOf : List (Nat × Instr × Nat) := [(0, .iload_n 1, 1), (1, .istore_n 2, 2), (2, .iconst 0, 3), (3, .istore_n 3, 4), (4, .iload_n 3, 5), (5, .aload_n 0, 6), (6, .getfield 18, 9), (9, .if_icmp .ge 35, 12), (12, .iload_n 2, 13), (13, .aload_n 0, 14), (14, .getfield 9, 17), (17, .iload_n 3, 18), (18, .invokestatic 46, 21), (21, .iload_n 2, 22), (22, .aload_n 0, 23), (23, .getfield 15, 26), (26, .iload_n 3, 27), (27, .invokestatic 46, 30), (30, .invokestatic 50, 33), (33, .invokestatic 53, 36), (36, .ixor, 37), (37, .istore_n 2, 38), (38, .iinc 3 1, 41), (41, .goto (-37), 44), (44, .iload_n 2, 45), (45, .ireturn, 46)]
def mX1_init : MI := (yX1_init, cX1_init, 1, none)
def lX1_init : List (Nat × Instr × Nat) := [(0, .aload_n 0, 1), (1, .invokespecial 3, 4), (4, .aload_n 0, 5), (5, .bipush 60, 7), (7, .newarray .char, 9), (9, .putfield 9, 12), (12, .aload_n 0, 13), (13, .iconst 0, 14), (14, .putfield 15, 17), (17, .aload_n 0, 18), (18, .iconst 0, 19), (19, .putfield 19, 22), (22, .aload_n 0, 23), (23, .iconst 0, 24), (24, .putfield 22, 27), (27, .aload_n 0, 28), (28, .iconst 0, 29), (29, .putfield 25, 32), (32, .aload_n 0, 33), (33, .iconst 0, 34), (34, .putfield 28, 37), (37, .aload_n 0, 38), (38, .iconst 0, 39), (39, .putfield 31, 42), (42, .aload_n 0, 43), (43, .iconst 0, 44), (44, .putfield 34, 47), (47, .aload_n 0, 48), (48, .iconst 0, 49), (49, .putfield 37, 52), (52, .return_, 53)]
def mX2_init : MI := (yX2_init, cX2_init, 1, none)
def lX2_init : List (Nat × Instr × Nat) := [(0, .aload_n 0, 1), (1, .invokespecial 3, 4), (4, .aload_n 0, 5), (5, .new 9, 8), (8, .dup, 9), (9, .invokespecial 11, 12), (12, .putfield 12, 15), (15, .aload_n 0, 16), (16, .iconst 0, 17), (17, .putfield 18, 20), (20, .aload_n 0, 21), (21, .iconst 0, 22), (22, .putfield 22, 25), (25, .return_, 26)]
def mX2_make : MI := (yX2_make, cX2_make, 7, (some .int))
def lX2_make : List (Nat × Instr × Nat) := [(0, .aload_n 1, 1), (1, .iload_n 2, 2), (2, .iload_n 3, 3), (3, .invokevirtual 25, 6), (6, .ifCond .ne 5, 9), (9, .iconst (-1), 10), (10, .ireturn, 11), (11, .aload_n 1, 12), (12, .iload_n 2, 13), (13, .iload_n 3, 14), (14, .invokevirtual 31, 17), (17, .ifCond .ne 6, 20), (20, .bipush (-5), 22), (22, .ireturn, 23), (23, .aload_n 1, 24), (24, .iload_n 2, 25), (25, .invokevirtual 34, 28), (28, .istore 4, 30), (30, .aload_n 1, 31), (31, .iload_n 3, 32), (32, .invokevirtual 38, 35), (35, .istore 5, 37), (37, .iload 5, 39), (39, .iload 4, 41), (41, .iand, 42), (42, .ifCond .ne 47, 45), (45, .aload_n 1, 46), (46, .iload_n 3, 47), (47, .invokevirtual 41, 50), (50, .istore 6, 52), (52, .aload_n 0, 53), (53, .iload 5, 55), (55, .putfield 18, 58), (58, .aload_n 0, 59), (59, .aload_n 1, 60), (60, .iload_n 2, 61), (61, .iload 5, 63), (63, .invokevirtual 44, 66), (66, .iload 6, 68), (68, .invokestatic 48, 71), (71, .putfield 22, 74), (74, .iload 6, 76), (76, .aload_n 1, 77), (77, .getfield 51, 80), (80, .if_icmp .ge 7, 83), (83, .iconst 1, 84), (84, .goto 4, 87), (87, .iconst 2, 88), (88, .ireturn, 89), (89, .aload_n 0, 90), (90, .aload_n 1, 91), (91, .invokevirtual 54, 94), (94, .iload 4, 96), (96, .iconst (-1), 97), (97, .ixor, 98), (98, .iand, 99), (99, .putfield 18, 102), (102, .aload_n 0, 103), (103, .getfield 12, 106), (106, .aload_n 1, 107), (107, .iload 4, 109), (109, .iconst 1, 110), (110, .iload_n 3, 111), (111, .ishl, 112), (112, .iconst (-1), 113), (113, .ixor, 114), (114, .iand, 115), (115, .invokevirtual 58, 118), (118, .aload_n 0, 119), (119, .aload_n 1, 120), (120, .iload_n 3, 121), (121, .invokevirtual 62, 124), (124, .aload_n 1, 125), (125, .iload_n 2, 126), (126, .aload_n 0, 127), (127, .getfield 18, 130), (130, .invokevirtual 44, 133), (133, .invokevirtual 65, 136), (136, .ireturn, 137)]
def mX2_solve : MI := (yX2_solve, cX2_solve, 6, (some .int))
def lX2_solve : List (Nat × Instr × Nat) := [(0, .aload_n 0, 1), (1, .getfield 12, 4), (4, .iload_n 1, 5), (5, .invokevirtual 68, 8), (8, .istore_n 3, 9), (9, .aload_n 0, 10), (10, .getfield 12, 13), (13, .iload_n 2, 14), (14, .invokevirtual 68, 17), (17, .istore 4, 19), (19, .iload_n 3, 20), (20, .invokestatic 71, 23), (23, .istore 5, 25), (25, .aload_n 0, 26), (26, .iload 4, 28), (28, .iload 5, 30), (30, .invokestatic 48, 33), (33, .getstatic 74, 36), (36, .iload_n 3, 37), (37, .iload 5, 39), (39, .invokestatic 48, 42), (42, .invokestatic 78, 45), (45, .invokestatic 82, 48), (48, .putfield 22, 51), (51, .iload_n 3, 52), (52, .ifCond .eq 20, 55), (55, .iload_n 3, 56), (56, .aload_n 0, 57), (57, .getfield 22, 60), (60, .invokestatic 82, 63), (63, .iload 4, 65), (65, .if_icmp .ne 7, 68), (68, .iconst 3, 69), (69, .goto 5, 72), (72, .bipush (-4), 74), (74, .ireturn, 75)]
def mX2_canMendAll : MI := (yX2_canMendAll, cX2_canMendAll, 3, (some .boolean))
def lX2_canMendAll : List (Nat × Instr × Nat) := [(0, .aload_n 0, 1), (1, .getfield 12, 4), (4, .aload_n 1, 5), (5, .iload_n 2, 6), (6, .invokevirtual 58, 9), (9, .aload_n 0, 10), (10, .getfield 12, 13), (13, .getfield 85, 16), (16, .iload_n 2, 17), (17, .invokestatic 88, 20), (20, .if_icmp .ne 7, 23), (23, .iconst 1, 24), (24, .goto 4, 27), (27, .iconst 0, 28), (28, .ireturn, 29)]
def mX3_init : MI := (yX3_init, cX3_init, 1, none)
def lX3_init : List (Nat × Instr × Nat) := [(0, .aload_n 0, 1), (1, .invokespecial 3, 4), (4, .aload_n 0, 5), (5, .bipush 80, 7), (7, .newarray .int, 9), (9, .putfield 9, 12), (12, .aload_n 0, 13), (13, .iconst 0, 14), (14, .putfield 15, 17), (17, .aload_n 0, 18), (18, .iconst 0, 19), (19, .putfield 19, 22), (22, .aload_n 0, 23), (23, .iconst 0, 24), (24, .putfield 22, 27), (27, .return_, 28)]
def mX4_init : MI := (yX4_init, cX4_init, 1, none)
def lX4_init : List (Nat × Instr × Nat) := [(0, .aload_n 0, 1), (1, .invokespecial 3, 4), (4, .aload_n 0, 5), (5, .iconst 0, 6), (6, .putfield 9, 9), (9, .aload_n 0, 10), (10, .iconst 0, 11), (11, .putfield 15, 14), (14, .aload_n 0, 15), (15, .iconst 0, 16), (16, .putfield 18, 19), (19, .aload_n 0, 20), (20, .iconst 0, 21), (21, .putfield 21, 24), (24, .aload_n 0, 25), (25, .iconst 0, 26), (26, .putfield 24, 29), (29, .aload_n 0, 30), (30, .iconst 0, 31), (31, .putfield 27, 34), (34, .aload_n 0, 35), (35, .iconst 0, 36), (36, .putfield 30, 39), (39, .aload_n 0, 40), (40, .iconst 0, 41), (41, .putfield 33, 44), (44, .aload_n 0, 45), (45, .iconst 0, 46), (46, .putfield 36, 49), (49, .aload_n 0, 50), (50, .sipush 160, 53), (53, .newarray .int, 55), (55, .putfield 39, 58), (58, .aload_n 0, 59), (59, .sipush 160, 62), (62, .newarray .int, 64), (64, .putfield 43, 67), (67, .aload_n 0, 68), (68, .bipush 8, 70), (70, .newarray .int, 72), (72, .putfield 46, 75), (75, .aload_n 0, 76), (76, .bipush 20, 78), (78, .newarray .int, 80), (80, .putfield 49, 83), (83, .aload_n 0, 84), (84, .bipush 20, 86), (86, .newarray .int, 88), (88, .putfield 52, 91), (91, .aload_n 0, 92), (92, .iconst 2, 93), (93, .iconst 3, 94), (94, .iconst 4, 95), (95, .iconst 1, 96), (96, .invokevirtual 55, 99), (99, .return_, 100)]
def mX4_copyFrom : MI := (yX4_copyFrom, cX4_copyFrom, 2, none)
def lX4_copyFrom : List (Nat × Instr × Nat) := [(0, .aload_n 1, 1), (1, .ifnonnull 4, 4), (4, .return_, 5), (5, .aload_n 0, 6), (6, .aload_n 1, 7), (7, .getfield 9, 10), (10, .putfield 9, 13), (13, .aload_n 0, 14), (14, .aload_n 1, 15), (15, .getfield 15, 18), (18, .putfield 15, 21), (21, .aload_n 0, 22), (22, .aload_n 1, 23), (23, .getfield 18, 26), (26, .putfield 18, 29), (29, .aload_n 0, 30), (30, .aload_n 1, 31), (31, .getfield 21, 34), (34, .putfield 21, 37), (37, .aload_n 0, 38), (38, .aload_n 1, 39), (39, .getfield 24, 42), (42, .putfield 24, 45), (45, .aload_n 0, 46), (46, .aload_n 1, 47), (47, .getfield 27, 50), (50, .putfield 27, 53), (53, .aload_n 0, 54), (54, .aload_n 1, 55), (55, .getfield 30, 58), (58, .putfield 30, 61), (61, .aload_n 0, 62), (62, .aload_n 1, 63), (63, .getfield 33, 66), (66, .putfield 33, 69), (69, .aload_n 0, 70), (70, .aload_n 1, 71), (71, .getfield 36, 74), (74, .putfield 36, 77), (77, .aload_n 1, 78), (78, .getfield 39, 81), (81, .aload_n 0, 82), (82, .getfield 39, 85), (85, .invokestatic 59, 88), (88, .aload_n 1, 89), (89, .getfield 43, 92), (92, .aload_n 0, 93), (93, .getfield 43, 96), (96, .invokestatic 59, 99), (99, .aload_n 1, 100), (100, .getfield 46, 103), (103, .aload_n 0, 104), (104, .getfield 46, 107), (107, .invokestatic 59, 110), (110, .aload_n 1, 111), (111, .getfield 49, 114), (114, .aload_n 0, 115), (115, .getfield 49, 118), (118, .invokestatic 59, 121), (121, .aload_n 1, 122), (122, .getfield 52, 125), (125, .aload_n 0, 126), (126, .getfield 52, 129), (129, .invokestatic 59, 132), (132, .return_, 133)]
def mX4_layOut : MI := (yX4_layOut, cX4_layOut, 8, none)
def lX4_layOut : List (Nat × Instr × Nat) := [(0, .aload_n 0, 1), (1, .iload_n 1, 2), (2, .putfield 9, 5), (5, .aload_n 0, 6), (6, .iload_n 2, 7), (7, .putfield 15, 10), (10, .aload_n 0, 11), (11, .iload_n 3, 12), (12, .putfield 18, 15), (15, .aload_n 0, 16), (16, .iload 4, 18), (18, .putfield 21, 21), (21, .aload_n 0, 22), (22, .iconst 0, 23), (23, .putfield 36, 26), (26, .aload_n 0, 27), (27, .getfield 43, 30), (30, .iconst 0, 31), (31, .invokestatic 63, 34), (34, .aload_n 0, 35), (35, .getfield 46, 38), (38, .iconst 0, 39), (39, .invokestatic 63, 42), (42, .aload_n 0, 43), (43, .getfield 49, 46), (46, .iconst 0, 47), (47, .invokestatic 63, 50), (50, .iconst 0, 51), (51, .istore 5, 53), (53, .iload 5, 55), (55, .aload_n 0, 56), (56, .invokevirtual 69, 59), (59, .if_icmp .ge 28, 62), (62, .aload_n 0, 63), (63, .getfield 52, 66), (66, .iload 5, 68), (68, .iconst 1, 69), (69, .iconst 4, 70), (70, .aload_n 0, 71), (71, .iload 5, 73), (73, .invokevirtual 73, 76), (76, .imul, 77), (77, .ishl, 78), (78, .invokestatic 77, 81), (81, .iinc 5 1, 84), (84, .goto (-31), 87), (87, .iconst 0, 88), (88, .istore 5, 90), (90, .iload 5, 92), (92, .aload_n 0, 93), (93, .invokevirtual 81, 96), (96, .if_icmp .ge 74, 99), (99, .getstatic 84, 102), (102, .iload 5, 104), (104, .invokestatic 87, 107), (107, .iconst 4, 108), (108, .aload_n 0, 109), (109, .getfield 9, 112), (112, .imul, 113), (113, .ishl, 114), (114, .istore 6, 116), (116, .getstatic 84, 119), (119, .iconst 2, 120), (120, .iload 5, 122), (122, .imul, 123), (123, .bipush 15, 125), (125, .irem, 126), (126, .invokestatic 87, 129), (129, .iconst 4, 130), (130, .aload_n 0, 131), (131, .getfield 9, 134), (134, .iconst 1, 135), (135, .iadd, 136), (136, .imul, 137), (137, .ishl, 138), (138, .istore 7, 140), (140, .aload_n 0, 141), (141, .getfield 52, 144), (144, .iload 5, 146), (146, .aload_n 0, 147), (147, .getfield 52, 150), (150, .iload 5, 152), (152, .invokestatic 87, 155), (155, .iload 6, 157), (157, .ior, 158), (158, .iload 7, 160), (160, .ior, 161), (161, .invokestatic 77, 164), (164, .iinc 5 1, 167), (167, .goto (-77), 170), (170, .return_, 171)]
def mX4_dataCount : MI := (yX4_dataCount, cX4_dataCount, 1, (some .int))
def lX4_dataCount : List (Nat × Instr × Nat) := [(0, .aload_n 0, 1), (1, .getfield 9, 4), (4, .aload_n 0, 5), (5, .getfield 15, 8), (8, .imul, 9), (9, .ireturn, 10)]
def mX4_cellCount : MI := (yX4_cellCount, cX4_cellCount, 1, (some .int))
def lX4_cellCount : List (Nat × Instr × Nat) := [(0, .aload_n 0, 1), (1, .getfield 9, 4), (4, .aload_n 0, 5), (5, .getfield 15, 8), (8, .imul, 9), (9, .aload_n 0, 10), (10, .getfield 9, 13), (13, .iadd, 14), (14, .iconst 2, 15), (15, .iadd, 16), (16, .ireturn, 17)]
def mX4_allCells : MI := (yX4_allCells, cX4_allCells, 1, (some .int))
def lX4_allCells : List (Nat × Instr × Nat) := [(0, .iconst 1, 1), (1, .aload_n 0, 2), (2, .invokevirtual 69, 5), (5, .ishl, 6), (6, .iconst 1, 7), (7, .isub, 8), (8, .ireturn, 9)]
def mX4_hasStripe : MI := (yX4_hasStripe, cX4_hasStripe, 2, (some .boolean))
def lX4_hasStripe : List (Nat × Instr × Nat) := [(0, .iload_n 1, 1), (1, .ifCond .lt 15, 4), (4, .iload_n 1, 5), (5, .aload_n 0, 6), (6, .getfield 18, 9), (9, .if_icmp .ge 7, 12), (12, .iconst 1, 13), (13, .goto 4, 16), (16, .iconst 0, 17), (17, .ireturn, 18)]
def mX4_hasCell : MI := (yX4_hasCell, cX4_hasCell, 3, (some .boolean))
def lX4_hasCell : List (Nat × Instr × Nat) := [(0, .aload_n 0, 1), (1, .iload_n 1, 2), (2, .invokevirtual 91, 5), (5, .ifCond .eq 19, 8), (8, .iload_n 2, 9), (9, .ifCond .lt 15, 12), (12, .iload_n 2, 13), (13, .aload_n 0, 14), (14, .invokevirtual 69, 17), (17, .if_icmp .ge 7, 20), (20, .iconst 1, 21), (21, .goto 4, 24), (24, .iconst 0, 25), (25, .ireturn, 26)]
def mX4_hasNode : MI := (yX4_hasNode, cX4_hasNode, 2, (some .boolean))
def lX4_hasNode : List (Nat × Instr × Nat) := [(0, .iload_n 1, 1), (1, .ifCond .lt 15, 4), (4, .iload_n 1, 5), (5, .aload_n 0, 6), (6, .invokevirtual 69, 9), (9, .if_icmp .ge 7, 12), (12, .iconst 1, 13), (13, .goto 4, 16), (16, .iconst 0, 17), (17, .ireturn, 18)]
def mX4_nodeOf : MI := (yX4_nodeOf, cX4_nodeOf, 4, (some .int))
def lX4_nodeOf : List (Nat × Instr × Nat) := [(0, .aload_n 0, 1), (1, .invokevirtual 69, 4), (4, .istore_n 3, 5), (5, .iload_n 3, 6), (6, .ifCond .le 18, 9), (9, .iload_n 2, 10), (10, .iload_n 1, 11), (11, .aload_n 0, 12), (12, .getfield 21, 15), (15, .imul, 16), (16, .iadd, 17), (17, .iload_n 3, 18), (18, .invokestatic 95, 21), (21, .goto 4, 24), (24, .iconst 0, 25), (25, .ireturn, 26)]
def mX4_cellOn : MI := (yX4_cellOn, cX4_cellOn, 4, (some .int))
def lX4_cellOn : List (Nat × Instr × Nat) := [(0, .aload_n 0, 1), (1, .invokevirtual 69, 4), (4, .istore_n 3, 5), (5, .iload_n 3, 6), (6, .ifCond .le 18, 9), (9, .iload_n 2, 10), (10, .iload_n 1, 11), (11, .aload_n 0, 12), (12, .getfield 21, 15), (15, .imul, 16), (16, .isub, 17), (17, .iload_n 3, 18), (18, .invokestatic 95, 21), (21, .goto 4, 24), (24, .iconst 0, 25), (25, .ireturn, 26)]
def mX4_homeCheck : MI := (yX4_homeCheck, cX4_homeCheck, 2, (some .int))
def lX4_homeCheck : List (Nat × Instr × Nat) := [(0, .iload_n 1, 1), (1, .aload_n 0, 2), (2, .invokevirtual 81, 5), (5, .if_icmp .lt 10, 8), (8, .iload_n 1, 9), (9, .aload_n 0, 10), (10, .invokevirtual 81, 13), (13, .isub, 14), (14, .ireturn, 15), (15, .aload_n 0, 16), (16, .getfield 15, 19), (19, .ifCond .le 12, 22), (22, .iload_n 1, 23), (23, .aload_n 0, 24), (24, .getfield 15, 27), (27, .idiv, 28), (28, .goto 4, 31), (31, .iconst 0, 32), (32, .ireturn, 33)]
def mX4_columnOf : MI := (yX4_columnOf, cX4_columnOf, 2, (some .int))
def lX4_columnOf : List (Nat × Instr × Nat) := [(0, .aload_n 0, 1), (1, .getfield 52, 4), (4, .iload_n 1, 5), (5, .invokestatic 87, 8), (8, .ireturn, 9)]
def mX4_partnersOf : MI := (yX4_partnersOf, cX4_partnersOf, 5, (some .int))
def lX4_partnersOf : List (Nat × Instr × Nat) := [(0, .aload_n 0, 1), (1, .iload_n 1, 2), (2, .invokevirtual 73, 5), (5, .istore_n 2, 6), (6, .iload_n 2, 7), (7, .aload_n 0, 8), (8, .getfield 9, 11), (11, .if_icmp .lt 12, 14), (14, .iconst 1, 15), (15, .aload_n 0, 16), (16, .invokevirtual 81, 19), (19, .ishl, 20), (20, .iconst 1, 21), (21, .isub, 22), (22, .ireturn, 23), (23, .iconst 1, 24), (24, .aload_n 0, 25), (25, .getfield 15, 28), (28, .ishl, 29), (29, .iconst 1, 30), (30, .isub, 31), (31, .iload_n 2, 32), (32, .aload_n 0, 33), (33, .getfield 15, 36), (36, .imul, 37), (37, .ishl, 38), (38, .istore_n 3, 39), (39, .iconst 1, 40), (40, .aload_n 0, 41), (41, .invokevirtual 81, 44), (44, .iload_n 2, 45), (45, .iadd, 46), (46, .ishl, 47), (47, .istore 4, 49), (49, .iload_n 3, 50), (50, .iload 4, 52), (52, .ior, 53), (53, .iconst 1, 54), (54, .iload_n 1, 55), (55, .ishl, 56), (56, .iconst (-1), 57), (57, .ixor, 58), (58, .iand, 59), (59, .ireturn, 60)]
def mX4_valueOf : MI := (yX4_valueOf, cX4_valueOf, 3, (some .int))
def lX4_valueOf : List (Nat × Instr × Nat) := [(0, .aload_n 0, 1), (1, .getfield 43, 4), (4, .iload_n 1, 5), (5, .bipush 20, 7), (7, .imul, 8), (8, .iload_n 2, 9), (9, .iadd, 10), (10, .invokestatic 87, 13), (13, .ireturn, 14)]
def mX4_setValue : MI := (yX4_setValue, cX4_setValue, 4, none)
def lX4_setValue : List (Nat × Instr × Nat) := [(0, .aload_n 0, 1), (1, .getfield 43, 4), (4, .iload_n 1, 5), (5, .bipush 20, 7), (7, .imul, 8), (8, .iload_n 2, 9), (9, .iadd, 10), (10, .iload_n 3, 11), (11, .invokestatic 77, 14), (14, .return_, 15)]
def mX4_addToParities : MI := (yX4_addToParities, cX4_addToParities, 5, none)
def lX4_addToParities : List (Nat × Instr × Nat) := [(0, .iconst 0, 1), (1, .istore_n 3, 2), (2, .iload_n 3, 3), (3, .aload_n 0, 4), (4, .getfield 9, 7), (7, .iconst 2, 8), (8, .iadd, 9), (9, .if_icmp .ge 37, 12), (12, .aload_n 0, 13), (13, .invokevirtual 81, 16), (16, .iload_n 3, 17), (17, .iadd, 18), (18, .istore 4, 20), (20, .aload_n 0, 21), (21, .iload_n 1, 22), (22, .iload 4, 24), (24, .aload_n 0, 25), (25, .iload_n 1, 26), (26, .iload 4, 28), (28, .invokevirtual 107, 31), (31, .iload_n 2, 32), (32, .iload_n 3, 33), (33, .invokestatic 110, 36), (36, .ixor, 37), (37, .invokevirtual 113, 40), (40, .iinc 3 1, 43), (43, .goto (-41), 46), (46, .return_, 47)]
def mX4_missingIn : MI := (yX4_missingIn, cX4_missingIn, 2, (some .int))
def lX4_missingIn : List (Nat × Instr × Nat) := [(0, .aload_n 0, 1), (1, .getfield 46, 4), (4, .iload_n 1, 5), (5, .invokestatic 87, 8), (8, .ireturn, 9)]
def mX4_isMissing : MI := (yX4_isMissing, cX4_isMissing, 3, (some .boolean))
def lX4_isMissing : List (Nat × Instr × Nat) := [(0, .aload_n 0, 1), (1, .iload_n 1, 2), (2, .invokevirtual 117, 5), (5, .iload_n 2, 6), (6, .ishr, 7), (7, .iconst 1, 8), (8, .iand, 9), (9, .ifCond .eq 7, 12), (12, .iconst 1, 13), (13, .goto 4, 16), (16, .iconst 0, 17), (17, .ireturn, 18)]
def mX4_sumsOver : MI := (yX4_sumsOver, cX4_sumsOver, 5, (some .int))
def lX4_sumsOver : List (Nat × Instr × Nat) := [(0, .iconst 0, 1), (1, .istore_n 3, 2), (2, .iconst 0, 3), (3, .istore 4, 5), (5, .iload 4, 7), (7, .aload_n 0, 8), (8, .invokevirtual 69, 11), (11, .if_icmp .ge 37, 14), (14, .iload_n 2, 15), (15, .iload 4, 17), (17, .ishr, 18), (18, .iconst 1, 19), (19, .iand, 20), (20, .ifCond .eq 22, 23), (23, .iload_n 3, 24), (24, .aload_n 0, 25), (25, .iload 4, 27), (27, .invokevirtual 120, 30), (30, .aload_n 0, 31), (31, .iload_n 1, 32), (32, .iload 4, 34), (34, .invokevirtual 107, 37), (37, .invokestatic 123, 40), (40, .ixor, 41), (41, .istore_n 3, 42), (42, .iinc 4 1, 45), (45, .goto (-40), 48), (48, .iload_n 3, 49), (49, .ireturn, 50)]
def mX4_culpritIn : MI := (yX4_culpritIn, cX4_culpritIn, 5, (some .int))
def lX4_culpritIn : List (Nat × Instr × Nat) := [(0, .aload_n 0, 1), (1, .iload_n 1, 2), (2, .aload_n 0, 3), (3, .invokevirtual 104, 6), (6, .invokevirtual 126, 9), (9, .istore_n 2, 10), (10, .iconst 0, 11), (11, .istore_n 3, 12), (12, .iload_n 3, 13), (13, .aload_n 0, 14), (14, .invokevirtual 69, 17), (17, .if_icmp .ge 41, 20), (20, .iload_n 2, 21), (21, .aload_n 0, 22), (22, .iload_n 3, 23), (23, .invokevirtual 73, 26), (26, .invokestatic 110, 29), (29, .istore 4, 31), (31, .iload 4, 33), (33, .ifCond .eq 19, 36), (36, .aload_n 0, 37), (37, .iload_n 3, 38), (38, .invokevirtual 120, 41), (41, .iload 4, 43), (43, .invokestatic 123, 46), (46, .iload_n 2, 47), (47, .if_icmp .ne 5, 50), (50, .iload_n 3, 51), (51, .ireturn, 52), (52, .iinc 3 1, 55), (55, .goto (-43), 58), (58, .bipush (-5), 60), (60, .ireturn, 61)]
def mX4_takeAway : MI := (yX4_takeAway, cX4_takeAway, 3, none)
def lX4_takeAway : List (Nat × Instr × Nat) := [(0, .aload_n 0, 1), (1, .getfield 46, 4), (4, .iload_n 1, 5), (5, .aload_n 0, 6), (6, .iload_n 1, 7), (7, .invokevirtual 117, 10), (10, .iconst 1, 11), (11, .iload_n 2, 12), (12, .ishl, 13), (13, .ior, 14), (14, .invokestatic 77, 17), (17, .aload_n 0, 18), (18, .bipush 100, 20), (20, .iload_n 1, 21), (21, .imul, 22), (22, .iload_n 2, 23), (23, .iadd, 24), (24, .invokevirtual 129, 27), (27, .aload_n 0, 28), (28, .dup, 29), (29, .getfield 33, 32), (32, .iconst 1, 33), (33, .iadd, 34), (34, .putfield 33, 37), (37, .return_, 38)]
def mX4_bringBack : MI := (yX4_bringBack, cX4_bringBack, 4, none)
def lX4_bringBack : List (Nat × Instr × Nat) := [(0, .aload_n 0, 1), (1, .getfield 46, 4), (4, .iload_n 1, 5), (5, .aload_n 0, 6), (6, .iload_n 1, 7), (7, .invokevirtual 117, 10), (10, .iconst 1, 11), (11, .iload_n 2, 12), (12, .ishl, 13), (13, .iconst (-1), 14), (14, .ixor, 15), (15, .iand, 16), (16, .invokestatic 77, 19), (19, .aload_n 0, 20), (20, .iload_n 1, 21), (21, .iload_n 2, 22), (22, .iload_n 3, 23), (23, .invokevirtual 113, 26), (26, .aload_n 0, 27), (27, .bipush 100, 29), (29, .iload_n 1, 30), (30, .imul, 31), (31, .iload_n 2, 32), (32, .iadd, 33), (33, .invokevirtual 133, 36), (36, .return_, 37)]
def mX4_countReads : MI := (yX4_countReads, cX4_countReads, 5, none)
def lX4_countReads : List (Nat × Instr × Nat) := [(0, .iconst 0, 1), (1, .istore_n 3, 2), (2, .iload_n 3, 3), (3, .aload_n 0, 4), (4, .invokevirtual 69, 7), (7, .if_icmp .ge 55, 10), (10, .iload_n 2, 11), (11, .iload_n 3, 12), (12, .ishr, 13), (13, .iconst 1, 14), (14, .iand, 15), (15, .ifCond .eq 41, 18), (18, .aload_n 0, 19), (19, .iload_n 1, 20), (20, .iload_n 3, 21), (21, .invokevirtual 101, 24), (24, .istore 4, 26), (26, .aload_n 0, 27), (27, .getfield 49, 30), (30, .iload 4, 32), (32, .aload_n 0, 33), (33, .getfield 49, 36), (36, .iload 4, 38), (38, .invokestatic 87, 41), (41, .iconst 1, 42), (42, .iadd, 43), (43, .invokestatic 77, 46), (46, .aload_n 0, 47), (47, .dup, 48), (48, .getfield 24, 51), (51, .iconst 1, 52), (52, .iadd, 53), (53, .putfield 24, 56), (56, .iinc 3 1, 59), (59, .goto (-57), 62), (62, .return_, 63)]
def mX4_joinQueue : MI := (yX4_joinQueue, cX4_joinQueue, 2, none)
def lX4_joinQueue : List (Nat × Instr × Nat) := [(0, .aload_n 0, 1), (1, .getfield 36, 4), (4, .aload_n 0, 5), (5, .getfield 39, 8), (8, .arraylength, 9), (9, .if_icmp .ge 25, 12), (12, .aload_n 0, 13), (13, .getfield 39, 16), (16, .aload_n 0, 17), (17, .getfield 36, 20), (20, .iload_n 1, 21), (21, .invokestatic 77, 24), (24, .aload_n 0, 25), (25, .dup, 26), (26, .getfield 36, 29), (29, .iconst 1, 30), (30, .iadd, 31), (31, .putfield 36, 34), (34, .return_, 35)]
def mX4_leaveQueue : MI := (yX4_leaveQueue, cX4_leaveQueue, 4, none)
def lX4_leaveQueue : List (Nat × Instr × Nat) := [(0, .iconst 0, 1), (1, .istore_n 2, 2), (2, .iload_n 2, 3), (3, .aload_n 0, 4), (4, .getfield 36, 7), (7, .if_icmp .ge 21, 10), (10, .aload_n 0, 11), (11, .getfield 39, 14), (14, .iload_n 2, 15), (15, .invokestatic 87, 18), (18, .iload_n 1, 19), (19, .if_icmp .eq 9, 22), (22, .iinc 2 1, 25), (25, .goto (-23), 28), (28, .aload_n 0, 29), (29, .getfield 36, 32), (32, .iload_n 2, 33), (33, .isub, 34), (34, .iconst 1, 35), (35, .isub, 36), (36, .istore_n 3, 37), (37, .iload_n 3, 38), (38, .ifCond .lt 41, 41), (41, .aload_n 0, 42), (42, .getfield 36, 45), (45, .aload_n 0, 46), (46, .getfield 39, 49), (49, .arraylength, 50), (50, .if_icmp .gt 29, 53), (53, .aload_n 0, 54), (54, .getfield 39, 57), (57, .iload_n 2, 58), (58, .iconst 1, 59), (59, .iadd, 60), (60, .aload_n 0, 61), (61, .getfield 39, 64), (64, .iload_n 2, 65), (65, .iload_n 3, 66), (66, .invokestatic 136, 69), (69, .aload_n 0, 70), (70, .dup, 71), (71, .getfield 36, 74), (74, .iconst 1, 75), (75, .isub, 76), (76, .putfield 36, 79), (79, .return_, 80)]
def mX5_init : MI := (yX5_init, cX5_init, 2, none)
def lX5_init : List (Nat × Instr × Nat) := [(0, .aload_n 0, 1), (1, .invokespecial 1, 4), (4, .aload_n 0, 5), (5, .new 7, 8), (8, .dup, 9), (9, .invokespecial 9, 12), (12, .putfield 10, 15), (15, .aload_n 0, 16), (16, .new 7, 19), (19, .dup, 20), (20, .invokespecial 9, 23), (23, .putfield 16, 26), (26, .aload_n 0, 27), (27, .new 7, 30), (30, .dup, 31), (31, .invokespecial 9, 34), (34, .putfield 19, 37), (37, .aload_n 0, 38), (38, .iconst 4, 39), (39, .anewarray 7, 42), (42, .putfield 22, 45), (45, .aload_n 0, 46), (46, .new 26, 49), (49, .dup, 50), (50, .invokespecial 28, 53), (53, .putfield 29, 56), (56, .aload_n 0, 57), (57, .new 33, 60), (60, .dup, 61), (61, .invokespecial 35, 64), (64, .putfield 36, 67), (67, .aload_n 0, 68), (68, .new 40, 71), (71, .dup, 72), (72, .invokespecial 42, 75), (75, .putfield 43, 78), (78, .aload_n 0, 79), (79, .iconst 0, 80), (80, .putfield 47, 83), (83, .aload_n 0, 84), (84, .iconst 0, 85), (85, .putfield 51, 88), (88, .iconst 0, 89), (89, .istore_n 1, 90), (90, .iload_n 1, 91), (91, .aload_n 0, 92), (92, .getfield 22, 95), (95, .arraylength, 96), (96, .if_icmp .ge 22, 99), (99, .aload_n 0, 100), (100, .getfield 22, 103), (103, .iload_n 1, 104), (104, .new 7, 107), (107, .dup, 108), (108, .invokespecial 9, 111), (111, .aastore, 112), (112, .iinc 1 1, 115), (115, .goto (-25), 118), (118, .return_, 119)]
def mX5_setLayout : MI := (yX5_setLayout, cX5_setLayout, 5, (some .int))
def lX5_setLayout : List (Nat × Instr × Nat) := [(0, .iload_n 1, 1), (1, .iconst 1, 2), (2, .iconst 4, 3), (3, .invokestatic 55, 6), (6, .ifCond .eq 41, 9), (9, .iload_n 2, 10), (10, .iconst 2, 11), (11, .bipush 6, 13), (13, .invokestatic 55, 16), (16, .ifCond .eq 31, 19), (19, .iload_n 1, 20), (20, .iload_n 2, 21), (21, .imul, 22), (22, .bipush 15, 24), (24, .if_icmp .gt 23, 27), (27, .iload_n 3, 28), (28, .iconst 1, 29), (29, .bipush 8, 31), (31, .invokestatic 55, 34), (34, .ifCond .eq 13, 37), (37, .iload 4, 39), (39, .iconst 0, 40), (40, .iconst 5, 41), (41, .invokestatic 55, 44), (44, .ifCond .ne 6, 47), (47, .bipush (-2), 49), (49, .ireturn, 50), (50, .aload_n 0, 51), (51, .invokevirtual 59, 54), (54, .aload_n 0, 55), (55, .getfield 10, 58), (58, .iload_n 1, 59), (59, .iload_n 2, 60), (60, .iload_n 3, 61), (61, .iload 4, 63), (63, .invokevirtual 62, 66), (66, .aload_n 0, 67), (67, .aload_n 0, 68), (68, .getfield 10, 71), (71, .invokevirtual 66, 74), (74, .invokevirtual 70, 77), (77, .ireturn, 78)]
def mX5_write : MI := (yX5_write, cX5_write, 4, (some .int))
def lX5_write : List (Nat × Instr × Nat) := [(0, .aload_n 0, 1), (1, .invokevirtual 59, 4), (4, .aload_n 0, 5), (5, .aload_n 0, 6), (6, .iload_n 1, 7), (7, .iload_n 2, 8), (8, .iload_n 3, 9), (9, .invokevirtual 74, 12), (12, .invokevirtual 70, 15), (15, .ireturn, 16)]
def mX5_lose : MI := (yX5_lose, cX5_lose, 3, (some .int))
def lX5_lose : List (Nat × Instr × Nat) := [(0, .aload_n 0, 1), (1, .invokevirtual 59, 4), (4, .aload_n 0, 5), (5, .aload_n 0, 6), (6, .iload_n 1, 7), (7, .iload_n 2, 8), (8, .invokevirtual 81, 11), (11, .invokevirtual 70, 14), (14, .ireturn, 15)]
def mX5_loseNode : MI := (yX5_loseNode, cX5_loseNode, 2, (some .int))
def lX5_loseNode : List (Nat × Instr × Nat) := [(0, .aload_n 0, 1), (1, .invokevirtual 59, 4), (4, .aload_n 0, 5), (5, .aload_n 0, 6), (6, .iload_n 1, 7), (7, .invokevirtual 85, 10), (10, .invokevirtual 70, 13), (13, .ireturn, 14)]
def mX5_mend : MI := (yX5_mend, cX5_mend, 3, (some .int))
def lX5_mend : List (Nat × Instr × Nat) := [(0, .aload_n 0, 1), (1, .invokevirtual 59, 4), (4, .aload_n 0, 5), (5, .aload_n 0, 6), (6, .iload_n 1, 7), (7, .iload_n 2, 8), (8, .invokevirtual 88, 11), (11, .invokevirtual 70, 14), (14, .ireturn, 15)]
def mX5_mendNode : MI := (yX5_mendNode, cX5_mendNode, 2, (some .int))
def lX5_mendNode : List (Nat × Instr × Nat) := [(0, .aload_n 0, 1), (1, .invokevirtual 59, 4), (4, .aload_n 0, 5), (5, .aload_n 0, 6), (6, .iload_n 1, 7), (7, .invokevirtual 91, 10), (10, .invokevirtual 70, 13), (13, .ireturn, 14)]
def mX5_work : MI := (yX5_work, cX5_work, 2, (some .int))
def lX5_work : List (Nat × Instr × Nat) := [(0, .aload_n 0, 1), (1, .invokevirtual 59, 4), (4, .aload_n 0, 5), (5, .aload_n 0, 6), (6, .iload_n 1, 7), (7, .invokevirtual 94, 10), (10, .invokevirtual 70, 13), (13, .ireturn, 14)]
def mX5_undo : MI := (yX5_undo, cX5_undo, 1, (some .int))
def lX5_undo : List (Nat × Instr × Nat) := [(0, .aload_n 0, 1), (1, .getfield 47, 4), (4, .ifCond .le 15, 7), (7, .aload_n 0, 8), (8, .getfield 47, 11), (11, .aload_n 0, 12), (12, .getfield 22, 15), (15, .arraylength, 16), (16, .if_icmp .le 6, 19), (19, .bipush (-5), 21), (21, .ireturn, 22), (22, .aload_n 0, 23), (23, .dup, 24), (24, .getfield 47, 27), (27, .iconst 1, 28), (28, .isub, 29), (29, .putfield 47, 32), (32, .aload_n 0, 33), (33, .getfield 10, 36), (36, .aload_n 0, 37), (37, .getfield 22, 40), (40, .aload_n 0, 41), (41, .getfield 47, 44), (44, .aaload, 45), (45, .invokevirtual 127, 48), (48, .aload_n 0, 49), (49, .getfield 47, 52), (52, .ireturn, 53)]
def mX5_value : MI := (yX5_value, cX5_value, 3, (some .int))
def lX5_value : List (Nat × Instr × Nat) := [(0, .aload_n 0, 1), (1, .getfield 10, 4), (4, .iload_n 1, 5), (5, .iload_n 2, 6), (6, .invokevirtual 134, 9), (9, .ifCond .ne 5, 12), (12, .iconst (-1), 13), (13, .ireturn, 14), (14, .aload_n 0, 15), (15, .getfield 10, 18), (18, .iload_n 1, 19), (19, .iload_n 2, 20), (20, .invokevirtual 138, 23), (23, .ifCond .eq 8, 26), (26, .bipush (-5), 28), (28, .goto 12, 31), (31, .aload_n 0, 32), (32, .getfield 10, 35), (35, .iload_n 1, 36), (36, .iload_n 2, 37), (37, .invokevirtual 141, 40), (40, .ireturn, 41)]
def mX5_node : MI := (yX5_node, cX5_node, 3, (some .int))
def lX5_node : List (Nat × Instr × Nat) := [(0, .aload_n 0, 1), (1, .getfield 10, 4), (4, .iload_n 1, 5), (5, .iload_n 2, 6), (6, .invokevirtual 134, 9), (9, .ifCond .eq 15, 12), (12, .aload_n 0, 13), (13, .getfield 10, 16), (16, .iload_n 1, 17), (17, .iload_n 2, 18), (18, .invokevirtual 144, 21), (21, .goto 4, 24), (24, .iconst (-1), 25), (25, .ireturn, 26)]
def mX5_load : MI := (yX5_load, cX5_load, 2, (some .int))
def lX5_load : List (Nat × Instr × Nat) := [(0, .aload_n 0, 1), (1, .getfield 10, 4), (4, .iload_n 1, 5), (5, .invokevirtual 147, 8), (8, .ifCond .eq 17, 11), (11, .aload_n 0, 12), (12, .getfield 10, 15), (15, .getfield 151, 18), (18, .iload_n 1, 19), (19, .invokestatic 155, 22), (22, .goto 4, 25), (25, .iconst (-1), 26), (26, .ireturn, 27)]
def mX5_lost : MI := (yX5_lost, cX5_lost, 2, (some .int))
def lX5_lost : List (Nat × Instr × Nat) := [(0, .aload_n 0, 1), (1, .getfield 10, 4), (4, .iload_n 1, 5), (5, .invokevirtual 159, 8), (8, .ifCond .eq 14, 11), (11, .aload_n 0, 12), (12, .getfield 10, 15), (15, .iload_n 1, 16), (16, .invokevirtual 162, 19), (19, .goto 4, 22), (22, .iconst (-1), 23), (23, .ireturn, 24)]
def mX5_waiting : MI := (yX5_waiting, cX5_waiting, 2, (some .int))
def lX5_waiting : List (Nat × Instr × Nat) := [(0, .iload_n 1, 1), (1, .ifCond .ge 6, 4), (4, .bipush (-2), 6), (6, .ireturn, 7), (7, .iload_n 1, 8), (8, .aload_n 0, 9), (9, .getfield 10, 12), (12, .getfield 131, 15), (15, .if_icmp .ge 17, 18), (18, .aload_n 0, 19), (19, .getfield 10, 22), (22, .getfield 165, 25), (25, .iload_n 1, 26), (26, .invokestatic 155, 29), (29, .goto 5, 32), (32, .bipush (-5), 34), (34, .ireturn, 35)]
def mX5_failing : MI := (yX5_failing, cX5_failing, 5, (some .int))
def lX5_failing : List (Nat × Instr × Nat) := [(0, .aload_n 0, 1), (1, .getfield 10, 4), (4, .iload_n 1, 5), (5, .invokevirtual 159, 8), (8, .ifCond .ne 5, 11), (11, .iconst (-1), 12), (12, .ireturn, 13), (13, .aload_n 0, 14), (14, .getfield 10, 17), (17, .iload_n 1, 18), (18, .invokevirtual 162, 21), (21, .ifCond .eq 6, 24), (24, .bipush (-4), 26), (26, .ireturn, 27), (27, .aload_n 0, 28), (28, .getfield 10, 31), (31, .iload_n 1, 32), (32, .aload_n 0, 33), (33, .getfield 10, 36), (36, .invokevirtual 168, 39), (39, .invokevirtual 171, 42), (42, .istore_n 2, 43), (43, .iconst 0, 44), (44, .istore_n 3, 45), (45, .iconst 0, 46), (46, .istore 4, 48), (48, .iload 4, 50), (50, .bipush 6, 52), (52, .if_icmp .ge 25, 55), (55, .iload_n 2, 56), (56, .iload 4, 58), (58, .invokestatic 174, 61), (61, .ifCond .eq 10, 64), (64, .iload_n 3, 65), (65, .iconst 1, 66), (66, .iload 4, 68), (68, .ishl, 69), (69, .ior, 70), (70, .istore_n 3, 71), (71, .iinc 4 1, 74), (74, .goto (-26), 77), (77, .iload_n 3, 78), (78, .ireturn, 79)]
def mX5_total : MI := (yX5_total, cX5_total, 2, (some .int))
def lX5_total : List (Nat × Instr × Nat) := [(0, .iload_n 1, 1), (1, .tableswitch 156 0 11 #[63, 71, 79, 87, 95, 103, 111, 119, 127, 135, 143, 148], 64), (64, .aload_n 0, 65), (65, .getfield 10, 68), (68, .getfield 177, 71), (71, .ireturn, 72), (72, .aload_n 0, 73), (73, .getfield 10, 76), (76, .getfield 180, 79), (79, .ireturn, 80), (80, .aload_n 0, 81), (81, .getfield 10, 84), (84, .getfield 183, 87), (87, .ireturn, 88), (88, .aload_n 0, 89), (89, .getfield 10, 92), (92, .getfield 186, 95), (95, .ireturn, 96), (96, .aload_n 0, 97), (97, .getfield 10, 100), (100, .invokevirtual 66, 103), (103, .ireturn, 104), (104, .aload_n 0, 105), (105, .getfield 10, 108), (108, .getfield 131, 111), (111, .ireturn, 112), (112, .aload_n 0, 113), (113, .getfield 10, 116), (116, .getfield 189, 119), (119, .ireturn, 120), (120, .aload_n 0, 121), (121, .getfield 10, 124), (124, .getfield 192, 127), (127, .ireturn, 128), (128, .aload_n 0, 129), (129, .getfield 10, 132), (132, .getfield 195, 135), (135, .ireturn, 136), (136, .aload_n 0, 137), (137, .getfield 10, 140), (140, .getfield 198, 143), (143, .ireturn, 144), (144, .aload_n 0, 145), (145, .getfield 47, 148), (148, .ireturn, 149), (149, .aload_n 0, 150), (150, .getfield 29, 153), (153, .getfield 104, 156), (156, .ireturn, 157), (157, .bipush (-2), 159), (159, .ireturn, 160)]
def mX5_way : MI := (yX5_way, cX5_way, 4, (some .int))
def lX5_way : List (Nat × Instr × Nat) := [(0, .aload_n 0, 1), (1, .getfield 36, 4), (4, .aload_n 0, 5), (5, .getfield 10, 8), (8, .iload_n 1, 9), (9, .iload_n 2, 10), (10, .invokevirtual 201, 13), (13, .istore_n 3, 14), (14, .iload_n 3, 15), (15, .bipush (-4), 17), (17, .if_icmp .ne 7, 20), (20, .iconst 0, 21), (21, .goto 4, 24), (24, .iload_n 3, 25), (25, .ireturn, 26)]
def mX5_reads : MI := (yX5_reads, cX5_reads, 4, (some .int))
def lX5_reads : List (Nat × Instr × Nat) := [(0, .aload_n 0, 1), (1, .getfield 36, 4), (4, .aload_n 0, 5), (5, .getfield 10, 8), (8, .iload_n 1, 9), (9, .iload_n 2, 10), (10, .invokevirtual 201, 13), (13, .istore_n 3, 14), (14, .iload_n 3, 15), (15, .ifCond .lt 16, 18), (18, .aload_n 0, 19), (19, .getfield 36, 22), (22, .getfield 205, 25), (25, .invokestatic 208, 28), (28, .goto 4, 31), (31, .iload_n 3, 32), (32, .ireturn, 33)]
def mX5_mended : MI := (yX5_mended, cX5_mended, 4, (some .int))
def lX5_mended : List (Nat × Instr × Nat) := [(0, .aload_n 0, 1), (1, .getfield 36, 4), (4, .aload_n 0, 5), (5, .getfield 10, 8), (8, .iload_n 1, 9), (9, .iload_n 2, 10), (10, .invokevirtual 201, 13), (13, .istore_n 3, 14), (14, .iload_n 3, 15), (15, .ifCond .lt 13, 18), (18, .aload_n 0, 19), (19, .getfield 36, 22), (22, .getfield 213, 25), (25, .goto 4, 28), (28, .iload_n 3, 29), (29, .ireturn, 30)]
def mX5_culprit : MI := (yX5_culprit, cX5_culprit, 2, (some .int))
def lX5_culprit : List (Nat × Instr × Nat) := [(0, .aload_n 0, 1), (1, .getfield 10, 4), (4, .iload_n 1, 5), (5, .invokevirtual 159, 8), (8, .ifCond .ne 5, 11), (11, .iconst (-1), 12), (12, .ireturn, 13), (13, .aload_n 0, 14), (14, .getfield 10, 17), (17, .iload_n 1, 18), (18, .invokevirtual 162, 21), (21, .ifCond .eq 8, 24), (24, .bipush (-4), 26), (26, .goto 11, 29), (29, .aload_n 0, 30), (30, .getfield 10, 33), (33, .iload_n 1, 34), (34, .invokevirtual 216, 37), (37, .ireturn, 38)]
def mX5_survives : MI := (yX5_survives, cX5_survives, 2, (some .int))
def lX5_survives : List (Nat × Instr × Nat) := [(0, .iload_n 1, 1), (1, .ifCond .lt 17, 4), (4, .iload_n 1, 5), (5, .aload_n 0, 6), (6, .getfield 10, 9), (9, .invokevirtual 168, 12), (12, .iconst (-1), 13), (13, .ixor, 14), (14, .iand, 15), (15, .ifCond .eq 6, 18), (18, .bipush (-2), 20), (20, .ireturn, 21), (21, .aload_n 0, 22), (22, .getfield 36, 25), (25, .aload_n 0, 26), (26, .getfield 10, 29), (29, .iload_n 1, 30), (30, .invokevirtual 219, 33), (33, .ifCond .eq 7, 36), (36, .iconst 1, 37), (37, .goto 4, 40), (40, .iconst 0, 41), (41, .ireturn, 42)]
def mX5_busiest : MI := (yX5_busiest, cX5_busiest, 4, (some .int))
def lX5_busiest : List (Nat × Instr × Nat) := [(0, .bipush (-5), 2), (2, .istore_n 1, 3), (3, .iconst 0, 4), (4, .istore_n 2, 5), (5, .iconst 0, 6), (6, .istore_n 3, 7), (7, .iload_n 3, 8), (8, .aload_n 0, 9), (9, .getfield 10, 12), (12, .invokevirtual 66, 15), (15, .if_icmp .ge 38, 18), (18, .aload_n 0, 19), (19, .getfield 10, 22), (22, .getfield 151, 25), (25, .iload_n 3, 26), (26, .invokestatic 155, 29), (29, .iload_n 2, 30), (30, .if_icmp .le 17, 33), (33, .aload_n 0, 34), (34, .getfield 10, 37), (37, .getfield 151, 40), (40, .iload_n 3, 41), (41, .invokestatic 155, 44), (44, .istore_n 2, 45), (45, .iload_n 3, 46), (46, .istore_n 1, 47), (47, .iinc 3 1, 50), (50, .goto (-43), 53), (53, .iload_n 1, 54), (54, .ireturn, 55)]
def mX5_begin : MI := (yX5_begin, cX5_begin, 1, none)
def lX5_begin : List (Nat × Instr × Nat) := [(0, .aload_n 0, 1), (1, .getfield 16, 4), (4, .aload_n 0, 5), (5, .getfield 10, 8), (8, .invokevirtual 127, 11), (11, .return_, 12)]
def mX5_finish : MI := (yX5_finish, cX5_finish, 2, (some .int))
def lX5_finish : List (Nat × Instr × Nat) := [(0, .iload_n 1, 1), (1, .ifCond .ge 17, 4), (4, .aload_n 0, 5), (5, .getfield 10, 8), (8, .aload_n 0, 9), (9, .getfield 16, 12), (12, .invokevirtual 127, 15), (15, .goto 7, 18), (18, .aload_n 0, 19), (19, .invokevirtual 233, 22), (22, .iload_n 1, 23), (23, .ireturn, 24)]
def mX5_record : MI := (yX5_record, cX5_record, 1, none)
def lX5_record : List (Nat × Instr × Nat) := [(0, .aload_n 0, 1), (1, .getfield 47, 4), (4, .aload_n 0, 5), (5, .getfield 22, 8), (8, .arraylength, 9), (9, .if_icmp .lt 7, 12), (12, .aload_n 0, 13), (13, .invokevirtual 236, 16), (16, .aload_n 0, 17), (17, .getfield 47, 20), (20, .ifCond .lt 53, 23), (23, .aload_n 0, 24), (24, .getfield 47, 27), (27, .aload_n 0, 28), (28, .getfield 22, 31), (31, .arraylength, 32), (32, .if_icmp .ge 41, 35), (35, .aload_n 0, 36), (36, .getfield 22, 39), (39, .aload_n 0, 40), (40, .getfield 47, 43), (43, .aaload, 44), (44, .ifnull 29, 47), (47, .aload_n 0, 48), (48, .getfield 22, 51), (51, .aload_n 0, 52), (52, .getfield 47, 55), (55, .aaload, 56), (56, .aload_n 0, 57), (57, .getfield 16, 60), (60, .invokevirtual 127, 63), (63, .aload_n 0, 64), (64, .dup, 65), (65, .getfield 47, 68), (68, .iconst 1, 69), (69, .iadd, 70), (70, .putfield 47, 73), (73, .return_, 74)]
def mX5_dropOldest : MI := (yX5_dropOldest, cX5_dropOldest, 3, none)
def lX5_dropOldest : List (Nat × Instr × Nat) := [(0, .aload_n 0, 1), (1, .getfield 22, 4), (4, .arraylength, 5), (5, .ifCond .le 65, 8), (8, .aload_n 0, 9), (9, .getfield 22, 12), (12, .iconst 0, 13), (13, .aaload, 14), (14, .astore_n 1, 15), (15, .iconst 1, 16), (16, .istore_n 2, 17), (17, .iload_n 2, 18), (18, .aload_n 0, 19), (19, .getfield 22, 22), (22, .arraylength, 23), (23, .if_icmp .ge 23, 26), (26, .aload_n 0, 27), (27, .getfield 22, 30), (30, .iload_n 2, 31), (31, .iconst 1, 32), (32, .isub, 33), (33, .aload_n 0, 34), (34, .getfield 22, 37), (37, .iload_n 2, 38), (38, .aaload, 39), (39, .aastore, 40), (40, .iinc 2 1, 43), (43, .goto (-26), 46), (46, .aload_n 0, 47), (47, .getfield 22, 50), (50, .aload_n 0, 51), (51, .getfield 22, 54), (54, .arraylength, 55), (55, .iconst 1, 56), (56, .isub, 57), (57, .aload_n 1, 58), (58, .aastore, 59), (59, .aload_n 0, 60), (60, .aload_n 0, 61), (61, .getfield 22, 64), (64, .arraylength, 65), (65, .iconst 1, 66), (66, .isub, 67), (67, .putfield 47, 70), (70, .return_, 71)]
def mX5_writeCell : MI := (yX5_writeCell, cX5_writeCell, 5, (some .int))
def lX5_writeCell : List (Nat × Instr × Nat) := [(0, .aload_n 0, 1), (1, .getfield 10, 4), (4, .iload_n 1, 5), (5, .iload_n 2, 6), (6, .invokevirtual 134, 9), (9, .ifCond .eq 14, 12), (12, .iload_n 2, 13), (13, .aload_n 0, 14), (14, .getfield 10, 17), (17, .invokevirtual 239, 20), (20, .if_icmp .lt 5, 23), (23, .iconst (-1), 24), (24, .ireturn, 25), (25, .iload_n 3, 26), (26, .iconst 0, 27), (27, .bipush 15, 29), (29, .invokestatic 55, 32), (32, .ifCond .ne 6, 35), (35, .bipush (-2), 37), (37, .ireturn, 38), (38, .aload_n 0, 39), (39, .getfield 10, 42), (42, .iload_n 1, 43), (43, .invokevirtual 162, 46), (46, .ifCond .eq 6, 49), (49, .bipush (-4), 51), (51, .ireturn, 52), (52, .aload_n 0, 53), (53, .getfield 10, 56), (56, .iload_n 1, 57), (57, .iload_n 2, 58), (58, .invokevirtual 141, 61), (61, .istore 4, 63), (63, .iload 4, 65), (65, .iload_n 3, 66), (66, .if_icmp .ne 6, 69), (69, .bipush (-5), 71), (71, .ireturn, 72), (72, .aload_n 0, 73), (73, .getfield 10, 76), (76, .iload_n 1, 77), (77, .iload_n 2, 78), (78, .iload_n 3, 79), (79, .invokevirtual 242, 82), (82, .aload_n 0, 83), (83, .getfield 10, 86), (86, .iload_n 1, 87), (87, .aload_n 0, 88), (88, .getfield 10, 91), (91, .iload_n 2, 92), (92, .invokevirtual 246, 95), (95, .iload 4, 97), (97, .iload_n 3, 98), (98, .ixor, 99), (99, .invokestatic 249, 102), (102, .invokevirtual 252, 105), (105, .iload 4, 107), (107, .ireturn, 108)]
def mX5_loseCell : MI := (yX5_loseCell, cX5_loseCell, 3, (some .int))
def lX5_loseCell : List (Nat × Instr × Nat) := [(0, .aload_n 0, 1), (1, .getfield 10, 4), (4, .iload_n 1, 5), (5, .iload_n 2, 6), (6, .invokevirtual 134, 9), (9, .ifCond .ne 5, 12), (12, .iconst (-1), 13), (13, .ireturn, 14), (14, .aload_n 0, 15), (15, .getfield 10, 18), (18, .iload_n 1, 19), (19, .iload_n 2, 20), (20, .invokevirtual 138, 23), (23, .ifCond .eq 6, 26), (26, .bipush (-5), 28), (28, .ireturn, 29), (29, .aload_n 0, 30), (30, .getfield 10, 33), (33, .iload_n 1, 34), (34, .iload_n 2, 35), (35, .invokevirtual 256, 38), (38, .aload_n 0, 39), (39, .getfield 10, 42), (42, .getfield 131, 45), (45, .ireturn, 46)]
def mX5_loseCellsOn : MI := (yX5_loseCellsOn, cX5_loseCellsOn, 4, (some .int))
def lX5_loseCellsOn : List (Nat × Instr × Nat) := [(0, .aload_n 0, 1), (1, .getfield 10, 4), (4, .iload_n 1, 5), (5, .invokevirtual 147, 8), (8, .ifCond .ne 5, 11), (11, .iconst (-1), 12), (12, .ireturn, 13), (13, .iconst 0, 14), (14, .istore_n 2, 15), (15, .iconst 0, 16), (16, .istore_n 3, 17), (17, .iload_n 3, 18), (18, .aload_n 0, 19), (19, .getfield 10, 22), (22, .getfield 183, 25), (25, .if_icmp .ge 29, 28), (28, .aload_n 0, 29), (29, .iload_n 3, 30), (30, .aload_n 0, 31), (31, .getfield 10, 34), (34, .iload_n 3, 35), (35, .iload_n 1, 36), (36, .invokevirtual 259, 39), (39, .invokevirtual 81, 42), (42, .ifCond .lt 6, 45), (45, .iinc 2 1, 48), (48, .iinc 3 1, 51), (51, .goto (-34), 54), (54, .iload_n 2, 55), (55, .ifCond .ne 8, 58), (58, .bipush (-5), 60), (60, .goto 4, 63), (63, .iload_n 2, 64), (64, .ireturn, 65)]
def mX5_mendCell : MI := (yX5_mendCell, cX5_mendCell, 4, (some .int))
def lX5_mendCell : List (Nat × Instr × Nat) := [(0, .aload_n 0, 1), (1, .getfield 36, 4), (4, .aload_n 0, 5), (5, .getfield 10, 8), (8, .iload_n 1, 9), (9, .iload_n 2, 10), (10, .invokevirtual 201, 13), (13, .istore_n 3, 14), (14, .iload_n 3, 15), (15, .ifCond .ge 5, 18), (18, .iload_n 3, 19), (19, .ireturn, 20), (20, .aload_n 0, 21), (21, .getfield 10, 24), (24, .iload_n 1, 25), (25, .aload_n 0, 26), (26, .getfield 36, 29), (29, .getfield 205, 32), (32, .invokevirtual 262, 35), (35, .aload_n 0, 36), (36, .getfield 10, 39), (39, .iload_n 1, 40), (40, .iload_n 2, 41), (41, .aload_n 0, 42), (42, .getfield 36, 45), (45, .getfield 213, 48), (48, .invokevirtual 265, 51), (51, .aload_n 0, 52), (52, .getfield 10, 55), (55, .dup, 56), (56, .getfield 192, 59), (59, .iconst 1, 60), (60, .iadd, 61), (61, .putfield 192, 64), (64, .iload_n 3, 65), (65, .iconst 1, 66), (66, .if_icmp .ne 16, 69), (69, .aload_n 0, 70), (70, .getfield 10, 73), (73, .dup, 74), (74, .getfield 195, 77), (77, .iconst 1, 78), (78, .iadd, 79), (79, .putfield 195, 82), (82, .aload_n 0, 83), (83, .getfield 36, 86), (86, .getfield 205, 89), (89, .invokestatic 208, 92), (92, .ireturn, 93)]
def mX5_mendCellsOn : MI := (yX5_mendCellsOn, cX5_mendCellsOn, 5, (some .int))
def lX5_mendCellsOn : List (Nat × Instr × Nat) := [(0, .aload_n 0, 1), (1, .getfield 10, 4), (4, .iload_n 1, 5), (5, .invokevirtual 147, 8), (8, .ifCond .ne 5, 11), (11, .iconst (-1), 12), (12, .ireturn, 13), (13, .iconst 0, 14), (14, .istore_n 2, 15), (15, .iconst 0, 16), (16, .istore_n 3, 17), (17, .iload_n 3, 18), (18, .aload_n 0, 19), (19, .getfield 10, 22), (22, .getfield 183, 25), (25, .if_icmp .ge 44, 28), (28, .aload_n 0, 29), (29, .iload_n 3, 30), (30, .aload_n 0, 31), (31, .getfield 10, 34), (34, .iload_n 3, 35), (35, .iload_n 1, 36), (36, .invokevirtual 259, 39), (39, .invokevirtual 88, 42), (42, .istore 4, 44), (44, .iload 4, 46), (46, .bipush (-4), 48), (48, .if_icmp .ne 6, 51), (51, .bipush (-4), 53), (53, .ireturn, 54), (54, .iload_n 2, 55), (55, .iload 4, 57), (57, .iconst 0, 58), (58, .invokestatic 268, 61), (61, .iadd, 62), (62, .istore_n 2, 63), (63, .iinc 3 1, 66), (66, .goto (-49), 69), (69, .iload_n 2, 70), (70, .ifCond .ne 8, 73), (73, .bipush (-5), 75), (75, .goto 4, 78), (78, .iload_n 2, 79), (79, .ireturn, 80)]
def mX5_workOnQueue : MI := (yX5_workOnQueue, cX5_workOnQueue, 5, (some .int))
def lX5_workOnQueue : List (Nat × Instr × Nat) := [(0, .iload_n 1, 1), (1, .iconst 1, 2), (2, .bipush 50, 4), (4, .invokestatic 55, 7), (7, .ifCond .ne 6, 10), (10, .bipush (-2), 12), (12, .ireturn, 13), (13, .aload_n 0, 14), (14, .getfield 10, 17), (17, .getfield 131, 20), (20, .ifCond .ne 6, 23), (23, .bipush (-5), 25), (25, .ireturn, 26), (26, .iconst 0, 27), (27, .istore_n 2, 28), (28, .iconst 0, 29), (29, .istore_n 3, 30), (30, .iload_n 3, 31), (31, .iload_n 1, 32), (32, .if_icmp .ge 73, 35), (35, .aload_n 0, 36), (36, .getfield 10, 39), (39, .getfield 131, 42), (42, .ifCond .le 63, 45), (45, .aload_n 0, 46), (46, .getfield 10, 49), (49, .getfield 165, 52), (52, .iconst 0, 53), (53, .invokestatic 155, 56), (56, .istore 4, 58), (58, .aload_n 0, 59), (59, .iload 4, 61), (61, .bipush 100, 63), (63, .idiv, 64), (64, .iload 4, 66), (66, .bipush 100, 68), (68, .irem, 69), (69, .invokevirtual 88, 72), (72, .ifCond .lt 9, 75), (75, .iinc 2 1, 78), (78, .goto 21, 81), (81, .aload_n 0, 82), (82, .getfield 10, 85), (85, .iload 4, 87), (87, .invokevirtual 273, 90), (90, .aload_n 0, 91), (91, .getfield 10, 94), (94, .iload 4, 96), (96, .invokevirtual 277, 99), (99, .iinc 3 1, 102), (102, .goto (-72), 105), (105, .iload_n 2, 106), (106, .ireturn, 107)]
def mX5_isWithin : MI := (yX5_isWithin, cX5_isWithin, 3, (some .boolean))
def lX5_isWithin : List (Nat × Instr × Nat) := [(0, .iload_n 0, 1), (1, .iload_n 1, 2), (2, .if_icmp .lt 12, 5), (5, .iload_n 0, 6), (6, .iload_n 2, 7), (7, .if_icmp .gt 7, 10), (10, .iconst 1, 11), (11, .goto 4, 14), (14, .iconst 0, 15), (15, .ireturn, 16)]
def mX5_at : MI := (yX5_at, cX5_at, 2, (some .int))
def lX5_at : List (Nat × Instr × Nat) := [(0, .aload_n 0, 1), (1, .ifnull 19, 4), (4, .iload_n 1, 5), (5, .ifCond .lt 15, 8), (8, .iload_n 1, 9), (9, .aload_n 0, 10), (10, .arraylength, 11), (11, .if_icmp .ge 9, 14), (14, .aload_n 0, 15), (15, .iload_n 1, 16), (16, .iaload, 17), (17, .goto 4, 20), (20, .iconst 0, 21), (21, .ireturn, 22)]
def mX5_put : MI := (yX5_put, cX5_put, 3, none)
def lX5_put : List (Nat × Instr × Nat) := [(0, .aload_n 0, 1), (1, .ifnull 17, 4), (4, .iload_n 1, 5), (5, .ifCond .lt 13, 8), (8, .iload_n 1, 9), (9, .aload_n 0, 10), (10, .arraylength, 11), (11, .if_icmp .ge 7, 14), (14, .aload_n 0, 15), (15, .iload_n 1, 16), (16, .iload_n 2, 17), (17, .iastore, 18), (18, .return_, 19)]
def mX5_copyRow : MI := (yX5_copyRow, cX5_copyRow, 2, none)
def lX5_copyRow : List (Nat × Instr × Nat) := [(0, .aload_n 0, 1), (1, .ifnull 21, 4), (4, .aload_n 1, 5), (5, .ifnull 17, 8), (8, .aload_n 0, 9), (9, .iconst 0, 10), (10, .aload_n 1, 11), (11, .iconst 0, 12), (12, .aload_n 0, 13), (13, .arraylength, 14), (14, .aload_n 1, 15), (15, .arraylength, 16), (16, .invokestatic 298, 19), (19, .invokestatic 301, 22), (22, .return_, 23)]
def mX5_scaled : MI := (yX5_scaled, cX5_scaled, 5, (some .int))
def lX5_scaled : List (Nat × Instr × Nat) := [(0, .iconst 0, 1), (1, .istore_n 2, 2), (2, .iload_n 0, 3), (3, .istore_n 3, 4), (4, .iconst 0, 5), (5, .istore 4, 7), (7, .iload 4, 9), (9, .iconst 4, 10), (10, .if_icmp .ge 40, 13), (13, .iload_n 1, 14), (14, .iload 4, 16), (16, .ishr, 17), (17, .iconst 1, 18), (18, .iand, 19), (19, .ifCond .eq 7, 22), (22, .iload_n 2, 23), (23, .iload_n 3, 24), (24, .ixor, 25), (25, .istore_n 2, 26), (26, .iload_n 3, 27), (27, .ldc_w 307, 30), (30, .iand, 31), (31, .iconst 1, 32), (32, .ishl, 33), (33, .iload_n 3, 34), (34, .iconst 3, 35), (35, .iushr, 36), (36, .ldc_w 308, 39), (39, .iand, 40), (40, .iconst 3, 41), (41, .imul, 42), (42, .ixor, 43), (43, .istore_n 3, 44), (44, .iinc 4 1, 47), (47, .goto (-40), 50), (50, .iload_n 2, 51), (51, .ireturn, 52)]
def mX5_element : MI := (yX5_element, cX5_element, 2, (some .int))
def lX5_element : List (Nat × Instr × Nat) := [(0, .iload_n 0, 1), (1, .iconst 4, 2), (2, .iload_n 1, 3), (3, .imul, 4), (4, .iushr, 5), (5, .bipush 15, 7), (7, .iand, 8), (8, .ireturn, 9)]
def mX5_leadOf : MI := (yX5_leadOf, cX5_leadOf, 2, (some .int))
def lX5_leadOf : List (Nat × Instr × Nat) := [(0, .iconst 0, 1), (1, .istore_n 1, 2), (2, .iload_n 1, 3), (3, .bipush 6, 5), (5, .if_icmp .ge 19, 8), (8, .iload_n 0, 9), (9, .iload_n 1, 10), (10, .invokestatic 174, 13), (13, .ifCond .eq 5, 16), (16, .iload_n 1, 17), (17, .ireturn, 18), (18, .iinc 1 1, 21), (21, .goto (-19), 24), (24, .iconst 0, 25), (25, .ireturn, 26)]
def mX5_unitOf : MI := (yX5_unitOf, cX5_unitOf, 2, (some .int))
def lX5_unitOf : List (Nat × Instr × Nat) := [(0, .iload_n 0, 1), (1, .getstatic 309, 4), (4, .iload_n 0, 5), (5, .iload_n 1, 6), (6, .invokestatic 174, 9), (9, .invokestatic 155, 12), (12, .invokestatic 249, 15), (15, .ireturn, 16)]
def mJ6_bitCount_0f7a4 : MI := (yJ6_bitCount_0f7a4, cJ6_bitCount_0f7a4, 1, (some .int))
def lJ6_bitCount_0f7a4 : List (Nat × Instr × Nat) := [(0, .iload_n 0, 1), (1, .iload_n 0, 2), (2, .iconst 1, 3), (3, .iushr, 4), (4, .ldc_w 265, 7), (7, .iand, 8), (8, .isub, 9), (9, .istore_n 0, 10), (10, .iload_n 0, 11), (11, .ldc_w 266, 14), (14, .iand, 15), (15, .iload_n 0, 16), (16, .iconst 2, 17), (17, .iushr, 18), (18, .ldc_w 266, 21), (21, .iand, 22), (22, .iadd, 23), (23, .istore_n 0, 24), (24, .iload_n 0, 25), (25, .iload_n 0, 26), (26, .iconst 4, 27), (27, .iushr, 28), (28, .iadd, 29), (29, .ldc_w 267, 32), (32, .iand, 33), (33, .istore_n 0, 34), (34, .iload_n 0, 35), (35, .iload_n 0, 36), (36, .bipush 8, 38), (38, .iushr, 39), (39, .iadd, 40), (40, .istore_n 0, 41), (41, .iload_n 0, 42), (42, .iload_n 0, 43), (43, .bipush 16, 45), (45, .iushr, 46), (46, .iadd, 47), (47, .istore_n 0, 48), (48, .iload_n 0, 49), (49, .bipush 63, 51), (51, .iand, 52), (52, .ireturn, 53)]
def mJ9_floorMod_7cf53 : MI := (yJ9_floorMod_7cf53, cJ9_floorMod_7cf53, 3, (some .int))
def lJ9_floorMod_7cf53 : List (Nat × Instr × Nat) := [(0, .iload_n 0, 1), (1, .iload_n 1, 2), (2, .irem, 3), (3, .istore_n 2, 4), (4, .iload_n 0, 5), (5, .iload_n 1, 6), (6, .ixor, 7), (7, .ifCond .ge 11, 10), (10, .iload_n 2, 11), (11, .ifCond .eq 7, 14), (14, .iload_n 2, 15), (15, .iload_n 1, 16), (16, .iadd, 17), (17, .ireturn, 18), (18, .iload_n 2, 19), (19, .ireturn, 20)]
def mJ9_max_7cf53 : MI := (yJ9_max_7cf53, cJ9_max_7cf53, 2, (some .int))
def lJ9_max_7cf53 : List (Nat × Instr × Nat) := [(0, .iload_n 0, 1), (1, .iload_n 1, 2), (2, .if_icmp .lt 7, 5), (5, .iload_n 0, 6), (6, .goto 4, 9), (9, .iload_n 1, 10), (10, .ireturn, 11)]
def mJ9_min_7cf53 : MI := (yJ9_min_7cf53, cJ9_min_7cf53, 2, (some .int))
def lJ9_min_7cf53 : List (Nat × Instr × Nat) := [(0, .iload_n 0, 1), (1, .iload_n 1, 2), (2, .if_icmp .gt 7, 5), (5, .iload_n 0, 6), (6, .goto 4, 9), (9, .iload_n 1, 10), (10, .ireturn, 11)]
def mJ7_fill_53178 : MI := (yJ7_fill_53178, cJ7_fill_53178, 4, none)
def lJ7_fill_53178 : List (Nat × Instr × Nat) := [(0, .iconst 0, 1), (1, .istore_n 2, 2), (2, .aload_n 0, 3), (3, .arraylength, 4), (4, .istore_n 3, 5), (5, .iload_n 2, 6), (6, .iload_n 3, 7), (7, .if_icmp .ge 13, 10), (10, .aload_n 0, 11), (11, .iload_n 2, 12), (12, .iload_n 1, 13), (13, .iastore, 14), (14, .iinc 2 1, 17), (17, .goto (-12), 20), (20, .return_, 21)]
def mL_cell : MI := (yL_cell, cL_cell, 2, (some .int))
def lL_cell : List (Nat × Instr × Nat) := [(0, .iload_n 1, 1), (1, .aload_n 0, 2), (2, .arraylength, 3), (3, .if_icmp .ge 9, 6), (6, .aload_n 0, 7), (7, .iload_n 1, 8), (8, .iaload, 9), (9, .goto 13, 12), (12, .ldc 7, 14), (14, .iload_n 1, 15), (15, .bipush 7, 17), (17, .iadd, 18), (18, .imul, 19), (19, .ldc 8, 21), (21, .iadd, 22), (22, .ireturn, 23)]
def mL_low : MI := (yL_low, cL_low, 2, (some .int))
def lL_low : List (Nat × Instr × Nat) := [(0, .iload_n 0, 1), (1, .ldc 9, 3), (3, .iand, 4), (4, .iload_n 1, 5), (5, .irem, 6), (6, .ireturn, 7)]
def mL_data : MI := (yL_data, cL_data, 1, (some .int))
def lL_data : List (Nat × Instr × Nat) := [(0, .aload_n 0, 1), (1, .iconst 0, 2), (2, .iaload, 3), (3, .aload_n 0, 4), (4, .iconst 1, 5), (5, .iaload, 6), (6, .imul, 7), (7, .ireturn, 8)]
def mL_all : MI := (yL_all, cL_all, 1, (some .int))
def lL_all : List (Nat × Instr × Nat) := [(0, .aload_n 0, 1), (1, .iconst 0, 2), (2, .iaload, 3), (3, .aload_n 0, 4), (4, .iconst 1, 5), (5, .iaload, 6), (6, .imul, 7), (7, .aload_n 0, 8), (8, .iconst 0, 9), (9, .iaload, 10), (10, .iadd, 11), (11, .iconst 2, 12), (12, .iadd, 13), (13, .ireturn, 14)]
def mL_group : MI := (yL_group, cL_group, 2, (some .int))
def lL_group : List (Nat × Instr × Nat) := [(0, .iload_n 0, 1), (1, .aload_n 1, 2), (2, .invokestatic 10, 5), (5, .if_icmp .ge 11, 8), (8, .iload_n 0, 9), (9, .aload_n 1, 10), (10, .iconst 1, 11), (11, .iaload, 12), (12, .idiv, 13), (13, .goto 26, 16), (16, .iload_n 0, 17), (17, .aload_n 1, 18), (18, .invokestatic 10, 21), (21, .aload_n 1, 22), (22, .iconst 0, 23), (23, .iaload, 24), (24, .iadd, 25), (25, .if_icmp .ge 12, 28), (28, .iload_n 0, 29), (29, .aload_n 1, 30), (30, .invokestatic 10, 33), (33, .isub, 34), (34, .goto 5, 37), (37, .bipush 9, 39), (39, .ireturn, 40)]
def mL_node : MI := (yL_node, cL_node, 3, (some .int))
def lL_node : List (Nat × Instr × Nat) := [(0, .iload_n 1, 1), (1, .iload_n 0, 2), (2, .aload_n 2, 3), (3, .iconst 3, 4), (4, .iaload, 5), (5, .imul, 6), (6, .iadd, 7), (7, .aload_n 2, 8), (8, .invokestatic 16, 11), (11, .irem, 12), (12, .ireturn, 13)]
def mL_cellOn : MI := (yL_cellOn, cL_cellOn, 3, (some .int))
def lL_cellOn : List (Nat × Instr × Nat) := [(0, .iload_n 0, 1), (1, .bipush 40, 3), (3, .aload_n 2, 4), (4, .invokestatic 16, 7), (7, .imul, 8), (8, .iadd, 9), (9, .iload_n 1, 10), (10, .aload_n 2, 11), (11, .iconst 3, 12), (12, .iaload, 13), (13, .imul, 14), (14, .isub, 15), (15, .aload_n 2, 16), (16, .invokestatic 16, 19), (19, .irem, 20), (20, .ireturn, 21)]
def mL_ones : MI := (yL_ones, cL_ones, 3, (some .int))
def lL_ones : List (Nat × Instr × Nat) := [(0, .iconst 0, 1), (1, .istore_n 1, 2), (2, .iload_n 0, 3), (3, .istore_n 2, 4), (4, .iload_n 2, 5), (5, .ifCond .eq 15, 8), (8, .iinc 1 1, 11), (11, .iload_n 2, 12), (12, .iload_n 2, 13), (13, .iconst 1, 14), (14, .isub, 15), (15, .iand, 16), (16, .istore_n 2, 17), (17, .goto (-13), 20), (20, .iload_n 1, 21), (21, .ireturn, 22)]
def mL_times : MI := (yL_times, cL_times, 5, (some .int))
def lL_times : List (Nat × Instr × Nat) := [(0, .iconst 0, 1), (1, .istore_n 2, 2), (2, .iload_n 0, 3), (3, .istore_n 3, 4), (4, .iconst 0, 5), (5, .istore 4, 7), (7, .iload 4, 9), (9, .iconst 4, 10), (10, .if_icmp .ge 46, 13), (13, .iload_n 2, 14), (14, .iload_n 1, 15), (15, .iload 4, 17), (17, .ishr, 18), (18, .iconst 1, 19), (19, .iand, 20), (20, .iconst 1, 21), (21, .if_icmp .ne 7, 24), (24, .iload_n 3, 25), (25, .goto 4, 28), (28, .iconst 0, 29), (29, .ixor, 30), (30, .istore_n 2, 31), (31, .iload_n 3, 32), (32, .bipush 8, 34), (34, .if_icmp .ge 9, 37), (37, .iconst 2, 38), (38, .iload_n 3, 39), (39, .imul, 40), (40, .goto 9, 43), (43, .iconst 2, 44), (44, .iload_n 3, 45), (45, .imul, 46), (46, .bipush 19, 48), (48, .ixor, 49), (49, .istore_n 3, 50), (50, .iinc 4 1, 53), (53, .goto (-46), 56), (56, .iload_n 2, 57), (57, .ireturn, 58)]
def mL_power : MI := (yL_power, cL_power, 3, (some .int))
def lL_power : List (Nat × Instr × Nat) := [(0, .iconst 1, 1), (1, .istore_n 1, 2), (2, .iconst 0, 3), (3, .istore_n 2, 4), (4, .iload_n 2, 5), (5, .iload_n 0, 6), (6, .if_icmp .ge 15, 9), (9, .iload_n 1, 10), (10, .iconst 2, 11), (11, .invokestatic 19, 14), (14, .istore_n 1, 15), (15, .iinc 2 1, 18), (18, .goto (-14), 21), (21, .iload_n 1, 22), (22, .ireturn, 23)]
def mL_nearWay : MI := (yL_nearWay, cL_nearWay, 7, (some .int))
def lL_nearWay : List (Nat × Instr × Nat) := [(0, .iconst 1, 1), (1, .istore 4, 3), (3, .iconst 0, 4), (4, .istore 5, 6), (6, .iload 5, 8), (8, .aload_n 2, 9), (9, .invokestatic 16, 12), (12, .if_icmp .ge 91, 15), (15, .iload_n 1, 16), (16, .aload_n 2, 17), (17, .invokestatic 23, 20), (20, .bipush 9, 22), (22, .if_icmp .ge 25, 25), (25, .iload 5, 27), (27, .aload_n 2, 28), (28, .invokestatic 23, 31), (31, .iload_n 1, 32), (32, .aload_n 2, 33), (33, .invokestatic 23, 36), (36, .if_icmp .ne 7, 39), (39, .iconst 1, 40), (40, .goto 21, 43), (43, .iconst 0, 44), (44, .goto 17, 47), (47, .iload 5, 49), (49, .aload_n 2, 50), (50, .invokestatic 10, 53), (53, .if_icmp .ge 7, 56), (56, .iconst 1, 57), (57, .goto 4, 60), (60, .iconst 0, 61), (61, .istore 6, 63), (63, .iload 4, 65), (65, .ifCond .eq 29, 68), (68, .iload 5, 70), (70, .iload_n 1, 71), (71, .if_icmp .eq 19, 74), (74, .iload 6, 76), (76, .ifCond .eq 14, 79), (79, .aload_n 3, 80), (80, .iload_n 0, 81), (81, .iaload, 82), (82, .iload 5, 84), (84, .ishr, 85), (85, .iconst 1, 86), (86, .iand, 87), (87, .ifCond .ne 7, 90), (90, .iconst 1, 91), (91, .goto 4, 94), (94, .iconst 0, 95), (95, .istore 4, 97), (97, .iinc 5 1, 100), (100, .goto (-94), 103), (103, .iload 4, 105), (105, .ifCond .ne 7, 108), (108, .iconst 3, 109), (109, .goto 18, 112), (112, .iload_n 1, 113), (113, .aload_n 2, 114), (114, .invokestatic 23, 117), (117, .bipush 9, 119), (119, .if_icmp .ge 7, 122), (122, .iconst 1, 123), (123, .goto 4, 126), (126, .iconst 2, 127), (127, .ireturn, 128)]
def mL_reads : MI := (yL_reads, cL_reads, 4, (some .int))
def lL_reads : List (Nat × Instr × Nat) := [(0, .iload_n 1, 1), (1, .iconst 1, 2), (2, .if_icmp .ne 9, 5), (5, .aload_n 2, 6), (6, .iconst 1, 7), (7, .iaload, 8), (8, .goto 26, 11), (11, .iload_n 1, 12), (12, .iconst 2, 13), (13, .if_icmp .ne 10, 16), (16, .aload_n 2, 17), (17, .invokestatic 10, 20), (20, .goto 14, 23), (23, .aload_n 2, 24), (24, .invokestatic 16, 27), (27, .aload_n 3, 28), (28, .iload_n 0, 29), (29, .iaload, 30), (30, .invokestatic 27, 33), (33, .isub, 34), (34, .ireturn, 35)]
def mL_isWay : MI := (yL_isWay, cL_isWay, 8, (some .boolean))
def lL_isWay : List (Nat × Instr × Nat) := [(0, .aload_n 0, 1), (1, .iload_n 1, 2), (2, .iload_n 2, 3), (3, .invokevirtual 31, 6), (6, .istore 6, 8), (8, .iload_n 1, 9), (9, .iload_n 2, 10), (10, .aload_n 3, 11), (11, .aload 5, 13), (13, .invokestatic 36, 16), (16, .istore 7, 18), (18, .iload 7, 20), (20, .iconst 3, 21), (21, .if_icmp .ge 13, 24), (24, .iload 6, 26), (26, .iload 7, 28), (28, .if_icmp .eq 19, 31), (31, .goto 14, 34), (34, .iload 6, 36), (36, .ifCond .eq 11, 39), (39, .iload 6, 41), (41, .iconst 3, 42), (42, .if_icmp .eq 5, 45), (45, .iconst 0, 46), (46, .ireturn, 47), (47, .aload_n 0, 48), (48, .iload_n 1, 49), (49, .iload_n 2, 50), (50, .invokevirtual 40, 53), (53, .iload 6, 55), (55, .ifCond .ne 8, 58), (58, .bipush (-4), 60), (60, .goto 12, 63), (63, .iload_n 1, 64), (64, .iload 6, 66), (66, .aload_n 3, 67), (67, .aload 5, 69), (69, .invokestatic 43, 72), (72, .if_icmp .ne 35, 75), (75, .aload_n 0, 76), (76, .iload_n 1, 77), (77, .iload_n 2, 78), (78, .invokevirtual 45, 81), (81, .iload 6, 83), (83, .ifCond .ne 8, 86), (86, .bipush (-4), 88), (88, .goto 12, 91), (91, .aload 4, 93), (93, .bipush 20, 95), (95, .iload_n 1, 96), (96, .imul, 97), (97, .iload_n 2, 98), (98, .iadd, 99), (99, .iaload, 100), (100, .if_icmp .ne 7, 103), (103, .iconst 1, 104), (104, .goto 4, 107), (107, .iconst 0, 108), (108, .ireturn, 109)]
def mL_lose : MI := (yL_lose, cL_lose, 5, none)
def lL_lose : List (Nat × Instr × Nat) := [(0, .aload_n 3, 1), (1, .iload_n 0, 2), (2, .dup2, 3), (3, .iaload, 4), (4, .iconst 1, 5), (5, .iload_n 1, 6), (6, .ishl, 7), (7, .ior, 8), (8, .iastore, 9), (9, .aload 4, 11), (11, .aload_n 2, 12), (12, .iconst 4, 13), (13, .iaload, 14), (14, .bipush 20, 16), (16, .iload_n 0, 17), (17, .imul, 18), (18, .iload_n 1, 19), (19, .iadd, 20), (20, .iastore, 21), (21, .aload_n 2, 22), (22, .iconst 4, 23), (23, .dup2, 24), (24, .iaload, 25), (25, .iconst 1, 26), (26, .iadd, 27), (27, .iastore, 28), (28, .aload_n 2, 29), (29, .bipush 8, 31), (31, .dup2, 32), (32, .iaload, 33), (33, .iconst 1, 34), (34, .iadd, 35), (35, .iastore, 36), (36, .return_, 37)]
def mL_leave : MI := (yL_leave, cL_leave, 6, none)
def lL_leave : List (Nat × Instr × Nat) := [(0, .iconst 0, 1), (1, .istore 4, 3), (3, .iload 4, 5), (5, .aload_n 2, 6), (6, .iconst 4, 7), (7, .iaload, 8), (8, .if_icmp .ge 22, 11), (11, .aload_n 3, 12), (12, .iload 4, 14), (14, .iaload, 15), (15, .bipush 20, 17), (17, .iload_n 0, 18), (18, .imul, 19), (19, .iload_n 1, 20), (20, .iadd, 21), (21, .if_icmp .eq 9, 24), (24, .iinc 4 1, 27), (27, .goto (-24), 30), (30, .aload_n 2, 31), (31, .iconst 4, 32), (32, .dup2, 33), (33, .iaload, 34), (34, .iconst 1, 35), (35, .isub, 36), (36, .iastore, 37), (37, .iload 4, 39), (39, .istore 5, 41), (41, .iload 5, 43), (43, .aload_n 2, 44), (44, .iconst 4, 45), (45, .iaload, 46), (46, .if_icmp .ge 19, 49), (49, .aload_n 3, 50), (50, .iload 5, 52), (52, .aload_n 3, 53), (53, .iload 5, 55), (55, .iconst 1, 56), (56, .iadd, 57), (57, .iaload, 58), (58, .iastore, 59), (59, .iinc 5 1, 62), (62, .goto (-21), 65), (65, .return_, 66)]
def mL_mend : MI := (yL_mend, cL_mend, 9, none)
def lL_mend : List (Nat × Instr × Nat) := [(0, .iconst 0, 1), (1, .istore 7, 3), (3, .iload 7, 5), (5, .aload_n 3, 6), (6, .invokestatic 16, 9), (9, .if_icmp .ge 122, 12), (12, .iload_n 2, 13), (13, .iconst 1, 14), (14, .if_icmp .ne 31, 17), (17, .iload 7, 19), (19, .iload_n 1, 20), (20, .if_icmp .eq 21, 23), (23, .iload 7, 25), (25, .aload_n 3, 26), (26, .invokestatic 23, 29), (29, .iload_n 1, 30), (30, .aload_n 3, 31), (31, .invokestatic 23, 34), (34, .if_icmp .ne 7, 37), (37, .iconst 1, 38), (38, .goto 46, 41), (41, .iconst 0, 42), (42, .goto 42, 45), (45, .iload_n 2, 46), (46, .iconst 2, 47), (47, .if_icmp .ne 20, 50), (50, .iload 7, 52), (52, .aload_n 3, 53), (53, .invokestatic 10, 56), (56, .if_icmp .ge 7, 59), (59, .iconst 1, 60), (60, .goto 24, 63), (63, .iconst 0, 64), (64, .goto 20, 67), (67, .aload 4, 69), (69, .iload_n 0, 70), (70, .iaload, 71), (71, .iload 7, 73), (73, .ishr, 74), (74, .iconst 1, 75), (75, .iand, 76), (76, .ifCond .ne 7, 79), (79, .iconst 1, 80), (80, .goto 4, 83), (83, .iconst 0, 84), (84, .istore 8, 86), (86, .aload 6, 88), (88, .iload_n 0, 89), (89, .iload 7, 91), (91, .aload_n 3, 92), (92, .invokestatic 48, 95), (95, .dup2, 96), (96, .iaload, 97), (97, .iload 8, 99), (99, .ifCond .eq 7, 102), (102, .iconst 1, 103), (103, .goto 4, 106), (106, .iconst 0, 107), (107, .iadd, 108), (108, .iastore, 109), (109, .aload_n 3, 110), (110, .iconst 5, 111), (111, .dup2, 112), (112, .iaload, 113), (113, .iload 8, 115), (115, .ifCond .eq 7, 118), (118, .iconst 1, 119), (119, .goto 4, 122), (122, .iconst 0, 123), (123, .iadd, 124), (124, .iastore, 125), (125, .iinc 7 1, 128), (128, .goto (-125), 131), (131, .aload_n 3, 132), (132, .bipush 6, 134), (134, .dup2, 135), (135, .iaload, 136), (136, .iconst 1, 137), (137, .iadd, 138), (138, .iastore, 139), (139, .aload_n 3, 140), (140, .bipush 7, 142), (142, .dup2, 143), (143, .iaload, 144), (144, .iload_n 2, 145), (145, .iconst 1, 146), (146, .if_icmp .ne 7, 149), (149, .iconst 1, 150), (150, .goto 4, 153), (153, .iconst 0, 154), (154, .iadd, 155), (155, .iastore, 156), (156, .aload 4, 158), (158, .iload_n 0, 159), (159, .dup2, 160), (160, .iaload, 161), (161, .iconst 1, 162), (162, .iload_n 1, 163), (163, .ishl, 164), (164, .ixor, 165), (165, .iastore, 166), (166, .iload_n 0, 167), (167, .iload_n 1, 168), (168, .aload_n 3, 169), (169, .aload 5, 171), (171, .invokestatic 52, 174), (174, .return_, 175)]
def mL_write : MI := (yL_write, cL_write, 7, none)
def lL_write : List (Nat × Instr × Nat) := [(0, .aload 4, 2), (2, .bipush 20, 4), (4, .iload_n 0, 5), (5, .imul, 6), (6, .iload_n 1, 7), (7, .iadd, 8), (8, .iaload, 9), (9, .iload_n 2, 10), (10, .ixor, 11), (11, .istore 5, 13), (13, .bipush 20, 15), (15, .iload_n 0, 16), (16, .imul, 17), (17, .aload_n 3, 18), (18, .invokestatic 10, 21), (21, .iadd, 22), (22, .aload_n 3, 23), (23, .iconst 0, 24), (24, .iaload, 25), (25, .iadd, 26), (26, .istore 6, 28), (28, .aload 4, 30), (30, .bipush 20, 32), (32, .iload_n 0, 33), (33, .imul, 34), (34, .iload_n 1, 35), (35, .iadd, 36), (36, .iload_n 2, 37), (37, .iastore, 38), (38, .aload 4, 40), (40, .bipush 20, 42), (42, .iload_n 0, 43), (43, .imul, 44), (44, .aload_n 3, 45), (45, .invokestatic 10, 48), (48, .iadd, 49), (49, .iload_n 1, 50), (50, .aload_n 3, 51), (51, .iconst 1, 52), (52, .iaload, 53), (53, .idiv, 54), (54, .iadd, 55), (55, .dup2, 56), (56, .iaload, 57), (57, .iload 5, 59), (59, .ixor, 60), (60, .iastore, 61), (61, .aload 4, 63), (63, .iload 6, 65), (65, .dup2, 66), (66, .iaload, 67), (67, .iload 5, 69), (69, .iload_n 1, 70), (70, .invokestatic 56, 73), (73, .invokestatic 19, 76), (76, .ixor, 77), (77, .iastore, 78), (78, .aload 4, 80), (80, .iload 6, 82), (82, .iconst 1, 83), (83, .iadd, 84), (84, .dup2, 85), (85, .iaload, 86), (86, .iload 5, 88), (88, .iconst 2, 89), (89, .iload_n 1, 90), (90, .imul, 91), (91, .invokestatic 56, 94), (94, .invokestatic 19, 97), (97, .ixor, 98), (98, .iastore, 99), (99, .return_, 100)]
def mL_told : MI := (yL_told, cL_told, 5, (some .long))
def lL_told : List (Nat × Instr × Nat) := [(0, .ldc2_w 59, 3), (3, .lstore_n 1, 4), (4, .iconst 0, 5), (5, .istore_n 3, 6), (6, .iload_n 3, 7), (7, .bipush 10, 9), (9, .if_icmp .ge 22, 12), (12, .ldc2_w 61, 15), (15, .lload_n 1, 16), (16, .lmul, 17), (17, .aload_n 0, 18), (18, .iload_n 3, 19), (19, .invokevirtual 63, 22), (22, .i2l, 23), (23, .ladd, 24), (24, .lstore_n 1, 25), (25, .iinc 3 1, 28), (28, .goto (-22), 31), (31, .iconst 0, 32), (32, .istore_n 3, 33), (33, .iload_n 3, 34), (34, .aload_n 0, 35), (35, .iconst 4, 36), (36, .invokevirtual 63, 39), (39, .if_icmp .ge 56, 42), (42, .ldc2_w 61, 45), (45, .lload_n 1, 46), (46, .lmul, 47), (47, .aload_n 0, 48), (48, .iload_n 3, 49), (49, .invokevirtual 66, 52), (52, .i2l, 53), (53, .ladd, 54), (54, .lstore_n 1, 55), (55, .iconst 0, 56), (56, .istore 4, 58), (58, .iload 4, 60), (60, .aload_n 0, 61), (61, .iconst 2, 62), (62, .invokevirtual 63, 65), (65, .if_icmp .ge 24, 68), (68, .ldc2_w 69, 71), (71, .lload_n 1, 72), (72, .lmul, 73), (73, .aload_n 0, 74), (74, .iload 4, 76), (76, .iload_n 3, 77), (77, .invokevirtual 71, 80), (80, .i2l, 81), (81, .ladd, 82), (82, .lstore_n 1, 83), (83, .iinc 4 1, 86), (86, .goto (-28), 89), (89, .iinc 3 1, 92), (92, .goto (-59), 95), (95, .iconst 0, 96), (96, .istore_n 3, 97), (97, .iload_n 3, 98), (98, .aload_n 0, 99), (99, .iconst 5, 100), (100, .invokevirtual 63, 103), (103, .if_icmp .ge 22, 106), (106, .ldc2_w 74, 109), (109, .lload_n 1, 110), (110, .lmul, 111), (111, .aload_n 0, 112), (112, .iload_n 3, 113), (113, .invokevirtual 76, 116), (116, .i2l, 117), (117, .ladd, 118), (118, .lstore_n 1, 119), (119, .iinc 3 1, 122), (122, .goto (-25), 125), (125, .lload_n 1, 126), (126, .lreturn, 127)]
def mL_isSo : MI := (yL_isSo, cL_isSo, 11, (some .boolean))
def lL_isSo : List (Nat × Instr × Nat) := [(0, .bipush (-5), 2), (2, .istore 6, 4), (4, .iconst 0, 5), (5, .istore 7, 7), (7, .iconst 0, 8), (8, .istore 8, 10), (10, .iload 8, 12), (12, .aload_n 1, 13), (13, .invokestatic 16, 16), (16, .if_icmp .ge 66, 19), (19, .aload_n 0, 20), (20, .iload 8, 22), (22, .invokevirtual 66, 25), (25, .aload 5, 27), (27, .iload 8, 29), (29, .iaload, 30), (30, .if_icmp .eq 5, 33), (33, .iconst 0, 34), (34, .ireturn, 35), (35, .aload 5, 37), (37, .iload 8, 39), (39, .iaload, 40), (40, .iload 7, 42), (42, .if_icmp .le 8, 45), (45, .iload 8, 47), (47, .goto 5, 50), (50, .iload 6, 52), (52, .istore 6, 54), (54, .aload 5, 56), (56, .iload 8, 58), (58, .iaload, 59), (59, .iload 7, 61), (61, .if_icmp .le 11, 64), (64, .aload 5, 66), (66, .iload 8, 68), (68, .iaload, 69), (69, .goto 5, 72), (72, .iload 7, 74), (74, .istore 7, 76), (76, .iinc 8 1, 79), (79, .goto (-69), 82), (82, .iconst 0, 83), (83, .istore 8, 85), (85, .iload 8, 87), (87, .aload_n 1, 88), (88, .iconst 2, 89), (89, .iaload, 90), (90, .if_icmp .ge 177, 93), (93, .iconst 0, 94), (94, .istore 9, 96), (96, .iload 9, 98), (98, .aload_n 1, 99), (99, .invokestatic 16, 102), (102, .if_icmp .ge 99, 105), (105, .aload_n 3, 106), (106, .iload 8, 108), (108, .iaload, 109), (109, .iload 9, 111), (111, .ishr, 112), (112, .iconst 1, 113), (113, .iand, 114), (114, .iconst 1, 115), (115, .if_icmp .ne 7, 118), (118, .iconst 1, 119), (119, .goto 4, 122), (122, .iconst 0, 123), (123, .istore 10, 125), (125, .aload_n 0, 126), (126, .iload 8, 128), (128, .iload 9, 130), (130, .invokevirtual 71, 133), (133, .iload 10, 135), (135, .ifCond .eq 8, 138), (138, .bipush (-5), 140), (140, .goto 13, 143), (143, .aload_n 2, 144), (144, .bipush 20, 146), (146, .iload 8, 148), (148, .imul, 149), (149, .iload 9, 151), (151, .iadd, 152), (152, .iaload, 153), (153, .if_icmp .ne 40, 156), (156, .aload_n 0, 157), (157, .iload 8, 159), (159, .iload 9, 161), (161, .invokevirtual 79, 164), (164, .iload 8, 166), (166, .iload 9, 168), (168, .aload_n 1, 169), (169, .invokestatic 48, 172), (172, .if_icmp .ne 21, 175), (175, .iload 10, 177), (177, .ifCond .ne 18, 180), (180, .aload_n 0, 181), (181, .iload 8, 183), (183, .iload 9, 185), (185, .invokevirtual 31, 188), (188, .bipush (-5), 190), (190, .if_icmp .eq 5, 193), (193, .iconst 0, 194), (194, .ireturn, 195), (195, .iinc 9 1, 198), (198, .goto (-102), 201), (201, .aload_n 0, 202), (202, .iload 8, 204), (204, .invokevirtual 81, 207), (207, .aload_n 3, 208), (208, .iload 8, 210), (210, .iaload, 211), (211, .if_icmp .ne 48, 214), (214, .aload_n 0, 215), (215, .iload 8, 217), (217, .invokevirtual 84, 220), (220, .aload_n 3, 221), (221, .iload 8, 223), (223, .iaload, 224), (224, .ifCond .ne 7, 227), (227, .iconst 0, 228), (228, .goto 5, 231), (231, .bipush (-4), 233), (233, .if_icmp .ne 26, 236), (236, .aload_n 0, 237), (237, .iload 8, 239), (239, .invokevirtual 87, 242), (242, .aload_n 3, 243), (243, .iload 8, 245), (245, .iaload, 246), (246, .ifCond .ne 8, 249), (249, .bipush (-5), 251), (251, .goto 5, 254), (254, .bipush (-4), 256), (256, .if_icmp .eq 5, 259), (259, .iconst 0, 260), (260, .ireturn, 261), (261, .iinc 8 1, 264), (264, .goto (-179), 267), (267, .iconst 0, 268), (268, .istore 8, 270), (270, .iload 8, 272), (272, .aload_n 1, 273), (273, .iconst 4, 274), (274, .iaload, 275), (275, .if_icmp .ge 40, 278), (278, .aload_n 0, 279), (279, .iload 8, 281), (281, .invokevirtual 76, 284), (284, .bipush 100, 286), (286, .aload 4, 288), (288, .iload 8, 290), (290, .iaload, 291), (291, .bipush 20, 293), (293, .idiv, 294), (294, .imul, 295), (295, .aload 4, 297), (297, .iload 8, 299), (299, .iaload, 300), (300, .bipush 20, 302), (302, .irem, 303), (303, .iadd, 304), (304, .if_icmp .eq 5, 307), (307, .iconst 0, 308), (308, .ireturn, 309), (309, .iinc 8 1, 312), (312, .goto (-42), 315), (315, .aload_n 0, 316), (316, .iconst 4, 317), (317, .invokevirtual 63, 320), (320, .aload_n 1, 321), (321, .invokestatic 16, 324), (324, .if_icmp .ne 69, 327), (327, .aload_n 0, 328), (328, .iconst 5, 329), (329, .invokevirtual 63, 332), (332, .aload_n 1, 333), (333, .iconst 4, 334), (334, .iaload, 335), (335, .if_icmp .ne 58, 338), (338, .aload_n 0, 339), (339, .bipush 6, 341), (341, .invokevirtual 63, 344), (344, .aload_n 1, 345), (345, .iconst 5, 346), (346, .iaload, 347), (347, .if_icmp .ne 46, 350), (350, .aload_n 0, 351), (351, .bipush 7, 353), (353, .invokevirtual 63, 356), (356, .aload_n 1, 357), (357, .bipush 6, 359), (359, .iaload, 360), (360, .if_icmp .ne 33, 363), (363, .aload_n 0, 364), (364, .bipush 8, 366), (366, .invokevirtual 63, 369), (369, .aload_n 1, 370), (370, .bipush 7, 372), (372, .iaload, 373), (373, .if_icmp .ne 20, 376), (376, .aload_n 0, 377), (377, .bipush 9, 379), (379, .invokevirtual 63, 382), (382, .aload_n 1, 383), (383, .bipush 8, 385), (385, .iaload, 386), (386, .if_icmp .ne 7, 389), (389, .iconst 1, 390), (390, .goto 4, 393), (393, .iconst 0, 394), (394, .istore 8, 396), (396, .iload 8, 398), (398, .ifCond .eq 52, 401), (401, .aload_n 0, 402), (402, .invokevirtual 90, 405), (405, .iload 6, 407), (407, .if_icmp .ne 43, 410), (410, .aload_n 0, 411), (411, .aload_n 1, 412), (412, .iconst 4, 413), (413, .iaload, 414), (414, .invokevirtual 76, 417), (417, .bipush (-5), 419), (419, .if_icmp .ne 31, 422), (422, .aload_n 0, 423), (423, .aload_n 1, 424), (424, .iconst 2, 425), (425, .iaload, 426), (426, .iconst 0, 427), (427, .invokevirtual 71, 430), (430, .iconst (-1), 431), (431, .if_icmp .ne 19, 434), (434, .aload_n 0, 435), (435, .aload_n 1, 436), (436, .invokestatic 16, 439), (439, .invokevirtual 66, 442), (442, .iconst (-1), 443), (443, .if_icmp .ne 7, 446), (446, .iconst 1, 447), (447, .goto 4, 450), (450, .iconst 0, 451), (451, .ireturn, 452)]
def mL_call : MI := (yL_call, cL_call, 5, (some .int))
def lL_call : List (Nat × Instr × Nat) := [(0, .iload_n 1, 1), (1, .tableswitch 70 0 4 #[35, 44, 51, 57, 64], 36), (36, .aload_n 0, 37), (37, .iload_n 2, 38), (38, .iload_n 3, 39), (39, .iload 4, 41), (41, .invokevirtual 94, 44), (44, .ireturn, 45), (45, .aload_n 0, 46), (46, .iload_n 2, 47), (47, .iload_n 3, 48), (48, .invokevirtual 98, 51), (51, .ireturn, 52), (52, .aload_n 0, 53), (53, .iload_n 3, 54), (54, .invokevirtual 101, 57), (57, .ireturn, 58), (58, .aload_n 0, 59), (59, .iload_n 2, 60), (60, .iload_n 3, 61), (61, .invokevirtual 104, 64), (64, .ireturn, 65), (65, .aload_n 0, 66), (66, .iload_n 3, 67), (67, .invokevirtual 107, 70), (70, .ireturn, 71), (71, .aload_n 0, 72), (72, .iconst 1, 73), (73, .invokevirtual 110, 76), (76, .ireturn, 77)]
def mL_does : MI := (yL_does, cL_does, 14, (some .boolean))
def lL_does : List (Nat × Instr × Nat) := [(0, .aload_n 2, 1), (1, .iconst 1, 2), (2, .iaload, 3), (3, .istore 8, 5), (5, .aload_n 2, 6), (6, .iconst 2, 7), (7, .iaload, 8), (8, .istore 9, 10), (10, .iload 9, 12), (12, .aload_n 3, 13), (13, .invokestatic 16, 16), (16, .if_icmp .ge 7, 19), (19, .iconst 1, 20), (20, .goto 4, 23), (23, .iconst 0, 24), (24, .istore 10, 26), (26, .iconst 0, 27), (27, .istore 11, 29), (29, .aload_n 2, 30), (30, .iconst 0, 31), (31, .iaload, 32), (32, .ifCond .ne 85, 35), (35, .iload 9, 37), (37, .aload_n 3, 38), (38, .invokestatic 10, 41), (41, .if_icmp .ne 7, 44), (44, .iconst (-1), 45), (45, .goto 49, 48), (48, .aload 5, 50), (50, .iload 8, 52), (52, .iaload, 53), (53, .ifCond .eq 8, 56), (56, .bipush (-4), 58), (58, .goto 36, 61), (61, .aload 4, 63), (63, .bipush 20, 65), (65, .iload 8, 67), (67, .imul, 68), (68, .iload 9, 70), (70, .iadd, 71), (71, .iaload, 72), (72, .aload_n 2, 73), (73, .iconst 3, 74), (74, .iaload, 75), (75, .if_icmp .ne 8, 78), (78, .bipush (-5), 80), (80, .goto 14, 83), (83, .aload 4, 85), (85, .bipush 20, 87), (87, .iload 8, 89), (89, .imul, 90), (90, .iload 9, 92), (92, .iadd, 93), (93, .iaload, 94), (94, .istore 11, 96), (96, .iload 11, 98), (98, .ifCond .lt 362, 101), (101, .iload 8, 103), (103, .iload 9, 105), (105, .aload_n 2, 106), (106, .iconst 3, 107), (107, .iaload, 108), (108, .aload_n 3, 109), (109, .aload 4, 111), (111, .invokestatic 113, 114), (114, .goto 346, 117), (117, .aload_n 2, 118), (118, .iconst 0, 119), (119, .iaload, 120), (120, .iconst 1, 121), (121, .if_icmp .ne 49, 124), (124, .aload 5, 126), (126, .iload 8, 128), (128, .iaload, 129), (129, .iload 9, 131), (131, .ishr, 132), (132, .iconst 1, 133), (133, .iand, 134), (134, .iconst 1, 135), (135, .if_icmp .ne 8, 138), (138, .bipush (-5), 140), (140, .goto 8, 143), (143, .aload_n 3, 144), (144, .iconst 4, 145), (145, .iaload, 146), (146, .iconst 1, 147), (147, .iadd, 148), (148, .istore 11, 150), (150, .iload 11, 152), (152, .ifCond .lt 308, 155), (155, .iload 8, 157), (157, .iload 9, 159), (159, .aload_n 3, 160), (160, .aload 5, 162), (162, .aload 6, 164), (164, .invokestatic 116, 167), (167, .goto 293, 170), (170, .aload_n 2, 171), (171, .iconst 0, 172), (172, .iaload, 173), (173, .iconst 3, 174), (174, .if_icmp .ne 67, 177), (177, .aload_n 1, 178), (178, .iload 8, 180), (180, .iaload, 181), (181, .ifCond .ge 8, 184), (184, .bipush (-5), 186), (186, .goto 27, 189), (189, .aload_n 1, 190), (190, .iload 8, 192), (192, .iaload, 193), (193, .ifCond .ne 8, 196), (196, .bipush (-4), 198), (198, .goto 15, 201), (201, .iload 8, 203), (203, .aload_n 1, 204), (204, .iload 8, 206), (206, .iaload, 207), (207, .aload_n 3, 208), (208, .aload 5, 210), (210, .invokestatic 43, 213), (213, .istore 11, 215), (215, .iload 11, 217), (217, .ifCond .lt 243, 220), (220, .iload 8, 222), (222, .iload 9, 224), (224, .aload_n 1, 225), (225, .iload 8, 227), (227, .iaload, 228), (228, .aload_n 3, 229), (229, .aload 5, 231), (231, .aload 6, 233), (233, .aload 7, 235), (235, .invokestatic 119, 238), (238, .goto 222, 241), (241, .aload_n 2, 242), (242, .iconst 0, 243), (243, .iaload, 244), (244, .iconst 5, 245), (245, .if_icmp .ne 91, 248), (248, .aload_n 3, 249), (249, .iconst 4, 250), (250, .iaload, 251), (251, .ifCond .ne 8, 254), (254, .bipush (-5), 256), (256, .goto 15, 259), (259, .aload_n 1, 260), (260, .iload 8, 262), (262, .iaload, 263), (263, .ifCond .le 7, 266), (266, .iconst 1, 267), (267, .goto 4, 270), (270, .iconst 0, 271), (271, .istore 11, 273), (273, .iload 11, 275), (275, .iconst 1, 276), (276, .if_icmp .ne 21, 279), (279, .iload 8, 281), (281, .iload 9, 283), (283, .aload_n 1, 284), (284, .iload 8, 286), (286, .iaload, 287), (287, .aload_n 3, 288), (288, .aload 5, 290), (290, .aload 6, 292), (292, .aload 7, 294), (294, .invokestatic 119, 297), (297, .iload 11, 299), (299, .ifCond .ne 161, 302), (302, .iload 8, 304), (304, .iload 9, 306), (306, .aload_n 3, 307), (307, .aload 6, 309), (309, .invokestatic 52, 312), (312, .aload 6, 314), (314, .aload_n 3, 315), (315, .iconst 4, 316), (316, .iaload, 317), (317, .bipush 20, 319), (319, .iload 8, 321), (321, .imul, 322), (322, .iload 9, 324), (324, .iadd, 325), (325, .iastore, 326), (326, .aload_n 3, 327), (327, .iconst 4, 328), (328, .dup2, 329), (329, .iaload, 330), (330, .iconst 1, 331), (331, .iadd, 332), (332, .iastore, 333), (333, .goto 127, 336), (336, .iload 10, 338), (338, .ifCond .ne 9, 341), (341, .iconst (-1), 342), (342, .istore 11, 344), (344, .goto 116, 347), (347, .aload_n 2, 348), (348, .iconst 0, 349), (349, .iaload, 350), (350, .aload_n 1, 351), (351, .iload 9, 353), (353, .aload_n 3, 354), (354, .aload 5, 356), (356, .invokestatic 122, 359), (359, .istore 11, 361), (361, .iconst 0, 362), (362, .istore 12, 364), (364, .iload 12, 366), (366, .aload_n 3, 367), (367, .iconst 2, 368), (368, .iaload, 369), (369, .if_icmp .ge 91, 372), (372, .iload 11, 374), (374, .ifCond .le 86, 377), (377, .iload 9, 379), (379, .iload 12, 381), (381, .aload_n 3, 382), (382, .invokestatic 126, 385), (385, .istore 13, 387), (387, .aload_n 2, 388), (388, .iconst 0, 389), (389, .iaload, 390), (390, .iconst 2, 391), (391, .if_icmp .ne 31, 394), (394, .aload 5, 396), (396, .iload 12, 398), (398, .iaload, 399), (399, .iload 13, 401), (401, .ishr, 402), (402, .iconst 1, 403), (403, .iand, 404), (404, .ifCond .ne 18, 407), (407, .iload 12, 409), (409, .iload 13, 411), (411, .aload_n 3, 412), (412, .aload 5, 414), (414, .aload 6, 416), (416, .invokestatic 116, 419), (419, .goto 35, 422), (422, .aload_n 2, 423), (423, .iconst 0, 424), (424, .iaload, 425), (425, .iconst 4, 426), (426, .if_icmp .ne 28, 429), (429, .aload_n 1, 430), (430, .iload 12, 432), (432, .iaload, 433), (433, .ifCond .le 21, 436), (436, .iload 12, 438), (438, .iload 13, 440), (440, .aload_n 1, 441), (441, .iload 12, 443), (443, .iaload, 444), (444, .aload_n 3, 445), (445, .aload 5, 447), (447, .aload 6, 449), (449, .aload 7, 451), (451, .invokestatic 119, 454), (454, .iinc 12 1, 457), (457, .goto (-93), 460), (460, .iload_n 0, 461), (461, .iload 11, 463), (463, .if_icmp .ne 7, 466), (466, .iconst 1, 467), (467, .goto 4, 470), (470, .iconst 0, 471), (471, .ireturn, 472)]
def mL_nodeDue : MI := (yL_nodeDue, cL_nodeDue, 10, (some .int))
def lL_nodeDue : List (Nat × Instr × Nat) := [(0, .iconst 0, 1), (1, .istore 5, 3), (3, .iconst 0, 4), (4, .istore 6, 6), (6, .iconst 1, 7), (7, .istore 7, 9), (9, .iconst 0, 10), (10, .istore 8, 12), (12, .iload 8, 14), (14, .aload_n 3, 15), (15, .iconst 2, 16), (16, .iaload, 17), (17, .if_icmp .ge 132, 20), (20, .aload 4, 22), (22, .iload 8, 24), (24, .iaload, 25), (25, .iload_n 2, 26), (26, .iload 8, 28), (28, .aload_n 3, 29), (29, .invokestatic 126, 32), (32, .ishr, 33), (33, .iconst 1, 34), (34, .iand, 35), (35, .iconst 1, 36), (36, .if_icmp .ne 7, 39), (39, .iconst 1, 40), (40, .goto 4, 43), (43, .iconst 0, 44), (44, .istore 9, 46), (46, .iload 6, 48), (48, .ifCond .ne 18, 51), (51, .iload_n 0, 52), (52, .iconst 4, 53), (53, .if_icmp .ne 7, 56), (56, .iconst 1, 57), (57, .goto 4, 60), (60, .iconst 0, 61), (61, .iload 9, 63), (63, .if_icmp .ne 7, 66), (66, .iconst 1, 67), (67, .goto 4, 70), (70, .iconst 0, 71), (71, .istore 6, 73), (73, .iload 7, 75), (75, .ifCond .eq 19, 78), (78, .iload_n 0, 79), (79, .iconst 2, 80), (80, .if_icmp .eq 10, 83), (83, .aload_n 1, 84), (84, .iload 8, 86), (86, .iaload, 87), (87, .ifCond .eq 7, 90), (90, .iconst 1, 91), (91, .goto 4, 94), (94, .iconst 0, 95), (95, .istore 7, 97), (97, .iload 5, 99), (99, .iload_n 0, 100), (100, .iconst 2, 101), (101, .if_icmp .ne 16, 104), (104, .iload 9, 106), (106, .ifCond .eq 7, 109), (109, .iconst 0, 110), (110, .goto 30, 113), (113, .iconst 1, 114), (114, .goto 26, 117), (117, .aload_n 1, 118), (118, .iload 8, 120), (120, .iaload, 121), (121, .ifCond .le 18, 124), (124, .iload 8, 126), (126, .aload_n 1, 127), (127, .iload 8, 129), (129, .iaload, 130), (130, .aload_n 3, 131), (131, .aload 4, 133), (133, .invokestatic 43, 136), (136, .goto 4, 139), (139, .iconst 0, 140), (140, .iadd, 141), (141, .istore 5, 143), (143, .iinc 8 1, 146), (146, .goto (-134), 149), (149, .iload 6, 151), (151, .ifCond .ne 8, 154), (154, .bipush (-5), 156), (156, .goto 15, 159), (159, .iload 7, 161), (161, .ifCond .eq 8, 164), (164, .iload 5, 166), (166, .goto 5, 169), (169, .bipush (-4), 171), (171, .ireturn, 172)]
def mL_law : MI := (yL_law, cL_law, 17, (some .boolean))
def lL_law : List (Nat × Instr × Nat) := [(0, .new 32, 3), (3, .dup, 4), (4, .invokespecial 129, 7), (7, .astore_n 1, 8), (8, .bipush 9, 10), (10, .newarray .int, 12), (12, .astore_n 2, 13), (13, .bipush 60, 15), (15, .newarray .int, 17), (17, .astore_n 3, 18), (18, .iconst 3, 19), (19, .newarray .int, 21), (21, .astore 4, 23), (23, .bipush 60, 25), (25, .newarray .int, 27), (27, .astore 5, 29), (29, .bipush 20, 31), (31, .newarray .int, 33), (33, .astore 6, 35), (35, .iconst 3, 36), (36, .newarray .int, 38), (38, .astore 7, 40), (40, .iconst 4, 41), (41, .newarray .int, 43), (43, .astore 8, 45), (45, .aload_n 0, 46), (46, .iconst 0, 47), (47, .invokestatic 130, 50), (50, .istore 9, 52), (52, .aload_n 2, 53), (53, .iconst 0, 54), (54, .iconst 1, 55), (55, .iload 9, 57), (57, .iconst 4, 58), (58, .invokestatic 134, 61), (61, .iadd, 62), (62, .iastore, 63), (63, .aload_n 2, 64), (64, .iconst 1, 65), (65, .iconst 2, 66), (66, .iload 9, 68), (68, .iconst 2, 69), (69, .ishr, 70), (70, .aload_n 2, 71), (71, .iconst 0, 72), (72, .iaload, 73), (73, .iconst 4, 74), (74, .if_icmp .ne 7, 77), (77, .iconst 2, 78), (78, .goto 15, 81), (81, .aload_n 2, 82), (82, .iconst 0, 83), (83, .iaload, 84), (84, .iconst 3, 85), (85, .if_icmp .ne 7, 88), (88, .iconst 4, 89), (89, .goto 4, 92), (92, .iconst 5, 93), (93, .invokestatic 134, 96), (96, .iadd, 97), (97, .iastore, 98), (98, .aload_n 2, 99), (99, .iconst 2, 100), (100, .iconst 1, 101), (101, .iload 9, 103), (103, .iconst 5, 104), (104, .ishr, 105), (105, .iconst 3, 106), (106, .invokestatic 134, 109), (109, .iadd, 110), (110, .iastore, 111), (111, .aload_n 2, 112), (112, .iconst 3, 113), (113, .iload 9, 115), (115, .bipush 8, 117), (117, .ishr, 118), (118, .bipush 6, 120), (120, .invokestatic 134, 123), (123, .iastore, 124), (124, .aload_n 1, 125), (125, .aload_n 2, 126), (126, .iconst 0, 127), (127, .iaload, 128), (128, .aload_n 2, 129), (129, .iconst 1, 130), (130, .iaload, 131), (131, .aload_n 2, 132), (132, .iconst 2, 133), (133, .iaload, 134), (134, .aload_n 2, 135), (135, .iconst 3, 136), (136, .iaload, 137), (137, .invokevirtual 137, 140), (140, .aload_n 2, 141), (141, .invokestatic 16, 144), (144, .if_icmp .ne 18, 147), (147, .aload_n 1, 148), (148, .aload_n 2, 149), (149, .aload_n 3, 150), (150, .aload 4, 152), (152, .aload 5, 154), (154, .aload 6, 156), (156, .invokestatic 141, 159), (159, .ifCond .ne 5, 162), (162, .iconst 0, 163), (163, .ireturn, 164), (164, .iconst 0, 165), (165, .istore 10, 167), (167, .iload 10, 169), (169, .bipush 30, 171), (171, .if_icmp .ge 481, 174), (174, .aload_n 0, 175), (175, .iconst 1, 176), (176, .iconst 2, 177), (177, .iload 10, 179), (179, .imul, 180), (180, .iadd, 181), (181, .invokestatic 130, 184), (184, .istore 11, 186), (186, .aload_n 0, 187), (187, .iconst 2, 188), (188, .iconst 2, 189), (189, .iload 10, 191), (191, .imul, 192), (192, .iadd, 193), (193, .invokestatic 130, 196), (196, .istore 12, 198), (198, .iload 11, 200), (200, .bipush 12, 202), (202, .invokestatic 134, 205), (205, .istore 13, 207), (207, .aload 8, 209), (209, .iconst 0, 210), (210, .iload 13, 212), (212, .iconst 4, 213), (213, .if_icmp .ge 7, 216), (216, .iconst 0, 217), (217, .goto 48, 220), (220, .iload 13, 222), (222, .bipush 7, 224), (224, .if_icmp .ge 7, 227), (227, .iconst 1, 228), (228, .goto 37, 231), (231, .iload 13, 233), (233, .bipush 7, 235), (235, .if_icmp .ne 7, 238), (238, .iconst 2, 239), (239, .goto 26, 242), (242, .iload 13, 244), (244, .bipush 10, 246), (246, .if_icmp .ge 7, 249), (249, .iconst 3, 250), (250, .goto 15, 253), (253, .iload 13, 255), (255, .bipush 10, 257), (257, .if_icmp .ne 7, 260), (260, .iconst 4, 261), (261, .goto 4, 264), (264, .iconst 5, 265), (265, .iastore, 266), (266, .aload 8, 268), (268, .iconst 1, 269), (269, .iload 12, 271), (271, .aload_n 2, 272), (272, .iconst 2, 273), (273, .iaload, 274), (274, .invokestatic 134, 277), (277, .iastore, 278), (278, .aload 8, 280), (280, .iconst 2, 281), (281, .aload 8, 283), (283, .iconst 0, 284), (284, .iaload, 285), (285, .ifCond .ne 19, 288), (288, .iload 12, 290), (290, .iconst 4, 291), (291, .ishr, 292), (292, .aload_n 2, 293), (293, .invokestatic 10, 296), (296, .iconst 1, 297), (297, .iadd, 298), (298, .invokestatic 134, 301), (301, .goto 39, 304), (304, .iload 12, 306), (306, .iconst 4, 307), (307, .ishr, 308), (308, .aload 8, 310), (310, .iconst 0, 311), (311, .iaload, 312), (312, .iconst 2, 313), (313, .if_icmp .eq 11, 316), (316, .aload 8, 318), (318, .iconst 0, 319), (319, .iaload, 320), (320, .iconst 4, 321), (321, .if_icmp .ne 12, 324), (324, .aload_n 2, 325), (325, .invokestatic 16, 328), (328, .iconst 1, 329), (329, .iadd, 330), (330, .goto 7, 333), (333, .aload_n 2, 334), (334, .invokestatic 16, 337), (337, .invokestatic 134, 340), (340, .iastore, 341), (341, .aload 8, 343), (343, .iconst 3, 344), (344, .iload 12, 346), (346, .bipush 9, 348), (348, .ishr, 349), (349, .bipush 16, 351), (351, .invokestatic 134, 354), (354, .iastore, 355), (355, .aload 8, 357), (357, .iconst 0, 358), (358, .iaload, 359), (359, .iconst 5, 360), (360, .if_icmp .ne 31, 363), (363, .aload_n 2, 364), (364, .iconst 4, 365), (365, .iaload, 366), (366, .ifCond .le 25, 369), (369, .aload 8, 371), (371, .iconst 1, 372), (372, .aload 5, 374), (374, .iconst 0, 375), (375, .iaload, 376), (376, .bipush 20, 378), (378, .idiv, 379), (379, .iastore, 380), (380, .aload 8, 382), (382, .iconst 2, 383), (383, .aload 5, 385), (385, .iconst 0, 386), (386, .iaload, 387), (387, .bipush 20, 389), (389, .irem, 390), (390, .iastore, 391), (391, .iconst 0, 392), (392, .istore 14, 394), (394, .iload 14, 396), (396, .aload_n 2, 397), (397, .iconst 2, 398), (398, .iaload, 399), (399, .if_icmp .ge 110, 402), (402, .aload 8, 404), (404, .iconst 0, 405), (405, .iaload, 406), (406, .iconst 4, 407), (407, .if_icmp .ne 16, 410), (410, .aload 8, 412), (412, .iconst 2, 413), (413, .iaload, 414), (414, .iload 14, 416), (416, .aload_n 2, 417), (417, .invokestatic 126, 420), (420, .goto 7, 423), (423, .aload 8, 425), (425, .iconst 2, 426), (426, .iaload, 427), (427, .istore 15, 429), (429, .iload 15, 431), (431, .aload_n 2, 432), (432, .invokestatic 16, 435), (435, .if_icmp .ge 21, 438), (438, .aload 4, 440), (440, .iload 14, 442), (442, .iaload, 443), (443, .iload 15, 445), (445, .ishr, 446), (446, .iconst 1, 447), (447, .iand, 448), (448, .iconst 1, 449), (449, .if_icmp .ne 7, 452), (452, .iconst 1, 453), (453, .goto 4, 456), (456, .iconst 0, 457), (457, .istore 16, 459), (459, .iload 16, 461), (461, .ifCond .eq 20, 464), (464, .aload_n 1, 465), (465, .iload 14, 467), (467, .iload 15, 469), (469, .aload_n 2, 470), (470, .aload_n 3, 471), (471, .aload 4, 473), (473, .invokestatic 145, 476), (476, .ifCond .ne 5, 479), (479, .iconst 0, 480), (480, .ireturn, 481), (481, .aload 7, 483), (483, .iload 14, 485), (485, .iload 16, 487), (487, .ifCond .eq 14, 490), (490, .aload_n 1, 491), (491, .iload 14, 493), (493, .iload 15, 495), (495, .invokevirtual 31, 498), (498, .goto 4, 501), (501, .iconst (-1), 502), (502, .iastore, 503), (503, .iinc 14 1, 506), (506, .goto (-112), 509), (509, .aload_n 1, 510), (510, .invokestatic 149, 513), (513, .lstore 14, 515), (515, .aload_n 1, 516), (516, .aload 8, 518), (518, .iconst 0, 519), (519, .iaload, 520), (520, .aload 8, 522), (522, .iconst 1, 523), (523, .iaload, 524), (524, .aload 8, 526), (526, .iconst 2, 527), (527, .iaload, 528), (528, .aload 8, 530), (530, .iconst 3, 531), (531, .iaload, 532), (532, .invokestatic 153, 535), (535, .istore 16, 537), (537, .iload 16, 539), (539, .ifCond .ge 16, 542), (542, .aload_n 1, 543), (543, .invokestatic 149, 546), (546, .lload 14, 548), (548, .lcmp, 549), (549, .ifCond .eq 60, 552), (552, .goto 55, 555), (555, .iload 11, 557), (557, .bipush 20, 559), (559, .ishr, 560), (560, .iconst 3, 561), (561, .iand, 562), (562, .ifCond .ne 47, 565), (565, .aload_n 1, 566), (566, .invokevirtual 157, 569), (569, .ifCond .lt 38, 572), (572, .aload_n 1, 573), (573, .invokestatic 149, 576), (576, .lload 14, 578), (578, .lcmp, 579), (579, .ifCond .ne 28, 582), (582, .aload_n 1, 583), (583, .aload 8, 585), (585, .iconst 0, 586), (586, .iaload, 587), (587, .aload 8, 589), (589, .iconst 1, 590), (590, .iaload, 591), (591, .aload 8, 593), (593, .iconst 2, 594), (594, .iaload, 595), (595, .aload 8, 597), (597, .iconst 3, 598), (598, .iaload, 599), (599, .invokestatic 153, 602), (602, .iload 16, 604), (604, .if_icmp .eq 5, 607), (607, .iconst 0, 608), (608, .ireturn, 609), (609, .iload 16, 611), (611, .aload 7, 613), (613, .aload 8, 615), (615, .aload_n 2, 616), (616, .aload_n 3, 617), (617, .aload 4, 619), (619, .aload 5, 621), (621, .aload 6, 623), (623, .invokestatic 160, 626), (626, .ifCond .eq 18, 629), (629, .aload_n 1, 630), (630, .aload_n 2, 631), (631, .aload_n 3, 632), (632, .aload 4, 634), (634, .aload 5, 636), (636, .aload 6, 638), (638, .invokestatic 141, 641), (641, .ifCond .ne 5, 644), (644, .iconst 0, 645), (645, .ireturn, 646), (646, .iinc 10 1, 649), (649, .goto (-482), 652), (652, .iconst 0, 653), (653, .istore 10, 655), (655, .iconst 0, 656), (656, .istore 11, 658), (658, .iload 11, 660), (660, .aload_n 2, 661), (661, .iconst 2, 662), (662, .iaload, 663), (663, .if_icmp .ge 35, 666), (666, .iload 10, 668), (668, .aload_n 1, 669), (669, .aload 4, 671), (671, .iload 11, 673), (673, .iaload, 674), (674, .invokevirtual 164, 677), (677, .iconst 1, 678), (678, .if_icmp .ne 10, 681), (681, .iconst 1, 682), (682, .iload 11, 684), (684, .ishl, 685), (685, .goto 4, 688), (688, .iconst 0, 689), (689, .ior, 690), (690, .istore 10, 692), (692, .iinc 11 1, 695), (695, .goto (-37), 698), (698, .iconst 0, 699), (699, .istore 11, 701), (701, .iload 11, 703), (703, .iconst 3, 704), (704, .if_icmp .ge 43, 707), (707, .aload_n 1, 708), (708, .iconst 5, 709), (709, .invokevirtual 63, 712), (712, .ifCond .ne 7, 715), (715, .iconst 1, 716), (716, .goto 4, 719), (719, .iconst 0, 720), (720, .aload_n 1, 721), (721, .bipush 50, 723), (723, .invokevirtual 110, 726), (726, .bipush (-5), 728), (728, .if_icmp .ne 7, 731), (731, .iconst 1, 732), (732, .goto 4, 735), (735, .iconst 0, 736), (736, .if_icmp .eq 5, 739), (739, .iconst 0, 740), (740, .ireturn, 741), (741, .iinc 11 1, 744), (744, .goto (-43), 747), (747, .iconst 0, 748), (748, .istore 11, 750), (750, .iload 11, 752), (752, .aload_n 2, 753), (753, .iconst 2, 754), (754, .iaload, 755), (755, .if_icmp .ge 102, 758), (758, .iconst 1, 759), (759, .istore 12, 761), (761, .iconst 0, 762), (762, .istore 13, 764), (764, .iload 13, 766), (766, .aload_n 2, 767), (767, .invokestatic 16, 770), (770, .if_icmp .ge 58, 773), (773, .aload_n 1, 774), (774, .iload 11, 776), (776, .iload 13, 778), (778, .invokevirtual 71, 781), (781, .istore 14, 783), (783, .iload 12, 785), (785, .ifCond .eq 12, 788), (788, .iload 14, 790), (790, .ifCond .lt 7, 793), (793, .iconst 1, 794), (794, .goto 4, 797), (797, .iconst 0, 798), (798, .istore 12, 800), (800, .iload 14, 802), (802, .ifCond .lt 20, 805), (805, .iload 14, 807), (807, .aload_n 3, 808), (808, .bipush 20, 810), (810, .iload 11, 812), (812, .imul, 813), (813, .iload 13, 815), (815, .iadd, 816), (816, .iaload, 817), (817, .if_icmp .eq 5, 820), (820, .iconst 0, 821), (821, .ireturn, 822), (822, .iinc 13 1, 825), (825, .goto (-61), 828), (828, .iload 12, 830), (830, .iload 10, 832), (832, .iload 11, 834), (834, .ishr, 835), (835, .iconst 1, 836), (836, .iand, 837), (837, .iconst 1, 838), (838, .if_icmp .ne 7, 841), (841, .iconst 1, 842), (842, .goto 4, 845), (845, .iconst 0, 846), (846, .if_icmp .eq 5, 849), (849, .iconst 0, 850), (850, .ireturn, 851), (851, .iinc 11 1, 854), (854, .goto (-104), 857), (857, .iconst 1, 858), (858, .ireturn, 859)]
theorem DX0_init : DAll mX0_init lX0_init := DAll.of (by decide +kernel)
theorem DX0_span : DAll mX0_span lX0_span := DAll.of (by decide +kernel)
theorem DX0_restOf : DAll mX0_restOf lX0_restOf := DAll.of (by decide +kernel)
theorem DX1_init : DAll mX1_init lX1_init := DAll.of (by decide +kernel)
theorem DX2_init : DAll mX2_init lX2_init := DAll.of (by decide +kernel)
theorem DX2_make : DAll mX2_make lX2_make := DAll.of (by decide +kernel)
theorem DX2_solve : DAll mX2_solve lX2_solve := DAll.of (by decide +kernel)
theorem DX2_canMendAll : DAll mX2_canMendAll lX2_canMendAll := DAll.of (by decide +kernel)
theorem DX3_init : DAll mX3_init lX3_init := DAll.of (by decide +kernel)
theorem DX4_init : DAll mX4_init lX4_init := DAll.of (by decide +kernel)
theorem DX4_copyFrom : DAll mX4_copyFrom lX4_copyFrom := DAll.of (by decide +kernel)
theorem DX4_layOut : DAll mX4_layOut lX4_layOut := DAll.of (by decide +kernel)
theorem DX4_dataCount : DAll mX4_dataCount lX4_dataCount := DAll.of (by decide +kernel)
theorem DX4_cellCount : DAll mX4_cellCount lX4_cellCount := DAll.of (by decide +kernel)
theorem DX4_allCells : DAll mX4_allCells lX4_allCells := DAll.of (by decide +kernel)
theorem DX4_hasStripe : DAll mX4_hasStripe lX4_hasStripe := DAll.of (by decide +kernel)
theorem DX4_hasCell : DAll mX4_hasCell lX4_hasCell := DAll.of (by decide +kernel)
theorem DX4_hasNode : DAll mX4_hasNode lX4_hasNode := DAll.of (by decide +kernel)
theorem DX4_nodeOf : DAll mX4_nodeOf lX4_nodeOf := DAll.of (by decide +kernel)
theorem DX4_cellOn : DAll mX4_cellOn lX4_cellOn := DAll.of (by decide +kernel)
theorem DX4_homeCheck : DAll mX4_homeCheck lX4_homeCheck := DAll.of (by decide +kernel)
theorem DX4_columnOf : DAll mX4_columnOf lX4_columnOf := DAll.of (by decide +kernel)
theorem DX4_partnersOf : DAll mX4_partnersOf lX4_partnersOf := DAll.of (by decide +kernel)
theorem DX4_valueOf : DAll mX4_valueOf lX4_valueOf := DAll.of (by decide +kernel)
theorem DX4_setValue : DAll mX4_setValue lX4_setValue := DAll.of (by decide +kernel)
theorem DX4_addToParities : DAll mX4_addToParities lX4_addToParities := DAll.of (by decide +kernel)
theorem DX4_missingIn : DAll mX4_missingIn lX4_missingIn := DAll.of (by decide +kernel)
theorem DX4_isMissing : DAll mX4_isMissing lX4_isMissing := DAll.of (by decide +kernel)
theorem DX4_sumsOver : DAll mX4_sumsOver lX4_sumsOver := DAll.of (by decide +kernel)
theorem DX4_culpritIn : DAll mX4_culpritIn lX4_culpritIn := DAll.of (by decide +kernel)
theorem DX4_takeAway : DAll mX4_takeAway lX4_takeAway := DAll.of (by decide +kernel)
theorem DX4_bringBack : DAll mX4_bringBack lX4_bringBack := DAll.of (by decide +kernel)
theorem DX4_countReads : DAll mX4_countReads lX4_countReads := DAll.of (by decide +kernel)
theorem DX4_joinQueue : DAll mX4_joinQueue lX4_joinQueue := DAll.of (by decide +kernel)
theorem DX4_leaveQueue : DAll mX4_leaveQueue lX4_leaveQueue := DAll.of (by decide +kernel)
theorem DX5_init : DAll mX5_init lX5_init := DAll.of (by decide +kernel)
theorem DX5_setLayout : DAll mX5_setLayout lX5_setLayout := DAll.of (by decide +kernel)
theorem DX5_write : DAll mX5_write lX5_write := DAll.of (by decide +kernel)
theorem DX5_lose : DAll mX5_lose lX5_lose := DAll.of (by decide +kernel)
theorem DX5_loseNode : DAll mX5_loseNode lX5_loseNode := DAll.of (by decide +kernel)
theorem DX5_mend : DAll mX5_mend lX5_mend := DAll.of (by decide +kernel)
theorem DX5_mendNode : DAll mX5_mendNode lX5_mendNode := DAll.of (by decide +kernel)
theorem DX5_work : DAll mX5_work lX5_work := DAll.of (by decide +kernel)
theorem DX5_undo : DAll mX5_undo lX5_undo := DAll.of (by decide +kernel)
theorem DX5_value : DAll mX5_value lX5_value := DAll.of (by decide +kernel)
theorem DX5_node : DAll mX5_node lX5_node := DAll.of (by decide +kernel)
theorem DX5_load : DAll mX5_load lX5_load := DAll.of (by decide +kernel)
theorem DX5_lost : DAll mX5_lost lX5_lost := DAll.of (by decide +kernel)
theorem DX5_waiting : DAll mX5_waiting lX5_waiting := DAll.of (by decide +kernel)
theorem DX5_failing : DAll mX5_failing lX5_failing := DAll.of (by decide +kernel)
theorem DX5_total : DAll mX5_total lX5_total := DAll.of (by decide +kernel)
theorem DX5_way : DAll mX5_way lX5_way := DAll.of (by decide +kernel)
theorem DX5_reads : DAll mX5_reads lX5_reads := DAll.of (by decide +kernel)
theorem DX5_mended : DAll mX5_mended lX5_mended := DAll.of (by decide +kernel)
theorem DX5_culprit : DAll mX5_culprit lX5_culprit := DAll.of (by decide +kernel)
theorem DX5_survives : DAll mX5_survives lX5_survives := DAll.of (by decide +kernel)
theorem DX5_busiest : DAll mX5_busiest lX5_busiest := DAll.of (by decide +kernel)
theorem DX5_begin : DAll mX5_begin lX5_begin := DAll.of (by decide +kernel)
theorem DX5_finish : DAll mX5_finish lX5_finish := DAll.of (by decide +kernel)
theorem DX5_record : DAll mX5_record lX5_record := DAll.of (by decide +kernel)
theorem DX5_dropOldest : DAll mX5_dropOldest lX5_dropOldest := DAll.of (by decide +kernel)
theorem DX5_writeCell : DAll mX5_writeCell lX5_writeCell := DAll.of (by decide +kernel)
theorem DX5_loseCell : DAll mX5_loseCell lX5_loseCell := DAll.of (by decide +kernel)
theorem DX5_loseCellsOn : DAll mX5_loseCellsOn lX5_loseCellsOn := DAll.of (by decide +kernel)
theorem DX5_mendCell : DAll mX5_mendCell lX5_mendCell := DAll.of (by decide +kernel)
theorem DX5_mendCellsOn : DAll mX5_mendCellsOn lX5_mendCellsOn := DAll.of (by decide +kernel)
theorem DX5_workOnQueue : DAll mX5_workOnQueue lX5_workOnQueue := DAll.of (by decide +kernel)
theorem DX5_isWithin : DAll mX5_isWithin lX5_isWithin := DAll.of (by decide +kernel)
theorem DX5_at : DAll mX5_at lX5_at := DAll.of (by decide +kernel)
theorem DX5_put : DAll mX5_put lX5_put := DAll.of (by decide +kernel)
theorem DX5_copyRow : DAll mX5_copyRow lX5_copyRow := DAll.of (by decide +kernel)
theorem DX5_scaled : DAll mX5_scaled lX5_scaled := DAll.of (by decide +kernel)
theorem DX5_element : DAll mX5_element lX5_element := DAll.of (by decide +kernel)
theorem DX5_leadOf : DAll mX5_leadOf lX5_leadOf := DAll.of (by decide +kernel)
theorem DX5_unitOf : DAll mX5_unitOf lX5_unitOf := DAll.of (by decide +kernel)
theorem DJ6_bitCount_0f7a4 : DAll mJ6_bitCount_0f7a4 lJ6_bitCount_0f7a4 := DAll.of (by decide +kernel)
theorem DJ9_floorMod_7cf53 : DAll mJ9_floorMod_7cf53 lJ9_floorMod_7cf53 := DAll.of (by decide +kernel)
theorem DJ9_max_7cf53 : DAll mJ9_max_7cf53 lJ9_max_7cf53 := DAll.of (by decide +kernel)
theorem DJ9_min_7cf53 : DAll mJ9_min_7cf53 lJ9_min_7cf53 := DAll.of (by decide +kernel)
theorem DJ7_fill_53178 : DAll mJ7_fill_53178 lJ7_fill_53178 := DAll.of (by decide +kernel)
theorem DL_cell : DAll mL_cell lL_cell := DAll.of (by decide +kernel)
theorem DL_low : DAll mL_low lL_low := DAll.of (by decide +kernel)
theorem DL_data : DAll mL_data lL_data := DAll.of (by decide +kernel)
theorem DL_all : DAll mL_all lL_all := DAll.of (by decide +kernel)
theorem DL_group : DAll mL_group lL_group := DAll.of (by decide +kernel)
theorem DL_node : DAll mL_node lL_node := DAll.of (by decide +kernel)
theorem DL_cellOn : DAll mL_cellOn lL_cellOn := DAll.of (by decide +kernel)
theorem DL_ones : DAll mL_ones lL_ones := DAll.of (by decide +kernel)
theorem DL_times : DAll mL_times lL_times := DAll.of (by decide +kernel)
theorem DL_power : DAll mL_power lL_power := DAll.of (by decide +kernel)
theorem DL_nearWay : DAll mL_nearWay lL_nearWay := DAll.of (by decide +kernel)
theorem DL_reads : DAll mL_reads lL_reads := DAll.of (by decide +kernel)
theorem DL_isWay : DAll mL_isWay lL_isWay := DAll.of (by decide +kernel)
theorem DL_lose : DAll mL_lose lL_lose := DAll.of (by decide +kernel)
theorem DL_leave : DAll mL_leave lL_leave := DAll.of (by decide +kernel)
theorem DL_mend : DAll mL_mend lL_mend := DAll.of (by decide +kernel)
theorem DL_write : DAll mL_write lL_write := DAll.of (by decide +kernel)
theorem DL_told : DAll mL_told lL_told := DAll.of (by decide +kernel)
theorem DL_isSo : DAll mL_isSo lL_isSo := DAll.of (by decide +kernel)
theorem DL_call : DAll mL_call lL_call := DAll.of (by decide +kernel)
theorem DL_does : DAll mL_does lL_does := DAll.of (by decide +kernel)
theorem DL_nodeDue : DAll mL_nodeDue lL_nodeDue := DAll.of (by decide +kernel)
end
section
/-- links, each by its place in the tables -/
theorem BW_i {w : Cond} (i : Nat) (h : lw_tbl[i]? = some w) (hg : goodWord w = true) : w ∈ BW := BW_mem (List.mem_of_getElem? h) hg
theorem NW_i {w : Cond} (i : Nat) (h : tables_1[i]? = some w) (hg : isNestW w = true) : w ∈ NW := List.mem_filter.mpr ⟨List.mem_of_getElem? h, hg⟩
def CLk (Y' : MI) (nA : Nat) : Prop := Cond.code Y'.1 Y'.2.1 Y'.2.2.1 Y'.2.2.2 ∈ BW ∧ Cond.initialized Y'.1.cls ∈ BW ∧ (Y'.1.cls ≠ "java/lang/invoke/MethodHandle" ∧ Y'.1.cls ≠ "java/lang/invoke/VarHandle" ∧ (parseMethodDescriptor Y'.1.desc).map (fun d => d.parameters.length) = some nA) ∧ Y'.2.2.1 ≤ 17
theorem MLk.mk {own : String} {idx : Nat} {Y' : MI} {nA : Nat} (h : CLk Y' nA) (h2 : Cond.methodLink own idx Y'.1 ∈ BW ∨ ∃ host, Cond.methodLinkNest own idx Y'.1 host ∈ NW) : MLk own idx Y' nA := ⟨h.1, h.2.1, h.2.2.1, h.2.2.2, h2⟩
theorem fX0_9 : FLk RX0 9 0 0 := ⟨RX0, TX0, 3, rfl, by decide, Or.inl (BW_i 197 (by decide +kernel) rfl)⟩
theorem gX0_9 : Jvm.Cond.fieldLink RX0 9 (TX0 0).1 (TX0 0).2.1 (TX0 0).2.2.1 ∈ BW := (BW_i 197 (by decide +kernel) rfl)
theorem fX0_15 : FLk RX0 15 0 1 := ⟨RX0, TX0, 3, rfl, by decide, Or.inl (BW_i 198 (by decide +kernel) rfl)⟩
theorem gX0_15 : Jvm.Cond.fieldLink RX0 15 (TX0 1).1 (TX0 1).2.1 (TX0 1).2.2.1 ∈ BW := (BW_i 198 (by decide +kernel) rfl)
theorem fX0_18 : FLk RX0 18 0 2 := ⟨RX0, TX0, 3, rfl, by decide, Or.inl (BW_i 199 (by decide +kernel) rfl)⟩
theorem fX1_9 : FLk RX1 9 1 0 := ⟨RX1, TX1, 9, rfl, by decide, Or.inl (BW_i 155 (by decide +kernel) rfl)⟩
theorem gX1_9 : Jvm.Cond.fieldLink RX1 9 (TX1 0).1 (TX1 0).2.1 (TX1 0).2.2.1 ∈ BW := (BW_i 155 (by decide +kernel) rfl)
theorem fX1_15 : FLk RX1 15 1 1 := ⟨RX1, TX1, 9, rfl, by decide, Or.inl (BW_i 156 (by decide +kernel) rfl)⟩
theorem fX1_19 : FLk RX1 19 1 2 := ⟨RX1, TX1, 9, rfl, by decide, Or.inl (BW_i 158 (by decide +kernel) rfl)⟩
theorem fX1_22 : FLk RX1 22 1 3 := ⟨RX1, TX1, 9, rfl, by decide, Or.inl (BW_i 159 (by decide +kernel) rfl)⟩
theorem fX1_25 : FLk RX1 25 1 4 := ⟨RX1, TX1, 9, rfl, by decide, Or.inl (BW_i 160 (by decide +kernel) rfl)⟩
theorem fX1_28 : FLk RX1 28 1 5 := ⟨RX1, TX1, 9, rfl, by decide, Or.inl (BW_i 161 (by decide +kernel) rfl)⟩
theorem fX1_31 : FLk RX1 31 1 6 := ⟨RX1, TX1, 9, rfl, by decide, Or.inl (BW_i 162 (by decide +kernel) rfl)⟩
theorem fX1_34 : FLk RX1 34 1 7 := ⟨RX1, TX1, 9, rfl, by decide, Or.inl (BW_i 163 (by decide +kernel) rfl)⟩
theorem fX1_37 : FLk RX1 37 1 8 := ⟨RX1, TX1, 9, rfl, by decide, Or.inl (BW_i 164 (by decide +kernel) rfl)⟩
theorem fX2_12 : FLk RX2 12 2 0 := ⟨RX2, TX2, 3, rfl, by decide, Or.inl (BW_i 208 (by decide +kernel) rfl)⟩
theorem gX2_12 : Jvm.Cond.fieldLink RX2 12 (TX2 0).1 (TX2 0).2.1 (TX2 0).2.2.1 ∈ BW := (BW_i 208 (by decide +kernel) rfl)
theorem fX2_18 : FLk RX2 18 2 1 := ⟨RX2, TX2, 3, rfl, by decide, Or.inl (BW_i 209 (by decide +kernel) rfl)⟩
theorem fX2_22 : FLk RX2 22 2 2 := ⟨RX2, TX2, 3, rfl, by decide, Or.inl (BW_i 211 (by decide +kernel) rfl)⟩
theorem fX2_51 : FLk RX2 51 4 0 := ⟨RX4, TX4, 14, rfl, by decide, Or.inr ⟨"LocalMenders", NW_i 53 (by decide +kernel) rfl⟩⟩
theorem zX2_74 : Jvm.Cond.fieldLink RX2 74 "LocalMenders" "INVERSES" "[I" ∈ BW ∨ ∃ host, Jvm.Cond.fieldLinkNest RX2 74 "LocalMenders" "INVERSES" "[I" host ∈ NW := Or.inr ⟨"LocalMenders", NW_i 359 (by decide +kernel) rfl⟩
theorem fX2_85 : FLk RX2 85 0 2 := ⟨RX0, TX0, 3, rfl, by decide, Or.inr ⟨"LocalMenders", NW_i 160 (by decide +kernel) rfl⟩⟩
theorem fX3_9 : FLk RX3 9 3 0 := ⟨RX3, TX3, 4, rfl, by decide, Or.inl (BW_i 226 (by decide +kernel) rfl)⟩
theorem gX3_9 : Jvm.Cond.fieldLink RX3 9 (TX3 0).1 (TX3 0).2.1 (TX3 0).2.2.1 ∈ BW := (BW_i 226 (by decide +kernel) rfl)
theorem fX3_15 : FLk RX3 15 3 1 := ⟨RX3, TX3, 4, rfl, by decide, Or.inl (BW_i 227 (by decide +kernel) rfl)⟩
theorem fX3_19 : FLk RX3 19 3 2 := ⟨RX3, TX3, 4, rfl, by decide, Or.inl (BW_i 228 (by decide +kernel) rfl)⟩
theorem fX3_22 : FLk RX3 22 3 3 := ⟨RX3, TX3, 4, rfl, by decide, Or.inl (BW_i 229 (by decide +kernel) rfl)⟩
theorem fX4_9 : FLk RX4 9 4 0 := ⟨RX4, TX4, 14, rfl, by decide, Or.inl (BW_i 92 (by decide +kernel) rfl)⟩
theorem fX4_15 : FLk RX4 15 4 1 := ⟨RX4, TX4, 14, rfl, by decide, Or.inl (BW_i 95 (by decide +kernel) rfl)⟩
theorem fX4_18 : FLk RX4 18 4 2 := ⟨RX4, TX4, 14, rfl, by decide, Or.inl (BW_i 97 (by decide +kernel) rfl)⟩
theorem fX4_21 : FLk RX4 21 4 3 := ⟨RX4, TX4, 14, rfl, by decide, Or.inl (BW_i 99 (by decide +kernel) rfl)⟩
theorem fX4_24 : FLk RX4 24 4 4 := ⟨RX4, TX4, 14, rfl, by decide, Or.inl (BW_i 101 (by decide +kernel) rfl)⟩
theorem fX4_27 : FLk RX4 27 4 5 := ⟨RX4, TX4, 14, rfl, by decide, Or.inl (BW_i 103 (by decide +kernel) rfl)⟩
theorem fX4_30 : FLk RX4 30 4 6 := ⟨RX4, TX4, 14, rfl, by decide, Or.inl (BW_i 105 (by decide +kernel) rfl)⟩
theorem fX4_33 : FLk RX4 33 4 7 := ⟨RX4, TX4, 14, rfl, by decide, Or.inl (BW_i 107 (by decide +kernel) rfl)⟩
theorem fX4_36 : FLk RX4 36 4 8 := ⟨RX4, TX4, 14, rfl, by decide, Or.inl (BW_i 109 (by decide +kernel) rfl)⟩
theorem fX4_39 : FLk RX4 39 4 9 := ⟨RX4, TX4, 14, rfl, by decide, Or.inl (BW_i 111 (by decide +kernel) rfl)⟩
theorem gX4_39 : Jvm.Cond.fieldLink RX4 39 (TX4 9).1 (TX4 9).2.1 (TX4 9).2.2.1 ∈ BW := (BW_i 111 (by decide +kernel) rfl)
theorem fX4_43 : FLk RX4 43 4 10 := ⟨RX4, TX4, 14, rfl, by decide, Or.inl (BW_i 113 (by decide +kernel) rfl)⟩
theorem gX4_43 : Jvm.Cond.fieldLink RX4 43 (TX4 10).1 (TX4 10).2.1 (TX4 10).2.2.1 ∈ BW := (BW_i 113 (by decide +kernel) rfl)
theorem fX4_46 : FLk RX4 46 4 11 := ⟨RX4, TX4, 14, rfl, by decide, Or.inl (BW_i 114 (by decide +kernel) rfl)⟩
theorem gX4_46 : Jvm.Cond.fieldLink RX4 46 (TX4 11).1 (TX4 11).2.1 (TX4 11).2.2.1 ∈ BW := (BW_i 114 (by decide +kernel) rfl)
theorem fX4_49 : FLk RX4 49 4 12 := ⟨RX4, TX4, 14, rfl, by decide, Or.inl (BW_i 115 (by decide +kernel) rfl)⟩
theorem gX4_49 : Jvm.Cond.fieldLink RX4 49 (TX4 12).1 (TX4 12).2.1 (TX4 12).2.2.1 ∈ BW := (BW_i 115 (by decide +kernel) rfl)
theorem fX4_52 : FLk RX4 52 4 13 := ⟨RX4, TX4, 14, rfl, by decide, Or.inl (BW_i 117 (by decide +kernel) rfl)⟩
theorem gX4_52 : Jvm.Cond.fieldLink RX4 52 (TX4 13).1 (TX4 13).2.1 (TX4 13).2.2.1 ∈ BW := (BW_i 117 (by decide +kernel) rfl)
theorem zX4_84 : Jvm.Cond.fieldLink RX4 84 "LocalMenders" "POWERS" "[I" ∈ BW ∨ ∃ host, Jvm.Cond.fieldLinkNest RX4 84 "LocalMenders" "POWERS" "[I" host ∈ NW := Or.inr ⟨"LocalMenders", NW_i 47 (by decide +kernel) rfl⟩
theorem fX5_10 : FLk RX5 10 5 0 := ⟨RX5, TX5, 9, rfl, by decide, Or.inl (BW_i 239 (by decide +kernel) rfl)⟩
theorem gX5_10 : Jvm.Cond.fieldLink RX5 10 (TX5 0).1 (TX5 0).2.1 (TX5 0).2.2.1 ∈ BW := (BW_i 239 (by decide +kernel) rfl)
theorem fX5_16 : FLk RX5 16 5 1 := ⟨RX5, TX5, 9, rfl, by decide, Or.inl (BW_i 240 (by decide +kernel) rfl)⟩
theorem gX5_16 : Jvm.Cond.fieldLink RX5 16 (TX5 1).1 (TX5 1).2.1 (TX5 1).2.2.1 ∈ BW := (BW_i 240 (by decide +kernel) rfl)
theorem fX5_19 : FLk RX5 19 5 2 := ⟨RX5, TX5, 9, rfl, by decide, Or.inl (BW_i 241 (by decide +kernel) rfl)⟩
theorem gX5_19 : Jvm.Cond.fieldLink RX5 19 (TX5 2).1 (TX5 2).2.1 (TX5 2).2.2.1 ∈ BW := (BW_i 241 (by decide +kernel) rfl)
theorem fX5_22 : FLk RX5 22 5 3 := ⟨RX5, TX5, 9, rfl, by decide, Or.inl (BW_i 242 (by decide +kernel) rfl)⟩
theorem gX5_22 : Jvm.Cond.fieldLink RX5 22 (TX5 3).1 (TX5 3).2.1 (TX5 3).2.2.1 ∈ BW := (BW_i 242 (by decide +kernel) rfl)
theorem fX5_29 : FLk RX5 29 5 4 := ⟨RX5, TX5, 9, rfl, by decide, Or.inl (BW_i 243 (by decide +kernel) rfl)⟩
theorem gX5_29 : Jvm.Cond.fieldLink RX5 29 (TX5 4).1 (TX5 4).2.1 (TX5 4).2.2.1 ∈ BW := (BW_i 243 (by decide +kernel) rfl)
theorem fX5_36 : FLk RX5 36 5 5 := ⟨RX5, TX5, 9, rfl, by decide, Or.inl (BW_i 244 (by decide +kernel) rfl)⟩
theorem gX5_36 : Jvm.Cond.fieldLink RX5 36 (TX5 5).1 (TX5 5).2.1 (TX5 5).2.2.1 ∈ BW := (BW_i 244 (by decide +kernel) rfl)
theorem fX5_43 : FLk RX5 43 5 6 := ⟨RX5, TX5, 9, rfl, by decide, Or.inl (BW_i 245 (by decide +kernel) rfl)⟩
theorem gX5_43 : Jvm.Cond.fieldLink RX5 43 (TX5 6).1 (TX5 6).2.1 (TX5 6).2.2.1 ∈ BW := (BW_i 245 (by decide +kernel) rfl)
theorem fX5_47 : FLk RX5 47 5 7 := ⟨RX5, TX5, 9, rfl, by decide, Or.inl (BW_i 246 (by decide +kernel) rfl)⟩
theorem fX5_51 : FLk RX5 51 5 8 := ⟨RX5, TX5, 9, rfl, by decide, Or.inl (BW_i 247 (by decide +kernel) rfl)⟩
theorem fX5_104 : FLk RX5 104 1 1 := ⟨RX1, TX1, 9, rfl, by decide, Or.inr ⟨"LocalMenders", NW_i 117 (by decide +kernel) rfl⟩⟩
theorem fX5_131 : FLk RX5 131 4 8 := ⟨RX4, TX4, 14, rfl, by decide, Or.inr ⟨"LocalMenders", NW_i 70 (by decide +kernel) rfl⟩⟩
theorem fX5_151 : FLk RX5 151 4 12 := ⟨RX4, TX4, 14, rfl, by decide, Or.inr ⟨"LocalMenders", NW_i 76 (by decide +kernel) rfl⟩⟩
theorem fX5_165 : FLk RX5 165 4 9 := ⟨RX4, TX4, 14, rfl, by decide, Or.inr ⟨"LocalMenders", NW_i 72 (by decide +kernel) rfl⟩⟩
theorem fX5_177 : FLk RX5 177 4 0 := ⟨RX4, TX4, 14, rfl, by decide, Or.inr ⟨"LocalMenders", NW_i 54 (by decide +kernel) rfl⟩⟩
theorem fX5_180 : FLk RX5 180 4 1 := ⟨RX4, TX4, 14, rfl, by decide, Or.inr ⟨"LocalMenders", NW_i 56 (by decide +kernel) rfl⟩⟩
theorem fX5_183 : FLk RX5 183 4 2 := ⟨RX4, TX4, 14, rfl, by decide, Or.inr ⟨"LocalMenders", NW_i 58 (by decide +kernel) rfl⟩⟩
theorem fX5_186 : FLk RX5 186 4 3 := ⟨RX4, TX4, 14, rfl, by decide, Or.inr ⟨"LocalMenders", NW_i 60 (by decide +kernel) rfl⟩⟩
theorem fX5_189 : FLk RX5 189 4 4 := ⟨RX4, TX4, 14, rfl, by decide, Or.inr ⟨"LocalMenders", NW_i 62 (by decide +kernel) rfl⟩⟩
theorem fX5_192 : FLk RX5 192 4 5 := ⟨RX4, TX4, 14, rfl, by decide, Or.inr ⟨"LocalMenders", NW_i 64 (by decide +kernel) rfl⟩⟩
theorem fX5_195 : FLk RX5 195 4 6 := ⟨RX4, TX4, 14, rfl, by decide, Or.inr ⟨"LocalMenders", NW_i 66 (by decide +kernel) rfl⟩⟩
theorem fX5_198 : FLk RX5 198 4 7 := ⟨RX4, TX4, 14, rfl, by decide, Or.inr ⟨"LocalMenders", NW_i 68 (by decide +kernel) rfl⟩⟩
theorem fX5_205 : FLk RX5 205 2 1 := ⟨RX2, TX2, 3, rfl, by decide, Or.inr ⟨"LocalMenders", NW_i 170 (by decide +kernel) rfl⟩⟩
theorem fX5_213 : FLk RX5 213 2 2 := ⟨RX2, TX2, 3, rfl, by decide, Or.inr ⟨"LocalMenders", NW_i 172 (by decide +kernel) rfl⟩⟩
theorem zX5_309 : Jvm.Cond.fieldLink RX5 309 "LocalMenders" "INVERSES" "[I" ∈ BW ∨ ∃ host, Jvm.Cond.fieldLinkNest RX5 309 "LocalMenders" "INVERSES" "[I" host ∈ NW := Or.inl (BW_i 388 (by decide +kernel) rfl)
theorem kL_data : CLk mL_data 1 := ⟨BW_i 477 (by decide +kernel) rfl, (BW_i 40 (by decide +kernel) rfl), ⟨by decide +kernel, by decide +kernel, by decide +kernel⟩, by decide⟩
theorem nL_10 : MLk RL 10 mL_data 1 := MLk.mk kL_data (Or.inl (BW_i 475 (by decide +kernel) rfl))
theorem kL_all : CLk mL_all 1 := ⟨BW_i 480 (by decide +kernel) rfl, (BW_i 40 (by decide +kernel) rfl), ⟨by decide +kernel, by decide +kernel, by decide +kernel⟩, by decide⟩
theorem nL_16 : MLk RL 16 mL_all 1 := MLk.mk kL_all (Or.inl (BW_i 478 (by decide +kernel) rfl))
theorem kL_times : CLk mL_times 2 := ⟨BW_i 632 (by decide +kernel) rfl, (BW_i 40 (by decide +kernel) rfl), ⟨by decide +kernel, by decide +kernel, by decide +kernel⟩, by decide⟩
theorem nL_19 : MLk RL 19 mL_times 2 := MLk.mk kL_times (Or.inl (BW_i 630 (by decide +kernel) rfl))
theorem kL_group : CLk mL_group 2 := ⟨BW_i 492 (by decide +kernel) rfl, (BW_i 40 (by decide +kernel) rfl), ⟨by decide +kernel, by decide +kernel, by decide +kernel⟩, by decide⟩
theorem nL_23 : MLk RL 23 mL_group 2 := MLk.mk kL_group (Or.inl (BW_i 490 (by decide +kernel) rfl))
theorem kL_ones : CLk mL_ones 1 := ⟨BW_i 502 (by decide +kernel) rfl, (BW_i 40 (by decide +kernel) rfl), ⟨by decide +kernel, by decide +kernel, by decide +kernel⟩, by decide⟩
theorem nL_27 : MLk RL 27 mL_ones 1 := MLk.mk kL_ones (Or.inl (BW_i 500 (by decide +kernel) rfl))
theorem kX5_way : CLk mX5_way 2 := ⟨BW_i 455 (by decide +kernel) rfl, (BW_i 41 (by decide +kernel) rfl), ⟨by decide +kernel, by decide +kernel, by decide +kernel⟩, by decide⟩
theorem nL_31 : MLk RL 31 mX5_way 2 := MLk.mk kX5_way (Or.inl (BW_i 452 (by decide +kernel) rfl))
theorem kL_nearWay : CLk mL_nearWay 4 := ⟨BW_i 489 (by decide +kernel) rfl, (BW_i 40 (by decide +kernel) rfl), ⟨by decide +kernel, by decide +kernel, by decide +kernel⟩, by decide⟩
theorem nL_36 : MLk RL 36 mL_nearWay 4 := MLk.mk kL_nearWay (Or.inl (BW_i 487 (by decide +kernel) rfl))
theorem kX5_reads : CLk mX5_reads 2 := ⟨BW_i 496 (by decide +kernel) rfl, (BW_i 41 (by decide +kernel) rfl), ⟨by decide +kernel, by decide +kernel, by decide +kernel⟩, by decide⟩
theorem nL_40 : MLk RL 40 mX5_reads 2 := MLk.mk kX5_reads (Or.inl (BW_i 493 (by decide +kernel) rfl))
theorem kL_reads : CLk mL_reads 4 := ⟨BW_i 499 (by decide +kernel) rfl, (BW_i 40 (by decide +kernel) rfl), ⟨by decide +kernel, by decide +kernel, by decide +kernel⟩, by decide⟩
theorem nL_43 : MLk RL 43 mL_reads 4 := MLk.mk kL_reads (Or.inl (BW_i 497 (by decide +kernel) rfl))
theorem kX5_mended : CLk mX5_mended 2 := ⟨BW_i 506 (by decide +kernel) rfl, (BW_i 41 (by decide +kernel) rfl), ⟨by decide +kernel, by decide +kernel, by decide +kernel⟩, by decide⟩
theorem nL_45 : MLk RL 45 mX5_mended 2 := MLk.mk kX5_mended (Or.inl (BW_i 503 (by decide +kernel) rfl))
theorem kL_node : CLk mL_node 3 := ⟨BW_i 536 (by decide +kernel) rfl, (BW_i 40 (by decide +kernel) rfl), ⟨by decide +kernel, by decide +kernel, by decide +kernel⟩, by decide⟩
theorem nL_48 : MLk RL 48 mL_node 3 := MLk.mk kL_node (Or.inl (BW_i 534 (by decide +kernel) rfl))
theorem kL_leave : CLk mL_leave 4 := ⟨BW_i 641 (by decide +kernel) rfl, (BW_i 40 (by decide +kernel) rfl), ⟨by decide +kernel, by decide +kernel, by decide +kernel⟩, by decide⟩
theorem nL_52 : MLk RL 52 mL_leave 4 := MLk.mk kL_leave (Or.inl (BW_i 639 (by decide +kernel) rfl))
theorem kL_power : CLk mL_power 1 := ⟨BW_i 629 (by decide +kernel) rfl, (BW_i 40 (by decide +kernel) rfl), ⟨by decide +kernel, by decide +kernel, by decide +kernel⟩, by decide⟩
theorem nL_56 : MLk RL 56 mL_power 1 := MLk.mk kL_power (Or.inl (BW_i 627 (by decide +kernel) rfl))
theorem kX5_total : CLk mX5_total 1 := ⟨BW_i 451 (by decide +kernel) rfl, (BW_i 41 (by decide +kernel) rfl), ⟨by decide +kernel, by decide +kernel, by decide +kernel⟩, by decide⟩
theorem nL_63 : MLk RL 63 mX5_total 1 := MLk.mk kX5_total (Or.inl (BW_i 448 (by decide +kernel) rfl))
theorem kX5_load : CLk mX5_load 1 := ⟨BW_i 515 (by decide +kernel) rfl, (BW_i 41 (by decide +kernel) rfl), ⟨by decide +kernel, by decide +kernel, by decide +kernel⟩, by decide⟩
theorem nL_66 : MLk RL 66 mX5_load 1 := MLk.mk kX5_load (Or.inl (BW_i 512 (by decide +kernel) rfl))
theorem kX5_value : CLk mX5_value 2 := ⟨BW_i 444 (by decide +kernel) rfl, (BW_i 41 (by decide +kernel) rfl), ⟨by decide +kernel, by decide +kernel, by decide +kernel⟩, by decide⟩
theorem nL_71 : MLk RL 71 mX5_value 2 := MLk.mk kX5_value (Or.inl (BW_i 441 (by decide +kernel) rfl))
theorem kX5_waiting : CLk mX5_waiting 1 := ⟨BW_i 525 (by decide +kernel) rfl, (BW_i 41 (by decide +kernel) rfl), ⟨by decide +kernel, by decide +kernel, by decide +kernel⟩, by decide⟩
theorem nL_76 : MLk RL 76 mX5_waiting 1 := MLk.mk kX5_waiting (Or.inl (BW_i 522 (by decide +kernel) rfl))
theorem kX5_node : CLk mX5_node 2 := ⟨BW_i 532 (by decide +kernel) rfl, (BW_i 41 (by decide +kernel) rfl), ⟨by decide +kernel, by decide +kernel, by decide +kernel⟩, by decide⟩
theorem nL_79 : MLk RL 79 mX5_node 2 := MLk.mk kX5_node (Or.inl (BW_i 529 (by decide +kernel) rfl))
theorem kX5_lost : CLk mX5_lost 1 := ⟨BW_i 540 (by decide +kernel) rfl, (BW_i 41 (by decide +kernel) rfl), ⟨by decide +kernel, by decide +kernel, by decide +kernel⟩, by decide⟩
theorem nL_81 : MLk RL 81 mX5_lost 1 := MLk.mk kX5_lost (Or.inl (BW_i 537 (by decide +kernel) rfl))
theorem kX5_failing : CLk mX5_failing 1 := ⟨BW_i 546 (by decide +kernel) rfl, (BW_i 41 (by decide +kernel) rfl), ⟨by decide +kernel, by decide +kernel, by decide +kernel⟩, by decide⟩
theorem nL_84 : MLk RL 84 mX5_failing 1 := MLk.mk kX5_failing (Or.inl (BW_i 543 (by decide +kernel) rfl))
theorem kX5_culprit : CLk mX5_culprit 1 := ⟨BW_i 551 (by decide +kernel) rfl, (BW_i 41 (by decide +kernel) rfl), ⟨by decide +kernel, by decide +kernel, by decide +kernel⟩, by decide⟩
theorem nL_87 : MLk RL 87 mX5_culprit 1 := MLk.mk kX5_culprit (Or.inl (BW_i 548 (by decide +kernel) rfl))
theorem kX5_busiest : CLk mX5_busiest 0 := ⟨BW_i 562 (by decide +kernel) rfl, (BW_i 41 (by decide +kernel) rfl), ⟨by decide +kernel, by decide +kernel, by decide +kernel⟩, by decide⟩
theorem nL_90 : MLk RL 90 mX5_busiest 0 := MLk.mk kX5_busiest (Or.inl (BW_i 559 (by decide +kernel) rfl))
theorem kX5_write : CLk mX5_write 3 := ⟨BW_i 569 (by decide +kernel) rfl, (BW_i 41 (by decide +kernel) rfl), ⟨by decide +kernel, by decide +kernel, by decide +kernel⟩, by decide⟩
theorem nL_94 : MLk RL 94 mX5_write 3 := MLk.mk kX5_write (Or.inl (BW_i 566 (by decide +kernel) rfl))
theorem kX5_lose : CLk mX5_lose 2 := ⟨BW_i 584 (by decide +kernel) rfl, (BW_i 41 (by decide +kernel) rfl), ⟨by decide +kernel, by decide +kernel, by decide +kernel⟩, by decide⟩
theorem nL_98 : MLk RL 98 mX5_lose 2 := MLk.mk kX5_lose (Or.inl (BW_i 581 (by decide +kernel) rfl))
theorem kX5_loseNode : CLk mX5_loseNode 1 := ⟨BW_i 597 (by decide +kernel) rfl, (BW_i 41 (by decide +kernel) rfl), ⟨by decide +kernel, by decide +kernel, by decide +kernel⟩, by decide⟩
theorem nL_101 : MLk RL 101 mX5_loseNode 1 := MLk.mk kX5_loseNode (Or.inl (BW_i 594 (by decide +kernel) rfl))
theorem kX5_mend : CLk mX5_mend 2 := ⟨BW_i 609 (by decide +kernel) rfl, (BW_i 41 (by decide +kernel) rfl), ⟨by decide +kernel, by decide +kernel, by decide +kernel⟩, by decide⟩
theorem nL_104 : MLk RL 104 mX5_mend 2 := MLk.mk kX5_mend (Or.inl (BW_i 606 (by decide +kernel) rfl))
theorem kX5_mendNode : CLk mX5_mendNode 1 := ⟨BW_i 613 (by decide +kernel) rfl, (BW_i 41 (by decide +kernel) rfl), ⟨by decide +kernel, by decide +kernel, by decide +kernel⟩, by decide⟩
theorem nL_107 : MLk RL 107 mX5_mendNode 1 := MLk.mk kX5_mendNode (Or.inl (BW_i 610 (by decide +kernel) rfl))
theorem kX5_work : CLk mX5_work 1 := ⟨BW_i 308 (by decide +kernel) rfl, (BW_i 41 (by decide +kernel) rfl), ⟨by decide +kernel, by decide +kernel, by decide +kernel⟩, by decide⟩
theorem nL_110 : MLk RL 110 mX5_work 1 := MLk.mk kX5_work (Or.inl (BW_i 305 (by decide +kernel) rfl))
theorem kL_write : CLk mL_write 5 := ⟨BW_i 626 (by decide +kernel) rfl, (BW_i 40 (by decide +kernel) rfl), ⟨by decide +kernel, by decide +kernel, by decide +kernel⟩, by decide⟩
theorem nL_113 : MLk RL 113 mL_write 5 := MLk.mk kL_write (Or.inl (BW_i 624 (by decide +kernel) rfl))
theorem kL_lose : CLk mL_lose 5 := ⟨BW_i 635 (by decide +kernel) rfl, (BW_i 40 (by decide +kernel) rfl), ⟨by decide +kernel, by decide +kernel, by decide +kernel⟩, by decide⟩
theorem nL_116 : MLk RL 116 mL_lose 5 := MLk.mk kL_lose (Or.inl (BW_i 633 (by decide +kernel) rfl))
theorem kL_mend : CLk mL_mend 7 := ⟨BW_i 638 (by decide +kernel) rfl, (BW_i 40 (by decide +kernel) rfl), ⟨by decide +kernel, by decide +kernel, by decide +kernel⟩, by decide⟩
theorem nL_119 : MLk RL 119 mL_mend 7 := MLk.mk kL_mend (Or.inl (BW_i 636 (by decide +kernel) rfl))
theorem kL_nodeDue : CLk mL_nodeDue 5 := ⟨BW_i 644 (by decide +kernel) rfl, (BW_i 40 (by decide +kernel) rfl), ⟨by decide +kernel, by decide +kernel, by decide +kernel⟩, by decide⟩
theorem nL_122 : MLk RL 122 mL_nodeDue 5 := MLk.mk kL_nodeDue (Or.inl (BW_i 642 (by decide +kernel) rfl))
theorem kL_cellOn : CLk mL_cellOn 3 := ⟨BW_i 483 (by decide +kernel) rfl, (BW_i 40 (by decide +kernel) rfl), ⟨by decide +kernel, by decide +kernel, by decide +kernel⟩, by decide⟩
theorem nL_126 : MLk RL 126 mL_cellOn 3 := MLk.mk kL_cellOn (Or.inl (BW_i 481 (by decide +kernel) rfl))
theorem kX5_init : CLk mX5_init 0 := ⟨BW_i 55 (by decide +kernel) rfl, (BW_i 41 (by decide +kernel) rfl), ⟨by decide +kernel, by decide +kernel, by decide +kernel⟩, by decide⟩
theorem nL_129 : MLk RL 129 mX5_init 0 := MLk.mk kX5_init (Or.inl (BW_i 53 (by decide +kernel) rfl))
theorem kL_cell : CLk mL_cell 2 := ⟨BW_i 468 (by decide +kernel) rfl, (BW_i 40 (by decide +kernel) rfl), ⟨by decide +kernel, by decide +kernel, by decide +kernel⟩, by decide⟩
theorem nL_130 : MLk RL 130 mL_cell 2 := MLk.mk kL_cell (Or.inl (BW_i 466 (by decide +kernel) rfl))
theorem kL_low : CLk mL_low 2 := ⟨BW_i 473 (by decide +kernel) rfl, (BW_i 40 (by decide +kernel) rfl), ⟨by decide +kernel, by decide +kernel, by decide +kernel⟩, by decide⟩
theorem nL_134 : MLk RL 134 mL_low 2 := MLk.mk kL_low (Or.inl (BW_i 471 (by decide +kernel) rfl))
theorem kX5_setLayout : CLk mX5_setLayout 4 := ⟨BW_i 270 (by decide +kernel) rfl, (BW_i 41 (by decide +kernel) rfl), ⟨by decide +kernel, by decide +kernel, by decide +kernel⟩, by decide⟩
theorem nL_137 : MLk RL 137 mX5_setLayout 4 := MLk.mk kX5_setLayout (Or.inl (BW_i 267 (by decide +kernel) rfl))
theorem kL_isSo : CLk mL_isSo 6 := ⟨BW_i 528 (by decide +kernel) rfl, (BW_i 40 (by decide +kernel) rfl), ⟨by decide +kernel, by decide +kernel, by decide +kernel⟩, by decide⟩
theorem nL_141 : MLk RL 141 mL_isSo 6 := MLk.mk kL_isSo (Or.inl (BW_i 526 (by decide +kernel) rfl))
theorem kL_isWay : CLk mL_isWay 6 := ⟨BW_i 486 (by decide +kernel) rfl, (BW_i 40 (by decide +kernel) rfl), ⟨by decide +kernel, by decide +kernel, by decide +kernel⟩, by decide⟩
theorem nL_145 : MLk RL 145 mL_isWay 6 := MLk.mk kL_isWay (Or.inl (BW_i 484 (by decide +kernel) rfl))
theorem kL_told : CLk mL_told 1 := ⟨BW_i 509 (by decide +kernel) rfl, (BW_i 40 (by decide +kernel) rfl), ⟨by decide +kernel, by decide +kernel, by decide +kernel⟩, by decide⟩
theorem nL_149 : MLk RL 149 mL_told 1 := MLk.mk kL_told (Or.inl (BW_i 507 (by decide +kernel) rfl))
theorem kL_call : CLk mL_call 5 := ⟨BW_i 565 (by decide +kernel) rfl, (BW_i 40 (by decide +kernel) rfl), ⟨by decide +kernel, by decide +kernel, by decide +kernel⟩, by decide⟩
theorem nL_153 : MLk RL 153 mL_call 5 := MLk.mk kL_call (Or.inl (BW_i 563 (by decide +kernel) rfl))
theorem kX5_undo : CLk mX5_undo 0 := ⟨BW_i 440 (by decide +kernel) rfl, (BW_i 41 (by decide +kernel) rfl), ⟨by decide +kernel, by decide +kernel, by decide +kernel⟩, by decide⟩
theorem nL_157 : MLk RL 157 mX5_undo 0 := MLk.mk kX5_undo (Or.inl (BW_i 437 (by decide +kernel) rfl))
theorem kL_does : CLk mL_does 8 := ⟨BW_i 623 (by decide +kernel) rfl, (BW_i 40 (by decide +kernel) rfl), ⟨by decide +kernel, by decide +kernel, by decide +kernel⟩, by decide⟩
theorem nL_160 : MLk RL 160 mL_does 8 := MLk.mk kL_does (Or.inl (BW_i 621 (by decide +kernel) rfl))
theorem kX5_survives : CLk mX5_survives 1 := ⟨BW_i 459 (by decide +kernel) rfl, (BW_i 41 (by decide +kernel) rfl), ⟨by decide +kernel, by decide +kernel, by decide +kernel⟩, by decide⟩
theorem nL_164 : MLk RL 164 mX5_survives 1 := MLk.mk kX5_survives (Or.inl (BW_i 456 (by decide +kernel) rfl))
theorem kX4_cellCount : CLk mX4_cellCount 0 := ⟨BW_i 75 (by decide +kernel) rfl, (BW_i 42 (by decide +kernel) rfl), ⟨by decide +kernel, by decide +kernel, by decide +kernel⟩, by decide⟩
theorem nX0_22 : MLk RX0 22 mX4_cellCount 0 := MLk.mk kX4_cellCount (Or.inr ⟨"LocalMenders", NW_i 332 (by decide +kernel) rfl⟩)
theorem kX4_columnOf : CLk mX4_columnOf 1 := ⟨BW_i 351 (by decide +kernel) rfl, (BW_i 42 (by decide +kernel) rfl), ⟨by decide +kernel, by decide +kernel, by decide +kernel⟩, by decide⟩
theorem nX0_28 : MLk RX0 28 mX4_columnOf 1 := MLk.mk kX4_columnOf (Or.inr ⟨"LocalMenders", NW_i 333 (by decide +kernel) rfl⟩)
theorem kX0_restOf : CLk mX0_restOf 1 := ⟨BW_i 377 (by decide +kernel) rfl, (BW_i 46 (by decide +kernel) rfl), ⟨by decide +kernel, by decide +kernel, by decide +kernel⟩, by decide⟩
theorem nX0_32 : MLk RX0 32 mX0_restOf 1 := MLk.mk kX0_restOf (Or.inl (BW_i 374 (by decide +kernel) rfl))
theorem kX5_leadOf : CLk mX5_leadOf 1 := ⟨BW_i 383 (by decide +kernel) rfl, (BW_i 41 (by decide +kernel) rfl), ⟨by decide +kernel, by decide +kernel, by decide +kernel⟩, by decide⟩
theorem nX0_35 : MLk RX0 35 mX5_leadOf 1 := MLk.mk kX5_leadOf (Or.inr ⟨"LocalMenders", NW_i 341 (by decide +kernel) rfl⟩)
theorem kX5_unitOf : CLk mX5_unitOf 2 := ⟨BW_i 387 (by decide +kernel) rfl, (BW_i 41 (by decide +kernel) rfl), ⟨by decide +kernel, by decide +kernel, by decide +kernel⟩, by decide⟩
theorem nX0_38 : MLk RX0 38 mX5_unitOf 2 := MLk.mk kX5_unitOf (Or.inr ⟨"LocalMenders", NW_i 345 (by decide +kernel) rfl⟩)
theorem kX5_put : CLk mX5_put 3 := ⟨BW_i 86 (by decide +kernel) rfl, (BW_i 41 (by decide +kernel) rfl), ⟨by decide +kernel, by decide +kernel, by decide +kernel⟩, by decide⟩
theorem nX0_42 : MLk RX0 42 mX5_put 3 := MLk.mk kX5_put (Or.inr ⟨"LocalMenders", NW_i 351 (by decide +kernel) rfl⟩)
theorem kX5_at : CLk mX5_at 2 := ⟨BW_i 91 (by decide +kernel) rfl, (BW_i 41 (by decide +kernel) rfl), ⟨by decide +kernel, by decide +kernel, by decide +kernel⟩, by decide⟩
theorem nX0_46 : MLk RX0 46 mX5_at 2 := MLk.mk kX5_at (Or.inr ⟨"LocalMenders", NW_i 338 (by decide +kernel) rfl⟩)
theorem kX5_element : CLk mX5_element 2 := ⟨BW_i 363 (by decide +kernel) rfl, (BW_i 41 (by decide +kernel) rfl), ⟨by decide +kernel, by decide +kernel, by decide +kernel⟩, by decide⟩
theorem nX0_50 : MLk RX0 50 mX5_element 2 := MLk.mk kX5_element (Or.inr ⟨"LocalMenders", NW_i 339 (by decide +kernel) rfl⟩)
theorem kX5_scaled : CLk mX5_scaled 2 := ⟨BW_i 358 (by decide +kernel) rfl, (BW_i 41 (by decide +kernel) rfl), ⟨by decide +kernel, by decide +kernel, by decide +kernel⟩, by decide⟩
theorem nX0_53 : MLk RX0 53 mX5_scaled 2 := MLk.mk kX5_scaled (Or.inr ⟨"LocalMenders", NW_i 340 (by decide +kernel) rfl⟩)
theorem kX0_init : CLk mX0_init 0 := ⟨BW_i 195 (by decide +kernel) rfl, (BW_i 46 (by decide +kernel) rfl), ⟨by decide +kernel, by decide +kernel, by decide +kernel⟩, by decide⟩
theorem nX2_11 : MLk RX2 11 mX0_init 0 := MLk.mk kX0_init (Or.inr ⟨"LocalMenders", NW_i 153 (by decide +kernel) rfl⟩)
theorem kX4_hasCell : CLk mX4_hasCell 2 := ⟨BW_i 325 (by decide +kernel) rfl, (BW_i 42 (by decide +kernel) rfl), ⟨by decide +kernel, by decide +kernel, by decide +kernel⟩, by decide⟩
theorem nX2_25 : MLk RX2 25 mX4_hasCell 2 := MLk.mk kX4_hasCell (Or.inr ⟨"LocalMenders", NW_i 282 (by decide +kernel) rfl⟩)
theorem kX4_isMissing : CLk mX4_isMissing 2 := ⟨BW_i 333 (by decide +kernel) rfl, (BW_i 42 (by decide +kernel) rfl), ⟨by decide +kernel, by decide +kernel, by decide +kernel⟩, by decide⟩
theorem nX2_31 : MLk RX2 31 mX4_isMissing 2 := MLk.mk kX4_isMissing (Or.inr ⟨"LocalMenders", NW_i 290 (by decide +kernel) rfl⟩)
theorem kX4_missingIn : CLk mX4_missingIn 1 := ⟨BW_i 337 (by decide +kernel) rfl, (BW_i 42 (by decide +kernel) rfl), ⟨by decide +kernel, by decide +kernel, by decide +kernel⟩, by decide⟩
theorem nX2_34 : MLk RX2 34 mX4_missingIn 1 := MLk.mk kX4_missingIn (Or.inr ⟨"LocalMenders", NW_i 298 (by decide +kernel) rfl⟩)
theorem kX4_partnersOf : CLk mX4_partnersOf 1 := ⟨BW_i 342 (by decide +kernel) rfl, (BW_i 42 (by decide +kernel) rfl), ⟨by decide +kernel, by decide +kernel, by decide +kernel⟩, by decide⟩
theorem nX2_38 : MLk RX2 38 mX4_partnersOf 1 := MLk.mk kX4_partnersOf (Or.inr ⟨"LocalMenders", NW_i 299 (by decide +kernel) rfl⟩)
theorem kX4_homeCheck : CLk mX4_homeCheck 1 := ⟨BW_i 79 (by decide +kernel) rfl, (BW_i 42 (by decide +kernel) rfl), ⟨by decide +kernel, by decide +kernel, by decide +kernel⟩, by decide⟩
theorem nX2_41 : MLk RX2 41 mX4_homeCheck 1 := MLk.mk kX4_homeCheck (Or.inr ⟨"LocalMenders", NW_i 303 (by decide +kernel) rfl⟩)
theorem kX4_sumsOver : CLk mX4_sumsOver 2 := ⟨BW_i 347 (by decide +kernel) rfl, (BW_i 42 (by decide +kernel) rfl), ⟨by decide +kernel, by decide +kernel, by decide +kernel⟩, by decide⟩
theorem nX2_44 : MLk RX2 44 mX4_sumsOver 2 := MLk.mk kX4_sumsOver (Or.inr ⟨"LocalMenders", NW_i 304 (by decide +kernel) rfl⟩)
theorem nX2_48 : MLk RX2 48 mX5_element 2 := MLk.mk kX5_element (Or.inr ⟨"LocalMenders", NW_i 321 (by decide +kernel) rfl⟩)
theorem kX4_allCells : CLk mX4_allCells 0 := ⟨BW_i 367 (by decide +kernel) rfl, (BW_i 42 (by decide +kernel) rfl), ⟨by decide +kernel, by decide +kernel, by decide +kernel⟩, by decide⟩
theorem nX2_54 : MLk RX2 54 mX4_allCells 0 := MLk.mk kX4_allCells (Or.inr ⟨"LocalMenders", NW_i 324 (by decide +kernel) rfl⟩)
theorem kX0_span : CLk mX0_span 2 := ⟨BW_i 371 (by decide +kernel) rfl, (BW_i 46 (by decide +kernel) rfl), ⟨by decide +kernel, by decide +kernel, by decide +kernel⟩, by decide⟩
theorem nX2_58 : MLk RX2 58 mX0_span 2 := MLk.mk kX0_span (Or.inr ⟨"LocalMenders", NW_i 328 (by decide +kernel) rfl⟩)
theorem nX2_62 : MLk RX2 62 mX4_columnOf 1 := MLk.mk kX4_columnOf (Or.inr ⟨"LocalMenders", NW_i 352 (by decide +kernel) rfl⟩)
theorem kX2_solve : CLk mX2_solve 2 := ⟨BW_i 396 (by decide +kernel) rfl, (BW_i 45 (by decide +kernel) rfl), ⟨by decide +kernel, by decide +kernel, by decide +kernel⟩, by decide⟩
theorem nX2_65 : MLk RX2 65 mX2_solve 2 := MLk.mk kX2_solve (Or.inl (BW_i 393 (by decide +kernel) rfl))
theorem nX2_68 : MLk RX2 68 mX0_restOf 1 := MLk.mk kX0_restOf (Or.inr ⟨"LocalMenders", NW_i 357 (by decide +kernel) rfl⟩)
theorem nX2_71 : MLk RX2 71 mX5_leadOf 1 := MLk.mk kX5_leadOf (Or.inr ⟨"LocalMenders", NW_i 358 (by decide +kernel) rfl⟩)
theorem nX2_78 : MLk RX2 78 mX5_at 2 := MLk.mk kX5_at (Or.inr ⟨"LocalMenders", NW_i 360 (by decide +kernel) rfl⟩)
theorem nX2_82 : MLk RX2 82 mX5_scaled 2 := MLk.mk kX5_scaled (Or.inr ⟨"LocalMenders", NW_i 361 (by decide +kernel) rfl⟩)
theorem kJ6_bitCount_0f7a4 : CLk mJ6_bitCount_0f7a4 1 := ⟨BW_i 428 (by decide +kernel) rfl, (BW_i 50 (by decide +kernel) rfl), ⟨by decide +kernel, by decide +kernel, by decide +kernel⟩, by decide⟩
theorem nX2_88 : MLk RX2 88 mJ6_bitCount_0f7a4 1 := MLk.mk kJ6_bitCount_0f7a4 (Or.inl (BW_i 465 (by decide +kernel) rfl))
theorem kX4_layOut : CLk mX4_layOut 4 := ⟨BW_i 68 (by decide +kernel) rfl, (BW_i 42 (by decide +kernel) rfl), ⟨by decide +kernel, by decide +kernel, by decide +kernel⟩, by decide⟩
theorem nX4_55 : MLk RX4 55 mX4_layOut 4 := MLk.mk kX4_layOut (Or.inl (BW_i 65 (by decide +kernel) rfl))
theorem kX5_copyRow : CLk mX5_copyRow 2 := ⟨BW_i 284 (by decide +kernel) rfl, (BW_i 41 (by decide +kernel) rfl), ⟨by decide +kernel, by decide +kernel, by decide +kernel⟩, by decide⟩
theorem nX4_59 : MLk RX4 59 mX5_copyRow 2 := MLk.mk kX5_copyRow (Or.inr ⟨"LocalMenders", NW_i 242 (by decide +kernel) rfl⟩)
theorem kJ7_fill_53178 : CLk mJ7_fill_53178 2 := ⟨BW_i 71 (by decide +kernel) rfl, (BW_i 43 (by decide +kernel) rfl), ⟨by decide +kernel, by decide +kernel, by decide +kernel⟩, by decide⟩
theorem nX4_63 : MLk RX4 63 mJ7_fill_53178 2 := MLk.mk kJ7_fill_53178 (Or.inl (BW_i 69 (by decide +kernel) rfl))
theorem nX4_69 : MLk RX4 69 mX4_cellCount 0 := MLk.mk kX4_cellCount (Or.inl (BW_i 72 (by decide +kernel) rfl))
theorem nX4_73 : MLk RX4 73 mX4_homeCheck 1 := MLk.mk kX4_homeCheck (Or.inl (BW_i 76 (by decide +kernel) rfl))
theorem nX4_77 : MLk RX4 77 mX5_put 3 := MLk.mk kX5_put (Or.inr ⟨"LocalMenders", NW_i 44 (by decide +kernel) rfl⟩)
theorem kX4_dataCount : CLk mX4_dataCount 0 := ⟨BW_i 83 (by decide +kernel) rfl, (BW_i 42 (by decide +kernel) rfl), ⟨by decide +kernel, by decide +kernel, by decide +kernel⟩, by decide⟩
theorem nX4_81 : MLk RX4 81 mX4_dataCount 0 := MLk.mk kX4_dataCount (Or.inl (BW_i 80 (by decide +kernel) rfl))
theorem nX4_87 : MLk RX4 87 mX5_at 2 := MLk.mk kX5_at (Or.inr ⟨"LocalMenders", NW_i 49 (by decide +kernel) rfl⟩)
theorem kX4_hasStripe : CLk mX4_hasStripe 1 := ⟨BW_i 329 (by decide +kernel) rfl, (BW_i 42 (by decide +kernel) rfl), ⟨by decide +kernel, by decide +kernel, by decide +kernel⟩, by decide⟩
theorem nX4_91 : MLk RX4 91 mX4_hasStripe 1 := MLk.mk kX4_hasStripe (Or.inl (BW_i 326 (by decide +kernel) rfl))
theorem kJ9_floorMod_7cf53 : CLk mJ9_floorMod_7cf53 2 := ⟨BW_i 412 (by decide +kernel) rfl, (BW_i 48 (by decide +kernel) rfl), ⟨by decide +kernel, by decide +kernel, by decide +kernel⟩, by decide⟩
theorem nX4_95 : MLk RX4 95 mJ9_floorMod_7cf53 2 := MLk.mk kJ9_floorMod_7cf53 (Or.inl (BW_i 410 (by decide +kernel) rfl))
theorem kX4_nodeOf : CLk mX4_nodeOf 2 := ⟨BW_i 409 (by decide +kernel) rfl, (BW_i 42 (by decide +kernel) rfl), ⟨by decide +kernel, by decide +kernel, by decide +kernel⟩, by decide⟩
theorem nX4_101 : MLk RX4 101 mX4_nodeOf 2 := MLk.mk kX4_nodeOf (Or.inl (BW_i 406 (by decide +kernel) rfl))
theorem nX4_104 : MLk RX4 104 mX4_allCells 0 := MLk.mk kX4_allCells (Or.inl (BW_i 556 (by decide +kernel) rfl))
theorem kX4_valueOf : CLk mX4_valueOf 2 := ⟨BW_i 355 (by decide +kernel) rfl, (BW_i 42 (by decide +kernel) rfl), ⟨by decide +kernel, by decide +kernel, by decide +kernel⟩, by decide⟩
theorem nX4_107 : MLk RX4 107 mX4_valueOf 2 := MLk.mk kX4_valueOf (Or.inl (BW_i 352 (by decide +kernel) rfl))
theorem nX4_110 : MLk RX4 110 mX5_element 2 := MLk.mk kX5_element (Or.inr ⟨"LocalMenders", NW_i 518 (by decide +kernel) rfl⟩)
theorem kX4_setValue : CLk mX4_setValue 3 := ⟨BW_i 420 (by decide +kernel) rfl, (BW_i 42 (by decide +kernel) rfl), ⟨by decide +kernel, by decide +kernel, by decide +kernel⟩, by decide⟩
theorem nX4_113 : MLk RX4 113 mX4_setValue 3 := MLk.mk kX4_setValue (Or.inl (BW_i 417 (by decide +kernel) rfl))
theorem nX4_117 : MLk RX4 117 mX4_missingIn 1 := MLk.mk kX4_missingIn (Or.inl (BW_i 334 (by decide +kernel) rfl))
theorem nX4_120 : MLk RX4 120 mX4_columnOf 1 := MLk.mk kX4_columnOf (Or.inl (BW_i 348 (by decide +kernel) rfl))
theorem nX4_123 : MLk RX4 123 mX5_scaled 2 := MLk.mk kX5_scaled (Or.inr ⟨"LocalMenders", NW_i 316 (by decide +kernel) rfl⟩)
theorem nX4_126 : MLk RX4 126 mX4_sumsOver 2 := MLk.mk kX4_sumsOver (Or.inl (BW_i 557 (by decide +kernel) rfl))
theorem kX4_joinQueue : CLk mX4_joinQueue 1 := ⟨BW_i 436 (by decide +kernel) rfl, (BW_i 42 (by decide +kernel) rfl), ⟨by decide +kernel, by decide +kernel, by decide +kernel⟩, by decide⟩
theorem nX4_129 : MLk RX4 129 mX4_joinQueue 1 := MLk.mk kX4_joinQueue (Or.inl (BW_i 593 (by decide +kernel) rfl))
theorem kX4_leaveQueue : CLk mX4_leaveQueue 1 := ⟨BW_i 424 (by decide +kernel) rfl, (BW_i 42 (by decide +kernel) rfl), ⟨by decide +kernel, by decide +kernel, by decide +kernel⟩, by decide⟩
theorem nX4_133 : MLk RX4 133 mX4_leaveQueue 1 := MLk.mk kX4_leaveQueue (Or.inl (BW_i 421 (by decide +kernel) rfl))
theorem kX4_init : CLk mX4_init 0 := ⟨BW_i 63 (by decide +kernel) rfl, (BW_i 42 (by decide +kernel) rfl), ⟨by decide +kernel, by decide +kernel, by decide +kernel⟩, by decide⟩
theorem nX5_9 : MLk RX5 9 mX4_init 0 := MLk.mk kX4_init (Or.inr ⟨"LocalMenders", NW_i 21 (by decide +kernel) rfl⟩)
theorem kX1_init : CLk mX1_init 0 := ⟨BW_i 153 (by decide +kernel) rfl, (BW_i 44 (by decide +kernel) rfl), ⟨by decide +kernel, by decide +kernel, by decide +kernel⟩, by decide⟩
theorem nX5_28 : MLk RX5 28 mX1_init 0 := MLk.mk kX1_init (Or.inr ⟨"LocalMenders", NW_i 111 (by decide +kernel) rfl⟩)
theorem kX2_init : CLk mX2_init 0 := ⟨BW_i 189 (by decide +kernel) rfl, (BW_i 45 (by decide +kernel) rfl), ⟨by decide +kernel, by decide +kernel, by decide +kernel⟩, by decide⟩
theorem nX5_35 : MLk RX5 35 mX2_init 0 := MLk.mk kX2_init (Or.inr ⟨"LocalMenders", NW_i 147 (by decide +kernel) rfl⟩)
theorem kX3_init : CLk mX3_init 0 := ⟨BW_i 224 (by decide +kernel) rfl, (BW_i 47 (by decide +kernel) rfl), ⟨by decide +kernel, by decide +kernel, by decide +kernel⟩, by decide⟩
theorem nX5_42 : MLk RX5 42 mX3_init 0 := MLk.mk kX3_init (Or.inr ⟨"LocalMenders", NW_i 182 (by decide +kernel) rfl⟩)
theorem kX5_isWithin : CLk mX5_isWithin 3 := ⟨BW_i 273 (by decide +kernel) rfl, (BW_i 41 (by decide +kernel) rfl), ⟨by decide +kernel, by decide +kernel, by decide +kernel⟩, by decide⟩
theorem nX5_55 : MLk RX5 55 mX5_isWithin 3 := MLk.mk kX5_isWithin (Or.inl (BW_i 271 (by decide +kernel) rfl))
theorem kX5_begin : CLk mX5_begin 0 := ⟨BW_i 277 (by decide +kernel) rfl, (BW_i 41 (by decide +kernel) rfl), ⟨by decide +kernel, by decide +kernel, by decide +kernel⟩, by decide⟩
theorem nX5_59 : MLk RX5 59 mX5_begin 0 := MLk.mk kX5_begin (Or.inl (BW_i 274 (by decide +kernel) rfl))
theorem nX5_62 : MLk RX5 62 mX4_layOut 4 := MLk.mk kX4_layOut (Or.inr ⟨"LocalMenders", NW_i 251 (by decide +kernel) rfl⟩)
theorem nX5_66 : MLk RX5 66 mX4_cellCount 0 := MLk.mk kX4_cellCount (Or.inr ⟨"LocalMenders", NW_i 252 (by decide +kernel) rfl⟩)
theorem kX5_finish : CLk mX5_finish 1 := ⟨BW_i 296 (by decide +kernel) rfl, (BW_i 41 (by decide +kernel) rfl), ⟨by decide +kernel, by decide +kernel, by decide +kernel⟩, by decide⟩
theorem nX5_70 : MLk RX5 70 mX5_finish 1 := MLk.mk kX5_finish (Or.inl (BW_i 293 (by decide +kernel) rfl))
theorem kX5_writeCell : CLk mX5_writeCell 3 := ⟨BW_i 573 (by decide +kernel) rfl, (BW_i 41 (by decide +kernel) rfl), ⟨by decide +kernel, by decide +kernel, by decide +kernel⟩, by decide⟩
theorem nX5_74 : MLk RX5 74 mX5_writeCell 3 := MLk.mk kX5_writeCell (Or.inl (BW_i 570 (by decide +kernel) rfl))
theorem kX5_loseCell : CLk mX5_loseCell 2 := ⟨BW_i 588 (by decide +kernel) rfl, (BW_i 41 (by decide +kernel) rfl), ⟨by decide +kernel, by decide +kernel, by decide +kernel⟩, by decide⟩
theorem nX5_81 : MLk RX5 81 mX5_loseCell 2 := MLk.mk kX5_loseCell (Or.inl (BW_i 585 (by decide +kernel) rfl))
theorem kX5_loseCellsOn : CLk mX5_loseCellsOn 1 := ⟨BW_i 601 (by decide +kernel) rfl, (BW_i 41 (by decide +kernel) rfl), ⟨by decide +kernel, by decide +kernel, by decide +kernel⟩, by decide⟩
theorem nX5_85 : MLk RX5 85 mX5_loseCellsOn 1 := MLk.mk kX5_loseCellsOn (Or.inl (BW_i 598 (by decide +kernel) rfl))
theorem kX5_mendCell : CLk mX5_mendCell 2 := ⟨BW_i 317 (by decide +kernel) rfl, (BW_i 41 (by decide +kernel) rfl), ⟨by decide +kernel, by decide +kernel, by decide +kernel⟩, by decide⟩
theorem nX5_88 : MLk RX5 88 mX5_mendCell 2 := MLk.mk kX5_mendCell (Or.inl (BW_i 314 (by decide +kernel) rfl))
theorem kX5_mendCellsOn : CLk mX5_mendCellsOn 1 := ⟨BW_i 617 (by decide +kernel) rfl, (BW_i 41 (by decide +kernel) rfl), ⟨by decide +kernel, by decide +kernel, by decide +kernel⟩, by decide⟩
theorem nX5_91 : MLk RX5 91 mX5_mendCellsOn 1 := MLk.mk kX5_mendCellsOn (Or.inl (BW_i 614 (by decide +kernel) rfl))
theorem kX5_workOnQueue : CLk mX5_workOnQueue 1 := ⟨BW_i 312 (by decide +kernel) rfl, (BW_i 41 (by decide +kernel) rfl), ⟨by decide +kernel, by decide +kernel, by decide +kernel⟩, by decide⟩
theorem nX5_94 : MLk RX5 94 mX5_workOnQueue 1 := MLk.mk kX5_workOnQueue (Or.inl (BW_i 309 (by decide +kernel) rfl))
theorem kX4_copyFrom : CLk mX4_copyFrom 1 := ⟨BW_i 281 (by decide +kernel) rfl, (BW_i 42 (by decide +kernel) rfl), ⟨by decide +kernel, by decide +kernel, by decide +kernel⟩, by decide⟩
theorem nX5_127 : MLk RX5 127 mX4_copyFrom 1 := MLk.mk kX4_copyFrom (Or.inr ⟨"LocalMenders", NW_i 238 (by decide +kernel) rfl⟩)
theorem nX5_134 : MLk RX5 134 mX4_hasCell 2 := MLk.mk kX4_hasCell (Or.inr ⟨"LocalMenders", NW_i 405 (by decide +kernel) rfl⟩)
theorem nX5_138 : MLk RX5 138 mX4_isMissing 2 := MLk.mk kX4_isMissing (Or.inr ⟨"LocalMenders", NW_i 406 (by decide +kernel) rfl⟩)
theorem nX5_141 : MLk RX5 141 mX4_valueOf 2 := MLk.mk kX4_valueOf (Or.inr ⟨"LocalMenders", NW_i 407 (by decide +kernel) rfl⟩)
theorem nX5_144 : MLk RX5 144 mX4_nodeOf 2 := MLk.mk kX4_nodeOf (Or.inr ⟨"LocalMenders", NW_i 493 (by decide +kernel) rfl⟩)
theorem kX4_hasNode : CLk mX4_hasNode 1 := ⟨BW_i 519 (by decide +kernel) rfl, (BW_i 42 (by decide +kernel) rfl), ⟨by decide +kernel, by decide +kernel, by decide +kernel⟩, by decide⟩
theorem nX5_147 : MLk RX5 147 mX4_hasNode 1 := MLk.mk kX4_hasNode (Or.inr ⟨"LocalMenders", NW_i 476 (by decide +kernel) rfl⟩)
theorem nX5_155 : MLk RX5 155 mX5_at 2 := MLk.mk kX5_at (Or.inl (BW_i 313 (by decide +kernel) rfl))
theorem nX5_159 : MLk RX5 159 mX4_hasStripe 1 := MLk.mk kX4_hasStripe (Or.inr ⟨"LocalMenders", NW_i 501 (by decide +kernel) rfl⟩)
theorem nX5_162 : MLk RX5 162 mX4_missingIn 1 := MLk.mk kX4_missingIn (Or.inr ⟨"LocalMenders", NW_i 502 (by decide +kernel) rfl⟩)
theorem nX5_168 : MLk RX5 168 mX4_allCells 0 := MLk.mk kX4_allCells (Or.inr ⟨"LocalMenders", NW_i 420 (by decide +kernel) rfl⟩)
theorem nX5_171 : MLk RX5 171 mX4_sumsOver 2 := MLk.mk kX4_sumsOver (Or.inr ⟨"LocalMenders", NW_i 507 (by decide +kernel) rfl⟩)
theorem nX5_174 : MLk RX5 174 mX5_element 2 := MLk.mk kX5_element (Or.inl (BW_i 384 (by decide +kernel) rfl))
theorem kX2_make : CLk mX2_make 3 := ⟨BW_i 321 (by decide +kernel) rfl, (BW_i 45 (by decide +kernel) rfl), ⟨by decide +kernel, by decide +kernel, by decide +kernel⟩, by decide⟩
theorem nX5_201 : MLk RX5 201 mX2_make 3 := MLk.mk kX2_make (Or.inr ⟨"LocalMenders", NW_i 278 (by decide +kernel) rfl⟩)
theorem nX5_208 : MLk RX5 208 mJ6_bitCount_0f7a4 1 := MLk.mk kJ6_bitCount_0f7a4 (Or.inl (BW_i 426 (by decide +kernel) rfl))
theorem kX4_culpritIn : CLk mX4_culpritIn 1 := ⟨BW_i 555 (by decide +kernel) rfl, (BW_i 42 (by decide +kernel) rfl), ⟨by decide +kernel, by decide +kernel, by decide +kernel⟩, by decide⟩
theorem nX5_216 : MLk RX5 216 mX4_culpritIn 1 := MLk.mk kX4_culpritIn (Or.inr ⟨"LocalMenders", NW_i 512 (by decide +kernel) rfl⟩)
theorem kX2_canMendAll : CLk mX2_canMendAll 2 := ⟨BW_i 464 (by decide +kernel) rfl, (BW_i 45 (by decide +kernel) rfl), ⟨by decide +kernel, by decide +kernel, by decide +kernel⟩, by decide⟩
theorem nX5_219 : MLk RX5 219 mX2_canMendAll 2 := MLk.mk kX2_canMendAll (Or.inr ⟨"LocalMenders", NW_i 421 (by decide +kernel) rfl⟩)
theorem kX5_record : CLk mX5_record 0 := ⟨BW_i 300 (by decide +kernel) rfl, (BW_i 41 (by decide +kernel) rfl), ⟨by decide +kernel, by decide +kernel, by decide +kernel⟩, by decide⟩
theorem nX5_233 : MLk RX5 233 mX5_record 0 := MLk.mk kX5_record (Or.inl (BW_i 297 (by decide +kernel) rfl))
theorem kX5_dropOldest : CLk mX5_dropOldest 0 := ⟨BW_i 304 (by decide +kernel) rfl, (BW_i 41 (by decide +kernel) rfl), ⟨by decide +kernel, by decide +kernel, by decide +kernel⟩, by decide⟩
theorem nX5_236 : MLk RX5 236 mX5_dropOldest 0 := MLk.mk kX5_dropOldest (Or.inl (BW_i 301 (by decide +kernel) rfl))
theorem nX5_239 : MLk RX5 239 mX4_dataCount 0 := MLk.mk kX4_dataCount (Or.inr ⟨"LocalMenders", NW_i 534 (by decide +kernel) rfl⟩)
theorem nX5_242 : MLk RX5 242 mX4_setValue 3 := MLk.mk kX4_setValue (Or.inr ⟨"LocalMenders", NW_i 535 (by decide +kernel) rfl⟩)
theorem nX5_246 : MLk RX5 246 mX4_columnOf 1 := MLk.mk kX4_columnOf (Or.inr ⟨"LocalMenders", NW_i 536 (by decide +kernel) rfl⟩)
theorem nX5_249 : MLk RX5 249 mX5_scaled 2 := MLk.mk kX5_scaled (Or.inl (BW_i 390 (by decide +kernel) rfl))
theorem kX4_addToParities : CLk mX4_addToParities 2 := ⟨BW_i 580 (by decide +kernel) rfl, (BW_i 42 (by decide +kernel) rfl), ⟨by decide +kernel, by decide +kernel, by decide +kernel⟩, by decide⟩
theorem nX5_252 : MLk RX5 252 mX4_addToParities 2 := MLk.mk kX4_addToParities (Or.inr ⟨"LocalMenders", NW_i 537 (by decide +kernel) rfl⟩)
theorem kX4_takeAway : CLk mX4_takeAway 2 := ⟨BW_i 592 (by decide +kernel) rfl, (BW_i 42 (by decide +kernel) rfl), ⟨by decide +kernel, by decide +kernel, by decide +kernel⟩, by decide⟩
theorem nX5_256 : MLk RX5 256 mX4_takeAway 2 := MLk.mk kX4_takeAway (Or.inr ⟨"LocalMenders", NW_i 549 (by decide +kernel) rfl⟩)
theorem kX4_cellOn : CLk mX4_cellOn 2 := ⟨BW_i 605 (by decide +kernel) rfl, (BW_i 42 (by decide +kernel) rfl), ⟨by decide +kernel, by decide +kernel, by decide +kernel⟩, by decide⟩
theorem nX5_259 : MLk RX5 259 mX4_cellOn 2 := MLk.mk kX4_cellOn (Or.inr ⟨"LocalMenders", NW_i 562 (by decide +kernel) rfl⟩)
theorem kX4_countReads : CLk mX4_countReads 2 := ⟨BW_i 405 (by decide +kernel) rfl, (BW_i 42 (by decide +kernel) rfl), ⟨by decide +kernel, by decide +kernel, by decide +kernel⟩, by decide⟩
theorem nX5_262 : MLk RX5 262 mX4_countReads 2 := MLk.mk kX4_countReads (Or.inr ⟨"LocalMenders", NW_i 362 (by decide +kernel) rfl⟩)
theorem kX4_bringBack : CLk mX4_bringBack 3 := ⟨BW_i 416 (by decide +kernel) rfl, (BW_i 42 (by decide +kernel) rfl), ⟨by decide +kernel, by decide +kernel, by decide +kernel⟩, by decide⟩
theorem nX5_265 : MLk RX5 265 mX4_bringBack 3 := MLk.mk kX4_bringBack (Or.inr ⟨"LocalMenders", NW_i 373 (by decide +kernel) rfl⟩)
theorem kJ9_max_7cf53 : CLk mJ9_max_7cf53 2 := ⟨BW_i 620 (by decide +kernel) rfl, (BW_i 48 (by decide +kernel) rfl), ⟨by decide +kernel, by decide +kernel, by decide +kernel⟩, by decide⟩
theorem nX5_268 : MLk RX5 268 mJ9_max_7cf53 2 := MLk.mk kJ9_max_7cf53 (Or.inl (BW_i 618 (by decide +kernel) rfl))
theorem nX5_273 : MLk RX5 273 mX4_leaveQueue 1 := MLk.mk kX4_leaveQueue (Or.inr ⟨"LocalMenders", NW_i 392 (by decide +kernel) rfl⟩)
theorem nX5_277 : MLk RX5 277 mX4_joinQueue 1 := MLk.mk kX4_joinQueue (Or.inr ⟨"LocalMenders", NW_i 393 (by decide +kernel) rfl⟩)
theorem kJ9_min_7cf53 : CLk mJ9_min_7cf53 2 := ⟨BW_i 287 (by decide +kernel) rfl, (BW_i 48 (by decide +kernel) rfl), ⟨by decide +kernel, by decide +kernel, by decide +kernel⟩, by decide⟩
theorem nX5_298 : MLk RX5 298 mJ9_min_7cf53 2 := MLk.mk kJ9_min_7cf53 (Or.inl (BW_i 285 (by decide +kernel) rfl))
theorem vJ6_bitCount_0f7a4 : Cond.static mJ6_bitCount_0f7a4.1 ∈ BW := (BW_i 427 (by decide +kernel) rfl)
theorem vJ7_fill_53178 : Cond.static mJ7_fill_53178.1 ∈ BW := (BW_i 70 (by decide +kernel) rfl)
theorem vJ9_floorMod_7cf53 : Cond.static mJ9_floorMod_7cf53.1 ∈ BW := (BW_i 411 (by decide +kernel) rfl)
theorem vJ9_max_7cf53 : Cond.static mJ9_max_7cf53.1 ∈ BW := (BW_i 619 (by decide +kernel) rfl)
theorem vJ9_min_7cf53 : Cond.static mJ9_min_7cf53.1 ∈ BW := (BW_i 286 (by decide +kernel) rfl)
theorem vL_all : Cond.static mL_all.1 ∈ BW := (BW_i 479 (by decide +kernel) rfl)
theorem vL_call : Cond.static mL_call.1 ∈ BW := (BW_i 564 (by decide +kernel) rfl)
theorem vL_cell : Cond.static mL_cell.1 ∈ BW := (BW_i 467 (by decide +kernel) rfl)
theorem vL_cellOn : Cond.static mL_cellOn.1 ∈ BW := (BW_i 482 (by decide +kernel) rfl)
theorem vL_data : Cond.static mL_data.1 ∈ BW := (BW_i 476 (by decide +kernel) rfl)
theorem vL_does : Cond.static mL_does.1 ∈ BW := (BW_i 622 (by decide +kernel) rfl)
theorem vL_group : Cond.static mL_group.1 ∈ BW := (BW_i 491 (by decide +kernel) rfl)
theorem vL_isSo : Cond.static mL_isSo.1 ∈ BW := (BW_i 527 (by decide +kernel) rfl)
theorem vL_isWay : Cond.static mL_isWay.1 ∈ BW := (BW_i 485 (by decide +kernel) rfl)
theorem vL_leave : Cond.static mL_leave.1 ∈ BW := (BW_i 640 (by decide +kernel) rfl)
theorem vL_lose : Cond.static mL_lose.1 ∈ BW := (BW_i 634 (by decide +kernel) rfl)
theorem vL_low : Cond.static mL_low.1 ∈ BW := (BW_i 472 (by decide +kernel) rfl)
theorem vL_mend : Cond.static mL_mend.1 ∈ BW := (BW_i 637 (by decide +kernel) rfl)
theorem vL_nearWay : Cond.static mL_nearWay.1 ∈ BW := (BW_i 488 (by decide +kernel) rfl)
theorem vL_node : Cond.static mL_node.1 ∈ BW := (BW_i 535 (by decide +kernel) rfl)
theorem vL_nodeDue : Cond.static mL_nodeDue.1 ∈ BW := (BW_i 643 (by decide +kernel) rfl)
theorem vL_ones : Cond.static mL_ones.1 ∈ BW := (BW_i 501 (by decide +kernel) rfl)
theorem vL_power : Cond.static mL_power.1 ∈ BW := (BW_i 628 (by decide +kernel) rfl)
theorem vL_reads : Cond.static mL_reads.1 ∈ BW := (BW_i 498 (by decide +kernel) rfl)
theorem vL_times : Cond.static mL_times.1 ∈ BW := (BW_i 631 (by decide +kernel) rfl)
theorem vL_told : Cond.static mL_told.1 ∈ BW := (BW_i 508 (by decide +kernel) rfl)
theorem vL_write : Cond.static mL_write.1 ∈ BW := (BW_i 625 (by decide +kernel) rfl)
theorem vX0_init : yX0_init.name = "<init>" ∧ Cond.instanceMethod yX0_init ∈ BW := ⟨rfl, (BW_i 194 (by decide +kernel) rfl)⟩
theorem vX0_restOf : Cond.instanceMethod mX0_restOf.1 ∈ BW ∧ Cond.selects mX0_restOf.1.cls mX0_restOf.1 mX0_restOf.1 ∈ BW := ⟨(BW_i 376 (by decide +kernel) rfl), (BW_i 22 (by decide +kernel) rfl)⟩
theorem vX0_span : Cond.instanceMethod mX0_span.1 ∈ BW ∧ Cond.selects mX0_span.1.cls mX0_span.1 mX0_span.1 ∈ BW := ⟨(BW_i 370 (by decide +kernel) rfl), (BW_i 21 (by decide +kernel) rfl)⟩
theorem vX1_init : yX1_init.name = "<init>" ∧ Cond.instanceMethod yX1_init ∈ BW := ⟨rfl, (BW_i 152 (by decide +kernel) rfl)⟩
theorem vX2_canMendAll : Cond.instanceMethod mX2_canMendAll.1 ∈ BW ∧ Cond.selects mX2_canMendAll.1.cls mX2_canMendAll.1 mX2_canMendAll.1 ∈ BW := ⟨(BW_i 463 (by decide +kernel) rfl), (BW_i 30 (by decide +kernel) rfl)⟩
theorem vX2_init : yX2_init.name = "<init>" ∧ Cond.instanceMethod yX2_init ∈ BW := ⟨rfl, (BW_i 188 (by decide +kernel) rfl)⟩
theorem vX2_make : Cond.instanceMethod mX2_make.1 ∈ BW ∧ Cond.selects mX2_make.1.cls mX2_make.1 mX2_make.1 ∈ BW := ⟨(BW_i 320 (by decide +kernel) rfl), (BW_i 11 (by decide +kernel) rfl)⟩
theorem vX2_solve : Cond.instanceMethod mX2_solve.1 ∈ BW ∧ Cond.selects mX2_solve.1.cls mX2_solve.1 mX2_solve.1 ∈ BW := ⟨(BW_i 395 (by decide +kernel) rfl), (BW_i 23 (by decide +kernel) rfl)⟩
theorem vX3_init : yX3_init.name = "<init>" ∧ Cond.instanceMethod yX3_init ∈ BW := ⟨rfl, (BW_i 223 (by decide +kernel) rfl)⟩
theorem vX4_addToParities : Cond.instanceMethod mX4_addToParities.1 ∈ BW ∧ Cond.selects mX4_addToParities.1.cls mX4_addToParities.1 mX4_addToParities.1 ∈ BW := ⟨(BW_i 579 (by decide +kernel) rfl), (BW_i 34 (by decide +kernel) rfl)⟩
theorem vX4_allCells : Cond.instanceMethod mX4_allCells.1 ∈ BW ∧ Cond.selects mX4_allCells.1.cls mX4_allCells.1 mX4_allCells.1 ∈ BW := ⟨(BW_i 366 (by decide +kernel) rfl), (BW_i 20 (by decide +kernel) rfl)⟩
theorem vX4_bringBack : Cond.instanceMethod mX4_bringBack.1 ∈ BW ∧ Cond.selects mX4_bringBack.1.cls mX4_bringBack.1 mX4_bringBack.1 ∈ BW := ⟨(BW_i 415 (by decide +kernel) rfl), (BW_i 26 (by decide +kernel) rfl)⟩
theorem vX4_cellCount : Cond.instanceMethod mX4_cellCount.1 ∈ BW ∧ Cond.selects mX4_cellCount.1.cls mX4_cellCount.1 mX4_cellCount.1 ∈ BW := ⟨(BW_i 74 (by decide +kernel) rfl), (BW_i 1 (by decide +kernel) rfl)⟩
theorem vX4_cellOn : Cond.instanceMethod mX4_cellOn.1 ∈ BW ∧ Cond.selects mX4_cellOn.1.cls mX4_cellOn.1 mX4_cellOn.1 ∈ BW := ⟨(BW_i 604 (by decide +kernel) rfl), (BW_i 38 (by decide +kernel) rfl)⟩
theorem vX4_columnOf : Cond.instanceMethod mX4_columnOf.1 ∈ BW ∧ Cond.selects mX4_columnOf.1.cls mX4_columnOf.1 mX4_columnOf.1 ∈ BW := ⟨(BW_i 350 (by decide +kernel) rfl), (BW_i 18 (by decide +kernel) rfl)⟩
theorem vX4_copyFrom : Cond.instanceMethod mX4_copyFrom.1 ∈ BW ∧ Cond.selects mX4_copyFrom.1.cls mX4_copyFrom.1 mX4_copyFrom.1 ∈ BW := ⟨(BW_i 280 (by decide +kernel) rfl), (BW_i 5 (by decide +kernel) rfl)⟩
theorem vX4_countReads : Cond.instanceMethod mX4_countReads.1 ∈ BW ∧ Cond.selects mX4_countReads.1.cls mX4_countReads.1 mX4_countReads.1 ∈ BW := ⟨(BW_i 404 (by decide +kernel) rfl), (BW_i 24 (by decide +kernel) rfl)⟩
theorem vX4_culpritIn : Cond.instanceMethod mX4_culpritIn.1 ∈ BW ∧ Cond.selects mX4_culpritIn.1.cls mX4_culpritIn.1 mX4_culpritIn.1 ∈ BW := ⟨(BW_i 554 (by decide +kernel) rfl), (BW_i 32 (by decide +kernel) rfl)⟩
theorem vX4_dataCount : Cond.instanceMethod mX4_dataCount.1 ∈ BW ∧ Cond.selects mX4_dataCount.1.cls mX4_dataCount.1 mX4_dataCount.1 ∈ BW := ⟨(BW_i 82 (by decide +kernel) rfl), (BW_i 3 (by decide +kernel) rfl)⟩
theorem vX4_hasCell : Cond.instanceMethod mX4_hasCell.1 ∈ BW ∧ Cond.selects mX4_hasCell.1.cls mX4_hasCell.1 mX4_hasCell.1 ∈ BW := ⟨(BW_i 324 (by decide +kernel) rfl), (BW_i 12 (by decide +kernel) rfl)⟩
theorem vX4_hasNode : Cond.instanceMethod mX4_hasNode.1 ∈ BW ∧ Cond.selects mX4_hasNode.1.cls mX4_hasNode.1 mX4_hasNode.1 ∈ BW := ⟨(BW_i 518 (by decide +kernel) rfl), (BW_i 31 (by decide +kernel) rfl)⟩
theorem vX4_hasStripe : Cond.instanceMethod mX4_hasStripe.1 ∈ BW ∧ Cond.selects mX4_hasStripe.1.cls mX4_hasStripe.1 mX4_hasStripe.1 ∈ BW := ⟨(BW_i 328 (by decide +kernel) rfl), (BW_i 13 (by decide +kernel) rfl)⟩
theorem vX4_homeCheck : Cond.instanceMethod mX4_homeCheck.1 ∈ BW ∧ Cond.selects mX4_homeCheck.1.cls mX4_homeCheck.1 mX4_homeCheck.1 ∈ BW := ⟨(BW_i 78 (by decide +kernel) rfl), (BW_i 2 (by decide +kernel) rfl)⟩
theorem vX4_init : yX4_init.name = "<init>" ∧ Cond.instanceMethod yX4_init ∈ BW := ⟨rfl, (BW_i 62 (by decide +kernel) rfl)⟩
theorem vX4_isMissing : Cond.instanceMethod mX4_isMissing.1 ∈ BW ∧ Cond.selects mX4_isMissing.1.cls mX4_isMissing.1 mX4_isMissing.1 ∈ BW := ⟨(BW_i 332 (by decide +kernel) rfl), (BW_i 14 (by decide +kernel) rfl)⟩
theorem vX4_joinQueue : Cond.instanceMethod mX4_joinQueue.1 ∈ BW ∧ Cond.selects mX4_joinQueue.1.cls mX4_joinQueue.1 mX4_joinQueue.1 ∈ BW := ⟨(BW_i 435 (by decide +kernel) rfl), (BW_i 29 (by decide +kernel) rfl)⟩
theorem vX4_layOut : Cond.instanceMethod mX4_layOut.1 ∈ BW ∧ Cond.selects mX4_layOut.1.cls mX4_layOut.1 mX4_layOut.1 ∈ BW := ⟨(BW_i 67 (by decide +kernel) rfl), (BW_i 0 (by decide +kernel) rfl)⟩
theorem vX4_leaveQueue : Cond.instanceMethod mX4_leaveQueue.1 ∈ BW ∧ Cond.selects mX4_leaveQueue.1.cls mX4_leaveQueue.1 mX4_leaveQueue.1 ∈ BW := ⟨(BW_i 423 (by decide +kernel) rfl), (BW_i 28 (by decide +kernel) rfl)⟩
theorem vX4_missingIn : Cond.instanceMethod mX4_missingIn.1 ∈ BW ∧ Cond.selects mX4_missingIn.1.cls mX4_missingIn.1 mX4_missingIn.1 ∈ BW := ⟨(BW_i 336 (by decide +kernel) rfl), (BW_i 15 (by decide +kernel) rfl)⟩
theorem vX4_nodeOf : Cond.instanceMethod mX4_nodeOf.1 ∈ BW ∧ Cond.selects mX4_nodeOf.1.cls mX4_nodeOf.1 mX4_nodeOf.1 ∈ BW := ⟨(BW_i 408 (by decide +kernel) rfl), (BW_i 25 (by decide +kernel) rfl)⟩
theorem vX4_partnersOf : Cond.instanceMethod mX4_partnersOf.1 ∈ BW ∧ Cond.selects mX4_partnersOf.1.cls mX4_partnersOf.1 mX4_partnersOf.1 ∈ BW := ⟨(BW_i 341 (by decide +kernel) rfl), (BW_i 16 (by decide +kernel) rfl)⟩
theorem vX4_setValue : Cond.instanceMethod mX4_setValue.1 ∈ BW ∧ Cond.selects mX4_setValue.1.cls mX4_setValue.1 mX4_setValue.1 ∈ BW := ⟨(BW_i 419 (by decide +kernel) rfl), (BW_i 27 (by decide +kernel) rfl)⟩
theorem vX4_sumsOver : Cond.instanceMethod mX4_sumsOver.1 ∈ BW ∧ Cond.selects mX4_sumsOver.1.cls mX4_sumsOver.1 mX4_sumsOver.1 ∈ BW := ⟨(BW_i 346 (by decide +kernel) rfl), (BW_i 17 (by decide +kernel) rfl)⟩
theorem vX4_takeAway : Cond.instanceMethod mX4_takeAway.1 ∈ BW ∧ Cond.selects mX4_takeAway.1.cls mX4_takeAway.1 mX4_takeAway.1 ∈ BW := ⟨(BW_i 591 (by decide +kernel) rfl), (BW_i 36 (by decide +kernel) rfl)⟩
theorem vX4_valueOf : Cond.instanceMethod mX4_valueOf.1 ∈ BW ∧ Cond.selects mX4_valueOf.1.cls mX4_valueOf.1 mX4_valueOf.1 ∈ BW := ⟨(BW_i 354 (by decide +kernel) rfl), (BW_i 19 (by decide +kernel) rfl)⟩
theorem vX5_at : Cond.static mX5_at.1 ∈ BW := (BW_i 90 (by decide +kernel) rfl)
theorem vX5_begin : Cond.instanceMethod mX5_begin.1 ∈ BW ∧ Cond.selects mX5_begin.1.cls mX5_begin.1 mX5_begin.1 ∈ BW := ⟨(BW_i 276 (by decide +kernel) rfl), (BW_i 4 (by decide +kernel) rfl)⟩
theorem vX5_busiest : Cond.instanceMethod mX5_busiest.1 ∈ BW ∧ Cond.selects mX5_busiest.1.cls mX5_busiest.1 mX5_busiest.1 ∈ BW := ⟨(BW_i 560 (by decide +kernel) rfl), (BW_i 561 (by decide +kernel) rfl)⟩
theorem vX5_copyRow : Cond.static mX5_copyRow.1 ∈ BW := (BW_i 283 (by decide +kernel) rfl)
theorem vX5_culprit : Cond.instanceMethod mX5_culprit.1 ∈ BW ∧ Cond.selects mX5_culprit.1.cls mX5_culprit.1 mX5_culprit.1 ∈ BW := ⟨(BW_i 549 (by decide +kernel) rfl), (BW_i 550 (by decide +kernel) rfl)⟩
theorem vX5_dropOldest : Cond.instanceMethod mX5_dropOldest.1 ∈ BW ∧ Cond.selects mX5_dropOldest.1.cls mX5_dropOldest.1 mX5_dropOldest.1 ∈ BW := ⟨(BW_i 303 (by decide +kernel) rfl), (BW_i 8 (by decide +kernel) rfl)⟩
theorem vX5_element : Cond.static mX5_element.1 ∈ BW := (BW_i 362 (by decide +kernel) rfl)
theorem vX5_failing : Cond.instanceMethod mX5_failing.1 ∈ BW ∧ Cond.selects mX5_failing.1.cls mX5_failing.1 mX5_failing.1 ∈ BW := ⟨(BW_i 544 (by decide +kernel) rfl), (BW_i 545 (by decide +kernel) rfl)⟩
theorem vX5_finish : Cond.instanceMethod mX5_finish.1 ∈ BW ∧ Cond.selects mX5_finish.1.cls mX5_finish.1 mX5_finish.1 ∈ BW := ⟨(BW_i 295 (by decide +kernel) rfl), (BW_i 6 (by decide +kernel) rfl)⟩
theorem vX5_init : yX5_init.name = "<init>" ∧ Cond.instanceMethod yX5_init ∈ BW := ⟨rfl, (BW_i 54 (by decide +kernel) rfl)⟩
theorem vX5_isWithin : Cond.static mX5_isWithin.1 ∈ BW := (BW_i 272 (by decide +kernel) rfl)
theorem vX5_leadOf : Cond.static mX5_leadOf.1 ∈ BW := (BW_i 382 (by decide +kernel) rfl)
theorem vX5_load : Cond.instanceMethod mX5_load.1 ∈ BW ∧ Cond.selects mX5_load.1.cls mX5_load.1 mX5_load.1 ∈ BW := ⟨(BW_i 513 (by decide +kernel) rfl), (BW_i 514 (by decide +kernel) rfl)⟩
theorem vX5_lose : Cond.instanceMethod mX5_lose.1 ∈ BW ∧ Cond.selects mX5_lose.1.cls mX5_lose.1 mX5_lose.1 ∈ BW := ⟨(BW_i 582 (by decide +kernel) rfl), (BW_i 583 (by decide +kernel) rfl)⟩
theorem vX5_loseCell : Cond.instanceMethod mX5_loseCell.1 ∈ BW ∧ Cond.selects mX5_loseCell.1.cls mX5_loseCell.1 mX5_loseCell.1 ∈ BW := ⟨(BW_i 587 (by decide +kernel) rfl), (BW_i 35 (by decide +kernel) rfl)⟩
theorem vX5_loseCellsOn : Cond.instanceMethod mX5_loseCellsOn.1 ∈ BW ∧ Cond.selects mX5_loseCellsOn.1.cls mX5_loseCellsOn.1 mX5_loseCellsOn.1 ∈ BW := ⟨(BW_i 600 (by decide +kernel) rfl), (BW_i 37 (by decide +kernel) rfl)⟩
theorem vX5_loseNode : Cond.instanceMethod mX5_loseNode.1 ∈ BW ∧ Cond.selects mX5_loseNode.1.cls mX5_loseNode.1 mX5_loseNode.1 ∈ BW := ⟨(BW_i 595 (by decide +kernel) rfl), (BW_i 596 (by decide +kernel) rfl)⟩
theorem vX5_lost : Cond.instanceMethod mX5_lost.1 ∈ BW ∧ Cond.selects mX5_lost.1.cls mX5_lost.1 mX5_lost.1 ∈ BW := ⟨(BW_i 538 (by decide +kernel) rfl), (BW_i 539 (by decide +kernel) rfl)⟩
theorem vX5_mend : Cond.instanceMethod mX5_mend.1 ∈ BW ∧ Cond.selects mX5_mend.1.cls mX5_mend.1 mX5_mend.1 ∈ BW := ⟨(BW_i 607 (by decide +kernel) rfl), (BW_i 608 (by decide +kernel) rfl)⟩
theorem vX5_mendCell : Cond.instanceMethod mX5_mendCell.1 ∈ BW ∧ Cond.selects mX5_mendCell.1.cls mX5_mendCell.1 mX5_mendCell.1 ∈ BW := ⟨(BW_i 316 (by decide +kernel) rfl), (BW_i 10 (by decide +kernel) rfl)⟩
theorem vX5_mendCellsOn : Cond.instanceMethod mX5_mendCellsOn.1 ∈ BW ∧ Cond.selects mX5_mendCellsOn.1.cls mX5_mendCellsOn.1 mX5_mendCellsOn.1 ∈ BW := ⟨(BW_i 616 (by decide +kernel) rfl), (BW_i 39 (by decide +kernel) rfl)⟩
theorem vX5_mendNode : Cond.instanceMethod mX5_mendNode.1 ∈ BW ∧ Cond.selects mX5_mendNode.1.cls mX5_mendNode.1 mX5_mendNode.1 ∈ BW := ⟨(BW_i 611 (by decide +kernel) rfl), (BW_i 612 (by decide +kernel) rfl)⟩
theorem vX5_mended : Cond.instanceMethod mX5_mended.1 ∈ BW ∧ Cond.selects mX5_mended.1.cls mX5_mended.1 mX5_mended.1 ∈ BW := ⟨(BW_i 504 (by decide +kernel) rfl), (BW_i 505 (by decide +kernel) rfl)⟩
theorem vX5_node : Cond.instanceMethod mX5_node.1 ∈ BW ∧ Cond.selects mX5_node.1.cls mX5_node.1 mX5_node.1 ∈ BW := ⟨(BW_i 530 (by decide +kernel) rfl), (BW_i 531 (by decide +kernel) rfl)⟩
theorem vX5_put : Cond.static mX5_put.1 ∈ BW := (BW_i 85 (by decide +kernel) rfl)
theorem vX5_reads : Cond.instanceMethod mX5_reads.1 ∈ BW ∧ Cond.selects mX5_reads.1.cls mX5_reads.1 mX5_reads.1 ∈ BW := ⟨(BW_i 494 (by decide +kernel) rfl), (BW_i 495 (by decide +kernel) rfl)⟩
theorem vX5_record : Cond.instanceMethod mX5_record.1 ∈ BW ∧ Cond.selects mX5_record.1.cls mX5_record.1 mX5_record.1 ∈ BW := ⟨(BW_i 299 (by decide +kernel) rfl), (BW_i 7 (by decide +kernel) rfl)⟩
theorem vX5_scaled : Cond.static mX5_scaled.1 ∈ BW := (BW_i 357 (by decide +kernel) rfl)
theorem vX5_setLayout : Cond.instanceMethod mX5_setLayout.1 ∈ BW ∧ Cond.selects mX5_setLayout.1.cls mX5_setLayout.1 mX5_setLayout.1 ∈ BW := ⟨(BW_i 268 (by decide +kernel) rfl), (BW_i 269 (by decide +kernel) rfl)⟩
theorem vX5_survives : Cond.instanceMethod mX5_survives.1 ∈ BW ∧ Cond.selects mX5_survives.1.cls mX5_survives.1 mX5_survives.1 ∈ BW := ⟨(BW_i 457 (by decide +kernel) rfl), (BW_i 458 (by decide +kernel) rfl)⟩
theorem vX5_total : Cond.instanceMethod mX5_total.1 ∈ BW ∧ Cond.selects mX5_total.1.cls mX5_total.1 mX5_total.1 ∈ BW := ⟨(BW_i 449 (by decide +kernel) rfl), (BW_i 450 (by decide +kernel) rfl)⟩
theorem vX5_undo : Cond.instanceMethod mX5_undo.1 ∈ BW ∧ Cond.selects mX5_undo.1.cls mX5_undo.1 mX5_undo.1 ∈ BW := ⟨(BW_i 438 (by decide +kernel) rfl), (BW_i 439 (by decide +kernel) rfl)⟩
theorem vX5_unitOf : Cond.static mX5_unitOf.1 ∈ BW := (BW_i 386 (by decide +kernel) rfl)
theorem vX5_value : Cond.instanceMethod mX5_value.1 ∈ BW ∧ Cond.selects mX5_value.1.cls mX5_value.1 mX5_value.1 ∈ BW := ⟨(BW_i 442 (by decide +kernel) rfl), (BW_i 443 (by decide +kernel) rfl)⟩
theorem vX5_waiting : Cond.instanceMethod mX5_waiting.1 ∈ BW ∧ Cond.selects mX5_waiting.1.cls mX5_waiting.1 mX5_waiting.1 ∈ BW := ⟨(BW_i 523 (by decide +kernel) rfl), (BW_i 524 (by decide +kernel) rfl)⟩
theorem vX5_way : Cond.instanceMethod mX5_way.1 ∈ BW ∧ Cond.selects mX5_way.1.cls mX5_way.1 mX5_way.1 ∈ BW := ⟨(BW_i 453 (by decide +kernel) rfl), (BW_i 454 (by decide +kernel) rfl)⟩
theorem vX5_work : Cond.instanceMethod mX5_work.1 ∈ BW ∧ Cond.selects mX5_work.1.cls mX5_work.1 mX5_work.1 ∈ BW := ⟨(BW_i 306 (by decide +kernel) rfl), (BW_i 307 (by decide +kernel) rfl)⟩
theorem vX5_workOnQueue : Cond.instanceMethod mX5_workOnQueue.1 ∈ BW ∧ Cond.selects mX5_workOnQueue.1.cls mX5_workOnQueue.1 mX5_workOnQueue.1 ∈ BW := ⟨(BW_i 311 (by decide +kernel) rfl), (BW_i 9 (by decide +kernel) rfl)⟩
theorem vX5_write : Cond.instanceMethod mX5_write.1 ∈ BW ∧ Cond.selects mX5_write.1.cls mX5_write.1 mX5_write.1 ∈ BW := ⟨(BW_i 567 (by decide +kernel) rfl), (BW_i 568 (by decide +kernel) rfl)⟩
theorem vX5_writeCell : Cond.instanceMethod mX5_writeCell.1 ∈ BW ∧ Cond.selects mX5_writeCell.1.cls mX5_writeCell.1 mX5_writeCell.1 ∈ BW := ⟨(BW_i 572 (by decide +kernel) rfl), (BW_i 33 (by decide +kernel) rfl)⟩
end
section
/-! CALLS BY THE NUMBER OF ARGUMENTS AND THE KIND OF ANSWER; small tools -/
/-- an int answer / none; an exact answer -/
def RI (P : Int32 → List va_E → Prop) : Pst := fun r h => ∃ x, r = some (.int x) ∧ P x h
def RV (P : List va_E → Prop) : Pst := fun r h => r = none ∧ P h
def RX (v : Int32) (h0 : List va_E) : Pst := fun r h => r = some (.int v) ∧ h = h0
theorem RX.mk {v x : Int32} {h0 h : List va_E} (e : x = v) (eh : h = h0) : RX v h0 (some (.int x)) h := ⟨by rw [e], eh⟩
theorem RI.mk {P : Int32 → List va_E → Prop} {x : Int32} {h : List va_E} (e : P x h) : RI P (some (.int x)) h := ⟨x, rfl, e⟩
theorem RV.mk {P : List va_E → Prop} {h : List va_E} (e : P h) : RV P none h := ⟨rfl, e⟩
theorem cat_ok {args : List Value} (h : args.all (fun v => v.category == 1) = true) : ∀ v ∈ args, v.category = 1 := fun v hv => by
  have h1 := List.all_eq_true.mp h v hv
  simpa using h1
theorem Calls.weaken {E : AEnv} {Y : MI} {d k n : Nat} {args : List Value} {h : List va_E} {Ψ Φ : Pst} (hC : Calls E Y d k n args h Ψ) (hw : ∀ r h', Ψ r h' → Φ r h') : Calls E Y d k n args h Φ := by
  intro l p e h1 h2 h3 s m a below h4 h5 h6 h7
  obtain ⟨nn, o, g1, g2, g3, hq, hL⟩ := hC l p e h1 h2 h3 s m a below h4 h5 h6 h7
  obtain ⟨r, h', hΨ, g4⟩ := hq
  exact ⟨nn, o, g1, g2, g3, ⟨r, h', hw r h' hΨ, g4⟩, hL⟩
section GCN
variable {E : AEnv} {Y : MI} {d k n pc pc' idx : Nat} {ls : List (Option Value)} {rest : List Value} {h h0 : List va_E} {Ψ Ψ1 : Pst} {Y' : MI} {P : Int32 → List va_E → Prop} {PV : List va_E → Prop} {v : Int32}
theorem go_cSx0 (hd : Dc Y pc (.invokestatic idx) pc') (hM : MLk Y.1.cls idx Y' 0) (hst : Cond.static Y'.1 ∈ BW) (hd1 : 1 ≤ d) (hC : Calls E Y' (d - 1) 0 0 [] h (RX v h0)) (hcat : (rest.map fun v => v.category).sum ≤ 8) (K : Go E Y d k n pc' ls (.int v :: rest) h0 Ψ) : Go E Y d k n pc ls (rest) h Ψ := by
  have q := go_callS (k := k) (n := n) (ls := ls) (rest := rest) (Ψ := Ψ) (As := []) hd hM hst hd1 hC rfl hcat (fun r1 h1 q => by rw [q.1, q.2]; exact K)
  rw [Nat.zero_add, Nat.zero_add] at q
  exact q
theorem go_cSi0 (hd : Dc Y pc (.invokestatic idx) pc') (hM : MLk Y.1.cls idx Y' 0) (hst : Cond.static Y'.1 ∈ BW) (hd1 : 1 ≤ d) (hC : Calls E Y' (d - 1) 0 0 [] h (RI P)) (hcat : (rest.map fun v => v.category).sum ≤ 8) (K : ∀ x h1, P x h1 → Go E Y d k n pc' ls (.int x :: rest) h1 Ψ) : Go E Y d k n pc ls (rest) h Ψ := by
  have q := go_callS (k := k) (n := n) (ls := ls) (rest := rest) (Ψ := Ψ) (As := []) hd hM hst hd1 hC rfl hcat (fun r1 h1 q => by obtain ⟨x, rfl, q⟩ := q; exact K x h1 q)
  rw [Nat.zero_add, Nat.zero_add] at q
  exact q
theorem go_cSv0 (hd : Dc Y pc (.invokestatic idx) pc') (hM : MLk Y.1.cls idx Y' 0) (hst : Cond.static Y'.1 ∈ BW) (hd1 : 1 ≤ d) (hC : Calls E Y' (d - 1) 0 0 [] h (RV PV)) (hcat : (rest.map fun v => v.category).sum ≤ 8) (K : ∀ h1, PV h1 → Go E Y d k n pc' ls rest h1 Ψ) : Go E Y d k n pc ls (rest) h Ψ := by
  have q := go_callS (k := k) (n := n) (ls := ls) (rest := rest) (Ψ := Ψ) (As := []) hd hM hst hd1 hC rfl hcat (fun r1 h1 q => by obtain ⟨rfl, q⟩ := q; exact K h1 q)
  rw [Nat.zero_add, Nat.zero_add] at q
  exact q
theorem go_cSx1 {a0 : Value} (hd : Dc Y pc (.invokestatic idx) pc') (hM : MLk Y.1.cls idx Y' 1) (hst : Cond.static Y'.1 ∈ BW) (hd1 : 1 ≤ d) (hC : Calls E Y' (d - 1) 0 0 [a0] h (RX v h0)) (hcat : (rest.map fun v => v.category).sum ≤ 8) (K : Go E Y d k n pc' ls (.int v :: rest) h0 Ψ) : Go E Y d k n pc ls (a0 :: rest) h Ψ := by
  have q := go_callS (k := k) (n := n) (ls := ls) (rest := rest) (Ψ := Ψ) (As := [a0]) hd hM hst hd1 hC rfl hcat (fun r1 h1 q => by rw [q.1, q.2]; exact K)
  rw [Nat.zero_add, Nat.zero_add] at q
  exact q
theorem go_cSi1 {a0 : Value} (hd : Dc Y pc (.invokestatic idx) pc') (hM : MLk Y.1.cls idx Y' 1) (hst : Cond.static Y'.1 ∈ BW) (hd1 : 1 ≤ d) (hC : Calls E Y' (d - 1) 0 0 [a0] h (RI P)) (hcat : (rest.map fun v => v.category).sum ≤ 8) (K : ∀ x h1, P x h1 → Go E Y d k n pc' ls (.int x :: rest) h1 Ψ) : Go E Y d k n pc ls (a0 :: rest) h Ψ := by
  have q := go_callS (k := k) (n := n) (ls := ls) (rest := rest) (Ψ := Ψ) (As := [a0]) hd hM hst hd1 hC rfl hcat (fun r1 h1 q => by obtain ⟨x, rfl, q⟩ := q; exact K x h1 q)
  rw [Nat.zero_add, Nat.zero_add] at q
  exact q
theorem go_cSv1 {a0 : Value} (hd : Dc Y pc (.invokestatic idx) pc') (hM : MLk Y.1.cls idx Y' 1) (hst : Cond.static Y'.1 ∈ BW) (hd1 : 1 ≤ d) (hC : Calls E Y' (d - 1) 0 0 [a0] h (RV PV)) (hcat : (rest.map fun v => v.category).sum ≤ 8) (K : ∀ h1, PV h1 → Go E Y d k n pc' ls rest h1 Ψ) : Go E Y d k n pc ls (a0 :: rest) h Ψ := by
  have q := go_callS (k := k) (n := n) (ls := ls) (rest := rest) (Ψ := Ψ) (As := [a0]) hd hM hst hd1 hC rfl hcat (fun r1 h1 q => by obtain ⟨rfl, q⟩ := q; exact K h1 q)
  rw [Nat.zero_add, Nat.zero_add] at q
  exact q
theorem go_cSx2 {a0 a1 : Value} (hd : Dc Y pc (.invokestatic idx) pc') (hM : MLk Y.1.cls idx Y' 2) (hst : Cond.static Y'.1 ∈ BW) (hd1 : 1 ≤ d) (hC : Calls E Y' (d - 1) 0 0 [a0, a1] h (RX v h0)) (hcat : (rest.map fun v => v.category).sum ≤ 8) (K : Go E Y d k n pc' ls (.int v :: rest) h0 Ψ) : Go E Y d k n pc ls (a1 :: a0 :: rest) h Ψ := by
  have q := go_callS (k := k) (n := n) (ls := ls) (rest := rest) (Ψ := Ψ) (As := [a0, a1]) hd hM hst hd1 hC rfl hcat (fun r1 h1 q => by rw [q.1, q.2]; exact K)
  rw [Nat.zero_add, Nat.zero_add] at q
  exact q
theorem go_cSi2 {a0 a1 : Value} (hd : Dc Y pc (.invokestatic idx) pc') (hM : MLk Y.1.cls idx Y' 2) (hst : Cond.static Y'.1 ∈ BW) (hd1 : 1 ≤ d) (hC : Calls E Y' (d - 1) 0 0 [a0, a1] h (RI P)) (hcat : (rest.map fun v => v.category).sum ≤ 8) (K : ∀ x h1, P x h1 → Go E Y d k n pc' ls (.int x :: rest) h1 Ψ) : Go E Y d k n pc ls (a1 :: a0 :: rest) h Ψ := by
  have q := go_callS (k := k) (n := n) (ls := ls) (rest := rest) (Ψ := Ψ) (As := [a0, a1]) hd hM hst hd1 hC rfl hcat (fun r1 h1 q => by obtain ⟨x, rfl, q⟩ := q; exact K x h1 q)
  rw [Nat.zero_add, Nat.zero_add] at q
  exact q
theorem go_cSv2 {a0 a1 : Value} (hd : Dc Y pc (.invokestatic idx) pc') (hM : MLk Y.1.cls idx Y' 2) (hst : Cond.static Y'.1 ∈ BW) (hd1 : 1 ≤ d) (hC : Calls E Y' (d - 1) 0 0 [a0, a1] h (RV PV)) (hcat : (rest.map fun v => v.category).sum ≤ 8) (K : ∀ h1, PV h1 → Go E Y d k n pc' ls rest h1 Ψ) : Go E Y d k n pc ls (a1 :: a0 :: rest) h Ψ := by
  have q := go_callS (k := k) (n := n) (ls := ls) (rest := rest) (Ψ := Ψ) (As := [a0, a1]) hd hM hst hd1 hC rfl hcat (fun r1 h1 q => by obtain ⟨rfl, q⟩ := q; exact K h1 q)
  rw [Nat.zero_add, Nat.zero_add] at q
  exact q
theorem go_cSx3 {a0 a1 a2 : Value} (hd : Dc Y pc (.invokestatic idx) pc') (hM : MLk Y.1.cls idx Y' 3) (hst : Cond.static Y'.1 ∈ BW) (hd1 : 1 ≤ d) (hC : Calls E Y' (d - 1) 0 0 [a0, a1, a2] h (RX v h0)) (hcat : (rest.map fun v => v.category).sum ≤ 8) (K : Go E Y d k n pc' ls (.int v :: rest) h0 Ψ) : Go E Y d k n pc ls (a2 :: a1 :: a0 :: rest) h Ψ := by
  have q := go_callS (k := k) (n := n) (ls := ls) (rest := rest) (Ψ := Ψ) (As := [a0, a1, a2]) hd hM hst hd1 hC rfl hcat (fun r1 h1 q => by rw [q.1, q.2]; exact K)
  rw [Nat.zero_add, Nat.zero_add] at q
  exact q
theorem go_cSi3 {a0 a1 a2 : Value} (hd : Dc Y pc (.invokestatic idx) pc') (hM : MLk Y.1.cls idx Y' 3) (hst : Cond.static Y'.1 ∈ BW) (hd1 : 1 ≤ d) (hC : Calls E Y' (d - 1) 0 0 [a0, a1, a2] h (RI P)) (hcat : (rest.map fun v => v.category).sum ≤ 8) (K : ∀ x h1, P x h1 → Go E Y d k n pc' ls (.int x :: rest) h1 Ψ) : Go E Y d k n pc ls (a2 :: a1 :: a0 :: rest) h Ψ := by
  have q := go_callS (k := k) (n := n) (ls := ls) (rest := rest) (Ψ := Ψ) (As := [a0, a1, a2]) hd hM hst hd1 hC rfl hcat (fun r1 h1 q => by obtain ⟨x, rfl, q⟩ := q; exact K x h1 q)
  rw [Nat.zero_add, Nat.zero_add] at q
  exact q
theorem go_cSv3 {a0 a1 a2 : Value} (hd : Dc Y pc (.invokestatic idx) pc') (hM : MLk Y.1.cls idx Y' 3) (hst : Cond.static Y'.1 ∈ BW) (hd1 : 1 ≤ d) (hC : Calls E Y' (d - 1) 0 0 [a0, a1, a2] h (RV PV)) (hcat : (rest.map fun v => v.category).sum ≤ 8) (K : ∀ h1, PV h1 → Go E Y d k n pc' ls rest h1 Ψ) : Go E Y d k n pc ls (a2 :: a1 :: a0 :: rest) h Ψ := by
  have q := go_callS (k := k) (n := n) (ls := ls) (rest := rest) (Ψ := Ψ) (As := [a0, a1, a2]) hd hM hst hd1 hC rfl hcat (fun r1 h1 q => by obtain ⟨rfl, q⟩ := q; exact K h1 q)
  rw [Nat.zero_add, Nat.zero_add] at q
  exact q
theorem go_cSx4 {a0 a1 a2 a3 : Value} (hd : Dc Y pc (.invokestatic idx) pc') (hM : MLk Y.1.cls idx Y' 4) (hst : Cond.static Y'.1 ∈ BW) (hd1 : 1 ≤ d) (hC : Calls E Y' (d - 1) 0 0 [a0, a1, a2, a3] h (RX v h0)) (hcat : (rest.map fun v => v.category).sum ≤ 8) (K : Go E Y d k n pc' ls (.int v :: rest) h0 Ψ) : Go E Y d k n pc ls (a3 :: a2 :: a1 :: a0 :: rest) h Ψ := by
  have q := go_callS (k := k) (n := n) (ls := ls) (rest := rest) (Ψ := Ψ) (As := [a0, a1, a2, a3]) hd hM hst hd1 hC rfl hcat (fun r1 h1 q => by rw [q.1, q.2]; exact K)
  rw [Nat.zero_add, Nat.zero_add] at q
  exact q
theorem go_cSi4 {a0 a1 a2 a3 : Value} (hd : Dc Y pc (.invokestatic idx) pc') (hM : MLk Y.1.cls idx Y' 4) (hst : Cond.static Y'.1 ∈ BW) (hd1 : 1 ≤ d) (hC : Calls E Y' (d - 1) 0 0 [a0, a1, a2, a3] h (RI P)) (hcat : (rest.map fun v => v.category).sum ≤ 8) (K : ∀ x h1, P x h1 → Go E Y d k n pc' ls (.int x :: rest) h1 Ψ) : Go E Y d k n pc ls (a3 :: a2 :: a1 :: a0 :: rest) h Ψ := by
  have q := go_callS (k := k) (n := n) (ls := ls) (rest := rest) (Ψ := Ψ) (As := [a0, a1, a2, a3]) hd hM hst hd1 hC rfl hcat (fun r1 h1 q => by obtain ⟨x, rfl, q⟩ := q; exact K x h1 q)
  rw [Nat.zero_add, Nat.zero_add] at q
  exact q
theorem go_cSv4 {a0 a1 a2 a3 : Value} (hd : Dc Y pc (.invokestatic idx) pc') (hM : MLk Y.1.cls idx Y' 4) (hst : Cond.static Y'.1 ∈ BW) (hd1 : 1 ≤ d) (hC : Calls E Y' (d - 1) 0 0 [a0, a1, a2, a3] h (RV PV)) (hcat : (rest.map fun v => v.category).sum ≤ 8) (K : ∀ h1, PV h1 → Go E Y d k n pc' ls rest h1 Ψ) : Go E Y d k n pc ls (a3 :: a2 :: a1 :: a0 :: rest) h Ψ := by
  have q := go_callS (k := k) (n := n) (ls := ls) (rest := rest) (Ψ := Ψ) (As := [a0, a1, a2, a3]) hd hM hst hd1 hC rfl hcat (fun r1 h1 q => by obtain ⟨rfl, q⟩ := q; exact K h1 q)
  rw [Nat.zero_add, Nat.zero_add] at q
  exact q
theorem go_cSx5 {a0 a1 a2 a3 a4 : Value} (hd : Dc Y pc (.invokestatic idx) pc') (hM : MLk Y.1.cls idx Y' 5) (hst : Cond.static Y'.1 ∈ BW) (hd1 : 1 ≤ d) (hC : Calls E Y' (d - 1) 0 0 [a0, a1, a2, a3, a4] h (RX v h0)) (hcat : (rest.map fun v => v.category).sum ≤ 8) (K : Go E Y d k n pc' ls (.int v :: rest) h0 Ψ) : Go E Y d k n pc ls (a4 :: a3 :: a2 :: a1 :: a0 :: rest) h Ψ := by
  have q := go_callS (k := k) (n := n) (ls := ls) (rest := rest) (Ψ := Ψ) (As := [a0, a1, a2, a3, a4]) hd hM hst hd1 hC rfl hcat (fun r1 h1 q => by rw [q.1, q.2]; exact K)
  rw [Nat.zero_add, Nat.zero_add] at q
  exact q
theorem go_cSi5 {a0 a1 a2 a3 a4 : Value} (hd : Dc Y pc (.invokestatic idx) pc') (hM : MLk Y.1.cls idx Y' 5) (hst : Cond.static Y'.1 ∈ BW) (hd1 : 1 ≤ d) (hC : Calls E Y' (d - 1) 0 0 [a0, a1, a2, a3, a4] h (RI P)) (hcat : (rest.map fun v => v.category).sum ≤ 8) (K : ∀ x h1, P x h1 → Go E Y d k n pc' ls (.int x :: rest) h1 Ψ) : Go E Y d k n pc ls (a4 :: a3 :: a2 :: a1 :: a0 :: rest) h Ψ := by
  have q := go_callS (k := k) (n := n) (ls := ls) (rest := rest) (Ψ := Ψ) (As := [a0, a1, a2, a3, a4]) hd hM hst hd1 hC rfl hcat (fun r1 h1 q => by obtain ⟨x, rfl, q⟩ := q; exact K x h1 q)
  rw [Nat.zero_add, Nat.zero_add] at q
  exact q
theorem go_cSv5 {a0 a1 a2 a3 a4 : Value} (hd : Dc Y pc (.invokestatic idx) pc') (hM : MLk Y.1.cls idx Y' 5) (hst : Cond.static Y'.1 ∈ BW) (hd1 : 1 ≤ d) (hC : Calls E Y' (d - 1) 0 0 [a0, a1, a2, a3, a4] h (RV PV)) (hcat : (rest.map fun v => v.category).sum ≤ 8) (K : ∀ h1, PV h1 → Go E Y d k n pc' ls rest h1 Ψ) : Go E Y d k n pc ls (a4 :: a3 :: a2 :: a1 :: a0 :: rest) h Ψ := by
  have q := go_callS (k := k) (n := n) (ls := ls) (rest := rest) (Ψ := Ψ) (As := [a0, a1, a2, a3, a4]) hd hM hst hd1 hC rfl hcat (fun r1 h1 q => by obtain ⟨rfl, q⟩ := q; exact K h1 q)
  rw [Nat.zero_add, Nat.zero_add] at q
  exact q
theorem go_cVx0 {b ci N : Nat} {T : u_T} {fs : List Value} (hd : Dc Y pc (.invokevirtual idx) pc') (hM : MLk Y.1.cls idx Y' 0) (hst : Cond.instanceMethod Y'.1 ∈ BW ∧ Cond.selects Y'.1.cls Y'.1 Y'.1 ∈ BW) (hd1 : 1 ≤ d) (hC : Calls E Y' (d - 1) 0 0 [.ref b] h (RX v h0)) (hrec : h[b]? = some (.inr (ci, fs))) (hci : vwCl[ci]? = some (Y'.1.cls, T, N)) (hcat : (rest.map fun v => v.category).sum ≤ 8) (K : Go E Y d k n pc' ls (.int v :: rest) h0 Ψ) : Go E Y d k n pc ls (.ref b :: rest) h Ψ := by
  have q := go_callV (k := k) (n := n) (ls := ls) (rest := rest) (Ψ := Ψ) (As := []) hd hM hst hd1 hC hrec hci rfl hcat (fun r1 h1 q => by rw [q.1, q.2]; exact K)
  rw [Nat.zero_add, Nat.zero_add] at q
  exact q
theorem go_cVi0 {b ci N : Nat} {T : u_T} {fs : List Value} (hd : Dc Y pc (.invokevirtual idx) pc') (hM : MLk Y.1.cls idx Y' 0) (hst : Cond.instanceMethod Y'.1 ∈ BW ∧ Cond.selects Y'.1.cls Y'.1 Y'.1 ∈ BW) (hd1 : 1 ≤ d) (hC : Calls E Y' (d - 1) 0 0 [.ref b] h (RI P)) (hrec : h[b]? = some (.inr (ci, fs))) (hci : vwCl[ci]? = some (Y'.1.cls, T, N)) (hcat : (rest.map fun v => v.category).sum ≤ 8) (K : ∀ x h1, P x h1 → Go E Y d k n pc' ls (.int x :: rest) h1 Ψ) : Go E Y d k n pc ls (.ref b :: rest) h Ψ := by
  have q := go_callV (k := k) (n := n) (ls := ls) (rest := rest) (Ψ := Ψ) (As := []) hd hM hst hd1 hC hrec hci rfl hcat (fun r1 h1 q => by obtain ⟨x, rfl, q⟩ := q; exact K x h1 q)
  rw [Nat.zero_add, Nat.zero_add] at q
  exact q
theorem go_cVv0 {b ci N : Nat} {T : u_T} {fs : List Value} (hd : Dc Y pc (.invokevirtual idx) pc') (hM : MLk Y.1.cls idx Y' 0) (hst : Cond.instanceMethod Y'.1 ∈ BW ∧ Cond.selects Y'.1.cls Y'.1 Y'.1 ∈ BW) (hd1 : 1 ≤ d) (hC : Calls E Y' (d - 1) 0 0 [.ref b] h (RV PV)) (hrec : h[b]? = some (.inr (ci, fs))) (hci : vwCl[ci]? = some (Y'.1.cls, T, N)) (hcat : (rest.map fun v => v.category).sum ≤ 8) (K : ∀ h1, PV h1 → Go E Y d k n pc' ls rest h1 Ψ) : Go E Y d k n pc ls (.ref b :: rest) h Ψ := by
  have q := go_callV (k := k) (n := n) (ls := ls) (rest := rest) (Ψ := Ψ) (As := []) hd hM hst hd1 hC hrec hci rfl hcat (fun r1 h1 q => by obtain ⟨rfl, q⟩ := q; exact K h1 q)
  rw [Nat.zero_add, Nat.zero_add] at q
  exact q
theorem go_cVx1 {a0 : Value} {b ci N : Nat} {T : u_T} {fs : List Value} (hd : Dc Y pc (.invokevirtual idx) pc') (hM : MLk Y.1.cls idx Y' 1) (hst : Cond.instanceMethod Y'.1 ∈ BW ∧ Cond.selects Y'.1.cls Y'.1 Y'.1 ∈ BW) (hd1 : 1 ≤ d) (hC : Calls E Y' (d - 1) 0 0 [.ref b, a0] h (RX v h0)) (hrec : h[b]? = some (.inr (ci, fs))) (hci : vwCl[ci]? = some (Y'.1.cls, T, N)) (hcat : (rest.map fun v => v.category).sum ≤ 8) (K : Go E Y d k n pc' ls (.int v :: rest) h0 Ψ) : Go E Y d k n pc ls (a0 :: .ref b :: rest) h Ψ := by
  have q := go_callV (k := k) (n := n) (ls := ls) (rest := rest) (Ψ := Ψ) (As := [a0]) hd hM hst hd1 hC hrec hci rfl hcat (fun r1 h1 q => by rw [q.1, q.2]; exact K)
  rw [Nat.zero_add, Nat.zero_add] at q
  exact q
theorem go_cVi1 {a0 : Value} {b ci N : Nat} {T : u_T} {fs : List Value} (hd : Dc Y pc (.invokevirtual idx) pc') (hM : MLk Y.1.cls idx Y' 1) (hst : Cond.instanceMethod Y'.1 ∈ BW ∧ Cond.selects Y'.1.cls Y'.1 Y'.1 ∈ BW) (hd1 : 1 ≤ d) (hC : Calls E Y' (d - 1) 0 0 [.ref b, a0] h (RI P)) (hrec : h[b]? = some (.inr (ci, fs))) (hci : vwCl[ci]? = some (Y'.1.cls, T, N)) (hcat : (rest.map fun v => v.category).sum ≤ 8) (K : ∀ x h1, P x h1 → Go E Y d k n pc' ls (.int x :: rest) h1 Ψ) : Go E Y d k n pc ls (a0 :: .ref b :: rest) h Ψ := by
  have q := go_callV (k := k) (n := n) (ls := ls) (rest := rest) (Ψ := Ψ) (As := [a0]) hd hM hst hd1 hC hrec hci rfl hcat (fun r1 h1 q => by obtain ⟨x, rfl, q⟩ := q; exact K x h1 q)
  rw [Nat.zero_add, Nat.zero_add] at q
  exact q
theorem go_cVv1 {a0 : Value} {b ci N : Nat} {T : u_T} {fs : List Value} (hd : Dc Y pc (.invokevirtual idx) pc') (hM : MLk Y.1.cls idx Y' 1) (hst : Cond.instanceMethod Y'.1 ∈ BW ∧ Cond.selects Y'.1.cls Y'.1 Y'.1 ∈ BW) (hd1 : 1 ≤ d) (hC : Calls E Y' (d - 1) 0 0 [.ref b, a0] h (RV PV)) (hrec : h[b]? = some (.inr (ci, fs))) (hci : vwCl[ci]? = some (Y'.1.cls, T, N)) (hcat : (rest.map fun v => v.category).sum ≤ 8) (K : ∀ h1, PV h1 → Go E Y d k n pc' ls rest h1 Ψ) : Go E Y d k n pc ls (a0 :: .ref b :: rest) h Ψ := by
  have q := go_callV (k := k) (n := n) (ls := ls) (rest := rest) (Ψ := Ψ) (As := [a0]) hd hM hst hd1 hC hrec hci rfl hcat (fun r1 h1 q => by obtain ⟨rfl, q⟩ := q; exact K h1 q)
  rw [Nat.zero_add, Nat.zero_add] at q
  exact q
theorem go_cVx2 {a0 a1 : Value} {b ci N : Nat} {T : u_T} {fs : List Value} (hd : Dc Y pc (.invokevirtual idx) pc') (hM : MLk Y.1.cls idx Y' 2) (hst : Cond.instanceMethod Y'.1 ∈ BW ∧ Cond.selects Y'.1.cls Y'.1 Y'.1 ∈ BW) (hd1 : 1 ≤ d) (hC : Calls E Y' (d - 1) 0 0 [.ref b, a0, a1] h (RX v h0)) (hrec : h[b]? = some (.inr (ci, fs))) (hci : vwCl[ci]? = some (Y'.1.cls, T, N)) (hcat : (rest.map fun v => v.category).sum ≤ 8) (K : Go E Y d k n pc' ls (.int v :: rest) h0 Ψ) : Go E Y d k n pc ls (a1 :: a0 :: .ref b :: rest) h Ψ := by
  have q := go_callV (k := k) (n := n) (ls := ls) (rest := rest) (Ψ := Ψ) (As := [a0, a1]) hd hM hst hd1 hC hrec hci rfl hcat (fun r1 h1 q => by rw [q.1, q.2]; exact K)
  rw [Nat.zero_add, Nat.zero_add] at q
  exact q
theorem go_cVi2 {a0 a1 : Value} {b ci N : Nat} {T : u_T} {fs : List Value} (hd : Dc Y pc (.invokevirtual idx) pc') (hM : MLk Y.1.cls idx Y' 2) (hst : Cond.instanceMethod Y'.1 ∈ BW ∧ Cond.selects Y'.1.cls Y'.1 Y'.1 ∈ BW) (hd1 : 1 ≤ d) (hC : Calls E Y' (d - 1) 0 0 [.ref b, a0, a1] h (RI P)) (hrec : h[b]? = some (.inr (ci, fs))) (hci : vwCl[ci]? = some (Y'.1.cls, T, N)) (hcat : (rest.map fun v => v.category).sum ≤ 8) (K : ∀ x h1, P x h1 → Go E Y d k n pc' ls (.int x :: rest) h1 Ψ) : Go E Y d k n pc ls (a1 :: a0 :: .ref b :: rest) h Ψ := by
  have q := go_callV (k := k) (n := n) (ls := ls) (rest := rest) (Ψ := Ψ) (As := [a0, a1]) hd hM hst hd1 hC hrec hci rfl hcat (fun r1 h1 q => by obtain ⟨x, rfl, q⟩ := q; exact K x h1 q)
  rw [Nat.zero_add, Nat.zero_add] at q
  exact q
theorem go_cVv2 {a0 a1 : Value} {b ci N : Nat} {T : u_T} {fs : List Value} (hd : Dc Y pc (.invokevirtual idx) pc') (hM : MLk Y.1.cls idx Y' 2) (hst : Cond.instanceMethod Y'.1 ∈ BW ∧ Cond.selects Y'.1.cls Y'.1 Y'.1 ∈ BW) (hd1 : 1 ≤ d) (hC : Calls E Y' (d - 1) 0 0 [.ref b, a0, a1] h (RV PV)) (hrec : h[b]? = some (.inr (ci, fs))) (hci : vwCl[ci]? = some (Y'.1.cls, T, N)) (hcat : (rest.map fun v => v.category).sum ≤ 8) (K : ∀ h1, PV h1 → Go E Y d k n pc' ls rest h1 Ψ) : Go E Y d k n pc ls (a1 :: a0 :: .ref b :: rest) h Ψ := by
  have q := go_callV (k := k) (n := n) (ls := ls) (rest := rest) (Ψ := Ψ) (As := [a0, a1]) hd hM hst hd1 hC hrec hci rfl hcat (fun r1 h1 q => by obtain ⟨rfl, q⟩ := q; exact K h1 q)
  rw [Nat.zero_add, Nat.zero_add] at q
  exact q
theorem go_cVx3 {a0 a1 a2 : Value} {b ci N : Nat} {T : u_T} {fs : List Value} (hd : Dc Y pc (.invokevirtual idx) pc') (hM : MLk Y.1.cls idx Y' 3) (hst : Cond.instanceMethod Y'.1 ∈ BW ∧ Cond.selects Y'.1.cls Y'.1 Y'.1 ∈ BW) (hd1 : 1 ≤ d) (hC : Calls E Y' (d - 1) 0 0 [.ref b, a0, a1, a2] h (RX v h0)) (hrec : h[b]? = some (.inr (ci, fs))) (hci : vwCl[ci]? = some (Y'.1.cls, T, N)) (hcat : (rest.map fun v => v.category).sum ≤ 8) (K : Go E Y d k n pc' ls (.int v :: rest) h0 Ψ) : Go E Y d k n pc ls (a2 :: a1 :: a0 :: .ref b :: rest) h Ψ := by
  have q := go_callV (k := k) (n := n) (ls := ls) (rest := rest) (Ψ := Ψ) (As := [a0, a1, a2]) hd hM hst hd1 hC hrec hci rfl hcat (fun r1 h1 q => by rw [q.1, q.2]; exact K)
  rw [Nat.zero_add, Nat.zero_add] at q
  exact q
theorem go_cVi3 {a0 a1 a2 : Value} {b ci N : Nat} {T : u_T} {fs : List Value} (hd : Dc Y pc (.invokevirtual idx) pc') (hM : MLk Y.1.cls idx Y' 3) (hst : Cond.instanceMethod Y'.1 ∈ BW ∧ Cond.selects Y'.1.cls Y'.1 Y'.1 ∈ BW) (hd1 : 1 ≤ d) (hC : Calls E Y' (d - 1) 0 0 [.ref b, a0, a1, a2] h (RI P)) (hrec : h[b]? = some (.inr (ci, fs))) (hci : vwCl[ci]? = some (Y'.1.cls, T, N)) (hcat : (rest.map fun v => v.category).sum ≤ 8) (K : ∀ x h1, P x h1 → Go E Y d k n pc' ls (.int x :: rest) h1 Ψ) : Go E Y d k n pc ls (a2 :: a1 :: a0 :: .ref b :: rest) h Ψ := by
  have q := go_callV (k := k) (n := n) (ls := ls) (rest := rest) (Ψ := Ψ) (As := [a0, a1, a2]) hd hM hst hd1 hC hrec hci rfl hcat (fun r1 h1 q => by obtain ⟨x, rfl, q⟩ := q; exact K x h1 q)
  rw [Nat.zero_add, Nat.zero_add] at q
  exact q
theorem go_cVv3 {a0 a1 a2 : Value} {b ci N : Nat} {T : u_T} {fs : List Value} (hd : Dc Y pc (.invokevirtual idx) pc') (hM : MLk Y.1.cls idx Y' 3) (hst : Cond.instanceMethod Y'.1 ∈ BW ∧ Cond.selects Y'.1.cls Y'.1 Y'.1 ∈ BW) (hd1 : 1 ≤ d) (hC : Calls E Y' (d - 1) 0 0 [.ref b, a0, a1, a2] h (RV PV)) (hrec : h[b]? = some (.inr (ci, fs))) (hci : vwCl[ci]? = some (Y'.1.cls, T, N)) (hcat : (rest.map fun v => v.category).sum ≤ 8) (K : ∀ h1, PV h1 → Go E Y d k n pc' ls rest h1 Ψ) : Go E Y d k n pc ls (a2 :: a1 :: a0 :: .ref b :: rest) h Ψ := by
  have q := go_callV (k := k) (n := n) (ls := ls) (rest := rest) (Ψ := Ψ) (As := [a0, a1, a2]) hd hM hst hd1 hC hrec hci rfl hcat (fun r1 h1 q => by obtain ⟨rfl, q⟩ := q; exact K h1 q)
  rw [Nat.zero_add, Nat.zero_add] at q
  exact q
theorem go_cVx4 {a0 a1 a2 a3 : Value} {b ci N : Nat} {T : u_T} {fs : List Value} (hd : Dc Y pc (.invokevirtual idx) pc') (hM : MLk Y.1.cls idx Y' 4) (hst : Cond.instanceMethod Y'.1 ∈ BW ∧ Cond.selects Y'.1.cls Y'.1 Y'.1 ∈ BW) (hd1 : 1 ≤ d) (hC : Calls E Y' (d - 1) 0 0 [.ref b, a0, a1, a2, a3] h (RX v h0)) (hrec : h[b]? = some (.inr (ci, fs))) (hci : vwCl[ci]? = some (Y'.1.cls, T, N)) (hcat : (rest.map fun v => v.category).sum ≤ 8) (K : Go E Y d k n pc' ls (.int v :: rest) h0 Ψ) : Go E Y d k n pc ls (a3 :: a2 :: a1 :: a0 :: .ref b :: rest) h Ψ := by
  have q := go_callV (k := k) (n := n) (ls := ls) (rest := rest) (Ψ := Ψ) (As := [a0, a1, a2, a3]) hd hM hst hd1 hC hrec hci rfl hcat (fun r1 h1 q => by rw [q.1, q.2]; exact K)
  rw [Nat.zero_add, Nat.zero_add] at q
  exact q
theorem go_cVi4 {a0 a1 a2 a3 : Value} {b ci N : Nat} {T : u_T} {fs : List Value} (hd : Dc Y pc (.invokevirtual idx) pc') (hM : MLk Y.1.cls idx Y' 4) (hst : Cond.instanceMethod Y'.1 ∈ BW ∧ Cond.selects Y'.1.cls Y'.1 Y'.1 ∈ BW) (hd1 : 1 ≤ d) (hC : Calls E Y' (d - 1) 0 0 [.ref b, a0, a1, a2, a3] h (RI P)) (hrec : h[b]? = some (.inr (ci, fs))) (hci : vwCl[ci]? = some (Y'.1.cls, T, N)) (hcat : (rest.map fun v => v.category).sum ≤ 8) (K : ∀ x h1, P x h1 → Go E Y d k n pc' ls (.int x :: rest) h1 Ψ) : Go E Y d k n pc ls (a3 :: a2 :: a1 :: a0 :: .ref b :: rest) h Ψ := by
  have q := go_callV (k := k) (n := n) (ls := ls) (rest := rest) (Ψ := Ψ) (As := [a0, a1, a2, a3]) hd hM hst hd1 hC hrec hci rfl hcat (fun r1 h1 q => by obtain ⟨x, rfl, q⟩ := q; exact K x h1 q)
  rw [Nat.zero_add, Nat.zero_add] at q
  exact q
theorem go_cVv4 {a0 a1 a2 a3 : Value} {b ci N : Nat} {T : u_T} {fs : List Value} (hd : Dc Y pc (.invokevirtual idx) pc') (hM : MLk Y.1.cls idx Y' 4) (hst : Cond.instanceMethod Y'.1 ∈ BW ∧ Cond.selects Y'.1.cls Y'.1 Y'.1 ∈ BW) (hd1 : 1 ≤ d) (hC : Calls E Y' (d - 1) 0 0 [.ref b, a0, a1, a2, a3] h (RV PV)) (hrec : h[b]? = some (.inr (ci, fs))) (hci : vwCl[ci]? = some (Y'.1.cls, T, N)) (hcat : (rest.map fun v => v.category).sum ≤ 8) (K : ∀ h1, PV h1 → Go E Y d k n pc' ls rest h1 Ψ) : Go E Y d k n pc ls (a3 :: a2 :: a1 :: a0 :: .ref b :: rest) h Ψ := by
  have q := go_callV (k := k) (n := n) (ls := ls) (rest := rest) (Ψ := Ψ) (As := [a0, a1, a2, a3]) hd hM hst hd1 hC hrec hci rfl hcat (fun r1 h1 q => by obtain ⟨rfl, q⟩ := q; exact K h1 q)
  rw [Nat.zero_add, Nat.zero_add] at q
  exact q
theorem go_cVx5 {a0 a1 a2 a3 a4 : Value} {b ci N : Nat} {T : u_T} {fs : List Value} (hd : Dc Y pc (.invokevirtual idx) pc') (hM : MLk Y.1.cls idx Y' 5) (hst : Cond.instanceMethod Y'.1 ∈ BW ∧ Cond.selects Y'.1.cls Y'.1 Y'.1 ∈ BW) (hd1 : 1 ≤ d) (hC : Calls E Y' (d - 1) 0 0 [.ref b, a0, a1, a2, a3, a4] h (RX v h0)) (hrec : h[b]? = some (.inr (ci, fs))) (hci : vwCl[ci]? = some (Y'.1.cls, T, N)) (hcat : (rest.map fun v => v.category).sum ≤ 8) (K : Go E Y d k n pc' ls (.int v :: rest) h0 Ψ) : Go E Y d k n pc ls (a4 :: a3 :: a2 :: a1 :: a0 :: .ref b :: rest) h Ψ := by
  have q := go_callV (k := k) (n := n) (ls := ls) (rest := rest) (Ψ := Ψ) (As := [a0, a1, a2, a3, a4]) hd hM hst hd1 hC hrec hci rfl hcat (fun r1 h1 q => by rw [q.1, q.2]; exact K)
  rw [Nat.zero_add, Nat.zero_add] at q
  exact q
theorem go_cVi5 {a0 a1 a2 a3 a4 : Value} {b ci N : Nat} {T : u_T} {fs : List Value} (hd : Dc Y pc (.invokevirtual idx) pc') (hM : MLk Y.1.cls idx Y' 5) (hst : Cond.instanceMethod Y'.1 ∈ BW ∧ Cond.selects Y'.1.cls Y'.1 Y'.1 ∈ BW) (hd1 : 1 ≤ d) (hC : Calls E Y' (d - 1) 0 0 [.ref b, a0, a1, a2, a3, a4] h (RI P)) (hrec : h[b]? = some (.inr (ci, fs))) (hci : vwCl[ci]? = some (Y'.1.cls, T, N)) (hcat : (rest.map fun v => v.category).sum ≤ 8) (K : ∀ x h1, P x h1 → Go E Y d k n pc' ls (.int x :: rest) h1 Ψ) : Go E Y d k n pc ls (a4 :: a3 :: a2 :: a1 :: a0 :: .ref b :: rest) h Ψ := by
  have q := go_callV (k := k) (n := n) (ls := ls) (rest := rest) (Ψ := Ψ) (As := [a0, a1, a2, a3, a4]) hd hM hst hd1 hC hrec hci rfl hcat (fun r1 h1 q => by obtain ⟨x, rfl, q⟩ := q; exact K x h1 q)
  rw [Nat.zero_add, Nat.zero_add] at q
  exact q
theorem go_cVv5 {a0 a1 a2 a3 a4 : Value} {b ci N : Nat} {T : u_T} {fs : List Value} (hd : Dc Y pc (.invokevirtual idx) pc') (hM : MLk Y.1.cls idx Y' 5) (hst : Cond.instanceMethod Y'.1 ∈ BW ∧ Cond.selects Y'.1.cls Y'.1 Y'.1 ∈ BW) (hd1 : 1 ≤ d) (hC : Calls E Y' (d - 1) 0 0 [.ref b, a0, a1, a2, a3, a4] h (RV PV)) (hrec : h[b]? = some (.inr (ci, fs))) (hci : vwCl[ci]? = some (Y'.1.cls, T, N)) (hcat : (rest.map fun v => v.category).sum ≤ 8) (K : ∀ h1, PV h1 → Go E Y d k n pc' ls rest h1 Ψ) : Go E Y d k n pc ls (a4 :: a3 :: a2 :: a1 :: a0 :: .ref b :: rest) h Ψ := by
  have q := go_callV (k := k) (n := n) (ls := ls) (rest := rest) (Ψ := Ψ) (As := [a0, a1, a2, a3, a4]) hd hM hst hd1 hC hrec hci rfl hcat (fun r1 h1 q => by obtain ⟨rfl, q⟩ := q; exact K h1 q)
  rw [Nat.zero_add, Nat.zero_add] at q
  exact q
theorem go_iincN_0 {j : Nat} {st : List Value} (hd : Dc Y pc (.iinc 0 1) pc') (K : Go E Y d k n pc' (some (.int (nI (j + 1))) :: ls) st h Ψ) : Go E Y d k n pc (some (.int (nI j)) :: ls) st h Ψ := go_iinc_0 hd (nI_1 j) K
theorem go_iincN_1 {b0 : Option Value} {j : Nat} {st : List Value} (hd : Dc Y pc (.iinc 1 1) pc') (K : Go E Y d k n pc' (b0 :: some (.int (nI (j + 1))) :: ls) st h Ψ) : Go E Y d k n pc (b0 :: some (.int (nI j)) :: ls) st h Ψ := go_iinc_1 hd (nI_1 j) K
theorem go_iincN_2 {b0 b1 : Option Value} {j : Nat} {st : List Value} (hd : Dc Y pc (.iinc 2 1) pc') (K : Go E Y d k n pc' (b0 :: b1 :: some (.int (nI (j + 1))) :: ls) st h Ψ) : Go E Y d k n pc (b0 :: b1 :: some (.int (nI j)) :: ls) st h Ψ := go_iinc_2 hd (nI_1 j) K
theorem go_iincN_3 {b0 b1 b2 : Option Value} {j : Nat} {st : List Value} (hd : Dc Y pc (.iinc 3 1) pc') (K : Go E Y d k n pc' (b0 :: b1 :: b2 :: some (.int (nI (j + 1))) :: ls) st h Ψ) : Go E Y d k n pc (b0 :: b1 :: b2 :: some (.int (nI j)) :: ls) st h Ψ := go_iinc_3 hd (nI_1 j) K
theorem go_iincN_4 {b0 b1 b2 b3 : Option Value} {j : Nat} {st : List Value} (hd : Dc Y pc (.iinc 4 1) pc') (K : Go E Y d k n pc' (b0 :: b1 :: b2 :: b3 :: some (.int (nI (j + 1))) :: ls) st h Ψ) : Go E Y d k n pc (b0 :: b1 :: b2 :: b3 :: some (.int (nI j)) :: ls) st h Ψ := go_iinc_4 hd (nI_1 j) K
theorem go_iincN_5 {b0 b1 b2 b3 b4 : Option Value} {j : Nat} {st : List Value} (hd : Dc Y pc (.iinc 5 1) pc') (K : Go E Y d k n pc' (b0 :: b1 :: b2 :: b3 :: b4 :: some (.int (nI (j + 1))) :: ls) st h Ψ) : Go E Y d k n pc (b0 :: b1 :: b2 :: b3 :: b4 :: some (.int (nI j)) :: ls) st h Ψ := go_iinc_5 hd (nI_1 j) K
theorem go_iincN_6 {b0 b1 b2 b3 b4 b5 : Option Value} {j : Nat} {st : List Value} (hd : Dc Y pc (.iinc 6 1) pc') (K : Go E Y d k n pc' (b0 :: b1 :: b2 :: b3 :: b4 :: b5 :: some (.int (nI (j + 1))) :: ls) st h Ψ) : Go E Y d k n pc (b0 :: b1 :: b2 :: b3 :: b4 :: b5 :: some (.int (nI j)) :: ls) st h Ψ := go_iinc_6 hd (nI_1 j) K
theorem go_iincN_7 {b0 b1 b2 b3 b4 b5 b6 : Option Value} {j : Nat} {st : List Value} (hd : Dc Y pc (.iinc 7 1) pc') (K : Go E Y d k n pc' (b0 :: b1 :: b2 :: b3 :: b4 :: b5 :: b6 :: some (.int (nI (j + 1))) :: ls) st h Ψ) : Go E Y d k n pc (b0 :: b1 :: b2 :: b3 :: b4 :: b5 :: b6 :: some (.int (nI j)) :: ls) st h Ψ := go_iinc_7 hd (nI_1 j) K
theorem go_iincN_8 {b0 b1 b2 b3 b4 b5 b6 b7 : Option Value} {j : Nat} {st : List Value} (hd : Dc Y pc (.iinc 8 1) pc') (K : Go E Y d k n pc' (b0 :: b1 :: b2 :: b3 :: b4 :: b5 :: b6 :: b7 :: some (.int (nI (j + 1))) :: ls) st h Ψ) : Go E Y d k n pc (b0 :: b1 :: b2 :: b3 :: b4 :: b5 :: b6 :: b7 :: some (.int (nI j)) :: ls) st h Ψ := go_iinc_8 hd (nI_1 j) K
theorem go_iincN_9 {b0 b1 b2 b3 b4 b5 b6 b7 b8 : Option Value} {j : Nat} {st : List Value} (hd : Dc Y pc (.iinc 9 1) pc') (K : Go E Y d k n pc' (b0 :: b1 :: b2 :: b3 :: b4 :: b5 :: b6 :: b7 :: b8 :: some (.int (nI (j + 1))) :: ls) st h Ψ) : Go E Y d k n pc (b0 :: b1 :: b2 :: b3 :: b4 :: b5 :: b6 :: b7 :: b8 :: some (.int (nI j)) :: ls) st h Ψ := go_iinc_9 hd (nI_1 j) K
theorem go_iincN_10 {b0 b1 b2 b3 b4 b5 b6 b7 b8 b9 : Option Value} {j : Nat} {st : List Value} (hd : Dc Y pc (.iinc 10 1) pc') (K : Go E Y d k n pc' (b0 :: b1 :: b2 :: b3 :: b4 :: b5 :: b6 :: b7 :: b8 :: b9 :: some (.int (nI (j + 1))) :: ls) st h Ψ) : Go E Y d k n pc (b0 :: b1 :: b2 :: b3 :: b4 :: b5 :: b6 :: b7 :: b8 :: b9 :: some (.int (nI j)) :: ls) st h Ψ := go_iinc_10 hd (nI_1 j) K
theorem go_iincN_11 {b0 b1 b2 b3 b4 b5 b6 b7 b8 b9 b10 : Option Value} {j : Nat} {st : List Value} (hd : Dc Y pc (.iinc 11 1) pc') (K : Go E Y d k n pc' (b0 :: b1 :: b2 :: b3 :: b4 :: b5 :: b6 :: b7 :: b8 :: b9 :: b10 :: some (.int (nI (j + 1))) :: ls) st h Ψ) : Go E Y d k n pc (b0 :: b1 :: b2 :: b3 :: b4 :: b5 :: b6 :: b7 :: b8 :: b9 :: b10 :: some (.int (nI j)) :: ls) st h Ψ := go_iinc_11 hd (nI_1 j) K
theorem go_iincN_12 {b0 b1 b2 b3 b4 b5 b6 b7 b8 b9 b10 b11 : Option Value} {j : Nat} {st : List Value} (hd : Dc Y pc (.iinc 12 1) pc') (K : Go E Y d k n pc' (b0 :: b1 :: b2 :: b3 :: b4 :: b5 :: b6 :: b7 :: b8 :: b9 :: b10 :: b11 :: some (.int (nI (j + 1))) :: ls) st h Ψ) : Go E Y d k n pc (b0 :: b1 :: b2 :: b3 :: b4 :: b5 :: b6 :: b7 :: b8 :: b9 :: b10 :: b11 :: some (.int (nI j)) :: ls) st h Ψ := go_iinc_12 hd (nI_1 j) K
theorem go_iincN_13 {b0 b1 b2 b3 b4 b5 b6 b7 b8 b9 b10 b11 b12 : Option Value} {j : Nat} {st : List Value} (hd : Dc Y pc (.iinc 13 1) pc') (K : Go E Y d k n pc' (b0 :: b1 :: b2 :: b3 :: b4 :: b5 :: b6 :: b7 :: b8 :: b9 :: b10 :: b11 :: b12 :: some (.int (nI (j + 1))) :: ls) st h Ψ) : Go E Y d k n pc (b0 :: b1 :: b2 :: b3 :: b4 :: b5 :: b6 :: b7 :: b8 :: b9 :: b10 :: b11 :: b12 :: some (.int (nI j)) :: ls) st h Ψ := go_iinc_13 hd (nI_1 j) K
end GCN
/-! numbers -/
theorem nI_z : (0 : Int32) = nI 0 := by decide
theorem nI_one : (1 : Int32) = nI 1 := by decide
theorem nI_cl {n : Nat} (h : n < 2 ^ 31) : (nI n).toNatClampNeg = n := nI_clamp h
theorem nI_le0 {n : Nat} : n < 2 ^ 31 → 0 ≤ nI n := nI_pos'

/-! bits of small numbers (rows of kit/laws/BITS.to-paste begin this) -/
theorem nx_and (a b : Nat) : nI a &&& nI b = nI (a &&& b) := by
  apply Int32.toBitVec_inj.1
  show BitVec.ofNat 32 a &&& BitVec.ofNat 32 b = BitVec.ofNat 32 (a &&& b)
  apply BitVec.eq_of_getLsbD_eq
  intro i hi
  simp [hi]
theorem nx_xor (a b : Nat) : nI a ^^^ nI b = nI (a ^^^ b) := by
  apply Int32.toBitVec_inj.1
  show BitVec.ofNat 32 a ^^^ BitVec.ofNat 32 b = BitVec.ofNat 32 (a ^^^ b)
  apply BitVec.eq_of_getLsbD_eq
  intro i hi
  simp [hi]
theorem nx_or (a b : Nat) : nI a ||| nI b = nI (a ||| b) := by
  apply Int32.toBitVec_inj.1
  show BitVec.ofNat 32 a ||| BitVec.ofNat 32 b = BitVec.ofNat 32 (a ||| b)
  apply BitVec.eq_of_getLsbD_eq
  intro i hi
  simp [hi]
theorem s_l : ∀ n, n < 32 → ((nI n &&& 31).toBitVec.smod 32).toNat = n := by decide +kernel
theorem s_u : ∀ n, n < 32 → (((nI n).toUInt32 &&& Int32.toUInt32 31).toBitVec % 32).toNat = n := by decide +kernel
theorem nx_shr {a k : Nat} (ha : a < 2 ^ 31) (hk : k < 32) : nI a >>> (nI k &&& 31) = nI (a / 2 ^ k) := pk_shrN ha _ k (s_l k hk)
theorem nx_shl {a k : Nat} (hk : k < 32) (h : a * 2 ^ k < 2 ^ 32) : nI a <<< (nI k &&& 31) = nI (a * 2 ^ k) := pk_shlN _ k (s_l k hk) h
theorem nx_ush {a k : Nat} (ha : a < 2 ^ 32) (hk : k < 32) : ((nI a).toUInt32 >>> ((nI k).toUInt32 &&& Int32.toUInt32 31)).toInt32 = nI (a / 2 ^ k) := pk_ushrN ha _ k (s_u k hk)
/-- the bit k of a number -/
theorem nx_bit {a k : Nat} (ha : a < 2 ^ 31) (hk : k < 32) : nI a >>> (nI k &&& 31) &&& nI 1 = nI (a / 2 ^ k % 2) := by
  rw [nx_shr ha hk, nx_and, Nat.and_one_is_mod]
theorem nI_eq0 {a : Nat} (ha : a < 2 ^ 31) : nI a = 0 ↔ a = 0 := by
  rw [nI_z, nI_eq ha (by decide)]
theorem nI_0le {a : Nat} (ha : a < 2 ^ 31) : 0 ≤ nI a := nI_pos' ha
theorem nI_0lt {a : Nat} (ha : a < 2 ^ 31) : 0 < nI a ↔ 0 < a := by
  rw [nI_z, nI_ltI (by decide) ha]
/-- a condition as an int -/
def bI (P : Prop) [Decidable P] : Int32 := if P then 1 else 0
theorem bI_t {P : Prop} [Decidable P] (h : P) : bI P = nI 1 := by rw [bI, if_pos h]; decide
theorem bI_f {P : Prop} [Decidable P] (h : ¬ P) : bI P = nI 0 := by rw [bI, if_neg h]; decide
theorem bI_eq0 {P : Prop} [Decidable P] : bI P = 0 ↔ ¬ P := by
  unfold bI
  by_cases h : P
  · simp [h]
  · simp [h]
theorem bI_nar {P : Prop} [Decidable P] : narrow .boolean (.int (bI P)) = .int (bI P) := by
  by_cases h : P
  · rw [bI_t h]; rfl
  · rw [bI_f h]; rfl
end
section
/-! THE FIELD WITH 16 ELEMENTS, as the numbers below 16: sum ^^^, product gm -/
def xt (a : Nat) : Nat := (2 * (a % 8)) ^^^ (3 * (a / 8))
def gm (a x : Nat) : Nat := ((if x % 2 = 1 then a else 0) ^^^ (if x / 2 % 2 = 1 then xt a else 0)) ^^^ ((if x / 4 % 2 = 1 then xt (xt a) else 0) ^^^ (if x / 8 % 2 = 1 then xt (xt (xt a)) else 0))
def gv (a : Nat) : Nat := ([0, 1, 9, 14, 13, 11, 7, 6, 15, 2, 12, 5, 10, 4, 3, 8] : List Nat).getD a 0
/-- the powers of 2 -/
def pw (i : Nat) : Nat := ([1, 2, 4, 8, 3, 6, 12, 11, 5, 10, 7, 14, 15, 13, 9] : List Nat).getD (i % 15) 0
theorem dec1 {P : Nat → Prop} [DecidablePred P] (h : (List.range 16).all (fun a => decide (P a)) = true) {a : Nat} (ha : a < 16) : P a := of_decide_eq_true (List.all_eq_true.mp h a (List.mem_range.mpr ha))
theorem dec2 {P : Nat → Nat → Prop} [∀ a b, Decidable (P a b)] (h : (List.range 16).all (fun a => (List.range 16).all (fun b => decide (P a b))) = true) {a b : Nat} (ha : a < 16) (hb : b < 16) : P a b :=
  of_decide_eq_true (List.all_eq_true.mp (List.all_eq_true.mp h a (List.mem_range.mpr ha)) b (List.mem_range.mpr hb))
theorem dec3 {P : Nat → Nat → Nat → Prop} [∀ a b c, Decidable (P a b c)] (h : (List.range 16).all (fun a => (List.range 16).all (fun b => (List.range 16).all (fun c => decide (P a b c)))) = true) {a b c : Nat} (ha : a < 16) (hb : b < 16) (hc : c < 16) : P a b c :=
  of_decide_eq_true (List.all_eq_true.mp (List.all_eq_true.mp (List.all_eq_true.mp h a (List.mem_range.mpr ha)) b (List.mem_range.mpr hb)) c (List.mem_range.mpr hc))
theorem xt_lt {a : Nat} : a < 16 → xt a < 16 := dec1 (P := fun a => xt a < 16) (by decide +kernel)
theorem gm_lt {a b : Nat} : a < 16 → b < 16 → gm a b < 16 := dec2 (P := fun a b => gm a b < 16) (by decide +kernel)
theorem gm_comm {a b : Nat} : a < 16 → b < 16 → gm a b = gm b a := dec2 (P := fun a b => gm a b = gm b a) (by decide +kernel)
theorem gm_assoc {a b c : Nat} : a < 16 → b < 16 → c < 16 → gm (gm a b) c = gm a (gm b c) := dec3 (P := fun a b c => gm (gm a b) c = gm a (gm b c)) (by decide +kernel)
theorem gm_xor {a b c : Nat} : a < 16 → b < 16 → c < 16 → gm a (b ^^^ c) = gm a b ^^^ gm a c := dec3 (P := fun a b c => gm a (b ^^^ c) = gm a b ^^^ gm a c) (by decide +kernel)
theorem xor_gm {a b c : Nat} : a < 16 → b < 16 → c < 16 → gm (a ^^^ b) c = gm a c ^^^ gm b c := dec3 (P := fun a b c => gm (a ^^^ b) c = gm a c ^^^ gm b c) (by decide +kernel)
theorem xor_lt {a b : Nat} : a < 16 → b < 16 → a ^^^ b < 16 := dec2 (P := fun a b => a ^^^ b < 16) (by decide +kernel)
theorem gm_0 {a : Nat} : a < 16 → gm a 0 = 0 := dec1 (P := fun a => gm a 0 = 0) (by decide +kernel)
theorem gm_0l {a : Nat} : a < 16 → gm 0 a = 0 := dec1 (P := fun a => gm 0 a = 0) (by decide +kernel)
theorem gm_1 {a : Nat} : a < 16 → gm a 1 = a := dec1 (P := fun a => gm a 1 = a) (by decide +kernel)
theorem gm_1l {a : Nat} : a < 16 → gm 1 a = a := dec1 (P := fun a => gm 1 a = a) (by decide +kernel)
theorem gv_lt {a : Nat} : a < 16 → gv a < 16 := dec1 (P := fun a => gv a < 16) (by decide +kernel)
theorem gm_gv {a : Nat} : a < 16 → a ≠ 0 → gm a (gv a) = 1 := dec1 (P := fun a => a ≠ 0 → gm a (gv a) = 1) (by decide +kernel)
theorem gm_eq0 {a b : Nat} : a < 16 → b < 16 → gm a b = 0 → a = 0 ∨ b = 0 := dec2 (P := fun a b => gm a b = 0 → a = 0 ∨ b = 0) (by decide +kernel)
theorem xor_self0 (a : Nat) : a ^^^ a = 0 := Nat.xor_self a
theorem xor_eq0 {a b : Nat} (h : a ^^^ b = 0) : a = b := by
  have h1 : a ^^^ b ^^^ b = 0 ^^^ b := by rw [h]
  rwa [Nat.xor_assoc, Nat.xor_self, Nat.xor_zero, Nat.zero_xor] at h1
theorem pw_lt (i : Nat) : pw i < 16 := by
  have h : (List.range 15).all (fun i => decide (([1, 2, 4, 8, 3, 6, 12, 11, 5, 10, 7, 14, 15, 13, 9] : List Nat).getD i 0 < 16)) = true := by decide +kernel
  exact of_decide_eq_true (List.all_eq_true.mp h (i % 15) (List.mem_range.mpr (Nat.mod_lt _ (by decide))))
theorem pw_ne0 (i : Nat) : pw i ≠ 0 := by
  have h : (List.range 15).all (fun i => decide (([1, 2, 4, 8, 3, 6, 12, 11, 5, 10, 7, 14, 15, 13, 9] : List Nat).getD i 0 ≠ 0)) = true := by decide +kernel
  exact of_decide_eq_true (List.all_eq_true.mp h (i % 15) (List.mem_range.mpr (Nat.mod_lt _ (by decide))))
theorem pw_succ {i : Nat} (h : i < 15) : gm (pw i) 2 = pw (i + 1) := by
  have h1 : (List.range 15).all (fun i => decide (gm (pw i) 2 = pw (i + 1))) = true := by decide +kernel
  exact of_decide_eq_true (List.all_eq_true.mp h1 i (List.mem_range.mpr h))
theorem pw_sq {i : Nat} (h : i < 15) : gm (pw i) (pw i) = pw (2 * i) := by
  have h1 : (List.range 15).all (fun i => decide (gm (pw i) (pw i) = pw (2 * i))) = true := by decide +kernel
  exact of_decide_eq_true (List.all_eq_true.mp h1 i (List.mem_range.mpr h))
/-! vectors of n elements packed in one number, four bits each -/
def pq : Nat → (Nat → Nat) → Nat
  | 0, _ => 0
  | n + 1, v => v 0 + 16 * pq n (fun i => v (i + 1))
theorem pq_lt : ∀ (n : Nat) (v : Nat → Nat), (∀ i, i < n → v i < 16) → pq n v < 16 ^ n
  | 0, _, _ => by simp [pq]
  | n + 1, v, hv => by
    have h1 := hv 0 (by omega)
    have h2 := pq_lt n (fun i => v (i + 1)) (fun i hi => hv (i + 1) (by omega))
    show v 0 + 16 * pq n (fun i => v (i + 1)) < 16 ^ (n + 1)
    rw [Nat.pow_succ]
    omega
theorem pq_congr : ∀ {n : Nat} {u v : Nat → Nat}, (∀ i, i < n → u i = v i) → pq n u = pq n v
  | 0, _, _, _ => rfl
  | n + 1, u, v, h => by
    show u 0 + 16 * pq n (fun i => u (i + 1)) = v 0 + 16 * pq n (fun i => v (i + 1))
    rw [h 0 (by omega), pq_congr (u := fun i => u (i + 1)) (v := fun i => v (i + 1)) (fun i hi => h (i + 1) (by omega))]
theorem op16 (a b c d : Nat) (ha : a < 16) (hc : c < 16) : (a + 16 * b) ^^^ (c + 16 * d) = (a ^^^ c) + 16 * (b ^^^ d) := by
  have e1 : a + 16 * b = 2 ^ 4 * b + a := by omega
  have e2 : c + 16 * d = 2 ^ 4 * d + c := by omega
  have e3 : (a ^^^ c) + 16 * (b ^^^ d) = 2 ^ 4 * (b ^^^ d) + (a ^^^ c) := by omega
  rw [e1, e2, e3]
  have hx : a ^^^ c < 2 ^ 4 := xor_lt ha hc
  apply Nat.eq_of_testBit_eq
  intro i
  rw [Nat.testBit_xor, Nat.testBit_two_pow_mul_add _ (show a < 2 ^ 4 from ha), Nat.testBit_two_pow_mul_add _ (show c < 2 ^ 4 from hc), Nat.testBit_two_pow_mul_add _ hx]
  by_cases hi : i < 4
  · simp [hi, Nat.testBit_xor]
  · simp [hi, Nat.testBit_xor]
theorem and16 (a b c d : Nat) (ha : a < 16) (hc : c < 16) : (a + 16 * b) &&& (c + 16 * d) = (a &&& c) + 16 * (b &&& d) := by
  have e1 : a + 16 * b = 2 ^ 4 * b + a := by omega
  have e2 : c + 16 * d = 2 ^ 4 * d + c := by omega
  have e3 : (a &&& c) + 16 * (b &&& d) = 2 ^ 4 * (b &&& d) + (a &&& c) := by omega
  rw [e1, e2, e3]
  have hx : a &&& c < 2 ^ 4 := Nat.lt_of_le_of_lt Nat.and_le_left ha
  apply Nat.eq_of_testBit_eq
  intro i
  rw [Nat.testBit_and, Nat.testBit_two_pow_mul_add _ (show a < 2 ^ 4 from ha), Nat.testBit_two_pow_mul_add _ (show c < 2 ^ 4 from hc), Nat.testBit_two_pow_mul_add _ hx]
  by_cases hi : i < 4
  · simp [hi, Nat.testBit_and]
  · simp [hi, Nat.testBit_and]
theorem pq_xor : ∀ (n : Nat) (u v : Nat → Nat), (∀ i, i < n → u i < 16) → (∀ i, i < n → v i < 16) → pq n u ^^^ pq n v = pq n (fun i => u i ^^^ v i)
  | 0, _, _, _, _ => by simp [pq]
  | n + 1, u, v, hu, hv => by
    show (u 0 + 16 * pq n (fun i => u (i + 1))) ^^^ (v 0 + 16 * pq n (fun i => v (i + 1))) = _
    rw [op16 _ _ _ _ (hu 0 (by omega)) (hv 0 (by omega)), pq_xor n _ _ (fun i hi => hu (i + 1) (by omega)) (fun i hi => hv (i + 1) (by omega))]
    rfl
theorem pq_mask : ∀ (n : Nat) (u v : Nat → Nat), (∀ i, i < n → u i < 16) → (∀ i, i < n → v i < 16) → pq n u &&& pq n v = pq n (fun i => u i &&& v i)
  | 0, _, _, _, _ => by simp [pq]
  | n + 1, u, v, hu, hv => by
    show (u 0 + 16 * pq n (fun i => u (i + 1))) &&& (v 0 + 16 * pq n (fun i => v (i + 1))) = _
    rw [and16 _ _ _ _ (hu 0 (by omega)) (hv 0 (by omega)), pq_mask n _ _ (fun i hi => hu (i + 1) (by omega)) (fun i hi => hv (i + 1) (by omega))]
    rfl
theorem pq_mul : ∀ (n c : Nat) (v : Nat → Nat), pq n v * c = pq n (fun i => v i * c)
  | 0, _, _ => by simp [pq]
  | n + 1, c, v => by
    show (v 0 + 16 * pq n (fun i => v (i + 1))) * c = v 0 * c + 16 * pq n (fun i => v (i + 1) * c)
    rw [← pq_mul n c (fun i => v (i + 1)), Nat.add_mul, Nat.mul_assoc]
theorem pq_top : ∀ (n : Nat) (v : Nat → Nat), (∀ i, i < n → v i < 16) → (pq n v / 8) &&& pq n (fun _ => 1) = pq n (fun i => v i / 8)
  | 0, _, _ => by simp [pq]
  | n + 1, v, hv => by
    have h0 := hv 0 (by omega)
    have e : (v 0 + 16 * pq n (fun i => v (i + 1))) / 8 = (v 0 / 8 + 2 * (pq n (fun i => v (i + 1)) % 8)) + 16 * (pq n (fun i => v (i + 1)) / 8) := by omega
    show ((v 0 + 16 * pq n (fun i => v (i + 1))) / 8) &&& (1 + 16 * pq n (fun _ => 1)) = v 0 / 8 + 16 * pq n (fun i => v (i + 1) / 8)
    rw [e, and16 _ _ _ _ (by omega) (by omega), pq_top n _ (fun i hi => hv (i + 1) (by omega))]
    have h1 : (v 0 / 8 + 2 * (pq n (fun i => v (i + 1)) % 8)) &&& 1 = v 0 / 8 := by
      rw [Nat.and_one_is_mod]
      omega
    rw [h1]
theorem pq_el : ∀ (n : Nat) (v : Nat → Nat), (∀ i, i < n → v i < 16) → ∀ k, k < n → pq n v / 16 ^ k % 16 = v k
  | 0, _, _, k, hk => by omega
  | n + 1, v, hv, 0, hk => by
    have h0 := hv 0 (by omega)
    show (v 0 + 16 * pq n (fun i => v (i + 1))) / 1 % 16 = v 0
    omega
  | n + 1, v, hv, k + 1, hk => by
    have h0 := hv 0 (by omega)
    have ih := pq_el n (fun i => v (i + 1)) (fun i hi => hv (i + 1) (by omega)) k (by omega)
    show (v 0 + 16 * pq n (fun i => v (i + 1))) / 16 ^ (k + 1) % 16 = v (k + 1)
    rw [Nat.pow_succ, Nat.mul_comm (16 ^ k) 16, ← Nat.div_div_eq_div_mul]
    have e : (v 0 + 16 * pq n (fun i => v (i + 1))) / 16 = pq n (fun i => v (i + 1)) := by omega
    rw [e]
    exact ih
theorem pq_inj {n : Nat} {u v : Nat → Nat} (hu : ∀ i, i < n → u i < 16) (hv : ∀ i, i < n → v i < 16) (h : pq n u = pq n v) : ∀ i, i < n → u i = v i := by
  intro i hi
  rw [← pq_el n u hu i hi, ← pq_el n v hv i hi, h]
theorem pq_0 : ∀ n, pq n (fun _ => 0) = 0
  | 0 => rfl
  | n + 1 => by show 0 + 16 * pq n (fun _ => 0) = 0; rw [pq_0 n]
/-- one step of the class's product: all elements times 2 -/
theorem pq_xt (v : Nat → Nat) (hv : ∀ i, i < 6 → v i < 16) : ((pq 6 v &&& 7829367) * 2) ^^^ (((pq 6 v / 8) &&& 1118481) * 3) = pq 6 (fun i => xt (v i)) := by
  have e7 : 7829367 = pq 6 (fun _ => 7) := by decide
  have e1 : 1118481 = pq 6 (fun _ => 1) := by decide
  rw [e7, e1, pq_mask 6 v _ hv (fun _ _ => by decide), pq_top 6 v hv, pq_mul, pq_mul, pq_xor]
  · refine pq_congr fun i hi => ?_
    exact dec1 (P := fun a => (a &&& 7) * 2 ^^^ a / 8 * 3 = xt a) (by decide +kernel) (hv i hi)
  · intro i hi
    exact dec1 (P := fun a => (a &&& 7) * 2 < 16) (by decide +kernel) (hv i hi)
  · intro i hi
    exact dec1 (P := fun a => a / 8 * 3 < 16) (by decide +kernel) (hv i hi)
end
section
/-! STATIC METHODS, by contract -/
section ST
variable {E : AEnv} {d : Nat} {h : List va_E}
theorem c_isWithin {x a b : Int32} : Calls E mX5_isWithin d 0 0 [.int x, .int a, .int b] h (RX (bI (a ≤ x ∧ x ≤ b)) h) := by
  refine Calls.of (ls := [some (.int x), some (.int a), some (.int b)]) (by decide +kernel) rfl (Nat.le_of_ble_eq_true rfl) (cat_ok rfl) ?_
  refine go_iload_0 (DX5_isWithin.at 0 rfl) ?_
  refine go_iload_1 (DX5_isWithin.at 1 rfl) ?_
  refine go_icmp_lt 14 (DX5_isWithin.at 2 rfl) (by decide) (fun c2 => ?_) (fun c2 => ?_)
  · have e0 : bI (a ≤ x ∧ x ≤ b) = nI 0 := bI_f (fun q => absurd q.1 (Int32.not_le.mpr c2))
    refine go_iconst (v := nI 0) (DX5_isWithin.at 8 rfl) (by decide) ?_
    exact go_iret (DX5_isWithin.at 9 rfl) rfl rfl (RX.mk e0.symm rfl)
  · refine go_iload_0 (DX5_isWithin.at 3 rfl) ?_
    refine go_iload_2 (DX5_isWithin.at 4 rfl) ?_
    refine go_icmp_gt 14 (DX5_isWithin.at 5 rfl) (by decide) (fun c7 => ?_) (fun c7 => ?_)
    · have e0 : bI (a ≤ x ∧ x ≤ b) = nI 0 := bI_f (fun q => absurd q.2 (Int32.not_le.mpr c7))
      refine go_iconst (v := nI 0) (DX5_isWithin.at 8 rfl) (by decide) ?_
      exact go_iret (DX5_isWithin.at 9 rfl) rfl rfl (RX.mk e0.symm rfl)
    · have e0 : bI (a ≤ x ∧ x ≤ b) = nI 1 := bI_t ⟨Int32.not_lt.mp c2, Int32.not_lt.mp c7⟩
      refine go_iconst (v := nI 1) (DX5_isWithin.at 6 rfl) (by decide) ?_
      refine go_goto 15 (DX5_isWithin.at 7 rfl) (by decide) ?_
      exact go_iret (DX5_isWithin.at 9 rfl) rfl rfl (RX.mk e0.symm rfl)

theorem c_at {a n k : Nat} {f : Nat → Int32} (hg : ArrR E h a n f) (hk : k < n) (hn : n < 2 ^ 31) : Calls E mX5_at d 0 0 [.ref a, .int (nI k)] h (RX (f k) h) := by
  refine Calls.of (ls := [some (.ref a), some (.int (nI k))]) (by decide +kernel) rfl (Nat.le_of_ble_eq_true rfl) (cat_ok rfl) ?_
  refine go_aload_0 (DX5_at.at 0 rfl) ?_
  refine go_ifnull (DX5_at.at 1 rfl) ?_
  refine go_iload_1 (DX5_at.at 2 rfl) ?_
  refine go_if_lt 20 (DX5_at.at 3 rfl) (by decide) (fun c5 => absurd c5 (nI_pos (by omega))) (fun c5 => ?_)
  refine go_iload_1 (DX5_at.at 4 rfl) ?_
  refine go_aload_0 (DX5_at.at 5 rfl) ?_
  refine go_alen (DX5_at.at 6 rfl) hg rfl ?_
  refine go_icmp_ge 20 (DX5_at.at 7 rfl) (by decide) (fun c11 => absurd c11 (nI_ge hk hn)) (fun c11 => ?_)
  refine go_aload_0 (DX5_at.at 8 rfl) ?_
  refine go_iload_1 (DX5_at.at 9 rfl) ?_
  refine go_iaload (DX5_at.at 10 rfl) hg (vp_in_nI hk hn) ?_
  refine go_goto 21 (DX5_at.at 11 rfl) (by decide) ?_
  exact go_iret (DX5_at.at 13 rfl) rfl rfl (RX.mk (by rw [nI_cl (by omega)]) rfl)

theorem c_put {a n k : Nat} {x : Int32} {f : Nat → Int32} (hg : h[a]? = some (.inl (0, n, .inl f))) (hk : k < n) (hn : n < 2 ^ 31) : Calls E mX5_put d 0 0 [.ref a, .int (nI k), .int x] h (RV (fun h' => h' = h.set a (.inl (0, n, .inl (upd f k x))))) := by
  refine Calls.of (ls := [some (.ref a), some (.int (nI k)), some (.int x)]) (by decide +kernel) rfl (Nat.le_of_ble_eq_true rfl) (cat_ok rfl) ?_
  refine go_aload_0 (DX5_put.at 0 rfl) ?_
  refine go_ifnull (DX5_put.at 1 rfl) ?_
  refine go_iload_1 (DX5_put.at 2 rfl) ?_
  refine go_if_lt 18 (DX5_put.at 3 rfl) (by decide) (fun c5 => absurd c5 (nI_pos (by omega))) (fun c5 => ?_)
  refine go_iload_1 (DX5_put.at 4 rfl) ?_
  refine go_aload_0 (DX5_put.at 5 rfl) ?_
  refine go_alen (DX5_put.at 6 rfl) (Or.inl hg) rfl ?_
  refine go_icmp_ge 18 (DX5_put.at 7 rfl) (by decide) (fun c11 => absurd c11 (nI_ge hk hn)) (fun c11 => ?_)
  refine go_aload_0 (DX5_put.at 8 rfl) ?_
  refine go_iload_1 (DX5_put.at 9 rfl) ?_
  refine go_iload_2 (DX5_put.at 10 rfl) ?_
  refine go_iastore (DX5_put.at 11 rfl) hg (vp_in_nI hk hn) ?_
  exact go_return (DX5_put.at 12 rfl) rfl (RV.mk (by rw [nI_cl (by omega)]))

def xti : Nat → Nat → Nat
  | 0, a => a
  | j + 1, a => xt (xti j a)
def gmp : Nat → Nat → Nat → Nat
  | 0, _, _ => 0
  | j + 1, a, x => gmp j a x ^^^ (if x / 2 ^ j % 2 = 1 then xti j a else 0)
theorem xti_lt {a : Nat} (ha : a < 16) : ∀ j, xti j a < 16
  | 0 => ha
  | j + 1 => xt_lt (xti_lt ha j)
theorem gmp_lt {a x : Nat} (ha : a < 16) : ∀ j, gmp j a x < 16
  | 0 => by show 0 < 16; decide
  | j + 1 => by
    unfold gmp
    refine xor_lt (gmp_lt ha j) ?_
    split
    · exact xti_lt ha j
    · decide
theorem gmp_4 {a x : Nat} : a < 16 → x < 16 → gmp 4 a x = gm a x := dec2 (P := fun a x => gmp 4 a x = gm a x) (by decide +kernel)
theorem pq_lt24 {v : Nat → Nat} (hv : ∀ i, i < 6 → v i < 16) : pq 6 v < 16777216 := pq_lt 6 v hv
set_option maxHeartbeats 4000000 in
/-- one step of scaled's multiple -/
theorem sc_step {v : Nat → Nat} (hv : ∀ i, i < 6 → v i < 16) : ((nI (pq 6 v) &&& 7829367) <<< (nI 1 &&& 31)) ^^^ ((((nI (pq 6 v)).toUInt32 >>> ((nI 3).toUInt32 &&& Int32.toUInt32 31)).toInt32 &&& 1118481) * nI 3) = nI (pq 6 (fun i => xt (v i))) := by
  have hl := pq_lt24 hv
  have e7 : (7829367 : Int32) = nI 7829367 := by decide
  have e1 : (1118481 : Int32) = nI 1118481 := by decide
  have h7 : pq 6 v &&& 7829367 ≤ 7829367 := Nat.and_le_right
  rw [e7, e1, nx_and, nx_shl (by decide) (by omega), nx_ush (by omega) (by decide), nx_and, pk_mul, nx_xor]
  rw [← pq_xt v hv]
theorem cX5_307 : Jvm.Cond.constant RX5 307 7829367 ∈ BW := BW_mem (by decide +kernel) rfl
theorem cX5_308 : Jvm.Cond.constant RX5 308 1118481 ∈ BW := BW_mem (by decide +kernel) rfl
theorem c_scaled {v : Nat → Nat} {x : Nat} (hv : ∀ i, i < 6 → v i < 16) (hx : x < 16) : Calls E mX5_scaled d 0 0 [.int (nI (pq 6 v)), .int (nI x)] h (RX (nI (pq 6 (fun i => gm (v i) x))) h) := by
  refine Calls.of (ls := [some (.int (nI (pq 6 v))), some (.int (nI x)), none, none, none]) (by decide +kernel) rfl (Nat.le_of_ble_eq_true rfl) (cat_ok rfl) ?_
  obtain ⟨gmv, hgmv⟩ : ∃ g : Nat → Nat → Nat, g = fun j i => gmp j (v i) x := ⟨_, rfl⟩
  have g0 : nI 0 = nI (pq 6 (gmv 0)) := by rw [hgmv]; exact congrArg nI (pq_0 6).symm
  have loop : ∀ (m j : Nat), j + m = 4 → Go E mX5_scaled d 0 0 7 [some (.int (nI (pq 6 v))), some (.int (nI x)), some (.int (nI (pq 6 (gmv j)))), some (.int (nI (pq 6 (fun i => xti j (v i))))), some (.int (nI j))] [] h (RX (nI (pq 6 (fun i => gm (v i) x))) h) := by
    subst hgmv
    intro m
    refine Nat.rec (motive := fun m => ∀ j, j + m = 4 → Go E mX5_scaled d 0 0 7 [some (.int (nI (pq 6 v))), some (.int (nI x)), some (.int (nI (pq 6 (fun i => gmp j (v i) x)))), some (.int (nI (pq 6 (fun i => xti j (v i))))), some (.int (nI j))] [] h (RX (nI (pq 6 (fun i => gm (v i) x))) h)) ?_ ?_ m
    · intro j hjm
      have ej : j = 4 := by omega
      subst ej
      refine go_iload_4 (DX5_scaled.at 6 rfl) ?_
      refine go_iconst (v := nI 4) (DX5_scaled.at 7 rfl) (by decide) ?_
      refine go_icmp_ge 50 (DX5_scaled.at 8 rfl) (by decide) (fun c10 => ?_) (fun c10 => absurd (Int32.le_refl _) c10)
      refine go_iload_2 (DX5_scaled.at 35 rfl) ?_
      exact go_iret (DX5_scaled.at 36 rfl) rfl rfl (RX.mk (congrArg nI (pq_congr (fun i hi => gmp_4 (hv i hi) hx))) rfl)
    · intro m ih j hjm
      refine go_iload_4 (DX5_scaled.at 6 rfl) ?_
      refine go_iconst (v := nI 4) (DX5_scaled.at 7 rfl) (by decide) ?_
      refine go_icmp_ge 50 (DX5_scaled.at 8 rfl) (by decide) (fun c10 => absurd c10 (nI_ge (a := j) (b := 4) (by omega) (by decide))) (fun c10 => ?_)
      have eb : nI x >>> (nI j &&& 31) &&& nI 1 = nI (x / 2 ^ j % 2) := nx_bit (by omega) (by omega)
      refine go_iload_1 (DX5_scaled.at 9 rfl) ?_
      refine go_iload_4 (DX5_scaled.at 10 rfl) ?_
      refine go_ishr (DX5_scaled.at 11 rfl) ?_
      refine go_iconst (v := nI 1) (DX5_scaled.at 12 rfl) (by decide) ?_
      refine go_iand (DX5_scaled.at 13 rfl) ?_
      refine go_if_eq 26 (DX5_scaled.at 14 rfl) (by decide) (fun c19 => ?_) (fun c19 => ?_)
      · rw [eb, nI_eq0 (by omega)] at c19
        have ep : (fun i => gmp j (v i) x) = (fun i => gmp (j + 1) (v i) x) := by
          funext i
          show gmp j (v i) x = gmp j (v i) x ^^^ (if x / 2 ^ j % 2 = 1 then xti j (v i) else 0)
          rw [if_neg (by omega), Nat.xor_zero]
        rw [ep]
        refine go_iload_3 (DX5_scaled.at 19 rfl) ?_
        refine go_ldcw (DX5_scaled.at 20 rfl) cX5_307 ?_
        refine go_iand (DX5_scaled.at 21 rfl) ?_
        refine go_iconst (v := nI 1) (DX5_scaled.at 22 rfl) (by decide) ?_
        refine go_ishl (DX5_scaled.at 23 rfl) ?_
        refine go_iload_3 (DX5_scaled.at 24 rfl) ?_
        refine go_iconst (v := nI 3) (DX5_scaled.at 25 rfl) (by decide) ?_
        refine go_iushr (DX5_scaled.at 26 rfl) ?_
        refine go_ldcw (DX5_scaled.at 27 rfl) cX5_308 ?_
        refine go_iand (DX5_scaled.at 28 rfl) ?_
        refine go_iconst (v := nI 3) (DX5_scaled.at 29 rfl) (by decide) ?_
        refine go_imul (DX5_scaled.at 30 rfl) ?_
        refine go_ixor (DX5_scaled.at 31 rfl) ?_
        rw [sc_step (fun i hi => xti_lt (hv i hi) j)]
        refine go_istore_3 (DX5_scaled.at 32 rfl) ?_
        refine go_iincN_4 (DX5_scaled.at 33 rfl) ?_
        refine go_goto 7 (DX5_scaled.at 34 rfl) (by decide) ?_
        exact ih (j + 1) (by omega)
      · rw [eb, nI_eq0 (by omega)] at c19
        have ep : nI (pq 6 (fun i => gmp j (v i) x)) ^^^ nI (pq 6 (fun i => xti j (v i))) = nI (pq 6 (fun i => gmp (j + 1) (v i) x)) := by
          rw [nx_xor, pq_xor 6 _ _ (fun i hi => gmp_lt (hv i hi) j) (fun i hi => xti_lt (hv i hi) j)]
          congr 2
          funext i
          show gmp j (v i) x ^^^ xti j (v i) = gmp j (v i) x ^^^ (if x / 2 ^ j % 2 = 1 then xti j (v i) else 0)
          rw [if_pos (by omega)]
        refine go_iload_2 (DX5_scaled.at 15 rfl) ?_
        refine go_iload_3 (DX5_scaled.at 16 rfl) ?_
        refine go_ixor (DX5_scaled.at 17 rfl) ?_
        rw [ep]
        refine go_istore_2 (DX5_scaled.at 18 rfl) ?_
        refine go_iload_3 (DX5_scaled.at 19 rfl) ?_
        refine go_ldcw (DX5_scaled.at 20 rfl) cX5_307 ?_
        refine go_iand (DX5_scaled.at 21 rfl) ?_
        refine go_iconst (v := nI 1) (DX5_scaled.at 22 rfl) (by decide) ?_
        refine go_ishl (DX5_scaled.at 23 rfl) ?_
        refine go_iload_3 (DX5_scaled.at 24 rfl) ?_
        refine go_iconst (v := nI 3) (DX5_scaled.at 25 rfl) (by decide) ?_
        refine go_iushr (DX5_scaled.at 26 rfl) ?_
        refine go_ldcw (DX5_scaled.at 27 rfl) cX5_308 ?_
        refine go_iand (DX5_scaled.at 28 rfl) ?_
        refine go_iconst (v := nI 3) (DX5_scaled.at 29 rfl) (by decide) ?_
        refine go_imul (DX5_scaled.at 30 rfl) ?_
        refine go_ixor (DX5_scaled.at 31 rfl) ?_
        rw [sc_step (fun i hi => xti_lt (hv i hi) j)]
        refine go_istore_3 (DX5_scaled.at 32 rfl) ?_
        refine go_iincN_4 (DX5_scaled.at 33 rfl) ?_
        refine go_goto 7 (DX5_scaled.at 34 rfl) (by decide) ?_
        exact ih (j + 1) (by omega)
  refine go_iconst (v := nI 0) (DX5_scaled.at 0 rfl) (by decide) ?_
  refine go_istore_2 (DX5_scaled.at 1 rfl) ?_
  rw [g0]
  refine go_iload_0 (DX5_scaled.at 2 rfl) ?_
  refine go_istore_3 (DX5_scaled.at 3 rfl) ?_
  refine go_iconst (v := nI 0) (DX5_scaled.at 4 rfl) (by decide) ?_
  refine go_istore_4 (DX5_scaled.at 5 rfl) ?_
  exact loop 4 0 rfl

theorem c_element {v : Nat → Nat} {k : Nat} (hv : ∀ i, i < 6 → v i < 16) (hk : k < 6) : Calls E mX5_element d 0 0 [.int (nI (pq 6 v)), .int (nI k)] h (RX (nI (v k)) h) := by
  refine Calls.of (ls := [some (.int (nI (pq 6 v))), some (.int (nI k))]) (by decide +kernel) rfl (Nat.le_of_ble_eq_true rfl) (cat_ok rfl) ?_
  refine go_iload_0 (DX5_element.at 0 rfl) ?_
  refine go_iconst (v := nI 4) (DX5_element.at 1 rfl) (by decide) ?_
  refine go_iload_1 (DX5_element.at 2 rfl) ?_
  refine go_imul (DX5_element.at 3 rfl) ?_
  refine go_iushr (DX5_element.at 4 rfl) ?_
  refine go_bipush (v := nI 15) (DX5_element.at 5 rfl) (by decide) ?_
  refine go_iand (DX5_element.at 6 rfl) ?_
  exact go_iret (DX5_element.at 7 rfl) rfl rfl (RX.mk (by
    have hl := pq_lt24 hv
    rw [pk_mul, nx_ush (by omega) (by omega), nx_and, show (15 : Nat) = 2 ^ 4 - 1 from rfl, Nat.and_two_pow_sub_one_eq_mod, Nat.pow_mul]
    exact congrArg nI (pq_el 6 v hv k hk)) rfl)

end ST
end
section
/-! MORE STATIC METHODS -/
section ST
variable {E : AEnv} {d : Nat} {h : List va_E}
/-- the first place from k on at which v isn't 0, of m places; 0 if there is none -/
def ldf (v : Nat → Nat) : Nat → Nat → Nat
  | 0, _ => 0
  | m + 1, k => if v k = 0 then ldf v m (k + 1) else k
def ldv (v : Nat → Nat) : Nat := ldf v 6 0
theorem ldf_lt (v : Nat → Nat) : ∀ m k, k + m = 6 → ldf v m k < 6
  | 0, _, _ => by show 0 < 6; decide
  | m + 1, k, hk => by
    unfold ldf
    split
    · exact ldf_lt v m (k + 1) (by omega)
    · omega
theorem ldv_lt (v : Nat → Nat) : ldv v < 6 := ldf_lt v 6 0 rfl
theorem ldf_spec (v : Nat → Nat) : ∀ m k, k + m = 6 → (∃ i, k ≤ i ∧ i < 6 ∧ v i ≠ 0) → v (ldf v m k) ≠ 0
  | 0, k, hk, ⟨i, h1, h2, _⟩ => by omega
  | m + 1, k, hk, ⟨i, h1, h2, h3⟩ => by
    unfold ldf
    split
    · rename_i h0
      refine ldf_spec v m (k + 1) (by omega) ⟨i, ?_, h2, h3⟩
      rcases Nat.lt_or_ge k i with q | q
      · exact q
      · have : i = k := by omega
        subst this
        exact absurd h0 h3
    · assumption
theorem ldv_spec {v : Nat → Nat} (hv : ∃ i, i < 6 ∧ v i ≠ 0) : v (ldv v) ≠ 0 := by
  obtain ⟨i, h1, h2⟩ := hv
  exact ldf_spec v 6 0 rfl ⟨i, Nat.zero_le _, h1, h2⟩
theorem c_leadOf {v : Nat → Nat} (hv : ∀ i, i < 6 → v i < 16) (hd : 1 ≤ d) : Calls E mX5_leadOf d 0 0 [.int (nI (pq 6 v))] h (RX (nI (ldv v)) h) := by
  refine Calls.of (ls := [some (.int (nI (pq 6 v))), none]) (by decide +kernel) rfl (Nat.le_of_ble_eq_true rfl) (cat_ok rfl) ?_
  have loop : ∀ (m j : Nat), j + m = 6 → Go E mX5_leadOf d 0 0 2 [some (.int (nI (pq 6 v))), some (.int (nI j))] [] h (RX (nI (ldf v m j)) h) := by
    intro m
    induction m with
    | zero =>
      intro j hj
      have ej : j = 6 := by omega
      subst ej
      refine go_iload_1 (DX5_leadOf.at 2 rfl) ?_
      refine go_bipush (v := nI 6) (DX5_leadOf.at 3 rfl) (by decide) ?_
      refine go_icmp_ge 24 (DX5_leadOf.at 4 rfl) (by decide) (fun c5 => ?_) (fun c5 => absurd (Int32.le_refl _) c5)
      refine go_iconst (v := nI 0) (DX5_leadOf.at 13 rfl) (by decide) ?_
      exact go_iret (DX5_leadOf.at 14 rfl) rfl rfl (RX.mk rfl rfl)
    | succ m ih =>
      intro j hj
      refine go_iload_1 (DX5_leadOf.at 2 rfl) ?_
      refine go_bipush (v := nI 6) (DX5_leadOf.at 3 rfl) (by decide) ?_
      refine go_icmp_ge 24 (DX5_leadOf.at 4 rfl) (by decide) (fun c5 => absurd c5 (nI_ge (a := j) (b := 6) (by omega) (by decide))) (fun c5 => ?_)
      refine go_iload_0 (DX5_leadOf.at 5 rfl) ?_
      refine go_iload_1 (DX5_leadOf.at 6 rfl) ?_
      refine go_cSx2 (DX5_leadOf.at 7 rfl) nX5_174 vX5_element (by omega) (c_element hv (by omega)) (Nat.le_of_ble_eq_true rfl) ?_
      refine go_if_eq 18 (DX5_leadOf.at 8 rfl) (by decide) (fun c13 => ?_) (fun c13 => ?_)
      · rw [nI_eq0 (by have := hv j (by omega); omega)] at c13
        rw [show ldf v (m + 1) j = ldf v m (j + 1) from by rw [ldf, if_pos c13]]
        refine go_iincN_1 (DX5_leadOf.at 11 rfl) ?_
        refine go_goto 2 (DX5_leadOf.at 12 rfl) (by decide) ?_
        exact ih (j + 1) (by omega)
      · rw [nI_eq0 (by have := hv j (by omega); omega)] at c13
        rw [show ldf v (m + 1) j = j from by rw [ldf, if_neg c13]]
        refine go_iload_1 (DX5_leadOf.at 9 rfl) ?_
        exact go_iret (DX5_leadOf.at 10 rfl) rfl rfl (RX.mk rfl rfl)
  refine go_iconst (v := nI 0) (DX5_leadOf.at 0 rfl) (by decide) ?_
  refine go_istore_1 (DX5_leadOf.at 1 rfl) ?_
  exact loop 6 0 rfl

theorem INV_gv {a : Nat} : a < 16 → INVf a = nI (gv a) := dec1 (P := fun a => INVf a = nI (gv a)) (by decide +kernel)
theorem POW_pw {i : Nat} (hi : i < 15) : POWf i = nI (pw i) := by
  have h : (List.range 15).all (fun i => decide (POWf i = nI (pw i))) = true := by decide +kernel
  exact of_decide_eq_true (List.all_eq_true.mp h i (List.mem_range.mpr hi))
theorem c_unitOf {v : Nat → Nat} {k : Nat} (hv : ∀ i, i < 6 → v i < 16) (hk : k < 6) (hd : 1 ≤ d) : Calls E mX5_unitOf d 0 0 [.int (nI (pq 6 v)), .int (nI k)] h (RX (nI (pq 6 (fun i => gm (v i) (gv (v k))))) h) := by
  refine Calls.of (ls := [some (.int (nI (pq 6 v))), some (.int (nI k))]) (by decide +kernel) rfl (Nat.le_of_ble_eq_true rfl) (cat_ok rfl) ?_
  refine go_iload_0 (DX5_unitOf.at 0 rfl) ?_
  refine go_inverses (DX5_unitOf.at 1 rfl) zX5_309 ?_
  refine go_iload_0 (DX5_unitOf.at 2 rfl) ?_
  refine go_iload_1 (DX5_unitOf.at 3 rfl) ?_
  refine go_cSx2 (DX5_unitOf.at 4 rfl) nX5_174 vX5_element (by omega) (c_element hv hk) (Nat.le_of_ble_eq_true rfl) ?_
  refine go_cSx2 (DX5_unitOf.at 5 rfl) nX5_155 vX5_at (by omega) (c_at (Or.inr (Or.inr (Or.inl ⟨rfl, rfl, rfl⟩))) (hv k hk) (by decide)) (Nat.le_of_ble_eq_true rfl) ?_
  rw [INV_gv (hv k hk)]
  refine go_cSx2 (DX5_unitOf.at 6 rfl) nX5_249 vX5_scaled (by omega) (c_scaled hv (gv_lt (hv k hk))) (Nat.le_of_ble_eq_true rfl) ?_
  exact go_iret (DX5_unitOf.at 7 rfl) rfl rfl (RX.mk rfl rfl)

theorem c_min {a b : Nat} (ha : a < 2 ^ 31) (hb : b < 2 ^ 31) : Calls E mJ9_min_7cf53 d 0 0 [.int (nI a), .int (nI b)] h (RX (nI (min a b)) h) := by
  refine Calls.of (ls := [some (.int (nI a)), some (.int (nI b))]) (by decide +kernel) rfl (Nat.le_of_ble_eq_true rfl) (cat_ok rfl) ?_
  refine go_iload_0 (DJ9_min_7cf53.at 0 rfl) ?_
  refine go_iload_1 (DJ9_min_7cf53.at 1 rfl) ?_
  refine go_icmp_gt 9 (DJ9_min_7cf53.at 2 rfl) (by decide) (fun c2 => ?_) (fun c2 => ?_)
  · have e0 : min a b = b := by
      have := (nI_ltI hb ha).mp c2
      exact Nat.min_eq_right (by omega)
    refine go_iload_1 (DJ9_min_7cf53.at 5 rfl) ?_
    exact go_iret (DJ9_min_7cf53.at 6 rfl) rfl rfl (RX.mk (congrArg nI e0.symm) rfl)
  · have e0 : min a b = a := by
      have : ¬ b < a := fun q => c2 ((nI_ltI hb ha).mpr q)
      exact Nat.min_eq_left (by omega)
    refine go_iload_0 (DJ9_min_7cf53.at 3 rfl) ?_
    refine go_goto 10 (DJ9_min_7cf53.at 4 rfl) (by decide) ?_
    exact go_iret (DJ9_min_7cf53.at 6 rfl) rfl rfl (RX.mk (congrArg nI e0.symm) rfl)

theorem c_max {a b : Int32} : Calls E mJ9_max_7cf53 d 0 0 [.int a, .int b] h (RX (if a < b then b else a) h) := by
  refine Calls.of (ls := [some (.int a), some (.int b)]) (by decide +kernel) rfl (Nat.le_of_ble_eq_true rfl) (cat_ok rfl) ?_
  refine go_iload_0 (DJ9_max_7cf53.at 0 rfl) ?_
  refine go_iload_1 (DJ9_max_7cf53.at 1 rfl) ?_
  refine go_icmp_lt 9 (DJ9_max_7cf53.at 2 rfl) (by decide) (fun c2 => ?_) (fun c2 => ?_)
  · have e0 : (if a < b then b else a) = b := if_pos c2
    refine go_iload_1 (DJ9_max_7cf53.at 5 rfl) ?_
    exact go_iret (DJ9_max_7cf53.at 6 rfl) rfl rfl (RX.mk e0.symm rfl)
  · have e0 : (if a < b then b else a) = a := if_neg c2
    refine go_iload_0 (DJ9_max_7cf53.at 3 rfl) ?_
    refine go_goto 10 (DJ9_max_7cf53.at 4 rfl) (by decide) ?_
    exact go_iret (DJ9_max_7cf53.at 6 rfl) rfl rfl (RX.mk e0.symm rfl)

theorem nI_xor0 {a b : Nat} (ha : a < 2 ^ 31) (hb : b < 2 ^ 31) : 0 ≤ nI a ^^^ nI b := by
  rw [nx_xor]
  exact nI_0le (Nat.xor_lt_two_pow ha hb)
theorem c_floorMod {a n : Nat} (ha : a < 2 ^ 31) (h0 : 0 < n) (hn : n < 2 ^ 31) : Calls E mJ9_floorMod_7cf53 d 0 0 [.int (nI a), .int (nI n)] h (RX (nI (a % n)) h) := by
  refine Calls.of (ls := [some (.int (nI a)), some (.int (nI n)), none]) (by decide +kernel) rfl (Nat.le_of_ble_eq_true rfl) (cat_ok rfl) ?_
  refine go_iload_0 (DJ9_floorMod_7cf53.at 0 rfl) ?_
  refine go_iload_1 (DJ9_floorMod_7cf53.at 1 rfl) ?_
  refine go_irem (DJ9_floorMod_7cf53.at 2 rfl) (fun q => absurd ((nI_eq0 hn).mp q) (by omega)) ?_
  rw [pk_rem ha h0 hn]
  refine go_istore_2 (DJ9_floorMod_7cf53.at 3 rfl) ?_
  refine go_iload_0 (DJ9_floorMod_7cf53.at 4 rfl) ?_
  refine go_iload_1 (DJ9_floorMod_7cf53.at 5 rfl) ?_
  refine go_ixor (DJ9_floorMod_7cf53.at 6 rfl) ?_
  refine go_if_ge 18 (DJ9_floorMod_7cf53.at 7 rfl) (by decide) (fun c7 => ?_) (fun c7 => absurd (nI_xor0 ha hn) c7)
  refine go_iload_2 (DJ9_floorMod_7cf53.at 14 rfl) ?_
  exact go_iret (DJ9_floorMod_7cf53.at 15 rfl) rfl rfl (RX.mk rfl rfl)

theorem fm_tab : (List.range 36).all (fun z => (List.range 21).all (fun n => decide (0 < z → 0 < n → ¬ 0 ≤ (-nI z) ^^^ nI n ∧ ((-nI z) - (-nI z) / nI n * nI n = 0 → nI ((40 * n - z) % n) = 0) ∧ (¬ (-nI z) - (-nI z) / nI n * nI n = 0 → (-nI z) - (-nI z) / nI n * nI n + nI n = nI ((40 * n - z) % n))))) = true := by decide +kernel
theorem fm_at {z n : Nat} (hz : z < 36) (hn : n < 21) (h1 : 0 < z) (h2 : 0 < n) : ¬ 0 ≤ (-nI z) ^^^ nI n ∧ ((-nI z) - (-nI z) / nI n * nI n = 0 → nI ((40 * n - z) % n) = 0) ∧ (¬ (-nI z) - (-nI z) / nI n * nI n = 0 → (-nI z) - (-nI z) / nI n * nI n + nI n = nI ((40 * n - z) % n)) :=
  of_decide_eq_true (List.all_eq_true.mp (List.all_eq_true.mp fm_tab z (List.mem_range.mpr hz)) n (List.mem_range.mpr hn)) h1 h2
theorem c_floorModN {z n : Nat} (hz : z < 36) (h1 : 0 < z) (h0 : 0 < n) (hn : n < 21) : Calls E mJ9_floorMod_7cf53 d 0 0 [.int (-nI z), .int (nI n)] h (RX (nI ((40 * n - z) % n)) h) := by
  refine Calls.of (ls := [some (.int (-nI z)), some (.int (nI n)), none]) (by decide +kernel) rfl (Nat.le_of_ble_eq_true rfl) (cat_ok rfl) ?_
  refine go_iload_0 (DJ9_floorMod_7cf53.at 0 rfl) ?_
  refine go_iload_1 (DJ9_floorMod_7cf53.at 1 rfl) ?_
  refine go_irem (DJ9_floorMod_7cf53.at 2 rfl) (fun q => absurd ((nI_eq0 (by omega)).mp q) (by omega)) ?_
  refine go_istore_2 (DJ9_floorMod_7cf53.at 3 rfl) ?_
  refine go_iload_0 (DJ9_floorMod_7cf53.at 4 rfl) ?_
  refine go_iload_1 (DJ9_floorMod_7cf53.at 5 rfl) ?_
  refine go_ixor (DJ9_floorMod_7cf53.at 6 rfl) ?_
  refine go_if_ge 18 (DJ9_floorMod_7cf53.at 7 rfl) (by decide) (fun c7 => absurd c7 (fm_at hz hn h1 h0).1) (fun c7 => ?_)
  refine go_iload_2 (DJ9_floorMod_7cf53.at 8 rfl) ?_
  refine go_if_eq 18 (DJ9_floorMod_7cf53.at 9 rfl) (by decide) (fun c11 => ?_) (fun c11 => ?_)
  · refine go_iload_2 (DJ9_floorMod_7cf53.at 14 rfl) ?_
    exact go_iret (DJ9_floorMod_7cf53.at 15 rfl) rfl rfl (RX.mk (c11.trans ((fm_at hz hn h1 h0).2.1 c11).symm) rfl)
  · refine go_iload_2 (DJ9_floorMod_7cf53.at 10 rfl) ?_
    refine go_iload_1 (DJ9_floorMod_7cf53.at 11 rfl) ?_
    refine go_iadd (DJ9_floorMod_7cf53.at 12 rfl) ?_
    exact go_iret (DJ9_floorMod_7cf53.at 13 rfl) rfl rfl (RX.mk ((fm_at hz hn h1 h0).2.2 c11) rfl)

theorem ac_lk1 : Jvm.Cond.methodLink RX5 301 arraycopyName ∈ BW := BW_mem (by decide +kernel) rfl
theorem ac_lk4 : Jvm.Cond.methodLink RX4 136 arraycopyName ∈ BW := BW_mem (by decide +kernel) rfl
theorem ac_nat : Jvm.Cond.native arraycopyName ∈ BW := BW_mem (by decide +kernel) rfl
theorem ac_sta : Jvm.Cond.static arraycopyName ∈ BW := BW_mem (by decide +kernel) rfl
theorem ac_ini : Jvm.Cond.initialized "java/lang/System" ∈ BW := BW_mem (by decide +kernel) rfl
theorem c_copyRow {a b n : Nat} {f g : Nat → Int32} (ha : h[a]? = some (.inl (0, n, .inl f))) (hb : h[b]? = some (.inl (0, n, .inl g))) (hn : n < 2 ^ 31) (hd : 1 ≤ d) : Calls E mX5_copyRow d 0 0 [.ref a, .ref b] h (RV (fun h' => h' = h.set b (.inl (0, n, .inl (va_cpy f g 0 0 n))))) := by
  refine Calls.of (ls := [some (.ref a), some (.ref b)]) (by decide +kernel) rfl (Nat.le_of_ble_eq_true rfl) (cat_ok rfl) ?_
  refine go_aload_0 (DX5_copyRow.at 0 rfl) ?_
  refine go_ifnull (DX5_copyRow.at 1 rfl) ?_
  refine go_aload_1 (DX5_copyRow.at 2 rfl) ?_
  refine go_ifnull (DX5_copyRow.at 3 rfl) ?_
  refine go_aload_0 (DX5_copyRow.at 4 rfl) ?_
  refine go_iconst (v := nI 0) (DX5_copyRow.at 5 rfl) (by decide) ?_
  refine go_aload_1 (DX5_copyRow.at 6 rfl) ?_
  refine go_iconst (v := nI 0) (DX5_copyRow.at 7 rfl) (by decide) ?_
  refine go_aload_0 (DX5_copyRow.at 8 rfl) ?_
  refine go_alen (DX5_copyRow.at 9 rfl) (Or.inl ha) rfl ?_
  refine go_aload_1 (DX5_copyRow.at 10 rfl) ?_
  refine go_alen (DX5_copyRow.at 11 rfl) (Or.inl hb) rfl ?_
  refine go_cSx2 (DX5_copyRow.at 12 rfl) nX5_298 vJ9_min_7cf53 (by omega) (c_min hn hn) (Nat.le_of_ble_eq_true rfl) ?_
  rw [Nat.min_self]
  refine go_arraycopy (DX5_copyRow.at 13 rfl) ac_lk1 ac_nat ac_sta ac_ini ha hb (by decide) (by decide) (nI_pos hn) (by rw [nI_cl hn]; exact Nat.le_of_eq (Nat.zero_add n)) (by rw [nI_cl hn]; exact Nat.le_of_eq (Nat.zero_add n)) hd (Nat.le_of_ble_eq_true rfl) ?_
  exact go_return (DX5_copyRow.at 14 rfl) rfl (RV.mk (by rw [nI_cl hn]; rfl))

end ST
end
section
/-! A STATE: nine ints and five rows; what its methods read -/
abbrev Rows : Type := Nat → Nat → Int32
abbrev ar (n : Nat) (f : Nat → Int32) : va_E := .inl (0, n, .inl f)
abbrev stO (b : Nat) (i : Nat → Int32) : va_E := .inr (4, [.int (i 0), .int (i 1), .int (i 2), .int (i 3), .int (i 4), .int (i 5), .int (i 6), .int (i 7), .int (i 8), .ref (b + 1), .ref (b + 2), .ref (b + 3), .ref (b + 4), .ref (b + 5)])
/-- σ 0: groups, size, stripes, shift, reads, mends, local mends, losses, queue length; σ 1 .. σ 5: queue, values, missing, loads, columns -/
def StAt (h : List va_E) (b : Nat) (σ : Rows) : Prop := h[b]? = some (stO b (σ 0)) ∧ h[b + 1]? = some (ar 160 (σ 1)) ∧ h[b + 2]? = some (ar 160 (σ 2)) ∧ h[b + 3]? = some (ar 8 (σ 3)) ∧ h[b + 4]? = some (ar 20 (σ 4)) ∧ h[b + 5]? = some (ar 20 (σ 5))
def LayOK (g s T sh : Nat) : Prop := 1 ≤ g ∧ g ≤ 4 ∧ 2 ≤ s ∧ s ≤ 6 ∧ g * s ≤ 15 ∧ 1 ≤ T ∧ T ≤ 8 ∧ sh ≤ 5
def LayX (σ : Rows) (g s T sh : Nat) : Prop := σ 0 0 = nI g ∧ σ 0 1 = nI s ∧ σ 0 2 = nI T ∧ σ 0 3 = nI sh ∧ LayOK g s T sh
/-- how many cells a stripe has -/
def nc (g s : Nat) : Nat := g * s + g + 2
theorem LayOK.nc {g s T sh : Nat} (h : LayOK g s T sh) : 5 ≤ nc g s ∧ nc g s ≤ 20 := by
  obtain ⟨h1, h2, h3, h4, h5, -⟩ := h
  have hg : g = 1 ∨ g = 2 ∨ g = 3 ∨ g = 4 := by omega
  unfold Jvm.Pilot.CLocalMendersLaw_law_r9733_bb337c.nc
  rcases hg with rfl | rfl | rfl | rfl <;> omega
theorem nx_shlW (a : Nat) {k : Nat} (hk : k < 32) : nI a <<< (nI k &&& 31) = nI (a * 2 ^ k) := by
  apply Int32.toBitVec_inj.mp
  apply BitVec.eq_of_toNat_eq
  rw [pk_shl _ _ k (s_l k hk)]
  show (BitVec.ofNat 32 a).toNat * 2 ^ k % 2 ^ 32 = (BitVec.ofNat 32 (a * 2 ^ k)).toNat
  rw [BitVec.toNat_ofNat, BitVec.toNat_ofNat, Nat.mod_mul_mod]
/-- a number from 0 on below n -/
def inR (x : Int32) (n : Nat) : Prop := 0 ≤ x ∧ x < nI n
theorem inR_ex {x : Int32} {n : Nat} (hn : n < 2 ^ 31) (h : inR x n) : ∃ j, j < n ∧ x = nI j := by
  rcases pk_ix x hn with q | q | q
  · exact absurd h.1 (Int32.not_le.mpr q)
  · exact absurd h.2 (Int32.not_lt.mpr q)
  · exact q
theorem inR_nI {j n : Nat} (hj : j < 2 ^ 31) (hn : n < 2 ^ 31) : inR (nI j) n ↔ j < n := ⟨fun h => (nI_ltI hj hn).mp h.2, fun h => ⟨nI_0le hj, (nI_ltI hj hn).mpr h⟩⟩
section SR
variable {E : AEnv} {d : Nat} {h : List va_E} {b : Nat} {σ : Rows} {g s T sh : Nat}
theorem c_dataCount (hS : StAt h b σ) (hL : LayX σ g s T sh)  : Calls E mX4_dataCount d 0 0 [.ref b] h (RX (nI (g * s)) h) := by
  refine Calls.of (ls := [some (.ref b)]) (by decide +kernel) rfl (Nat.le_of_ble_eq_true rfl) (cat_ok rfl) ?_
  refine go_aload_0 (DX4_dataCount.at 0 rfl) ?_
  refine go_getfield (DX4_dataCount.at 1 rfl) fX4_9 hS.1 rfl ?_
  refine go_aload_0 (DX4_dataCount.at 2 rfl) ?_
  refine go_getfield (DX4_dataCount.at 3 rfl) fX4_15 hS.1 rfl ?_
  refine go_imul (DX4_dataCount.at 4 rfl) ?_
  exact go_iret (DX4_dataCount.at 5 rfl) rfl rfl (RX.mk (by rw [hL.1, hL.2.1, pk_mul]) rfl)

theorem c_cellCount (hS : StAt h b σ) (hL : LayX σ g s T sh)  : Calls E mX4_cellCount d 0 0 [.ref b] h (RX (nI (nc g s)) h) := by
  refine Calls.of (ls := [some (.ref b)]) (by decide +kernel) rfl (Nat.le_of_ble_eq_true rfl) (cat_ok rfl) ?_
  refine go_aload_0 (DX4_cellCount.at 0 rfl) ?_
  refine go_getfield (DX4_cellCount.at 1 rfl) fX4_9 hS.1 rfl ?_
  refine go_aload_0 (DX4_cellCount.at 2 rfl) ?_
  refine go_getfield (DX4_cellCount.at 3 rfl) fX4_15 hS.1 rfl ?_
  refine go_imul (DX4_cellCount.at 4 rfl) ?_
  refine go_aload_0 (DX4_cellCount.at 5 rfl) ?_
  refine go_getfield (DX4_cellCount.at 6 rfl) fX4_9 hS.1 rfl ?_
  refine go_iadd (DX4_cellCount.at 7 rfl) ?_
  refine go_iconst (v := nI 2) (DX4_cellCount.at 8 rfl) (by decide) ?_
  refine go_iadd (DX4_cellCount.at 9 rfl) ?_
  exact go_iret (DX4_cellCount.at 10 rfl) rfl rfl (RX.mk (by rw [hL.1, hL.2.1, pk_mul, nI_add, nI_add]; rfl) rfl)

theorem c_allCells (hS : StAt h b σ) (hL : LayX σ g s T sh)  (hd : 1 ≤ d) : Calls E mX4_allCells d 0 0 [.ref b] h (RX (nI (2 ^ nc g s - 1)) h) := by
  refine Calls.of (ls := [some (.ref b)]) (by decide +kernel) rfl (Nat.le_of_ble_eq_true rfl) (cat_ok rfl) ?_
  refine go_iconst (v := nI 1) (DX4_allCells.at 0 rfl) (by decide) ?_
  refine go_aload_0 (DX4_allCells.at 1 rfl) ?_
  refine go_cVx0 (DX4_allCells.at 2 rfl) nX4_69 vX4_cellCount (by omega) (c_cellCount hS hL) hS.1 rfl (Nat.le_of_ble_eq_true rfl) ?_
  refine go_ishl (DX4_allCells.at 3 rfl) ?_
  refine go_iconst (v := nI 1) (DX4_allCells.at 4 rfl) (by decide) ?_
  refine go_isub (DX4_allCells.at 5 rfl) ?_
  exact go_iret (DX4_allCells.at 6 rfl) rfl rfl (RX.mk (by rw [nx_shlW _ (by have := hL.2.2.2.2.nc; omega), Nat.one_mul, pk_sub (Nat.one_le_two_pow)]) rfl)

theorem inR_dec_t {x : Int32} {n : Nat} (h1 : ¬ x < 0) (h2 : ¬ nI n ≤ x) : inR x n := ⟨Int32.not_lt.mp h1, Int32.not_le.mp h2⟩
theorem inR_no1 {x : Int32} {n : Nat} (h1 : x < 0) : ¬ inR x n := fun q => absurd q.1 (Int32.not_le.mpr h1)
theorem inR_no2 {x : Int32} {n : Nat} (h1 : nI n ≤ x) : ¬ inR x n := fun q => absurd q.2 (Int32.not_lt.mpr h1)
noncomputable def bP (P : Prop) : Int32 := @bI P (Classical.propDecidable P)
theorem bP_t {P : Prop} (h : P) : bP P = nI 1 := @bI_t P (Classical.propDecidable P) h
theorem bP_f {P : Prop} (h : ¬ P) : bP P = nI 0 := @bI_f P (Classical.propDecidable P) h
theorem bP_eq0 {P : Prop} : bP P = 0 ↔ ¬ P := @bI_eq0 P (Classical.propDecidable P)
theorem bP_nar {P : Prop} : narrow .boolean (.int (bP P)) = .int (bP P) := @bI_nar P (Classical.propDecidable P)
theorem c_hasStripe (hS : StAt h b σ) (hL : LayX σ g s T sh) {x : Int32} : Calls E mX4_hasStripe d 0 0 [.ref b, .int x] h (RX (bP (inR x (T))) h) := by
  refine Calls.of (ls := [some (.ref b), some (.int x)]) (by decide +kernel) rfl (Nat.le_of_ble_eq_true rfl) (cat_ok rfl) ?_
  refine go_iload_1 (DX4_hasStripe.at 0 rfl) ?_
  refine go_if_lt 16 (DX4_hasStripe.at 1 rfl) (by decide) (fun c1 => ?_) (fun c1 => ?_)
  · have e0 : bP (inR x T) = nI 0 := bP_f (inR_no1 c1)
    refine go_iconst (v := nI 0) (DX4_hasStripe.at 8 rfl) (by decide) ?_
    exact go_iret (DX4_hasStripe.at 9 rfl) rfl rfl (RX.mk e0.symm rfl)
  · refine go_iload_1 (DX4_hasStripe.at 2 rfl) ?_
    refine go_aload_0 (DX4_hasStripe.at 3 rfl) ?_
    refine go_getfield (DX4_hasStripe.at 4 rfl) fX4_18 hS.1 rfl ?_
    rw [hL.2.2.1]
    refine go_icmp_ge 16 (DX4_hasStripe.at 5 rfl) (by decide) (fun c9 => ?_) (fun c9 => ?_)
    · have e0 : bP (inR x T) = nI 0 := bP_f (inR_no2 c9)
      refine go_iconst (v := nI 0) (DX4_hasStripe.at 8 rfl) (by decide) ?_
      exact go_iret (DX4_hasStripe.at 9 rfl) rfl rfl (RX.mk e0.symm rfl)
    · have e0 : bP (inR x T) = nI 1 := bP_t (inR_dec_t c1 c9)
      refine go_iconst (v := nI 1) (DX4_hasStripe.at 6 rfl) (by decide) ?_
      refine go_goto 17 (DX4_hasStripe.at 7 rfl) (by decide) ?_
      exact go_iret (DX4_hasStripe.at 9 rfl) rfl rfl (RX.mk e0.symm rfl)

theorem c_hasNode (hS : StAt h b σ) (hL : LayX σ g s T sh) {x : Int32} (hd : 1 ≤ d) : Calls E mX4_hasNode d 0 0 [.ref b, .int x] h (RX (bP (inR x (nc g s))) h) := by
  refine Calls.of (ls := [some (.ref b), some (.int x)]) (by decide +kernel) rfl (Nat.le_of_ble_eq_true rfl) (cat_ok rfl) ?_
  refine go_iload_1 (DX4_hasNode.at 0 rfl) ?_
  refine go_if_lt 16 (DX4_hasNode.at 1 rfl) (by decide) (fun c1 => ?_) (fun c1 => ?_)
  · have e0 : bP (inR x (nc g s)) = nI 0 := bP_f (inR_no1 c1)
    refine go_iconst (v := nI 0) (DX4_hasNode.at 8 rfl) (by decide) ?_
    exact go_iret (DX4_hasNode.at 9 rfl) rfl rfl (RX.mk e0.symm rfl)
  · refine go_iload_1 (DX4_hasNode.at 2 rfl) ?_
    refine go_aload_0 (DX4_hasNode.at 3 rfl) ?_
    refine go_cVx0 (DX4_hasNode.at 4 rfl) nX4_69 vX4_cellCount (by omega) (c_cellCount hS hL) hS.1 rfl (Nat.le_of_ble_eq_true rfl) ?_
    refine go_icmp_ge 16 (DX4_hasNode.at 5 rfl) (by decide) (fun c9 => ?_) (fun c9 => ?_)
    · have e0 : bP (inR x (nc g s)) = nI 0 := bP_f (inR_no2 c9)
      refine go_iconst (v := nI 0) (DX4_hasNode.at 8 rfl) (by decide) ?_
      exact go_iret (DX4_hasNode.at 9 rfl) rfl rfl (RX.mk e0.symm rfl)
    · have e0 : bP (inR x (nc g s)) = nI 1 := bP_t (inR_dec_t c1 c9)
      refine go_iconst (v := nI 1) (DX4_hasNode.at 6 rfl) (by decide) ?_
      refine go_goto 17 (DX4_hasNode.at 7 rfl) (by decide) ?_
      exact go_iret (DX4_hasNode.at 9 rfl) rfl rfl (RX.mk e0.symm rfl)

theorem c_hasCell (hS : StAt h b σ) (hL : LayX σ g s T sh) {x y : Int32} (hd : 1 ≤ d) : Calls E mX4_hasCell d 0 0 [.ref b, .int x, .int y] h (RX (bP (inR x T ∧ inR y (nc g s))) h) := by
  refine Calls.of (ls := [some (.ref b), some (.int x), some (.int y)]) (by decide +kernel) rfl (Nat.le_of_ble_eq_true rfl) (cat_ok rfl) ?_
  refine go_aload_0 (DX4_hasCell.at 0 rfl) ?_
  refine go_iload_1 (DX4_hasCell.at 1 rfl) ?_
  refine go_cVx1 (DX4_hasCell.at 2 rfl) nX4_91 vX4_hasStripe (by omega) (c_hasStripe hS hL) hS.1 rfl (Nat.le_of_ble_eq_true rfl) ?_
  refine go_if_eq 24 (DX4_hasCell.at 3 rfl) (by decide) (fun c5 => ?_) (fun c5 => ?_)
  · rw [bP_eq0] at c5
    have e0 : bP (inR x T ∧ inR y (nc g s)) = nI 0 := bP_f (fun q => c5 q.1)
    refine go_iconst (v := nI 0) (DX4_hasCell.at 12 rfl) (by decide) ?_
    exact go_iret (DX4_hasCell.at 13 rfl) rfl rfl (RX.mk e0.symm rfl)
  · rw [bP_eq0, Classical.not_not] at c5
    refine go_iload_2 (DX4_hasCell.at 4 rfl) ?_
    refine go_if_lt 24 (DX4_hasCell.at 5 rfl) (by decide) (fun c9 => ?_) (fun c9 => ?_)
    · have e0 : bP (inR x T ∧ inR y (nc g s)) = nI 0 := bP_f (fun q => inR_no1 c9 q.2)
      refine go_iconst (v := nI 0) (DX4_hasCell.at 12 rfl) (by decide) ?_
      exact go_iret (DX4_hasCell.at 13 rfl) rfl rfl (RX.mk e0.symm rfl)
    · refine go_iload_2 (DX4_hasCell.at 6 rfl) ?_
      refine go_aload_0 (DX4_hasCell.at 7 rfl) ?_
      refine go_cVx0 (DX4_hasCell.at 8 rfl) nX4_69 vX4_cellCount (by omega) (c_cellCount hS hL) hS.1 rfl (Nat.le_of_ble_eq_true rfl) ?_
      refine go_icmp_ge 24 (DX4_hasCell.at 9 rfl) (by decide) (fun c17 => ?_) (fun c17 => ?_)
      · have e0 : bP (inR x T ∧ inR y (nc g s)) = nI 0 := bP_f (fun q => inR_no2 c17 q.2)
        refine go_iconst (v := nI 0) (DX4_hasCell.at 12 rfl) (by decide) ?_
        exact go_iret (DX4_hasCell.at 13 rfl) rfl rfl (RX.mk e0.symm rfl)
      · have e0 : bP (inR x T ∧ inR y (nc g s)) = nI 1 := bP_t ⟨c5, inR_dec_t c9 c17⟩
        refine go_iconst (v := nI 1) (DX4_hasCell.at 10 rfl) (by decide) ?_
        refine go_goto 25 (DX4_hasCell.at 11 rfl) (by decide) ?_
        exact go_iret (DX4_hasCell.at 13 rfl) rfl rfl (RX.mk e0.symm rfl)

theorem c_nodeOf (hS : StAt h b σ) (hL : LayX σ g s T sh) {t c : Nat} (ht : t < 8) (hc : c < 20) (hd : 1 ≤ d) : Calls E mX4_nodeOf d 0 0 [.ref b, .int (nI t), .int (nI c)] h (RX (nI ((c + t * sh) % nc g s)) h) := by
  refine Calls.of (ls := [some (.ref b), some (.int (nI t)), some (.int (nI c)), none]) (by decide +kernel) rfl (Nat.le_of_ble_eq_true rfl) (cat_ok rfl) ?_
  refine go_aload_0 (DX4_nodeOf.at 0 rfl) ?_
  refine go_cVx0 (DX4_nodeOf.at 1 rfl) nX4_69 vX4_cellCount (by omega) (c_cellCount hS hL) hS.1 rfl (Nat.le_of_ble_eq_true rfl) ?_
  refine go_istore_3 (DX4_nodeOf.at 2 rfl) ?_
  refine go_iload_3 (DX4_nodeOf.at 3 rfl) ?_
  refine go_if_le 24 (DX4_nodeOf.at 4 rfl) (by decide) (fun c6 => absurd c6 (nI_nle (by have := hL.2.2.2.2.nc; omega) (by have := hL.2.2.2.2.nc; omega))) (fun c6 => ?_)
  refine go_iload_2 (DX4_nodeOf.at 5 rfl) ?_
  refine go_iload_1 (DX4_nodeOf.at 6 rfl) ?_
  refine go_aload_0 (DX4_nodeOf.at 7 rfl) ?_
  refine go_getfield (DX4_nodeOf.at 8 rfl) fX4_21 hS.1 rfl ?_
  refine go_imul (DX4_nodeOf.at 9 rfl) ?_
  refine go_iadd (DX4_nodeOf.at 10 rfl) ?_
  rw [hL.2.2.2.1, pk_mul, nI_add]
  refine go_iload_3 (DX4_nodeOf.at 11 rfl) ?_
  refine go_cSx2 (DX4_nodeOf.at 12 rfl) nX4_95 vJ9_floorMod_7cf53 (by omega) (c_floorMod (by have := hL.2.2.2.2; have h8 := this.2.2.2.2.2.2.2; have : t * sh ≤ 7 * 5 := Nat.mul_le_mul (by omega) h8; omega) (by have := hL.2.2.2.2.nc; omega) (by have := hL.2.2.2.2.nc; omega)) (Nat.le_of_ble_eq_true rfl) ?_
  refine go_goto 25 (DX4_nodeOf.at 13 rfl) (by decide) ?_
  exact go_iret (DX4_nodeOf.at 15 rfl) rfl rfl (RX.mk rfl rfl)

/-- the cell of the stripe t on a node -/
def con (n node k : Nat) : Nat := (node + 40 * n - k) % n
theorem con_lt {n node k : Nat} (hn : 0 < n) : con n node k < n := Nat.mod_lt _ hn
theorem c_cellOn (hS : StAt h b σ) (hL : LayX σ g s T sh) {t nd : Nat} (ht : t < 8) (hc : nd < 20) (hd : 1 ≤ d) : Calls E mX4_cellOn d 0 0 [.ref b, .int (nI t), .int (nI nd)] h (RX (nI (con (nc g s) nd (t * sh))) h) := by
  refine Calls.of (ls := [some (.ref b), some (.int (nI t)), some (.int (nI nd)), none]) (by decide +kernel) rfl (Nat.le_of_ble_eq_true rfl) (cat_ok rfl) ?_
  refine go_aload_0 (DX4_cellOn.at 0 rfl) ?_
  refine go_cVx0 (DX4_cellOn.at 1 rfl) nX4_69 vX4_cellCount (by omega) (c_cellCount hS hL) hS.1 rfl (Nat.le_of_ble_eq_true rfl) ?_
  refine go_istore_3 (DX4_cellOn.at 2 rfl) ?_
  refine go_iload_3 (DX4_cellOn.at 3 rfl) ?_
  refine go_if_le 24 (DX4_cellOn.at 4 rfl) (by decide) (fun c6 => absurd c6 (nI_nle (by have := hL.2.2.2.2.nc; omega) (by have := hL.2.2.2.2.nc; omega))) (fun c6 => ?_)
  refine go_iload_2 (DX4_cellOn.at 5 rfl) ?_
  refine go_iload_1 (DX4_cellOn.at 6 rfl) ?_
  refine go_aload_0 (DX4_cellOn.at 7 rfl) ?_
  refine go_getfield (DX4_cellOn.at 8 rfl) fX4_21 hS.1 rfl ?_
  refine go_imul (DX4_cellOn.at 9 rfl) ?_
  refine go_isub (DX4_cellOn.at 10 rfl) ?_
  refine go_iload_3 (DX4_cellOn.at 11 rfl) ?_
  rw [hL.2.2.2.1, pk_mul]
  have hn5 := hL.2.2.2.2.nc
  have h8 : t * sh ≤ 7 * 5 := Nat.mul_le_mul (by omega) hL.2.2.2.2.2.2.2.2.2.2.2
  rcases Nat.lt_or_ge nd (t * sh) with hlt | hge
  · have e1 : nI nd - nI (t * sh) = -nI (t * sh - nd) := by
      rw [← pk_sub (Nat.le_of_lt hlt)]
      exact Int32.neg_sub.symm
    rw [e1]
    refine go_cSx2 (DX4_cellOn.at 12 rfl) nX4_95 vJ9_floorMod_7cf53 (by omega) (c_floorModN (by omega) (by omega) (by omega) (by omega)) (Nat.le_of_ble_eq_true rfl) ?_
    refine go_goto 25 (DX4_cellOn.at 13 rfl) (by decide) ?_
    exact go_iret (DX4_cellOn.at 15 rfl) rfl rfl (RX.mk (by unfold con; rw [show 40 * nc g s - (t * sh - nd) = nd + 40 * nc g s - t * sh by omega]) rfl)
  · rw [pk_sub hge]
    refine go_cSx2 (DX4_cellOn.at 12 rfl) nX4_95 vJ9_floorMod_7cf53 (by omega) (c_floorMod (by omega) (by omega) (by omega)) (Nat.le_of_ble_eq_true rfl) ?_
    refine go_goto 25 (DX4_cellOn.at 13 rfl) (by decide) ?_
    exact go_iret (DX4_cellOn.at 15 rfl) rfl rfl (RX.mk (by
      unfold con
      rw [show nd + 40 * nc g s - t * sh = (nd - t * sh) + nc g s * 40 by omega, Nat.add_mul_mod_self_left]) rfl)

theorem c_homeCheck (hS : StAt h b σ) (hL : LayX σ g s T sh) {c : Nat} (hc : c < nc g s) (hd : 1 ≤ d) : Calls E mX4_homeCheck d 0 0 [.ref b, .int (nI c)] h (RX (nI (if c < g * s then c / s else c - g * s)) h) := by
  refine Calls.of (ls := [some (.ref b), some (.int (nI c))]) (by decide +kernel) rfl (Nat.le_of_ble_eq_true rfl) (cat_ok rfl) ?_
  refine go_iload_1 (DX4_homeCheck.at 0 rfl) ?_
  refine go_aload_0 (DX4_homeCheck.at 1 rfl) ?_
  refine go_cVx0 (DX4_homeCheck.at 2 rfl) nX4_81 vX4_dataCount (by omega) (c_dataCount hS hL) hS.1 rfl (Nat.le_of_ble_eq_true rfl) ?_
  refine go_icmp_lt 15 (DX4_homeCheck.at 3 rfl) (by decide) (fun c5 => ?_) (fun c5 => ?_)
  · rw [nI_ltI (by have := hL.2.2.2.2.nc; omega) (by have := hL.2.2.2.2.2.2.2.2.1; omega)] at c5
    refine go_aload_0 (DX4_homeCheck.at 9 rfl) ?_
    refine go_getfield (DX4_homeCheck.at 10 rfl) fX4_15 hS.1 rfl ?_
    refine go_if_le 31 (DX4_homeCheck.at 11 rfl) (by decide) (fun c19 => absurd (by rw [hL.2.1] at c19; exact c19) (nI_nle (n := s) (by have := hL.2.2.2.2.2.2.1; omega) (by have := hL.2.2.2.2.2.2.2.1; omega))) (fun c19 => ?_)
    refine go_iload_1 (DX4_homeCheck.at 12 rfl) ?_
    refine go_aload_0 (DX4_homeCheck.at 13 rfl) ?_
    refine go_getfield (DX4_homeCheck.at 14 rfl) fX4_15 hS.1 rfl ?_
    refine go_idiv (DX4_homeCheck.at 15 rfl) (by rw [hL.2.1]; exact nI_ne0 (by have := hL.2.2.2.2.2.2.1; omega) (by have := hL.2.2.2.2.2.2.2.1; omega)) ?_
    refine go_goto 32 (DX4_homeCheck.at 16 rfl) (by decide) ?_
    exact go_iret (DX4_homeCheck.at 18 rfl) rfl rfl (RX.mk (by rw [if_pos c5, hL.2.1, pk_div (by have := hL.2.2.2.2.nc; omega) (by have := hL.2.2.2.2.2.2.1; omega) (by have := hL.2.2.2.2.2.2.2.1; omega)]) rfl)
  · rw [nI_ltI (by have := hL.2.2.2.2.nc; omega) (by have := hL.2.2.2.2.2.2.2.2.1; omega)] at c5
    refine go_iload_1 (DX4_homeCheck.at 4 rfl) ?_
    refine go_aload_0 (DX4_homeCheck.at 5 rfl) ?_
    refine go_cVx0 (DX4_homeCheck.at 6 rfl) nX4_81 vX4_dataCount (by omega) (c_dataCount hS hL) hS.1 rfl (Nat.le_of_ble_eq_true rfl) ?_
    refine go_isub (DX4_homeCheck.at 7 rfl) ?_
    exact go_iret (DX4_homeCheck.at 8 rfl) rfl rfl (RX.mk (by rw [if_neg c5, pk_sub (by omega)]) rfl)

theorem c_columnOf (hS : StAt h b σ) {c : Nat} (hc : c < 20) (hd : 1 ≤ d) : Calls E mX4_columnOf d 0 0 [.ref b, .int (nI c)] h (RX (σ 5 c) h) := by
  refine Calls.of (ls := [some (.ref b), some (.int (nI c))]) (by decide +kernel) rfl (Nat.le_of_ble_eq_true rfl) (cat_ok rfl) ?_
  refine go_aload_0 (DX4_columnOf.at 0 rfl) ?_
  refine go_getfield (DX4_columnOf.at 1 rfl) fX4_52 hS.1 rfl ?_
  refine go_iload_1 (DX4_columnOf.at 2 rfl) ?_
  refine go_cSx2 (DX4_columnOf.at 3 rfl) nX4_87 vX5_at (by omega) (c_at (Or.inl hS.2.2.2.2.2) hc (by decide)) (Nat.le_of_ble_eq_true rfl) ?_
  exact go_iret (DX4_columnOf.at 4 rfl) rfl rfl (RX.mk rfl rfl)

theorem c_valueOf (hS : StAt h b σ) {t c : Nat} (ht : t < 8) (hc : c < 20) (hd : 1 ≤ d) : Calls E mX4_valueOf d 0 0 [.ref b, .int (nI t), .int (nI c)] h (RX (σ 2 (t * 20 + c)) h) := by
  refine Calls.of (ls := [some (.ref b), some (.int (nI t)), some (.int (nI c))]) (by decide +kernel) rfl (Nat.le_of_ble_eq_true rfl) (cat_ok rfl) ?_
  refine go_aload_0 (DX4_valueOf.at 0 rfl) ?_
  refine go_getfield (DX4_valueOf.at 1 rfl) fX4_43 hS.1 rfl ?_
  refine go_iload_1 (DX4_valueOf.at 2 rfl) ?_
  refine go_bipush (v := nI 20) (DX4_valueOf.at 3 rfl) (by decide) ?_
  refine go_imul (DX4_valueOf.at 4 rfl) ?_
  refine go_iload_2 (DX4_valueOf.at 5 rfl) ?_
  refine go_iadd (DX4_valueOf.at 6 rfl) ?_
  rw [pk_mul, nI_add]
  refine go_cSx2 (DX4_valueOf.at 7 rfl) nX4_87 vX5_at (by omega) (c_at (Or.inl hS.2.2.1) (by omega) (by decide)) (Nat.le_of_ble_eq_true rfl) ?_
  exact go_iret (DX4_valueOf.at 8 rfl) rfl rfl (RX.mk rfl rfl)

theorem c_missingIn (hS : StAt h b σ) {t : Nat} (ht : t < 8) (hd : 1 ≤ d) : Calls E mX4_missingIn d 0 0 [.ref b, .int (nI t)] h (RX (σ 3 t) h) := by
  refine Calls.of (ls := [some (.ref b), some (.int (nI t))]) (by decide +kernel) rfl (Nat.le_of_ble_eq_true rfl) (cat_ok rfl) ?_
  refine go_aload_0 (DX4_missingIn.at 0 rfl) ?_
  refine go_getfield (DX4_missingIn.at 1 rfl) fX4_46 hS.1 rfl ?_
  refine go_iload_1 (DX4_missingIn.at 2 rfl) ?_
  refine go_cSx2 (DX4_missingIn.at 3 rfl) nX4_87 vX5_at (by omega) (c_at (Or.inl hS.2.2.2.1) ht (by decide)) (Nat.le_of_ble_eq_true rfl) ?_
  exact go_iret (DX4_missingIn.at 4 rfl) rfl rfl (RX.mk rfl rfl)

theorem c_isMissing (hS : StAt h b σ) {t c M : Nat} (ht : t < 8) (hc : c < 20) (hM : σ 3 t = nI M) (hM2 : M < 2 ^ 31) (hd : 2 ≤ d) : Calls E mX4_isMissing d 0 0 [.ref b, .int (nI t), .int (nI c)] h (RX (bP (M / 2 ^ c % 2 = 1)) h) := by
  refine Calls.of (ls := [some (.ref b), some (.int (nI t)), some (.int (nI c))]) (by decide +kernel) rfl (Nat.le_of_ble_eq_true rfl) (cat_ok rfl) ?_
  refine go_aload_0 (DX4_isMissing.at 0 rfl) ?_
  refine go_iload_1 (DX4_isMissing.at 1 rfl) ?_
  refine go_cVx1 (DX4_isMissing.at 2 rfl) nX4_117 vX4_missingIn (by omega) (c_missingIn hS ht (by omega)) hS.1 rfl (Nat.le_of_ble_eq_true rfl) ?_
  rw [hM]
  refine go_iload_2 (DX4_isMissing.at 3 rfl) ?_
  refine go_ishr (DX4_isMissing.at 4 rfl) ?_
  refine go_iconst (v := nI 1) (DX4_isMissing.at 5 rfl) (by decide) ?_
  refine go_iand (DX4_isMissing.at 6 rfl) ?_
  rw [nx_bit hM2 (by omega)]
  refine go_if_eq 16 (DX4_isMissing.at 7 rfl) (by decide) (fun c9 => ?_) (fun c9 => ?_)
  · rw [nI_eq0 (by omega)] at c9
    have e0 : bP (M / 2 ^ c % 2 = 1) = nI 0 := bP_f (by omega)
    refine go_iconst (v := nI 0) (DX4_isMissing.at 10 rfl) (by decide) ?_
    exact go_iret (DX4_isMissing.at 11 rfl) rfl rfl (RX.mk e0.symm rfl)
  · rw [nI_eq0 (by omega)] at c9
    have e0 : bP (M / 2 ^ c % 2 = 1) = nI 1 := bP_t (by omega)
    refine go_iconst (v := nI 1) (DX4_isMissing.at 8 rfl) (by decide) ?_
    refine go_goto 17 (DX4_isMissing.at 9 rfl) (by decide) ?_
    exact go_iret (DX4_isMissing.at 11 rfl) rfl rfl (RX.mk e0.symm rfl)

end SR
end
section
/-! WRITING A STATE: what stays, and each change by its rows -/
/-- nothing outside lo .. hi has changed -/
def Only (lo hi : Nat) (h h' : List va_E) : Prop := h'.length = h.length ∧ ∀ i, (i < lo ∨ hi ≤ i) → h'[i]? = h[i]?
theorem Only.rf {lo hi : Nat} {h : List va_E} : Only lo hi h h := ⟨rfl, fun _ _ => rfl⟩
theorem Only.trans {lo hi : Nat} {h h1 h2 : List va_E} (a : Only lo hi h h1) (b : Only lo hi h1 h2) : Only lo hi h h2 := ⟨b.1.trans a.1, fun i hi => (b.2 i hi).trans (a.2 i hi)⟩
theorem Only.mono {lo hi lo' hi' : Nat} {h h1 : List va_E} (a : Only lo hi h h1) (h1' : lo' ≤ lo) (h2 : hi ≤ hi') : Only lo' hi' h h1 := ⟨a.1, fun i hi => a.2 i (by omega)⟩
theorem Only.set {lo hi a : Nat} {h : List va_E} {e : va_E} (h1 : lo ≤ a) (h2 : a < hi) : Only lo hi h (h.set a e) := ⟨List.length_set, fun i hi => by rw [List.getElem?_set_ne (by omega)]⟩
theorem Only.at {lo hi i : Nat} {h h1 : List va_E} {e : va_E} (a : Only lo hi h h1) (hi : i < lo ∨ hi ≤ i) (he : h[i]? = some e) : h1[i]? = some e := (a.2 i hi).trans he
def rset (σ : Rows) (a : Nat) (f : Nat → Int32) : Rows := fun i => if i = a then f else σ i
theorem rset_s {σ : Rows} {a : Nat} {f : Nat → Int32} : rset σ a f a = f := if_pos rfl
theorem rset_n {σ : Rows} {a i : Nat} {f : Nat → Int32} (h : i ≠ a) : rset σ a f i = σ i := if_neg h
theorem rset_rset {σ : Rows} {a : Nat} {f g : Nat → Int32} : rset (rset σ a f) a g = rset σ a g := by
  funext i
  unfold rset
  split <;> rfl
def nA (a : Nat) : Nat := if a ≤ 2 then 160 else if a = 3 then 8 else 20
/-- the State at b has become σ', nothing else has changed -/
def StU (h : List va_E) (b : Nat) (σ' : Rows) (h' : List va_E) : Prop := StAt h' b σ' ∧ Only b (b + 6) h h'
theorem get_set {h : List va_E} {a : Nat} {e e0 : va_E} (hg : h[a]? = some e0) : (h.set a e)[a]? = some e := by
  rw [List.getElem?_set_self (List.getElem?_eq_some_iff.mp hg).1]
theorem StAt.obj {h : List va_E} {b : Nat} {σ : Rows} (hS : StAt h b σ) (i : Nat → Int32) : StU h b (rset σ 0 i) (h.set b (stO b i)) := by
  obtain ⟨h0, h1, h2, h3, h4, h5⟩ := hS
  refine ⟨⟨get_set h0, ?_, ?_, ?_, ?_, ?_⟩, Only.set (by omega) (by omega)⟩ <;> rw [List.getElem?_set_ne (by omega), rset_n (by decide)] <;> assumption
theorem StAt.row {h : List va_E} {b : Nat} {σ : Rows} (hS : StAt h b σ) {a : Nat} (ha : 1 ≤ a ∧ a ≤ 5) (f : Nat → Int32) : StU h b (rset σ a f) (h.set (b + a) (ar (nA a) f)) := by
  obtain ⟨h0, h1, h2, h3, h4, h5⟩ := hS
  obtain ⟨a1, a2⟩ := ha
  rcases (show a = 1 ∨ a = 2 ∨ a = 3 ∨ a = 4 ∨ a = 5 by omega) with rfl | rfl | rfl | rfl | rfl
  · exact ⟨⟨by rw [List.getElem?_set_ne (by omega), rset_n (by decide)]; exact h0, get_set h1, by rw [List.getElem?_set_ne (by omega), rset_n (by decide)]; exact h2, by rw [List.getElem?_set_ne (by omega), rset_n (by decide)]; exact h3, by rw [List.getElem?_set_ne (by omega), rset_n (by decide)]; exact h4, by rw [List.getElem?_set_ne (by omega), rset_n (by decide)]; exact h5⟩, Only.set (by omega) (by omega)⟩
  · exact ⟨⟨by rw [List.getElem?_set_ne (by omega), rset_n (by decide)]; exact h0, by rw [List.getElem?_set_ne (by omega), rset_n (by decide)]; exact h1, get_set h2, by rw [List.getElem?_set_ne (by omega), rset_n (by decide)]; exact h3, by rw [List.getElem?_set_ne (by omega), rset_n (by decide)]; exact h4, by rw [List.getElem?_set_ne (by omega), rset_n (by decide)]; exact h5⟩, Only.set (by omega) (by omega)⟩
  · exact ⟨⟨by rw [List.getElem?_set_ne (by omega), rset_n (by decide)]; exact h0, by rw [List.getElem?_set_ne (by omega), rset_n (by decide)]; exact h1, by rw [List.getElem?_set_ne (by omega), rset_n (by decide)]; exact h2, get_set h3, by rw [List.getElem?_set_ne (by omega), rset_n (by decide)]; exact h4, by rw [List.getElem?_set_ne (by omega), rset_n (by decide)]; exact h5⟩, Only.set (by omega) (by omega)⟩
  · exact ⟨⟨by rw [List.getElem?_set_ne (by omega), rset_n (by decide)]; exact h0, by rw [List.getElem?_set_ne (by omega), rset_n (by decide)]; exact h1, by rw [List.getElem?_set_ne (by omega), rset_n (by decide)]; exact h2, by rw [List.getElem?_set_ne (by omega), rset_n (by decide)]; exact h3, get_set h4, by rw [List.getElem?_set_ne (by omega), rset_n (by decide)]; exact h5⟩, Only.set (by omega) (by omega)⟩
  · exact ⟨⟨by rw [List.getElem?_set_ne (by omega), rset_n (by decide)]; exact h0, by rw [List.getElem?_set_ne (by omega), rset_n (by decide)]; exact h1, by rw [List.getElem?_set_ne (by omega), rset_n (by decide)]; exact h2, by rw [List.getElem?_set_ne (by omega), rset_n (by decide)]; exact h3, by rw [List.getElem?_set_ne (by omega), rset_n (by decide)]; exact h4, get_set h5⟩, Only.set (by omega) (by omega)⟩
theorem StU.then {h h1 h2 : List va_E} {b : Nat} {σ1 σ2 : Rows} (u1 : StU h b σ1 h1) (u2 : StU h1 b σ2 h2) : StU h b σ2 h2 := ⟨u2.1, u1.2.trans u2.2⟩
theorem StAt.get {h : List va_E} {b : Nat} {σ : Rows} (hS : StAt h b σ) {a : Nat} (ha : 1 ≤ a ∧ a ≤ 5) : h[b + a]? = some (ar (nA a) (σ a)) := by
  obtain ⟨h0, h1, h2, h3, h4, h5⟩ := hS
  obtain ⟨a1, a2⟩ := ha
  rcases (show a = 1 ∨ a = 2 ∨ a = 3 ∨ a = 4 ∨ a = 5 by omega) with rfl | rfl | rfl | rfl | rfl <;> assumption
/-- a State elsewhere stays -/
theorem StAt.keep {h h1 : List va_E} {b lo hi : Nat} {σ : Rows} (hS : StAt h b σ) (hO : Only lo hi h h1) (hd : b + 6 ≤ lo ∨ hi ≤ b) : StAt h1 b σ := by
  obtain ⟨g0, g1, g2, g3, g4, g5⟩ := hS
  exact ⟨hO.at (by omega) g0, hO.at (by omega) g1, hO.at (by omega) g2, hO.at (by omega) g3, hO.at (by omega) g4, hO.at (by omega) g5⟩
section SW
variable {E : AEnv} {Y : MI} {d k n pc pc' idx : Nat} {ls : List (Option Value)} {st : List Value} {h : List va_E} {b : Nat} {σ : Rows} {g s T sh : Nat} {Ψ : Pst}
theorem go_putSt {kf : Nat} {x : Int32} (hd : Dc Y pc (.putfield idx) pc') (hF : FLk Y.1.cls idx 4 kf) (hk : kf < 9) (hS : StAt h b σ) (K : ∀ h1, StU h b (rset σ 0 (upd (σ 0) kf x)) h1 → Go E Y d k n pc' ls st h1 Ψ) : Go E Y d k n pc ls (.int x :: .ref b :: st) h Ψ := by
  have K' := K _ (hS.obj (upd (σ 0) kf x))
  rcases (show kf = 0 ∨ kf = 1 ∨ kf = 2 ∨ kf = 3 ∨ kf = 4 ∨ kf = 5 ∨ kf = 6 ∨ kf = 7 ∨ kf = 8 by omega) with rfl | rfl | rfl | rfl | rfl | rfl | rfl | rfl | rfl <;>
    exact go_putfield hd hF rfl rfl hS.1 (Nat.le_of_ble_eq_true rfl) (fun w hw => by subst hw; exact ⟨rfl, rfl⟩) K'
theorem c_putSt {a kk : Nat} {x : Int32} (hS : StAt h b σ) (ha : 1 ≤ a ∧ a ≤ 5) (hk : kk < nA a) : Calls E mX5_put d 0 0 [.ref (b + a), .int (nI kk), .int x] h (RV (StU h b (rset σ a (upd (σ a) kk x)))) := by
  refine (c_put (hS.get ha) hk (by unfold nA; split <;> (try split) <;> decide)).weaken ?_
  rintro r h' ⟨rfl, rfl⟩
  exact ⟨rfl, hS.row ha _⟩
theorem c_setValue (hS : StAt h b σ) {t c : Nat} {x : Int32} (ht : t < 8) (hc : c < 20) (hd : 1 ≤ d) : Calls E mX4_setValue d 0 0 [.ref b, .int (nI t), .int (nI c), .int x] h (RV (StU h b (rset σ 2 (upd (σ 2) (t * 20 + c) x)))) := by
  refine Calls.of (ls := [some (.ref b), some (.int (nI t)), some (.int (nI c)), some (.int x)]) (by decide +kernel) rfl (Nat.le_of_ble_eq_true rfl) (cat_ok rfl) ?_
  refine go_aload_0 (DX4_setValue.at 0 rfl) ?_
  refine go_getfield (DX4_setValue.at 1 rfl) fX4_43 hS.1 rfl ?_
  refine go_iload_1 (DX4_setValue.at 2 rfl) ?_
  refine go_bipush (v := nI 20) (DX4_setValue.at 3 rfl) (by decide) ?_
  refine go_imul (DX4_setValue.at 4 rfl) ?_
  refine go_iload_2 (DX4_setValue.at 5 rfl) ?_
  refine go_iadd (DX4_setValue.at 6 rfl) ?_
  rw [pk_mul, nI_add]
  refine go_iload_3 (DX4_setValue.at 7 rfl) ?_
  refine go_cSv3 (DX4_setValue.at 8 rfl) nX4_77 vX5_put (by omega) (c_putSt hS (a := 2) (by decide) (show t * 20 + c < 160 by omega)) (Nat.le_of_ble_eq_true rfl) (fun h11 q11 => ?_)
  exact go_return (DX4_setValue.at 9 rfl) rfl (RV.mk q11)

theorem c_joinQueue (hS : StAt h b σ) {q : Nat} {x : Int32} (hq : σ 0 8 = nI q) (hq2 : q < 160) (hd : 1 ≤ d) : Calls E mX4_joinQueue d 0 0 [.ref b, .int x] h (RV (StU h b (rset (rset σ 1 (upd (σ 1) q x)) 0 (upd (σ 0) 8 (nI (q + 1)))))) := by
  refine Calls.of (ls := [some (.ref b), some (.int x)]) (by decide +kernel) rfl (Nat.le_of_ble_eq_true rfl) (cat_ok rfl) ?_
  refine go_aload_0 (DX4_joinQueue.at 0 rfl) ?_
  refine go_getfield (DX4_joinQueue.at 1 rfl) fX4_36 hS.1 rfl ?_
  rw [hq]
  refine go_aload_0 (DX4_joinQueue.at 2 rfl) ?_
  refine go_getfield (DX4_joinQueue.at 3 rfl) fX4_39 hS.1 rfl ?_
  refine go_alen (DX4_joinQueue.at 4 rfl) (Or.inl hS.2.1) rfl ?_
  refine go_icmp_ge 34 (DX4_joinQueue.at 5 rfl) (by decide) (fun c9 => absurd c9 (nI_ge hq2 (by decide))) (fun c9 => ?_)
  refine go_aload_0 (DX4_joinQueue.at 6 rfl) ?_
  refine go_getfield (DX4_joinQueue.at 7 rfl) fX4_39 hS.1 rfl ?_
  refine go_aload_0 (DX4_joinQueue.at 8 rfl) ?_
  refine go_getfield (DX4_joinQueue.at 9 rfl) fX4_36 hS.1 rfl ?_
  rw [hq]
  refine go_iload_1 (DX4_joinQueue.at 10 rfl) ?_
  refine go_cSv3 (DX4_joinQueue.at 11 rfl) nX4_77 vX5_put (by omega) (c_putSt hS (a := 1) (by decide) (show q < 160 from hq2)) (Nat.le_of_ble_eq_true rfl) (fun h21 q21 => ?_)
  refine go_aload_0 (DX4_joinQueue.at 12 rfl) ?_
  refine go_dup (DX4_joinQueue.at 13 rfl) rfl ?_
  refine go_getfield (DX4_joinQueue.at 14 rfl) fX4_36 q21.1.1 rfl ?_
  rw [show rset σ 1 (upd (σ 1) q x) 0 8 = nI q from hq]
  refine go_iconst (v := nI 1) (DX4_joinQueue.at 15 rfl) (by decide) ?_
  refine go_iadd (DX4_joinQueue.at 16 rfl) ?_
  rw [nI_add]
  refine go_putSt (DX4_joinQueue.at 17 rfl) fX4_36 (by decide) q21.1 (fun h31 q31 => ?_)
  exact go_return (DX4_joinQueue.at 18 rfl) rfl (RV.mk (q21.then q31))

/-- the row behind p moves one place down -/
def shf (f : Nat → Int32) (p q : Nat) : Nat → Int32 := va_cpy f f (p + 1) p (q - p - 1)
theorem shf_lo {f : Nat → Int32} {p q j : Nat} (h : j < p) : shf f p q j = f j := pk_cpy_out (Or.inl h)
theorem shf_hi {f : Nat → Int32} {p q j : Nat} (h : p ≤ j) (h2 : j + 1 < q) : shf f p q j = f (j + 1) := by
  unfold shf
  rw [pk_cpy_in h (by omega)]
  congr 1
  omega
theorem c_leaveQueue (hS : StAt h b σ) {p q : Nat} {x : Int32} (hq : σ 0 8 = nI q) (hq2 : q ≤ 160) (hp : p < q) (he : σ 1 p = x) (hne : ∀ j, j < p → ¬ σ 1 j = x) (hd : 1 ≤ d) : Calls E mX4_leaveQueue d 0 0 [.ref b, .int x] h (RV (StU h b (rset (rset σ 1 (shf (σ 1) p q)) 0 (upd (σ 0) 8 (nI (q - 1)))))) := by
  refine Calls.of (ls := [some (.ref b), some (.int x), none, none]) (by decide +kernel) rfl (Nat.le_of_ble_eq_true rfl) (cat_ok rfl) ?_
  have loop : ∀ (m j : Nat), j + m = p → Go E mX4_leaveQueue d 0 0 2 [some (.ref b), some (.int x), some (.int (nI j)), none] [] h (RV (StU h b (rset (rset σ 1 (shf (σ 1) p q)) 0 (upd (σ 0) 8 (nI (q - 1)))))) := by
    intro m
    induction m with
    | zero =>
      intro j hj
      have ej : j = p := by omega
      rw [ej]
      refine go_iload_2 (DX4_leaveQueue.at 2 rfl) ?_
      refine go_aload_0 (DX4_leaveQueue.at 3 rfl) ?_
      refine go_getfield (DX4_leaveQueue.at 4 rfl) fX4_36 hS.1 rfl ?_
      refine go_icmp_ge 28 (DX4_leaveQueue.at 5 rfl) (by decide) (fun c7 => absurd (by rw [hq] at c7; exact c7) (nI_ge (a := p) (b := q) hp (by omega))) (fun c7 => ?_)
      refine go_aload_0 (DX4_leaveQueue.at 6 rfl) ?_
      refine go_getfield (DX4_leaveQueue.at 7 rfl) fX4_39 hS.1 rfl ?_
      refine go_iload_2 (DX4_leaveQueue.at 8 rfl) ?_
      refine go_cSx2 (DX4_leaveQueue.at 9 rfl) nX4_87 vX5_at (by omega) (c_at (Or.inl hS.2.1) (show p < 160 by omega) (by decide)) (Nat.le_of_ble_eq_true rfl) ?_
      refine go_iload_1 (DX4_leaveQueue.at 10 rfl) ?_
      refine go_icmp_eq 28 (DX4_leaveQueue.at 11 rfl) (by decide) (fun c19 => ?_) (fun c19 => absurd he c19)
      refine go_aload_0 (DX4_leaveQueue.at 14 rfl) ?_
      refine go_getfield (DX4_leaveQueue.at 15 rfl) fX4_36 hS.1 rfl ?_
      refine go_iload_2 (DX4_leaveQueue.at 16 rfl) ?_
      refine go_isub (DX4_leaveQueue.at 17 rfl) ?_
      rw [hq, pk_sub (by omega)]
      refine go_iconst (v := nI 1) (DX4_leaveQueue.at 18 rfl) (by decide) ?_
      refine go_isub (DX4_leaveQueue.at 19 rfl) ?_
      rw [show nI (q - p) - nI 1 = nI (q - p - 1) from pk_sub (by omega)]
      refine go_istore_3 (DX4_leaveQueue.at 20 rfl) ?_
      refine go_iload_3 (DX4_leaveQueue.at 21 rfl) ?_
      refine go_if_lt 79 (DX4_leaveQueue.at 22 rfl) (by decide) (fun c38 => absurd c38 (nI_pos (by omega))) (fun c38 => ?_)
      refine go_aload_0 (DX4_leaveQueue.at 23 rfl) ?_
      refine go_getfield (DX4_leaveQueue.at 24 rfl) fX4_36 hS.1 rfl ?_
      refine go_aload_0 (DX4_leaveQueue.at 25 rfl) ?_
      refine go_getfield (DX4_leaveQueue.at 26 rfl) fX4_39 hS.1 rfl ?_
      refine go_alen (DX4_leaveQueue.at 27 rfl) (Or.inl hS.2.1) rfl ?_
      refine go_icmp_gt 79 (DX4_leaveQueue.at 28 rfl) (by decide) (fun c50 => absurd (by rw [hq] at c50; exact c50) (nI_nlt (a := 160) (b := q) (by omega) (by omega))) (fun c50 => ?_)
      refine go_aload_0 (DX4_leaveQueue.at 29 rfl) ?_
      refine go_getfield (DX4_leaveQueue.at 30 rfl) fX4_39 hS.1 rfl ?_
      refine go_iload_2 (DX4_leaveQueue.at 31 rfl) ?_
      refine go_iconst (v := nI 1) (DX4_leaveQueue.at 32 rfl) (by decide) ?_
      refine go_iadd (DX4_leaveQueue.at 33 rfl) ?_
      rw [nI_add]
      refine go_aload_0 (DX4_leaveQueue.at 34 rfl) ?_
      refine go_getfield (DX4_leaveQueue.at 35 rfl) fX4_39 hS.1 rfl ?_
      refine go_iload_2 (DX4_leaveQueue.at 36 rfl) ?_
      refine go_iload_3 (DX4_leaveQueue.at 37 rfl) ?_
      refine go_arraycopy (DX4_leaveQueue.at 38 rfl) ac_lk4 ac_nat ac_sta ac_ini hS.2.1 hS.2.1 (nI_pos (by omega)) (nI_pos (by omega)) (nI_pos (by omega)) (by rw [nI_cl (by omega), nI_cl (by omega)]; omega) (by rw [nI_cl (by omega), nI_cl (by omega)]; omega) (by omega) (Nat.le_of_ble_eq_true rfl) ?_
      rw [nI_cl (show p + 1 < 2 ^ 31 by omega), nI_cl (show p < 2 ^ 31 by omega), nI_cl (show q - p - 1 < 2 ^ 31 by omega)]
      have q66 : StU h b (rset σ 1 (shf (σ 1) p q)) (h.set (b + 1) (ar 160 (va_cpy (σ 1) (σ 1) (p + 1) p (q - p - 1)))) := hS.row (a := 1) (by decide) _
      generalize (h.set (b + 1) (ar 160 (va_cpy (σ 1) (σ 1) (p + 1) p (q - p - 1)))) = h66 at q66 ⊢
      refine go_aload_0 (DX4_leaveQueue.at 39 rfl) ?_
      refine go_dup (DX4_leaveQueue.at 40 rfl) rfl ?_
      refine go_getfield (DX4_leaveQueue.at 41 rfl) fX4_36 q66.1.1 rfl ?_
      rw [show (rset σ 1 (shf (σ 1) p q)) 0 8 = nI q from hq]
      refine go_iconst (v := nI 1) (DX4_leaveQueue.at 42 rfl) (by decide) ?_
      refine go_isub (DX4_leaveQueue.at 43 rfl) ?_
      rw [show nI q - nI 1 = nI (q - 1) from pk_sub (by omega)]
      refine go_putSt (DX4_leaveQueue.at 44 rfl) fX4_36 (by decide) q66.1 (fun h76 q76 => ?_)
      exact go_return (DX4_leaveQueue.at 45 rfl) rfl (RV.mk (q66.then q76))
    | succ m ih =>
      intro j hj
      refine go_iload_2 (DX4_leaveQueue.at 2 rfl) ?_
      refine go_aload_0 (DX4_leaveQueue.at 3 rfl) ?_
      refine go_getfield (DX4_leaveQueue.at 4 rfl) fX4_36 hS.1 rfl ?_
      refine go_icmp_ge 28 (DX4_leaveQueue.at 5 rfl) (by decide) (fun c7 => absurd (by rw [hq] at c7; exact c7) (nI_ge (a := j) (b := q) (by omega) (by omega))) (fun c7 => ?_)
      refine go_aload_0 (DX4_leaveQueue.at 6 rfl) ?_
      refine go_getfield (DX4_leaveQueue.at 7 rfl) fX4_39 hS.1 rfl ?_
      refine go_iload_2 (DX4_leaveQueue.at 8 rfl) ?_
      refine go_cSx2 (DX4_leaveQueue.at 9 rfl) nX4_87 vX5_at (by omega) (c_at (Or.inl hS.2.1) (show j < 160 by omega) (by decide)) (Nat.le_of_ble_eq_true rfl) ?_
      refine go_iload_1 (DX4_leaveQueue.at 10 rfl) ?_
      refine go_icmp_eq 28 (DX4_leaveQueue.at 11 rfl) (by decide) (fun c19 => absurd c19 (hne j (by omega))) (fun c19 => ?_)
      refine go_iincN_2 (DX4_leaveQueue.at 12 rfl) ?_
      refine go_goto 2 (DX4_leaveQueue.at 13 rfl) (by decide) ?_
      exact ih (j + 1) (by omega)
  refine go_iconst (v := nI 0) (DX4_leaveQueue.at 0 rfl) (by decide) ?_
  refine go_istore_2 (DX4_leaveQueue.at 1 rfl) ?_
  exact loop p 0 (by omega)

end SW
end
section
/-! A STATE: sums, parities, losing, mending, reading, copying -/
theorem rset_id {σ : Rows} {a : Nat} : rset σ a (σ a) = σ := by
  funext i
  unfold rset
  split
  · rename_i q; rw [q]
  · rfl
theorem LayX.of0 {σ σ' : Rows} {g s T sh : Nat} (hL : LayX σ g s T sh) (h : ∀ k, k < 4 → σ' 0 k = σ 0 k) : LayX σ' g s T sh := ⟨(h 0 (by decide)).trans hL.1, (h 1 (by decide)).trans hL.2.1, (h 2 (by decide)).trans hL.2.2.1, (h 3 (by decide)).trans hL.2.2.2.1, hL.2.2.2.2⟩
/-- what the cells of a set M add to the checks: C c the factors of the cell c, V c its value -/
def vsum (C : Nat → Nat → Nat) (V : Nat → Nat) (M : Nat) : Nat → Nat → Nat
  | 0, _ => 0
  | j + 1, i => vsum C V M j i ^^^ (if M / 2 ^ j % 2 = 1 then gm (C j i) (V j) else 0)
theorem vsum_lt {C : Nat → Nat → Nat} {V : Nat → Nat} {M n : Nat} (hC : ∀ c, c < n → ∀ i, i < 6 → C c i < 16) (hV : ∀ c, c < n → M / 2 ^ c % 2 = 1 → V c < 16) : ∀ j, j ≤ n → ∀ i, i < 6 → vsum C V M j i < 16
  | 0, _, i, _ => by show 0 < 16; decide
  | j + 1, hj, i, hi => by
    unfold vsum
    refine xor_lt (vsum_lt hC hV j (by omega) i hi) ?_
    split
    · rename_i q
      exact gm_lt (hC j (by omega) i hi) (hV j (by omega) q)
    · decide
/-- the columns of a State's layout -/
def ColX (σ : Rows) (n : Nat) (C : Nat → Nat → Nat) : Prop := ∀ c, c < n → σ 5 c = nI (pq 6 (C c)) ∧ ∀ i, i < 6 → C c i < 16
def addp (f : Nat → Int32) (p : Nat) (w : Nat → Nat) : Nat → Nat → Int32
  | 0 => f
  | j + 1 => upd (addp f p w j) (p + j) (addp f p w j (p + j) ^^^ nI (w j))
def clr (M c : Nat) : Nat := M &&& (2 ^ c ^^^ 4294967295)
def rdl (f : Nat → Int32) (M : Nat) (nd : Nat → Nat) : Nat → Nat → Int32
  | 0 => f
  | j + 1 => if M / 2 ^ j % 2 = 1 then upd (rdl f M nd j) (nd j) (rdl f M nd j (nd j) + 1) else rdl f M nd j
def rdc (x : Int32) (M : Nat) : Nat → Int32
  | 0 => x
  | j + 1 => if M / 2 ^ j % 2 = 1 then rdc x M j + 1 else rdc x M j
/-- the same ints and rows, as far as they go -/
def REq (σ σ' : Rows) : Prop := (∀ k, k < 9 → σ 0 k = σ' 0 k) ∧ ∀ a, 1 ≤ a → a ≤ 5 → ∀ j, j < nA a → σ a j = σ' a j
section SW
variable {E : AEnv} {d : Nat} {h : List va_E} {b : Nat} {σ : Rows} {g s T sh : Nat}
theorem c_sumsOver (hS : StAt h b σ) (hL : LayX σ g s T sh) {t M : Nat} {C : Nat → Nat → Nat} {V : Nat → Nat} (hC : ColX σ (nc g s) C) (ht : t < 8) (hM : M < 2 ^ 31) (hV : ∀ c, c < nc g s → M / 2 ^ c % 2 = 1 → σ 2 (t * 20 + c) = nI (V c) ∧ V c < 16) (hd : 2 ≤ d) : Calls E mX4_sumsOver d 0 0 [.ref b, .int (nI t), .int (nI M)] h (RX (nI (pq 6 (vsum C V M (nc g s)))) h) := by
  refine Calls.of (ls := [some (.ref b), some (.int (nI t)), some (.int (nI M)), none, none]) (by decide +kernel) rfl (Nat.le_of_ble_eq_true rfl) (cat_ok rfl) ?_
  have loop : ∀ (m j : Nat), j + m = nc g s → Go E mX4_sumsOver d 0 0 5 [some (.ref b), some (.int (nI t)), some (.int (nI M)), some (.int (nI (pq 6 (vsum C V M j)))), some (.int (nI j))] [] h (RX (nI (pq 6 (vsum C V M (nc g s)))) h) := by
    intro m
    induction m with
    | zero =>
      intro j hj
      have ej : j = nc g s := by omega
      subst ej
      refine go_iload_4 (DX4_sumsOver.at 4 rfl) ?_
      refine go_aload_0 (DX4_sumsOver.at 5 rfl) ?_
      refine go_cVx0 (DX4_sumsOver.at 6 rfl) nX4_69 vX4_cellCount (by omega) (c_cellCount hS hL) hS.1 rfl (Nat.le_of_ble_eq_true rfl) ?_
      refine go_icmp_ge 48 (DX4_sumsOver.at 7 rfl) (by decide) (fun c11 => ?_) (fun c11 => absurd (Int32.le_refl _) c11)
      refine go_iload_3 (DX4_sumsOver.at 27 rfl) ?_
      exact go_iret (DX4_sumsOver.at 28 rfl) rfl rfl (RX.mk rfl rfl)
    | succ m ih =>
      intro j hj
      refine go_iload_4 (DX4_sumsOver.at 4 rfl) ?_
      refine go_aload_0 (DX4_sumsOver.at 5 rfl) ?_
      refine go_cVx0 (DX4_sumsOver.at 6 rfl) nX4_69 vX4_cellCount (by omega) (c_cellCount hS hL) hS.1 rfl (Nat.le_of_ble_eq_true rfl) ?_
      refine go_icmp_ge 48 (DX4_sumsOver.at 7 rfl) (by decide) (fun c11 => absurd c11 (nI_ge (a := j) (b := nc g s) (by omega) (by have := hL.2.2.2.2.nc; omega))) (fun c11 => ?_)
      refine go_iload_2 (DX4_sumsOver.at 8 rfl) ?_
      refine go_iload_4 (DX4_sumsOver.at 9 rfl) ?_
      refine go_ishr (DX4_sumsOver.at 10 rfl) ?_
      refine go_iconst (v := nI 1) (DX4_sumsOver.at 11 rfl) (by decide) ?_
      refine go_iand (DX4_sumsOver.at 12 rfl) ?_
      refine go_if_eq 42 (DX4_sumsOver.at 13 rfl) (by decide) (fun c20 => ?_) (fun c20 => ?_)
      · rw [nx_bit hM (by have := hL.2.2.2.2.nc; omega), nI_eq0 (by omega)] at c20
        have ep : vsum C V M j = vsum C V M (j + 1) := by
          funext i
          show _ = vsum C V M j i ^^^ (if M / 2 ^ j % 2 = 1 then gm (C j i) (V j) else 0)
          rw [if_neg (by omega), Nat.xor_zero]
        rw [ep]
        refine go_iincN_4 (DX4_sumsOver.at 25 rfl) ?_
        refine go_goto 5 (DX4_sumsOver.at 26 rfl) (by decide) ?_
        exact ih (j + 1) (by omega)
      · rw [nx_bit hM (by have := hL.2.2.2.2.nc; omega), nI_eq0 (by omega)] at c20
        have c20 : M / 2 ^ j % 2 = 1 := by omega
        have ep : nI (pq 6 (vsum C V M j)) ^^^ nI (pq 6 (fun i => gm (C j i) (V j))) = nI (pq 6 (vsum C V M (j + 1))) := by
          rw [nx_xor, pq_xor 6 _ _ (vsum_lt (fun c hc => (hC c hc).2) (fun c hc hb => (hV c hc hb).2) j (by omega)) (fun i hi => gm_lt ((hC j (by omega)).2 i hi) (hV j (by omega) c20).2)]
          congr 2
          funext i
          show _ = vsum C V M j i ^^^ (if M / 2 ^ j % 2 = 1 then gm (C j i) (V j) else 0)
          rw [if_pos c20]
        refine go_iload_3 (DX4_sumsOver.at 14 rfl) ?_
        refine go_aload_0 (DX4_sumsOver.at 15 rfl) ?_
        refine go_iload_4 (DX4_sumsOver.at 16 rfl) ?_
        refine go_cVx1 (DX4_sumsOver.at 17 rfl) nX4_120 vX4_columnOf (by omega) (c_columnOf hS (show j < 20 from (by have := hL.2.2.2.2.nc; omega)) (by omega)) hS.1 rfl (Nat.le_of_ble_eq_true rfl) ?_
        rw [(hC j (by omega)).1]
        refine go_aload_0 (DX4_sumsOver.at 18 rfl) ?_
        refine go_iload_1 (DX4_sumsOver.at 19 rfl) ?_
        refine go_iload_4 (DX4_sumsOver.at 20 rfl) ?_
        refine go_cVx2 (DX4_sumsOver.at 21 rfl) nX4_107 vX4_valueOf (by omega) (c_valueOf hS ht (show j < 20 from (by have := hL.2.2.2.2.nc; omega)) (by omega)) hS.1 rfl (Nat.le_of_ble_eq_true rfl) ?_
        rw [(hV j (by omega) c20).1]
        refine go_cSx2 (DX4_sumsOver.at 22 rfl) nX4_123 vX5_scaled (by omega) (c_scaled (hC j (by omega)).2 (hV j (by omega) c20).2) (Nat.le_of_ble_eq_true rfl) ?_
        refine go_ixor (DX4_sumsOver.at 23 rfl) ?_
        rw [ep]
        refine go_istore_3 (DX4_sumsOver.at 24 rfl) ?_
        refine go_iincN_4 (DX4_sumsOver.at 25 rfl) ?_
        refine go_goto 5 (DX4_sumsOver.at 26 rfl) (by decide) ?_
        exact ih (j + 1) (by omega)
  refine go_iconst (v := nI 0) (DX4_sumsOver.at 0 rfl) (by decide) ?_
  refine go_istore_3 (DX4_sumsOver.at 1 rfl) ?_
  rw [show nI 0 = nI (pq 6 (vsum C V M 0)) from congrArg nI (pq_0 6).symm]
  refine go_iconst (v := nI 0) (DX4_sumsOver.at 2 rfl) (by decide) ?_
  refine go_istore_4 (DX4_sumsOver.at 3 rfl) ?_
  exact loop (nc g s) 0 (by omega)

theorem c_addToParities (hS : StAt h b σ) (hL : LayX σ g s T sh) {t : Nat} {w : Nat → Nat} (hw : ∀ i, i < 6 → w i < 16) (ht : t < 8) (hd : 2 ≤ d) : Calls E mX4_addToParities d 0 0 [.ref b, .int (nI t), .int (nI (pq 6 w))] h (RV (StU h b (rset σ 2 (addp (σ 2) (t * 20 + g * s) w (g + 2))))) := by
  refine Calls.of (ls := [some (.ref b), some (.int (nI t)), some (.int (nI (pq 6 w))), none, none]) (by decide +kernel) rfl (Nat.le_of_ble_eq_true rfl) (cat_ok rfl) ?_
  have loop : ∀ (m j : Nat) (h1 : List va_E) (x4 : Option Value), j + m = g + 2 → StU h b (rset σ 2 (addp (σ 2) (t * 20 + g * s) w j)) h1 → Go E mX4_addToParities d 0 0 2 [some (.ref b), some (.int (nI t)), some (.int (nI (pq 6 w))), some (.int (nI j)), x4] [] h1 (RV (StU h b (rset σ 2 (addp (σ 2) (t * 20 + g * s) w (g + 2))))) := by
    intro m
    induction m with
    | zero =>
      intro j h1 x4 hj u
      have ej : j = g + 2 := by omega
      subst ej
      refine go_iload_3 (DX4_addToParities.at 2 rfl) ?_
      refine go_aload_0 (DX4_addToParities.at 3 rfl) ?_
      refine go_getfield (DX4_addToParities.at 4 rfl) fX4_9 u.1.1 rfl ?_
      rw [show rset σ 2 (addp (σ 2) (t * 20 + g * s) w (g + 2)) 0 0 = nI g from hL.1]
      refine go_iconst (v := nI 2) (DX4_addToParities.at 5 rfl) (by decide) ?_
      refine go_iadd (DX4_addToParities.at 6 rfl) ?_
      rw [nI_add]
      refine go_icmp_ge 46 (DX4_addToParities.at 7 rfl) (by decide) (fun c9 => ?_) (fun c9 => absurd (Int32.le_refl _) c9)
      exact go_return (DX4_addToParities.at 27 rfl) rfl (RV.mk u)
    | succ m ih =>
      intro j h1 x4 hj u
      refine go_iload_3 (DX4_addToParities.at 2 rfl) ?_
      refine go_aload_0 (DX4_addToParities.at 3 rfl) ?_
      refine go_getfield (DX4_addToParities.at 4 rfl) fX4_9 u.1.1 rfl ?_
      rw [show rset σ 2 (addp (σ 2) (t * 20 + g * s) w j) 0 0 = nI g from hL.1]
      refine go_iconst (v := nI 2) (DX4_addToParities.at 5 rfl) (by decide) ?_
      refine go_iadd (DX4_addToParities.at 6 rfl) ?_
      rw [nI_add]
      refine go_icmp_ge 46 (DX4_addToParities.at 7 rfl) (by decide) (fun c9 => absurd c9 (nI_ge (a := j) (b := g + 2) (by omega) (by have := hL.2.2.2.2.nc; unfold nc at this; omega))) (fun c9 => ?_)
      refine go_aload_0 (DX4_addToParities.at 8 rfl) ?_
      refine go_cVx0 (DX4_addToParities.at 9 rfl) nX4_81 vX4_dataCount (by omega) (c_dataCount u.1 (hL.of0 (fun _ _ => rfl))) u.1.1 rfl (Nat.le_of_ble_eq_true rfl) ?_
      refine go_iload_3 (DX4_addToParities.at 10 rfl) ?_
      refine go_iadd (DX4_addToParities.at 11 rfl) ?_
      rw [nI_add]
      refine go_istore_4 (DX4_addToParities.at 12 rfl) ?_
      refine go_aload_0 (DX4_addToParities.at 13 rfl) ?_
      refine go_iload_1 (DX4_addToParities.at 14 rfl) ?_
      refine go_iload_4 (DX4_addToParities.at 15 rfl) ?_
      refine go_aload_0 (DX4_addToParities.at 16 rfl) ?_
      refine go_iload_1 (DX4_addToParities.at 17 rfl) ?_
      refine go_iload_4 (DX4_addToParities.at 18 rfl) ?_
      refine go_cVx2 (DX4_addToParities.at 19 rfl) nX4_107 vX4_valueOf (by omega) (c_valueOf u.1 ht (show g * s + j < 20 from (by have := hL.2.2.2.2.nc; unfold nc at this; omega)) (by omega)) u.1.1 rfl (Nat.le_of_ble_eq_true rfl) ?_
      refine go_iload_2 (DX4_addToParities.at 20 rfl) ?_
      refine go_iload_3 (DX4_addToParities.at 21 rfl) ?_
      refine go_cSx2 (DX4_addToParities.at 22 rfl) nX4_110 vX5_element (by omega) (c_element hw (show j < 6 by have := hL.2.2.2.2.2.1; omega)) (Nat.le_of_ble_eq_true rfl) ?_
      refine go_ixor (DX4_addToParities.at 23 rfl) ?_
      refine go_cVv3 (DX4_addToParities.at 24 rfl) nX4_113 vX4_setValue (by omega) (c_setValue u.1 ht (show g * s + j < 20 from (by have := hL.2.2.2.2.nc; unfold nc at this; omega)) (by omega)) u.1.1 rfl (Nat.le_of_ble_eq_true rfl) (fun h37 q37 => ?_)
      rw [rset_rset] at q37
      rw [show t * 20 + (g * s + j) = t * 20 + g * s + j from (Nat.add_assoc _ _ _).symm] at q37
      refine go_iincN_3 (DX4_addToParities.at 25 rfl) ?_
      refine go_goto 2 (DX4_addToParities.at 26 rfl) (by decide) ?_
      exact ih (j + 1) h37 _ (by omega) (u.then q37)
  refine go_iconst (v := nI 0) (DX4_addToParities.at 0 rfl) (by decide) ?_
  refine go_istore_3 (DX4_addToParities.at 1 rfl) ?_
  exact loop (g + 2) 0 h _ (by omega) ⟨by rw [show addp (σ 2) (t * 20 + g * s) w 0 = σ 2 from rfl, rset_id]; exact hS, Only.rf⟩

theorem c_takeAway (hS : StAt h b σ) {t c M q : Nat} (ht : t < 8) (hc : c < 20) (hM : σ 3 t = nI M) (hq : σ 0 8 = nI q) (hq2 : q < 160) (hd : 2 ≤ d) : Calls E mX4_takeAway d 0 0 [.ref b, .int (nI t), .int (nI c)] h (RV (StU h b (rset (rset (rset σ 3 (upd (σ 3) t (nI (M ||| 2 ^ c)))) 1 (upd (σ 1) q (nI (100 * t + c)))) 0 (upd (upd (σ 0) 8 (nI (q + 1))) 7 (σ 0 7 + 1))))) := by
  refine Calls.of (ls := [some (.ref b), some (.int (nI t)), some (.int (nI c))]) (by decide +kernel) rfl (Nat.le_of_ble_eq_true rfl) (cat_ok rfl) ?_
  refine go_aload_0 (DX4_takeAway.at 0 rfl) ?_
  refine go_getfield (DX4_takeAway.at 1 rfl) fX4_46 hS.1 rfl ?_
  refine go_iload_1 (DX4_takeAway.at 2 rfl) ?_
  refine go_aload_0 (DX4_takeAway.at 3 rfl) ?_
  refine go_iload_1 (DX4_takeAway.at 4 rfl) ?_
  refine go_cVx1 (DX4_takeAway.at 5 rfl) nX4_117 vX4_missingIn (by omega) (c_missingIn hS ht (by omega)) hS.1 rfl (Nat.le_of_ble_eq_true rfl) ?_
  rw [hM]
  refine go_iconst (v := nI 1) (DX4_takeAway.at 6 rfl) (by decide) ?_
  refine go_iload_2 (DX4_takeAway.at 7 rfl) ?_
  refine go_ishl (DX4_takeAway.at 8 rfl) ?_
  rw [nx_shlW _ (by omega), Nat.one_mul]
  refine go_ior (DX4_takeAway.at 9 rfl) ?_
  rw [nx_or]
  refine go_cSv3 (DX4_takeAway.at 10 rfl) nX4_77 vX5_put (by omega) (c_putSt hS (a := 3) (by decide) (show t < 8 from ht)) (Nat.le_of_ble_eq_true rfl) (fun h14 q14 => ?_)
  refine go_aload_0 (DX4_takeAway.at 11 rfl) ?_
  refine go_bipush (v := nI 100) (DX4_takeAway.at 12 rfl) (by decide) ?_
  refine go_iload_1 (DX4_takeAway.at 13 rfl) ?_
  refine go_imul (DX4_takeAway.at 14 rfl) ?_
  rw [pk_mul]
  refine go_iload_2 (DX4_takeAway.at 15 rfl) ?_
  refine go_iadd (DX4_takeAway.at 16 rfl) ?_
  rw [nI_add]
  refine go_cVv1 (DX4_takeAway.at 17 rfl) nX4_129 vX4_joinQueue (by omega) (c_joinQueue q14.1 hq hq2 (by omega)) q14.1.1 rfl (Nat.le_of_ble_eq_true rfl) (fun h24 q24 => ?_)
  refine go_aload_0 (DX4_takeAway.at 18 rfl) ?_
  refine go_dup (DX4_takeAway.at 19 rfl) rfl ?_
  refine go_getfield (DX4_takeAway.at 20 rfl) fX4_33 q24.1.1 rfl ?_
  refine go_iconst (v := nI 1) (DX4_takeAway.at 21 rfl) (by decide) ?_
  refine go_iadd (DX4_takeAway.at 22 rfl) ?_
  refine go_putSt (DX4_takeAway.at 23 rfl) fX4_33 (by decide) q24.1 (fun h34 q34 => ?_)
  exact go_return (DX4_takeAway.at 24 rfl) rfl (RV.mk (by have q := q14.then (q24.then q34); rw [rset_rset] at q; exact q))

theorem m1_nI : (-1 : Int32) = nI 4294967295 := by decide
theorem c_bringBack (hS : StAt h b σ) {t c M p q : Nat} {x : Int32} (ht : t < 8) (hc : c < 20) (hM : σ 3 t = nI M) (hq : σ 0 8 = nI q) (hq2 : q ≤ 160) (hp : p < q) (he : σ 1 p = nI (100 * t + c)) (hne : ∀ j, j < p → ¬ σ 1 j = nI (100 * t + c)) (hd : 2 ≤ d) : Calls E mX4_bringBack d 0 0 [.ref b, .int (nI t), .int (nI c), .int x] h (RV (StU h b (rset (rset (rset (rset σ 3 (upd (σ 3) t (nI (clr M c)))) 2 (upd (σ 2) (t * 20 + c) x)) 1 (shf (σ 1) p q)) 0 (upd (σ 0) 8 (nI (q - 1)))))) := by
  refine Calls.of (ls := [some (.ref b), some (.int (nI t)), some (.int (nI c)), some (.int x)]) (by decide +kernel) rfl (Nat.le_of_ble_eq_true rfl) (cat_ok rfl) ?_
  refine go_aload_0 (DX4_bringBack.at 0 rfl) ?_
  refine go_getfield (DX4_bringBack.at 1 rfl) fX4_46 hS.1 rfl ?_
  refine go_iload_1 (DX4_bringBack.at 2 rfl) ?_
  refine go_aload_0 (DX4_bringBack.at 3 rfl) ?_
  refine go_iload_1 (DX4_bringBack.at 4 rfl) ?_
  refine go_cVx1 (DX4_bringBack.at 5 rfl) nX4_117 vX4_missingIn (by omega) (c_missingIn hS ht (by omega)) hS.1 rfl (Nat.le_of_ble_eq_true rfl) ?_
  rw [hM]
  refine go_iconst (v := nI 1) (DX4_bringBack.at 6 rfl) (by decide) ?_
  refine go_iload_2 (DX4_bringBack.at 7 rfl) ?_
  refine go_ishl (DX4_bringBack.at 8 rfl) ?_
  rw [nx_shlW _ (by omega), Nat.one_mul]
  refine go_iconst (v := (-1)) (DX4_bringBack.at 9 rfl) (by decide) ?_
  refine go_ixor (DX4_bringBack.at 10 rfl) ?_
  rw [m1_nI, nx_xor]
  refine go_iand (DX4_bringBack.at 11 rfl) ?_
  rw [nx_and]
  refine go_cSv3 (DX4_bringBack.at 12 rfl) nX4_77 vX5_put (by omega) (c_putSt hS (a := 3) (by decide) (show t < 8 from ht)) (Nat.le_of_ble_eq_true rfl) (fun h16 q16 => ?_)
  refine go_aload_0 (DX4_bringBack.at 13 rfl) ?_
  refine go_iload_1 (DX4_bringBack.at 14 rfl) ?_
  refine go_iload_2 (DX4_bringBack.at 15 rfl) ?_
  refine go_iload_3 (DX4_bringBack.at 16 rfl) ?_
  refine go_cVv3 (DX4_bringBack.at 17 rfl) nX4_113 vX4_setValue (by omega) (c_setValue q16.1 ht hc (by omega)) q16.1.1 rfl (Nat.le_of_ble_eq_true rfl) (fun h23 q23 => ?_)
  refine go_aload_0 (DX4_bringBack.at 18 rfl) ?_
  refine go_bipush (v := nI 100) (DX4_bringBack.at 19 rfl) (by decide) ?_
  refine go_iload_1 (DX4_bringBack.at 20 rfl) ?_
  refine go_imul (DX4_bringBack.at 21 rfl) ?_
  rw [pk_mul]
  refine go_iload_2 (DX4_bringBack.at 22 rfl) ?_
  refine go_iadd (DX4_bringBack.at 23 rfl) ?_
  rw [nI_add]
  refine go_cVv1 (DX4_bringBack.at 24 rfl) nX4_133 vX4_leaveQueue (by omega) (c_leaveQueue q23.1 hq hq2 hp he hne (by omega)) q23.1.1 rfl (Nat.le_of_ble_eq_true rfl) (fun h33 q33 => ?_)
  exact go_return (DX4_bringBack.at 25 rfl) rfl (RV.mk (q16.then (q23.then q33)))

theorem rd_eq {σ : Rows} {M j : Nat} {nd : Nat → Nat} (c15 : M / 2 ^ j % 2 = 1) :
    rset (rset (rset (rset σ 4 (rdl (σ 4) M nd j)) 0 (upd (σ 0) 4 (rdc (σ 0 4) M j))) 4 (upd (rdl (σ 4) M nd j) (nd j) (rdl (σ 4) M nd j (nd j) + nI 1))) 0 (upd (upd (σ 0) 4 (rdc (σ 0 4) M j)) 4 (rdc (σ 0 4) M j + nI 1))
    = rset (rset σ 4 (rdl (σ 4) M nd (j + 1))) 0 (upd (σ 0) 4 (rdc (σ 0 4) M (j + 1))) := by
  rw [show rdl (σ 4) M nd (j + 1) = upd (rdl (σ 4) M nd j) (nd j) (rdl (σ 4) M nd j (nd j) + 1) from if_pos c15, show rdc (σ 0 4) M (j + 1) = rdc (σ 0 4) M j + 1 from if_pos c15]
  funext i k
  unfold rset upd
  by_cases h0 : i = 0
  · subst h0
    by_cases hk : k = 4
    · simp [hk]; rfl
    · simp [hk]
  · by_cases h4 : i = 4
    · subst h4; simp; rfl
    · simp [h0, h4]
theorem c_countReads (hS : StAt h b σ) (hL : LayX σ g s T sh) {t M : Nat} (ht : t < 8) (hM : M < 2 ^ 31) (hd : 2 ≤ d) : Calls E mX4_countReads d 0 0 [.ref b, .int (nI t), .int (nI M)] h (RV (StU h b (rset (rset σ 4 (rdl (σ 4) M (fun c => (c + t * sh) % nc g s) (nc g s))) 0 (upd (σ 0) 4 (rdc (σ 0 4) M (nc g s)))))) := by
  refine Calls.of (ls := [some (.ref b), some (.int (nI t)), some (.int (nI M)), none, none]) (by decide +kernel) rfl (Nat.le_of_ble_eq_true rfl) (cat_ok rfl) ?_
  have hl4 : ∀ {f4 : Nat → Int32} {y : Int32}, ∀ k, k < 4 → (rset (rset σ 4 f4) 0 (upd (σ 0) 4 y)) 0 k = σ 0 k := by
    intro f4 y k hk
    rw [rset_s]
    exact pk_un (by omega)
  have loop : ∀ (m j : Nat) (h1 : List va_E) (x4 : Option Value), j + m = nc g s → StU h b (rset (rset σ 4 (rdl (σ 4) M (fun c => (c + t * sh) % nc g s) j)) 0 (upd (σ 0) 4 (rdc (σ 0 4) M j))) h1 → Go E mX4_countReads d 0 0 2 [some (.ref b), some (.int (nI t)), some (.int (nI M)), some (.int (nI j)), x4] [] h1 (RV (StU h b (rset (rset σ 4 (rdl (σ 4) M (fun c => (c + t * sh) % nc g s) (nc g s))) 0 (upd (σ 0) 4 (rdc (σ 0 4) M (nc g s)))))) := by
    intro m
    induction m with
    | zero =>
      intro j h1 x4 hj u
      have ej : j = nc g s := by omega
      subst ej
      refine go_iload_3 (DX4_countReads.at 2 rfl) ?_
      refine go_aload_0 (DX4_countReads.at 3 rfl) ?_
      refine go_cVx0 (DX4_countReads.at 4 rfl) nX4_69 vX4_cellCount (by omega) (c_cellCount u.1 (hL.of0 hl4)) u.1.1 rfl (Nat.le_of_ble_eq_true rfl) ?_
      refine go_icmp_ge 62 (DX4_countReads.at 5 rfl) (by decide) (fun c7 => ?_) (fun c7 => absurd (Int32.le_refl _) c7)
      exact go_return (DX4_countReads.at 35 rfl) rfl (RV.mk u)
    | succ m ih =>
      intro j h1 x4 hj u
      refine go_iload_3 (DX4_countReads.at 2 rfl) ?_
      refine go_aload_0 (DX4_countReads.at 3 rfl) ?_
      refine go_cVx0 (DX4_countReads.at 4 rfl) nX4_69 vX4_cellCount (by omega) (c_cellCount u.1 (hL.of0 hl4)) u.1.1 rfl (Nat.le_of_ble_eq_true rfl) ?_
      refine go_icmp_ge 62 (DX4_countReads.at 5 rfl) (by decide) (fun c7 => absurd c7 (nI_ge (a := j) (b := nc g s) (by omega) (by have := hL.2.2.2.2.nc; omega))) (fun c7 => ?_)
      refine go_iload_2 (DX4_countReads.at 6 rfl) ?_
      refine go_iload_3 (DX4_countReads.at 7 rfl) ?_
      refine go_ishr (DX4_countReads.at 8 rfl) ?_
      refine go_iconst (v := nI 1) (DX4_countReads.at 9 rfl) (by decide) ?_
      refine go_iand (DX4_countReads.at 10 rfl) ?_
      refine go_if_eq 56 (DX4_countReads.at 11 rfl) (by decide) (fun c15 => ?_) (fun c15 => ?_)
      · rw [nx_bit hM (by have := hL.2.2.2.2.nc; omega), nI_eq0 (by omega)] at c15
        have u := u
        rw [show rdl (σ 4) M (fun c => (c + t * sh) % nc g s) j = rdl (σ 4) M (fun c => (c + t * sh) % nc g s) (j + 1) from (if_neg (by omega)).symm, show rdc (σ 0 4) M j = rdc (σ 0 4) M (j + 1) from (if_neg (by omega)).symm] at u
        refine go_iincN_3 (DX4_countReads.at 33 rfl) ?_
        refine go_goto 2 (DX4_countReads.at 34 rfl) (by decide) ?_
        exact ih (j + 1) _ _ (by omega) u
      · rw [nx_bit hM (by have := hL.2.2.2.2.nc; omega), nI_eq0 (by omega)] at c15
        have c15 : M / 2 ^ j % 2 = 1 := by omega
        refine go_aload_0 (DX4_countReads.at 12 rfl) ?_
        refine go_iload_1 (DX4_countReads.at 13 rfl) ?_
        refine go_iload_3 (DX4_countReads.at 14 rfl) ?_
        refine go_cVx2 (DX4_countReads.at 15 rfl) nX4_101 vX4_nodeOf (by omega) (c_nodeOf u.1 (hL.of0 hl4) ht (show j < 20 from (by have := hL.2.2.2.2.nc; omega)) (by omega)) u.1.1 rfl (Nat.le_of_ble_eq_true rfl) ?_
        refine go_istore_4 (DX4_countReads.at 16 rfl) ?_
        refine go_aload_0 (DX4_countReads.at 17 rfl) ?_
        refine go_getfield (DX4_countReads.at 18 rfl) fX4_49 u.1.1 rfl ?_
        refine go_iload_4 (DX4_countReads.at 19 rfl) ?_
        refine go_aload_0 (DX4_countReads.at 20 rfl) ?_
        refine go_getfield (DX4_countReads.at 21 rfl) fX4_49 u.1.1 rfl ?_
        refine go_iload_4 (DX4_countReads.at 22 rfl) ?_
        refine go_cSx2 (DX4_countReads.at 23 rfl) nX4_87 vX5_at (by omega) (c_at (Or.inl u.1.2.2.2.2.1) (show (j + t * sh) % nc g s < 20 from Nat.lt_of_lt_of_le (Nat.mod_lt _ (by have := hL.2.2.2.2.nc; omega)) hL.2.2.2.2.nc.2) (by decide)) (Nat.le_of_ble_eq_true rfl) ?_
        refine go_iconst (v := nI 1) (DX4_countReads.at 24 rfl) (by decide) ?_
        refine go_iadd (DX4_countReads.at 25 rfl) ?_
        refine go_cSv3 (DX4_countReads.at 26 rfl) nX4_77 vX5_put (by omega) (c_putSt u.1 (a := 4) (by decide) (show (j + t * sh) % nc g s < 20 from Nat.lt_of_lt_of_le (Nat.mod_lt _ (by have := hL.2.2.2.2.nc; omega)) hL.2.2.2.2.nc.2)) (Nat.le_of_ble_eq_true rfl) (fun h43 q43 => ?_)
        refine go_aload_0 (DX4_countReads.at 27 rfl) ?_
        refine go_dup (DX4_countReads.at 28 rfl) rfl ?_
        refine go_getfield (DX4_countReads.at 29 rfl) fX4_24 q43.1.1 rfl ?_
        refine go_iconst (v := nI 1) (DX4_countReads.at 30 rfl) (by decide) ?_
        refine go_iadd (DX4_countReads.at 31 rfl) ?_
        refine go_putSt (DX4_countReads.at 32 rfl) fX4_24 (by decide) q43.1 (fun h53 q53 => ?_)
        have u : StU h b (rset (rset (rset (rset σ 4 (rdl (σ 4) M (fun c => (c + t * sh) % nc g s) j)) 0 (upd (σ 0) 4 (rdc (σ 0 4) M j))) 4 (upd (rdl (σ 4) M (fun c => (c + t * sh) % nc g s) j) ((fun c => (c + t * sh) % nc g s) j) (rdl (σ 4) M (fun c => (c + t * sh) % nc g s) j ((fun c => (c + t * sh) % nc g s) j) + nI 1))) 0 (upd (upd (σ 0) 4 (rdc (σ 0 4) M j)) 4 (rdc (σ 0 4) M j + nI 1))) h53 := u.then (q43.then q53)
        rw [rd_eq c15] at u
        refine go_iincN_3 (DX4_countReads.at 33 rfl) ?_
        refine go_goto 2 (DX4_countReads.at 34 rfl) (by decide) ?_
        exact ih (j + 1) _ _ (by omega) u
  refine go_iconst (v := nI 0) (DX4_countReads.at 0 rfl) (by decide) ?_
  refine go_istore_3 (DX4_countReads.at 1 rfl) ?_
  refine loop (nc g s) 0 h _ (by omega) ⟨?_, Only.rf⟩
  rw [show rdl (σ 4) M (fun c => (c + t * sh) % nc g s) 0 = σ 4 from rfl, rset_id, show upd (σ 0) 4 (rdc (σ 0 4) M 0) = σ 0 from by funext k; unfold upd; split <;> (try rename_i q; try subst q) <;> rfl, rset_id]
  exact hS

end SW
end
section
/-! A STATE: its layout, copying; columns -/
/-- the factors of the cell c in the checks -/
def colv (g s c i : Nat) : Nat := if c < g * s then (if i = c / s then 1 else if i = g then pw c else if i = g + 1 then pw (2 * c) else 0) else if i = c - g * s then 1 else 0
/-- the check at home in the cell c -/
def hcv (g s c : Nat) : Nat := if c < g * s then c / s else c - g * s
def sgl (x k : Nat) : Nat → Nat := fun i => if i = k then x else 0
theorem pq_or : ∀ (n : Nat) (u v : Nat → Nat), (∀ i, i < n → u i < 16) → (∀ i, i < n → v i < 16) → pq n u ||| pq n v = pq n (fun i => u i ||| v i)
  | 0, _, _, _, _ => by simp [pq]
  | n + 1, u, v, hu, hv => by
    have h0 := hu 0 (by omega)
    have h1 := hv 0 (by omega)
    show (u 0 + 16 * pq n (fun i => u (i + 1))) ||| (v 0 + 16 * pq n (fun i => v (i + 1))) = _
    have e1 : u 0 + 16 * pq n (fun i => u (i + 1)) = 2 ^ 4 * pq n (fun i => u (i + 1)) + u 0 := by omega
    have e2 : v 0 + 16 * pq n (fun i => v (i + 1)) = 2 ^ 4 * pq n (fun i => v (i + 1)) + v 0 := by omega
    have e3 : pq (n + 1) (fun i => u i ||| v i) = 2 ^ 4 * (pq n (fun i => u (i + 1)) ||| pq n (fun i => v (i + 1))) + (u 0 ||| v 0) := by
      rw [pq_or n _ _ (fun i hi => hu (i + 1) (by omega)) (fun i hi => hv (i + 1) (by omega))]
      show (u 0 ||| v 0) + 16 * pq n (fun i => u (i + 1) ||| v (i + 1)) = _
      omega
    rw [e1, e2, e3]
    have hx : u 0 ||| v 0 < 2 ^ 4 := dec2 (P := fun a b => a ||| b < 16) (by decide +kernel) h0 h1
    apply Nat.eq_of_testBit_eq
    intro i
    rw [Nat.testBit_or, Nat.testBit_two_pow_mul_add _ (show u 0 < 2 ^ 4 from h0), Nat.testBit_two_pow_mul_add _ (show v 0 < 2 ^ 4 from h1), Nat.testBit_two_pow_mul_add _ hx]
    by_cases hi : i < 4
    · simp [hi, Nat.testBit_or]
    · simp [hi, Nat.testBit_or]
theorem sgl_lt {x k : Nat} (hx : x < 16) (i : Nat) : sgl x k i < 16 := by
  unfold sgl
  split
  · exact hx
  · decide
theorem pq_sgl (x : Nat) {k : Nat} (hk : k < 6) : x * 2 ^ (4 * k) = pq 6 (sgl x k) := by
  rcases (show k = 0 ∨ k = 1 ∨ k = 2 ∨ k = 3 ∨ k = 4 ∨ k = 5 by omega) with rfl | rfl | rfl | rfl | rfl | rfl <;> simp [pq, sgl] <;> omega
theorem hcv_lt {g s T sh c : Nat} (hL : LayOK g s T sh) (hc : c < nc g s) : hcv g s c < g + 2 := by
  obtain ⟨h1, h2, h3, h4, h5, -⟩ := hL
  unfold hcv
  unfold nc at hc
  split
  · rename_i q
    have : c / s < g := Nat.div_lt_of_lt_mul (by rw [Nat.mul_comm]; exact q)
    omega
  · omega
theorem hcv_ltg {g s c : Nat} (hc : c < g * s) : hcv g s c < g := by
  unfold hcv
  rw [if_pos hc]
  exact Nat.div_lt_of_lt_mul (by rw [Nat.mul_comm]; exact hc)
theorem colv_lt {g s c : Nat} (i : Nat) : colv g s c i < 16 := by
  unfold colv
  split
  · split
    · decide
    · split
      · exact pw_lt _
      · split
        · exact pw_lt _
        · decide
  · split <;> decide
theorem colv_par {g s c : Nat} (hc : ¬ c < g * s) : colv g s c = sgl 1 (hcv g s c) := by
  funext i
  unfold colv sgl hcv
  rw [if_neg hc, if_neg hc]
theorem colv_data {g s c : Nat} (hc : c < g * s) : (fun i => (sgl 1 (hcv g s c) i ||| sgl (pw c) g i) ||| sgl (pw (2 * c)) (g + 1) i) = colv g s c := by
  funext i
  have h1 := hcv_ltg hc
  unfold colv sgl
  rw [if_pos hc]
  have h2 : hcv g s c = c / s := by unfold hcv; rw [if_pos hc]
  rw [h2] at h1 ⊢
  by_cases a : i = c / s
  · simp [a, show ¬ c / s = g by omega, show ¬ c / s = g + 1 by omega]
  · by_cases b : i = g
    · simp [b, show ¬ g = c / s by omega]
    · by_cases e : i = g + 1
      · simp [e, show ¬ g + 1 = c / s by omega]
      · simp [a, b, e]
theorem set_same {h : List va_E} {a : Nat} {e : va_E} (hg : h[a]? = some e) : h.set a e = h := by
  apply List.ext_getElem?
  intro i
  rw [List.getElem?_set]
  by_cases hi : a = i
  · subst hi
    rw [if_pos rfl, if_pos (List.getElem?_eq_some_iff.mp hg).1, hg]
  · rw [if_neg hi]
section SW
variable {E : AEnv} {d : Nat} {h : List va_E} {b : Nat} {σ : Rows} {g s T sh : Nat}
theorem c_homeC (hS : StAt h b σ) (hL : LayX σ g s T sh) {c : Nat} (hc : c < nc g s) (hd : 1 ≤ d) : Calls E mX4_homeCheck d 0 0 [.ref b, .int (nI c)] h (RX (nI (hcv g s c)) h) := c_homeCheck hS hL hc hd
theorem c_fill {a n : Nat} {x : Int32} {f : Nat → Int32} (hg : h[a]? = some (ar n f)) (hn : n < 2 ^ 31) : Calls E mJ7_fill_53178 d 0 0 [.ref a, .int x] h (RV (fun h' => ∃ f' : Nat → Int32, (∀ k, k < n → f' k = x) ∧ h' = h.set a (ar n f'))) := by
  refine Calls.of (ls := [some (.ref a), some (.int x), none, none]) (by decide +kernel) rfl (Nat.le_of_ble_eq_true rfl) (cat_ok rfl) ?_
  have loop : ∀ (m j : Nat) (f1 : Nat → Int32) (h2 : List va_E), j + m = n → h2[a]? = some (ar n f1) → (∀ k, k < j → f1 k = x) → h2 = h.set a (ar n f1) → Go E mJ7_fill_53178 d 0 0 5 [some (.ref a), some (.int x), some (.int (nI j)), some (.int (nI n))] [] h2 (RV (fun h' => ∃ f' : Nat → Int32, (∀ k, k < n → f' k = x) ∧ h' = h.set a (ar n f'))) := by
    intro m
    induction m with
    | zero =>
      intro j f1 h2 hj hg1 h1 hh
      have ej : j = n := by omega
      subst ej
      refine go_iload_2 (DJ7_fill_53178.at 5 rfl) ?_
      refine go_iload_3 (DJ7_fill_53178.at 6 rfl) ?_
      refine go_icmp_ge 20 (DJ7_fill_53178.at 7 rfl) (by decide) (fun c7 => ?_) (fun c7 => absurd (Int32.le_refl _) c7)
      exact go_return (DJ7_fill_53178.at 14 rfl) rfl (RV.mk ⟨f1, h1, hh⟩)
    | succ m ih =>
      intro j f1 h2 hj hg1 h1 hh
      refine go_iload_2 (DJ7_fill_53178.at 5 rfl) ?_
      refine go_iload_3 (DJ7_fill_53178.at 6 rfl) ?_
      refine go_icmp_ge 20 (DJ7_fill_53178.at 7 rfl) (by decide) (fun c7 => absurd c7 (nI_ge (a := j) (b := n) (by omega) hn)) (fun c7 => ?_)
      refine go_aload_0 (DJ7_fill_53178.at 8 rfl) ?_
      refine go_iload_2 (DJ7_fill_53178.at 9 rfl) ?_
      refine go_iload_1 (DJ7_fill_53178.at 10 rfl) ?_
      refine go_iastore (DJ7_fill_53178.at 11 rfl) hg1 (vp_in_nI (by omega) hn) ?_
      refine go_iincN_2 (DJ7_fill_53178.at 12 rfl) ?_
      refine go_goto 5 (DJ7_fill_53178.at 13 rfl) (by decide) ?_
      refine ih (j + 1) _ _ (by omega) (get_set hg1) ?_ ?_
      · intro k hk
        rw [nI_cl (by omega)]
        by_cases e : k = j
        · rw [e]; exact pk_us
        · rw [pk_un e]; exact h1 k (by omega)
      · rw [hh, List.set_set]
  refine go_iconst (v := nI 0) (DJ7_fill_53178.at 0 rfl) (by decide) ?_
  refine go_istore_2 (DJ7_fill_53178.at 1 rfl) ?_
  refine go_aload_0 (DJ7_fill_53178.at 2 rfl) ?_
  refine go_alen (DJ7_fill_53178.at 3 rfl) (Or.inl hg) rfl ?_
  refine go_istore_3 (DJ7_fill_53178.at 4 rfl) ?_
  refine loop n 0 f h (by omega) hg (fun k hk => absurd hk (Nat.not_lt_zero k)) ?_
  exact (set_same hg).symm

theorem c_fillSt {a : Nat} {x : Int32} (hS : StAt h b σ) (ha : 1 ≤ a ∧ a ≤ 5) : Calls E mJ7_fill_53178 d 0 0 [.ref (b + a), .int x] h (RV (fun h' => ∃ f', (∀ k, k < nA a → f' k = x) ∧ StU h b (rset σ a f') h')) := by
  refine (c_fill (hS.get ha) (by unfold nA; split <;> (try split) <;> decide)).weaken ?_
  rintro r h' ⟨rfl, f', h1, rfl⟩
  exact ⟨rfl, f', h1, hS.row ha _⟩
theorem c_layOut (hS : StAt h b σ) (hO : LayOK g s T sh) (hd : 2 ≤ d) : Calls E mX4_layOut d 0 0 [.ref b, .int (nI g), .int (nI s), .int (nI T), .int (nI sh)] h (RV (fun h' => ∃ σ', StU h b σ' h' ∧ LayX σ' g s T sh ∧ (∀ k, 4 ≤ k → k < 8 → σ' 0 k = σ 0 k) ∧ σ' 0 8 = nI 0 ∧ (∀ a, 2 ≤ a → a ≤ 4 → ∀ j, j < nA a → σ' a j = nI 0) ∧ ColX σ' (nc g s) (colv g s))) := by
  refine Calls.of (ls := [some (.ref b), some (.int (nI g)), some (.int (nI s)), some (.int (nI T)), some (.int (nI sh)), none, none, none]) (by decide +kernel) rfl (Nat.le_of_ble_eq_true rfl) (cat_ok rfl) ?_
  have rest : ∀ (σ1 : Rows) (h47 : List va_E), LayX σ1 g s T sh → (∀ k, 4 ≤ k → k < 8 → σ1 0 k = σ 0 k) → σ1 0 8 = nI 0 → (∀ a, 2 ≤ a → a ≤ 4 → ∀ j, j < nA a → σ1 a j = nI 0) → StU h b σ1 h47 → Go E mX4_layOut d 0 0 53 [some (.ref b), some (.int (nI g)), some (.int (nI s)), some (.int (nI T)), some (.int (nI sh)), some (.int (nI 0)), none, none] [] h47 (RV (fun h' => ∃ σ', StU h b σ' h' ∧ LayX σ' g s T sh ∧ (∀ k, 4 ≤ k → k < 8 → σ' 0 k = σ 0 k) ∧ σ' 0 8 = nI 0 ∧ (∀ a, 2 ≤ a → a ≤ 4 → ∀ j, j < nA a → σ' a j = nI 0) ∧ ColX σ' (nc g s) (colv g s))) := by
    intro σ1 h47 hL hk h8 hz u0
    have loop2 : ∀ (m j : Nat) (f : Nat → Int32) (h1 : List va_E) (x6 x7 : Option Value), j + m = g * s → StU h b (rset σ1 5 f) h1 → (∀ c, c < nc g s → f c = nI (pq 6 (if c < j then colv g s c else sgl 1 (hcv g s c)))) → Go E mX4_layOut d 0 0 90 [some (.ref b), some (.int (nI g)), some (.int (nI s)), some (.int (nI T)), some (.int (nI sh)), some (.int (nI j)), x6, x7] [] h1 (RV (fun h' => ∃ σ', StU h b σ' h' ∧ LayX σ' g s T sh ∧ (∀ k, 4 ≤ k → k < 8 → σ' 0 k = σ 0 k) ∧ σ' 0 8 = nI 0 ∧ (∀ a, 2 ≤ a → a ≤ 4 → ∀ j, j < nA a → σ' a j = nI 0) ∧ ColX σ' (nc g s) (colv g s))) := by
      intro m
      induction m with
      | zero =>
        intro j f h1 x6 x7 hj u hf
        have ej : j = g * s := by omega
        subst ej
        refine go_iload_5 (DX4_layOut.at 48 rfl) ?_
        refine go_aload_0 (DX4_layOut.at 49 rfl) ?_
        refine go_cVx0 (DX4_layOut.at 50 rfl) nX4_81 vX4_dataCount (by omega) (c_dataCount u.1 (hL.of0 (fun _ _ => rfl))) u.1.1 rfl (Nat.le_of_ble_eq_true rfl) ?_
        refine go_icmp_ge 170 (DX4_layOut.at 51 rfl) (by decide) (fun c96 => ?_) (fun c96 => absurd (Int32.le_refl _) c96)
        exact go_return (DX4_layOut.at 90 rfl) rfl (RV.mk ⟨_, u, hL.of0 (fun _ _ => rfl), fun k h1 h2 => hk k h1 h2, h8, fun a h1 h2 j hj => by rw [rset_n (by omega)]; exact hz a h1 h2 j hj, fun c hc => ⟨by
    rw [rset_s, hf c hc]
    by_cases e : c < g * s
    · rw [if_pos e]
    · rw [if_neg e, colv_par e], fun i _ => colv_lt i⟩⟩)
      | succ m ih =>
        intro j f h1 x6 x7 hj u hf
        refine go_iload_5 (DX4_layOut.at 48 rfl) ?_
        refine go_aload_0 (DX4_layOut.at 49 rfl) ?_
        refine go_cVx0 (DX4_layOut.at 50 rfl) nX4_81 vX4_dataCount (by omega) (c_dataCount u.1 (hL.of0 (fun _ _ => rfl))) u.1.1 rfl (Nat.le_of_ble_eq_true rfl) ?_
        refine go_icmp_ge 170 (DX4_layOut.at 51 rfl) (by decide) (fun c96 => absurd c96 (nI_ge (a := j) (b := g * s) (by omega) (by have := hL.2.2.2.2.2.2.2.2.1; omega))) (fun c96 => ?_)
        have hjn : j < nc g s := by unfold nc; omega
        have hg4 : g ≤ 4 := hL.2.2.2.2.2.1
        have hj15 : j < 15 := by have := hL.2.2.2.2.2.2.2.2.1; omega
        refine go_powers (DX4_layOut.at 52 rfl) zX4_84 ?_
        refine go_iload_5 (DX4_layOut.at 53 rfl) ?_
        refine go_cSx2 (DX4_layOut.at 54 rfl) nX4_87 vX5_at (by omega) (c_at (Or.inr (Or.inl ⟨rfl, rfl, rfl⟩)) (show j < 15 from (by have := hL.2.2.2.2.2.2.2.2.1; omega)) (by decide)) (Nat.le_of_ble_eq_true rfl) ?_
        rw [POW_pw (show j < 15 from (by have := hL.2.2.2.2.2.2.2.2.1; omega))]
        refine go_iconst (v := nI 4) (DX4_layOut.at 55 rfl) (by decide) ?_
        refine go_aload_0 (DX4_layOut.at 56 rfl) ?_
        refine go_getfield (DX4_layOut.at 57 rfl) fX4_9 u.1.1 rfl ?_
        rw [show rset σ1 5 f 0 0 = nI g from hL.1]
        refine go_imul (DX4_layOut.at 58 rfl) ?_
        rw [pk_mul]
        refine go_ishl (DX4_layOut.at 59 rfl) ?_
        rw [nx_shlW _ (by omega), pq_sgl _ (by omega)]
        refine go_istore_6 (DX4_layOut.at 60 rfl) ?_
        refine go_powers (DX4_layOut.at 61 rfl) zX4_84 ?_
        refine go_iconst (v := nI 2) (DX4_layOut.at 62 rfl) (by decide) ?_
        refine go_iload_5 (DX4_layOut.at 63 rfl) ?_
        refine go_imul (DX4_layOut.at 64 rfl) ?_
        rw [pk_mul]
        refine go_bipush (v := nI 15) (DX4_layOut.at 65 rfl) (by decide) ?_
        refine go_irem (DX4_layOut.at 66 rfl) (by decide) ?_
        rw [pk_rem (by omega) (by decide) (by decide)]
        refine go_cSx2 (DX4_layOut.at 67 rfl) nX4_87 vX5_at (by omega) (c_at (Or.inr (Or.inl ⟨rfl, rfl, rfl⟩)) (show 2 * j % 15 < 15 from Nat.mod_lt _ (by decide)) (by decide)) (Nat.le_of_ble_eq_true rfl) ?_
        rw [POW_pw (show 2 * j % 15 < 15 from Nat.mod_lt _ (by decide)), show pw (2 * j % 15) = pw (2 * j) from by unfold pw; rw [Nat.mod_mod]]
        refine go_iconst (v := nI 4) (DX4_layOut.at 68 rfl) (by decide) ?_
        refine go_aload_0 (DX4_layOut.at 69 rfl) ?_
        refine go_getfield (DX4_layOut.at 70 rfl) fX4_9 u.1.1 rfl ?_
        rw [show rset σ1 5 f 0 0 = nI g from hL.1]
        refine go_iconst (v := nI 1) (DX4_layOut.at 71 rfl) (by decide) ?_
        refine go_iadd (DX4_layOut.at 72 rfl) ?_
        rw [nI_add]
        refine go_imul (DX4_layOut.at 73 rfl) ?_
        rw [pk_mul]
        refine go_ishl (DX4_layOut.at 74 rfl) ?_
        rw [nx_shlW _ (by omega), pq_sgl _ (by omega)]
        refine go_istore_7 (DX4_layOut.at 75 rfl) ?_
        refine go_aload_0 (DX4_layOut.at 76 rfl) ?_
        refine go_getfield (DX4_layOut.at 77 rfl) fX4_52 u.1.1 rfl ?_
        refine go_iload_5 (DX4_layOut.at 78 rfl) ?_
        refine go_aload_0 (DX4_layOut.at 79 rfl) ?_
        refine go_getfield (DX4_layOut.at 80 rfl) fX4_52 u.1.1 rfl ?_
        refine go_iload_5 (DX4_layOut.at 81 rfl) ?_
        refine go_cSx2 (DX4_layOut.at 82 rfl) nX4_87 vX5_at (by omega) (c_at (Or.inl u.1.2.2.2.2.2) (show j < 20 from (by have := hL.2.2.2.2.nc; omega)) (by decide)) (Nat.le_of_ble_eq_true rfl) ?_
        rw [rset_s, hf j hjn, if_neg (Nat.lt_irrefl j)]
        refine go_iload_6 (DX4_layOut.at 83 rfl) ?_
        refine go_ior (DX4_layOut.at 84 rfl) ?_
        rw [nx_or, pq_or 6 _ _ (fun i _ => sgl_lt (by decide) i) (fun i _ => sgl_lt (pw_lt _) i)]
        refine go_iload_7 (DX4_layOut.at 85 rfl) ?_
        refine go_ior (DX4_layOut.at 86 rfl) ?_
        rw [nx_or, pq_or 6 _ _ (fun i _ => dec2 (P := fun a b => a ||| b < 16) (by decide +kernel) (sgl_lt (by decide) i) (sgl_lt (pw_lt _) i)) (fun i _ => sgl_lt (pw_lt _) i), colv_data (show j < g * s by omega)]
        refine go_cSv3 (DX4_layOut.at 87 rfl) nX4_77 vX5_put (by omega) (c_putSt u.1 (a := 5) (by decide) (show j < 20 from (by have := hL.2.2.2.2.nc; omega))) (Nat.le_of_ble_eq_true rfl) (fun h161 q161 => ?_)
        rw [rset_rset] at q161
        refine go_iincN_5 (DX4_layOut.at 88 rfl) ?_
        refine go_goto 90 (DX4_layOut.at 89 rfl) (by decide) ?_
        refine ih (j + 1) _ _ _ _ (by omega) (u.then q161) ?_
        intro c hc
        by_cases e : c = j
        · rw [e, if_pos (Nat.lt_succ_self j)]; exact pk_us
        · rw [show rset σ1 5 f 5 = f from rset_s, pk_un e, hf c hc]
          by_cases e2 : c < j
          · rw [if_pos e2, if_pos (by omega)]
          · rw [if_neg e2, if_neg (by omega)]
    have loop1 : ∀ (m j : Nat) (f : Nat → Int32) (h1 : List va_E) (x6 x7 : Option Value), j + m = nc g s → StU h b (rset σ1 5 f) h1 → (∀ c, c < j → f c = nI (pq 6 (sgl 1 (hcv g s c)))) → Go E mX4_layOut d 0 0 53 [some (.ref b), some (.int (nI g)), some (.int (nI s)), some (.int (nI T)), some (.int (nI sh)), some (.int (nI j)), x6, x7] [] h1 (RV (fun h' => ∃ σ', StU h b σ' h' ∧ LayX σ' g s T sh ∧ (∀ k, 4 ≤ k → k < 8 → σ' 0 k = σ 0 k) ∧ σ' 0 8 = nI 0 ∧ (∀ a, 2 ≤ a → a ≤ 4 → ∀ j, j < nA a → σ' a j = nI 0) ∧ ColX σ' (nc g s) (colv g s))) := by
      intro m
      induction m with
      | zero =>
        intro j f h1 x6 x7 hj u hf
        have ej : j = nc g s := by omega
        subst ej
        refine go_iload_5 (DX4_layOut.at 29 rfl) ?_
        refine go_aload_0 (DX4_layOut.at 30 rfl) ?_
        refine go_cVx0 (DX4_layOut.at 31 rfl) nX4_69 vX4_cellCount (by omega) (c_cellCount u.1 (hL.of0 (fun _ _ => rfl))) u.1.1 rfl (Nat.le_of_ble_eq_true rfl) ?_
        refine go_icmp_ge 87 (DX4_layOut.at 32 rfl) (by decide) (fun c59 => ?_) (fun c59 => absurd (Int32.le_refl _) c59)
        refine go_iconst (v := nI 0) (DX4_layOut.at 46 rfl) (by decide) ?_
        refine go_istore_5 (DX4_layOut.at 47 rfl) ?_
        exact loop2 (g * s) 0 _ _ x6 x7 (by omega) u (fun c hc => hf c hc)
      | succ m ih =>
        intro j f h1 x6 x7 hj u hf
        refine go_iload_5 (DX4_layOut.at 29 rfl) ?_
        refine go_aload_0 (DX4_layOut.at 30 rfl) ?_
        refine go_cVx0 (DX4_layOut.at 31 rfl) nX4_69 vX4_cellCount (by omega) (c_cellCount u.1 (hL.of0 (fun _ _ => rfl))) u.1.1 rfl (Nat.le_of_ble_eq_true rfl) ?_
        refine go_icmp_ge 87 (DX4_layOut.at 32 rfl) (by decide) (fun c59 => absurd c59 (nI_ge (a := j) (b := nc g s) (by omega) (by have := hL.2.2.2.2.nc; omega))) (fun c59 => ?_)
        refine go_aload_0 (DX4_layOut.at 33 rfl) ?_
        refine go_getfield (DX4_layOut.at 34 rfl) fX4_52 u.1.1 rfl ?_
        refine go_iload_5 (DX4_layOut.at 35 rfl) ?_
        refine go_iconst (v := nI 1) (DX4_layOut.at 36 rfl) (by decide) ?_
        refine go_iconst (v := nI 4) (DX4_layOut.at 37 rfl) (by decide) ?_
        refine go_aload_0 (DX4_layOut.at 38 rfl) ?_
        refine go_iload_5 (DX4_layOut.at 39 rfl) ?_
        refine go_cVx1 (DX4_layOut.at 40 rfl) nX4_73 vX4_homeCheck (by omega) (c_homeC u.1 (hL.of0 (fun _ _ => rfl)) (show j < nc g s by omega) (by omega)) u.1.1 rfl (Nat.le_of_ble_eq_true rfl) ?_
        refine go_imul (DX4_layOut.at 41 rfl) ?_
        rw [pk_mul]
        refine go_ishl (DX4_layOut.at 42 rfl) ?_
        have hh6 : hcv g s j < 6 := Nat.lt_of_lt_of_le (hcv_lt hL.2.2.2.2 (show j < nc g s by omega)) (by have := hL.2.2.2.2.2.1; omega)
        rw [nx_shlW _ (by omega), pq_sgl 1 hh6]
        refine go_cSv3 (DX4_layOut.at 43 rfl) nX4_77 vX5_put (by omega) (c_putSt u.1 (a := 5) (by decide) (show j < 20 from (by have := hL.2.2.2.2.nc; omega))) (Nat.le_of_ble_eq_true rfl) (fun h78 q78 => ?_)
        rw [rset_rset] at q78
        refine go_iincN_5 (DX4_layOut.at 44 rfl) ?_
        refine go_goto 53 (DX4_layOut.at 45 rfl) (by decide) ?_
        refine ih (j + 1) _ _ x6 x7 (by omega) (u.then q78) ?_
        intro c hc
        by_cases e : c = j
        · rw [e]; exact pk_us
        · rw [show rset σ1 5 f 5 = f from rset_s, pk_un e]; exact hf c (by omega)
    exact loop1 (nc g s) 0 (σ1 5) h47 none none (by omega) (by rw [rset_id]; exact u0) (fun c hc => absurd hc (Nat.not_lt_zero c))
  refine go_aload_0 (DX4_layOut.at 0 rfl) ?_
  refine go_iload_1 (DX4_layOut.at 1 rfl) ?_
  refine go_putSt (DX4_layOut.at 2 rfl) fX4_9 (by decide) hS (fun h2 q2 => ?_)
  refine go_aload_0 (DX4_layOut.at 3 rfl) ?_
  refine go_iload_2 (DX4_layOut.at 4 rfl) ?_
  refine go_putSt (DX4_layOut.at 5 rfl) fX4_15 (by decide) q2.1 (fun h7 q7 => ?_)
  refine go_aload_0 (DX4_layOut.at 6 rfl) ?_
  refine go_iload_3 (DX4_layOut.at 7 rfl) ?_
  refine go_putSt (DX4_layOut.at 8 rfl) fX4_18 (by decide) q7.1 (fun h12 q12 => ?_)
  refine go_aload_0 (DX4_layOut.at 9 rfl) ?_
  refine go_iload_4 (DX4_layOut.at 10 rfl) ?_
  refine go_putSt (DX4_layOut.at 11 rfl) fX4_21 (by decide) q12.1 (fun h18 q18 => ?_)
  refine go_aload_0 (DX4_layOut.at 12 rfl) ?_
  refine go_iconst (v := nI 0) (DX4_layOut.at 13 rfl) (by decide) ?_
  refine go_putSt (DX4_layOut.at 14 rfl) fX4_36 (by decide) q18.1 (fun h23 q23 => ?_)
  refine go_aload_0 (DX4_layOut.at 15 rfl) ?_
  refine go_getfield (DX4_layOut.at 16 rfl) fX4_43 q23.1.1 rfl ?_
  refine go_iconst (v := nI 0) (DX4_layOut.at 17 rfl) (by decide) ?_
  refine go_cSv2 (DX4_layOut.at 18 rfl) nX4_63 vJ7_fill_53178 (by omega) (c_fillSt q23.1 (a := 2) (by decide)) (Nat.le_of_ble_eq_true rfl) (fun h31 q31 => ?_)
  obtain ⟨z2, z2h, q31⟩ := q31
  refine go_aload_0 (DX4_layOut.at 19 rfl) ?_
  refine go_getfield (DX4_layOut.at 20 rfl) fX4_46 q31.1.1 rfl ?_
  refine go_iconst (v := nI 0) (DX4_layOut.at 21 rfl) (by decide) ?_
  refine go_cSv2 (DX4_layOut.at 22 rfl) nX4_63 vJ7_fill_53178 (by omega) (c_fillSt q31.1 (a := 3) (by decide)) (Nat.le_of_ble_eq_true rfl) (fun h39 q39 => ?_)
  obtain ⟨z3, z3h, q39⟩ := q39
  refine go_aload_0 (DX4_layOut.at 23 rfl) ?_
  refine go_getfield (DX4_layOut.at 24 rfl) fX4_49 q39.1.1 rfl ?_
  refine go_iconst (v := nI 0) (DX4_layOut.at 25 rfl) (by decide) ?_
  refine go_cSv2 (DX4_layOut.at 26 rfl) nX4_63 vJ7_fill_53178 (by omega) (c_fillSt q39.1 (a := 4) (by decide)) (Nat.le_of_ble_eq_true rfl) (fun h47 q47 => ?_)
  obtain ⟨z4, z4h, q47⟩ := q47
  refine go_iconst (v := nI 0) (DX4_layOut.at 27 rfl) (by decide) ?_
  refine go_istore_5 (DX4_layOut.at 28 rfl) ?_
  have u := q2.then (q7.then (q12.then (q18.then (q23.then (q31.then (q39.then q47))))))
  generalize hσ1 : rset _ 4 z4 = σ1 at u
  have e0 : ∀ k, σ1 0 k = upd (upd (upd (upd (upd (σ 0) 0 (nI g)) 1 (nI s)) 2 (nI T)) 3 (nI sh)) 8 (nI 0) k := fun k => by rw [← hσ1]; rfl
  have hL : LayX σ1 g s T sh := ⟨e0 0, e0 1, e0 2, e0 3, hO⟩
  have hk : ∀ k, 4 ≤ k → k < 8 → σ1 0 k = σ 0 k := fun k h1 h2 => by rw [e0 k, pk_un (by omega), pk_un (by omega), pk_un (by omega), pk_un (by omega), pk_un (by omega)]
  have hz : ∀ a, 2 ≤ a → a ≤ 4 → ∀ j, j < nA a → σ1 a j = nI 0 := by
    intro a h1 h2 j hj
    rw [← hσ1]
    rcases (show a = 2 ∨ a = 3 ∨ a = 4 by omega) with rfl | rfl | rfl
    · exact z2h j hj
    · exact z3h j hj
    · exact z4h j hj
  exact rest σ1 h47 hL hk (e0 8) hz u

end SW
end
section
/-! A STATE: copying, partners, culprits, nodes of a set -/
def pmv (g s c : Nat) : Nat := if hcv g s c < g then (((2 ^ s - 1) * 2 ^ (hcv g s c * s)) ||| 2 ^ (g * s + hcv g s c)) &&& (2 ^ c ^^^ 4294967295) else 2 ^ (g * s) - 1
section SW
variable {E : AEnv} {d : Nat} {h : List va_E} {b : Nat} {σ : Rows} {g s T sh : Nat}
theorem c_copySt {a b1 b2 : Nat} {σ1 σ2 : Rows} (h1 : StAt h b1 σ1) (h2 : StAt h b2 σ2) (ha : 1 ≤ a ∧ a ≤ 5) (hd : 1 ≤ d) : Calls E mX5_copyRow d 0 0 [.ref (b1 + a), .ref (b2 + a)] h (RV (StU h b2 (rset σ2 a (va_cpy (σ1 a) (σ2 a) 0 0 (nA a))))) := by
  refine (c_copyRow (h1.get ha) (h2.get ha) (by unfold nA; split <;> (try split) <;> decide) hd).weaken ?_
  rintro r h' ⟨rfl, rfl⟩
  exact ⟨rfl, h2.row ha _⟩
theorem c_copyFrom {a c : Nat} {σ1 σ2 : Rows} (hA : StAt h a σ1) (hB : StAt h c σ2) (hac : a + 6 ≤ c ∨ c + 6 ≤ a) (hd : 2 ≤ d) : Calls E mX4_copyFrom d 0 0 [.ref a, .ref c] h (RV (fun h' => ∃ σ', StU h a σ' h' ∧ REq σ' σ2)) := by
  refine Calls.of (ls := [some (.ref a), some (.ref c)]) (by decide +kernel) rfl (Nat.le_of_ble_eq_true rfl) (cat_ok rfl) ?_
  refine go_aload_1 (DX4_copyFrom.at 0 rfl) ?_
  refine go_ifnonnull 5 (DX4_copyFrom.at 1 rfl) (by decide) ?_
  refine go_aload_0 (DX4_copyFrom.at 3 rfl) ?_
  refine go_aload_1 (DX4_copyFrom.at 4 rfl) ?_
  refine go_getfield (DX4_copyFrom.at 5 rfl) fX4_9 hB.1 rfl ?_
  refine go_putSt (DX4_copyFrom.at 6 rfl) fX4_9 (by decide) hA (fun h10 q10 => ?_)
  have s10 := hB.keep q10.2 (by omega)
  refine go_aload_0 (DX4_copyFrom.at 7 rfl) ?_
  refine go_aload_1 (DX4_copyFrom.at 8 rfl) ?_
  refine go_getfield (DX4_copyFrom.at 9 rfl) fX4_15 s10.1 rfl ?_
  refine go_putSt (DX4_copyFrom.at 10 rfl) fX4_15 (by decide) q10.1 (fun h18 q18 => ?_)
  have s18 := s10.keep q18.2 (by omega)
  refine go_aload_0 (DX4_copyFrom.at 11 rfl) ?_
  refine go_aload_1 (DX4_copyFrom.at 12 rfl) ?_
  refine go_getfield (DX4_copyFrom.at 13 rfl) fX4_18 s18.1 rfl ?_
  refine go_putSt (DX4_copyFrom.at 14 rfl) fX4_18 (by decide) q18.1 (fun h26 q26 => ?_)
  have s26 := s18.keep q26.2 (by omega)
  refine go_aload_0 (DX4_copyFrom.at 15 rfl) ?_
  refine go_aload_1 (DX4_copyFrom.at 16 rfl) ?_
  refine go_getfield (DX4_copyFrom.at 17 rfl) fX4_21 s26.1 rfl ?_
  refine go_putSt (DX4_copyFrom.at 18 rfl) fX4_21 (by decide) q26.1 (fun h34 q34 => ?_)
  have s34 := s26.keep q34.2 (by omega)
  refine go_aload_0 (DX4_copyFrom.at 19 rfl) ?_
  refine go_aload_1 (DX4_copyFrom.at 20 rfl) ?_
  refine go_getfield (DX4_copyFrom.at 21 rfl) fX4_24 s34.1 rfl ?_
  refine go_putSt (DX4_copyFrom.at 22 rfl) fX4_24 (by decide) q34.1 (fun h42 q42 => ?_)
  have s42 := s34.keep q42.2 (by omega)
  refine go_aload_0 (DX4_copyFrom.at 23 rfl) ?_
  refine go_aload_1 (DX4_copyFrom.at 24 rfl) ?_
  refine go_getfield (DX4_copyFrom.at 25 rfl) fX4_27 s42.1 rfl ?_
  refine go_putSt (DX4_copyFrom.at 26 rfl) fX4_27 (by decide) q42.1 (fun h50 q50 => ?_)
  have s50 := s42.keep q50.2 (by omega)
  refine go_aload_0 (DX4_copyFrom.at 27 rfl) ?_
  refine go_aload_1 (DX4_copyFrom.at 28 rfl) ?_
  refine go_getfield (DX4_copyFrom.at 29 rfl) fX4_30 s50.1 rfl ?_
  refine go_putSt (DX4_copyFrom.at 30 rfl) fX4_30 (by decide) q50.1 (fun h58 q58 => ?_)
  have s58 := s50.keep q58.2 (by omega)
  refine go_aload_0 (DX4_copyFrom.at 31 rfl) ?_
  refine go_aload_1 (DX4_copyFrom.at 32 rfl) ?_
  refine go_getfield (DX4_copyFrom.at 33 rfl) fX4_33 s58.1 rfl ?_
  refine go_putSt (DX4_copyFrom.at 34 rfl) fX4_33 (by decide) q58.1 (fun h66 q66 => ?_)
  have s66 := s58.keep q66.2 (by omega)
  refine go_aload_0 (DX4_copyFrom.at 35 rfl) ?_
  refine go_aload_1 (DX4_copyFrom.at 36 rfl) ?_
  refine go_getfield (DX4_copyFrom.at 37 rfl) fX4_36 s66.1 rfl ?_
  refine go_putSt (DX4_copyFrom.at 38 rfl) fX4_36 (by decide) q66.1 (fun h74 q74 => ?_)
  have s74 := s66.keep q74.2 (by omega)
  refine go_aload_1 (DX4_copyFrom.at 39 rfl) ?_
  refine go_getfield (DX4_copyFrom.at 40 rfl) fX4_39 s74.1 rfl ?_
  refine go_aload_0 (DX4_copyFrom.at 41 rfl) ?_
  refine go_getfield (DX4_copyFrom.at 42 rfl) fX4_39 q74.1.1 rfl ?_
  refine go_cSv2 (DX4_copyFrom.at 43 rfl) nX4_59 vX5_copyRow (by omega) (c_copySt s74 q74.1 (a := 1) (by decide) (by omega)) (Nat.le_of_ble_eq_true rfl) (fun h85 q85 => ?_)
  have s85 := s74.keep q85.2 (by omega)
  refine go_aload_1 (DX4_copyFrom.at 44 rfl) ?_
  refine go_getfield (DX4_copyFrom.at 45 rfl) fX4_43 s85.1 rfl ?_
  refine go_aload_0 (DX4_copyFrom.at 46 rfl) ?_
  refine go_getfield (DX4_copyFrom.at 47 rfl) fX4_43 q85.1.1 rfl ?_
  refine go_cSv2 (DX4_copyFrom.at 48 rfl) nX4_59 vX5_copyRow (by omega) (c_copySt s85 q85.1 (a := 2) (by decide) (by omega)) (Nat.le_of_ble_eq_true rfl) (fun h96 q96 => ?_)
  have s96 := s85.keep q96.2 (by omega)
  refine go_aload_1 (DX4_copyFrom.at 49 rfl) ?_
  refine go_getfield (DX4_copyFrom.at 50 rfl) fX4_46 s96.1 rfl ?_
  refine go_aload_0 (DX4_copyFrom.at 51 rfl) ?_
  refine go_getfield (DX4_copyFrom.at 52 rfl) fX4_46 q96.1.1 rfl ?_
  refine go_cSv2 (DX4_copyFrom.at 53 rfl) nX4_59 vX5_copyRow (by omega) (c_copySt s96 q96.1 (a := 3) (by decide) (by omega)) (Nat.le_of_ble_eq_true rfl) (fun h107 q107 => ?_)
  have s107 := s96.keep q107.2 (by omega)
  refine go_aload_1 (DX4_copyFrom.at 54 rfl) ?_
  refine go_getfield (DX4_copyFrom.at 55 rfl) fX4_49 s107.1 rfl ?_
  refine go_aload_0 (DX4_copyFrom.at 56 rfl) ?_
  refine go_getfield (DX4_copyFrom.at 57 rfl) fX4_49 q107.1.1 rfl ?_
  refine go_cSv2 (DX4_copyFrom.at 58 rfl) nX4_59 vX5_copyRow (by omega) (c_copySt s107 q107.1 (a := 4) (by decide) (by omega)) (Nat.le_of_ble_eq_true rfl) (fun h118 q118 => ?_)
  have s118 := s107.keep q118.2 (by omega)
  refine go_aload_1 (DX4_copyFrom.at 59 rfl) ?_
  refine go_getfield (DX4_copyFrom.at 60 rfl) fX4_52 s118.1 rfl ?_
  refine go_aload_0 (DX4_copyFrom.at 61 rfl) ?_
  refine go_getfield (DX4_copyFrom.at 62 rfl) fX4_52 q118.1.1 rfl ?_
  refine go_cSv2 (DX4_copyFrom.at 63 rfl) nX4_59 vX5_copyRow (by omega) (c_copySt s118 q118.1 (a := 5) (by decide) (by omega)) (Nat.le_of_ble_eq_true rfl) (fun h129 q129 => ?_)
  have s129 := s118.keep q129.2 (by omega)
  refine go_return (DX4_copyFrom.at 64 rfl) rfl (RV.mk ⟨_, (q10.then (q18.then (q26.then (q34.then (q42.then (q50.then (q58.then (q66.then (q74.then (q85.then (q96.then (q107.then (q118.then q129))))))))))))), fun k hk => ?_, fun a h1 h2 j hj => ?_⟩)
  · show upd (upd (upd (upd (upd (upd (upd (upd (upd (σ1 0) 0 (σ2 0 0)) 1 (σ2 0 1)) 2 (σ2 0 2)) 3 (σ2 0 3)) 4 (σ2 0 4)) 5 (σ2 0 5)) 6 (σ2 0 6)) 7 (σ2 0 7)) 8 (σ2 0 8) k = σ2 0 k
    rcases (show k = 0 ∨ k = 1 ∨ k = 2 ∨ k = 3 ∨ k = 4 ∨ k = 5 ∨ k = 6 ∨ k = 7 ∨ k = 8 by omega) with rfl | rfl | rfl | rfl | rfl | rfl | rfl | rfl | rfl <;> rfl
  · rcases (show a = 1 ∨ a = 2 ∨ a = 3 ∨ a = 4 ∨ a = 5 by omega) with rfl | rfl | rfl | rfl | rfl
    · show va_cpy (σ2 1) _ 0 0 (nA 1) j = σ2 1 j
      rw [pk_cpy_in (Nat.zero_le j) (by omega)]; congr 1; omega
    · show va_cpy (σ2 2) _ 0 0 (nA 2) j = σ2 2 j
      rw [pk_cpy_in (Nat.zero_le j) (by omega)]; congr 1; omega
    · show va_cpy (σ2 3) _ 0 0 (nA 3) j = σ2 3 j
      rw [pk_cpy_in (Nat.zero_le j) (by omega)]; congr 1; omega
    · show va_cpy (σ2 4) _ 0 0 (nA 4) j = σ2 4 j
      rw [pk_cpy_in (Nat.zero_le j) (by omega)]; congr 1; omega
    · show va_cpy (σ2 5) _ 0 0 (nA 5) j = σ2 5 j
      rw [pk_cpy_in (Nat.zero_le j) (by omega)]; congr 1; omega

theorem c_partnersOf (hS : StAt h b σ) (hL : LayX σ g s T sh) {c : Nat} (hc : c < nc g s) (hd : 2 ≤ d) : Calls E mX4_partnersOf d 0 0 [.ref b, .int (nI c)] h (RX (nI (pmv g s c)) h) := by
  refine Calls.of (ls := [some (.ref b), some (.int (nI c)), none, none, none]) (by decide +kernel) rfl (Nat.le_of_ble_eq_true rfl) (cat_ok rfl) ?_
  have hn := hL.2.2.2.2.nc
  have hg4 := hL.2.2.2.2.2.1
  have hs6 := hL.2.2.2.2.2.2.2.1
  have hgs := hL.2.2.2.2.2.2.2.2.1
  have hh := hcv_lt hL.2.2.2.2 hc
  have hks : hcv g s c < g → hcv g s c * s < 16 := fun q => by
    have : hcv g s c * s ≤ g * s := Nat.mul_le_mul_right s (Nat.le_of_lt q)
    omega
  refine go_aload_0 (DX4_partnersOf.at 0 rfl) ?_
  refine go_iload_1 (DX4_partnersOf.at 1 rfl) ?_
  refine go_cVx1 (DX4_partnersOf.at 2 rfl) nX4_73 vX4_homeCheck (by omega) (c_homeC hS hL hc (by omega)) hS.1 rfl (Nat.le_of_ble_eq_true rfl) ?_
  refine go_istore_2 (DX4_partnersOf.at 3 rfl) ?_
  refine go_iload_2 (DX4_partnersOf.at 4 rfl) ?_
  refine go_aload_0 (DX4_partnersOf.at 5 rfl) ?_
  refine go_getfield (DX4_partnersOf.at 6 rfl) fX4_9 hS.1 rfl ?_
  rw [hL.1]
  refine go_icmp_lt 23 (DX4_partnersOf.at 7 rfl) (by decide) (fun c11 => ?_) (fun c11 => ?_)
  · rw [nI_ltI (by omega) (by omega)] at c11
    refine go_iconst (v := nI 1) (DX4_partnersOf.at 15 rfl) (by decide) ?_
    refine go_aload_0 (DX4_partnersOf.at 16 rfl) ?_
    refine go_getfield (DX4_partnersOf.at 17 rfl) fX4_15 hS.1 rfl ?_
    rw [hL.2.1]
    refine go_ishl (DX4_partnersOf.at 18 rfl) ?_
    rw [nx_shlW _ (by omega), Nat.one_mul]
    refine go_iconst (v := nI 1) (DX4_partnersOf.at 19 rfl) (by decide) ?_
    refine go_isub (DX4_partnersOf.at 20 rfl) ?_
    rw [pk_sub Nat.one_le_two_pow]
    refine go_iload_2 (DX4_partnersOf.at 21 rfl) ?_
    refine go_aload_0 (DX4_partnersOf.at 22 rfl) ?_
    refine go_getfield (DX4_partnersOf.at 23 rfl) fX4_15 hS.1 rfl ?_
    rw [hL.2.1]
    refine go_imul (DX4_partnersOf.at 24 rfl) ?_
    rw [pk_mul]
    refine go_ishl (DX4_partnersOf.at 25 rfl) ?_
    rw [nx_shlW _ (by have := hks c11; omega)]
    refine go_istore_3 (DX4_partnersOf.at 26 rfl) ?_
    refine go_iconst (v := nI 1) (DX4_partnersOf.at 27 rfl) (by decide) ?_
    refine go_aload_0 (DX4_partnersOf.at 28 rfl) ?_
    refine go_cVx0 (DX4_partnersOf.at 29 rfl) nX4_81 vX4_dataCount (by omega) (c_dataCount hS hL) hS.1 rfl (Nat.le_of_ble_eq_true rfl) ?_
    refine go_iload_2 (DX4_partnersOf.at 30 rfl) ?_
    refine go_iadd (DX4_partnersOf.at 31 rfl) ?_
    rw [nI_add]
    refine go_ishl (DX4_partnersOf.at 32 rfl) ?_
    rw [nx_shlW _ (by omega), Nat.one_mul]
    refine go_istore_4 (DX4_partnersOf.at 33 rfl) ?_
    refine go_iload_3 (DX4_partnersOf.at 34 rfl) ?_
    refine go_iload_4 (DX4_partnersOf.at 35 rfl) ?_
    refine go_ior (DX4_partnersOf.at 36 rfl) ?_
    rw [nx_or]
    refine go_iconst (v := nI 1) (DX4_partnersOf.at 37 rfl) (by decide) ?_
    refine go_iload_1 (DX4_partnersOf.at 38 rfl) ?_
    refine go_ishl (DX4_partnersOf.at 39 rfl) ?_
    rw [nx_shlW _ (by omega), Nat.one_mul]
    refine go_iconst (v := (-1)) (DX4_partnersOf.at 40 rfl) (by decide) ?_
    refine go_ixor (DX4_partnersOf.at 41 rfl) ?_
    rw [m1_nI, nx_xor]
    refine go_iand (DX4_partnersOf.at 42 rfl) ?_
    rw [nx_and]
    exact go_iret (DX4_partnersOf.at 43 rfl) rfl rfl (RX.mk (by unfold pmv; rw [if_pos c11]) rfl)
  · rw [nI_ltI (by omega) (by omega)] at c11
    refine go_iconst (v := nI 1) (DX4_partnersOf.at 8 rfl) (by decide) ?_
    refine go_aload_0 (DX4_partnersOf.at 9 rfl) ?_
    refine go_cVx0 (DX4_partnersOf.at 10 rfl) nX4_81 vX4_dataCount (by omega) (c_dataCount hS hL) hS.1 rfl (Nat.le_of_ble_eq_true rfl) ?_
    refine go_ishl (DX4_partnersOf.at 11 rfl) ?_
    rw [nx_shlW _ (by omega), Nat.one_mul]
    refine go_iconst (v := nI 1) (DX4_partnersOf.at 12 rfl) (by decide) ?_
    refine go_isub (DX4_partnersOf.at 13 rfl) ?_
    rw [pk_sub Nat.one_le_two_pow]
    exact go_iret (DX4_partnersOf.at 14 rfl) rfl rfl (RX.mk (by unfold pmv; rw [if_neg c11]) rfl)

theorem all_bit {n c : Nat} (hc : c < n) : (2 ^ n - 1) / 2 ^ c % 2 = 1 := by
  have h := Nat.testBit_two_pow_sub_one n c
  rw [Nat.testBit_eq_decide_div_mod_eq] at h
  simpa [hc] using h
theorem p20 {n : Nat} (hn : n ≤ 20) : 2 ^ n ≤ 1048576 := Nat.pow_le_pow_right (by decide) hn
/-- changing the cell c alone by what its home check misses makes all checks hold -/
def CU (C : Nat → Nat → Nat) (S : Nat → Nat) (k c : Nat) : Prop := S k ≠ 0 ∧ ∀ i, i < 6 → gm (C c i) (S k) = S i
theorem c_culpritIn (hS : StAt h b σ) (hL : LayX σ g s T sh) {t : Nat} {C : Nat → Nat → Nat} {V : Nat → Nat} (hC : ColX σ (nc g s) C) (ht : t < 8) (hV : ∀ c, c < nc g s → σ 2 (t * 20 + c) = nI (V c) ∧ V c < 16) (hd : 3 ≤ d) : Calls E mX4_culpritIn d 0 0 [.ref b, .int (nI t)] h (RI (fun x h1 => h1 = h ∧ ((∃ c, c < nc g s ∧ x = nI c ∧ CU C (vsum C V (2 ^ nc g s - 1) (nc g s)) (hcv g s c) c ∧ ∀ j, j < c → ¬ CU C (vsum C V (2 ^ nc g s - 1) (nc g s)) (hcv g s j) j) ∨ (x = (-5) ∧ ∀ j, j < nc g s → ¬ CU C (vsum C V (2 ^ nc g s - 1) (nc g s)) (hcv g s j) j)))) := by
  refine Calls.of (ls := [some (.ref b), some (.int (nI t)), none, none, none]) (by decide +kernel) rfl (Nat.le_of_ble_eq_true rfl) (cat_ok rfl) ?_
  have hn := hL.2.2.2.2.nc
  have hp := p20 hn.2
  obtain ⟨S, hSe⟩ : ∃ S, S = vsum C V (2 ^ nc g s - 1) (nc g s) := ⟨_, rfl⟩
  have hS6 : ∀ i, i < 6 → S i < 16 := by
    rw [hSe]
    exact vsum_lt (fun c hc => (hC c hc).2) (fun c hc _ => (hV c hc).2) _ (Nat.le_refl _)
  rw [← hSe]
  have loop : ∀ (m j : Nat) (x4 : Option Value), j + m = nc g s → (∀ k, k < j → ¬ CU C S (hcv g s k) k) → Go E mX4_culpritIn d 0 0 12 [some (.ref b), some (.int (nI t)), some (.int (nI (pq 6 S))), some (.int (nI j)), x4] [] h (RI (fun x h1 => h1 = h ∧ ((∃ c, c < nc g s ∧ x = nI c ∧ CU C S (hcv g s c) c ∧ ∀ j, j < c → ¬ CU C S (hcv g s j) j) ∨ (x = (-5) ∧ ∀ j, j < nc g s → ¬ CU C S (hcv g s j) j)))) := by
    intro m
    induction m with
    | zero =>
      intro j x4 hj hb
      have ej : j = nc g s := by omega
      subst ej
      refine go_iload_3 (DX4_culpritIn.at 8 rfl) ?_
      refine go_aload_0 (DX4_culpritIn.at 9 rfl) ?_
      refine go_cVx0 (DX4_culpritIn.at 10 rfl) nX4_69 vX4_cellCount (by omega) (c_cellCount hS hL) hS.1 rfl (Nat.le_of_ble_eq_true rfl) ?_
      refine go_icmp_ge 58 (DX4_culpritIn.at 11 rfl) (by decide) (fun c17 => ?_) (fun c17 => absurd (Int32.le_refl _) c17)
      refine go_bipush (v := (-5)) (DX4_culpritIn.at 31 rfl) (by decide) ?_
      exact go_iret (DX4_culpritIn.at 32 rfl) rfl rfl (RI.mk ⟨rfl, Or.inr ⟨rfl, hb⟩⟩)
    | succ m ih =>
      intro j x4 hj hb
      refine go_iload_3 (DX4_culpritIn.at 8 rfl) ?_
      refine go_aload_0 (DX4_culpritIn.at 9 rfl) ?_
      refine go_cVx0 (DX4_culpritIn.at 10 rfl) nX4_69 vX4_cellCount (by omega) (c_cellCount hS hL) hS.1 rfl (Nat.le_of_ble_eq_true rfl) ?_
      refine go_icmp_ge 58 (DX4_culpritIn.at 11 rfl) (by decide) (fun c17 => absurd c17 (nI_ge (a := j) (b := nc g s) (by omega) (by omega))) (fun c17 => ?_)
      refine go_iload_2 (DX4_culpritIn.at 12 rfl) ?_
      refine go_aload_0 (DX4_culpritIn.at 13 rfl) ?_
      have hk6 : hcv g s j < 6 := Nat.lt_of_lt_of_le (hcv_lt hL.2.2.2.2 (show j < nc g s by omega)) (by have := hL.2.2.2.2.2.1; omega)
      refine go_iload_3 (DX4_culpritIn.at 14 rfl) ?_
      refine go_cVx1 (DX4_culpritIn.at 15 rfl) nX4_73 vX4_homeCheck (by omega) (c_homeC hS hL (show j < nc g s by omega) (by omega)) hS.1 rfl (Nat.le_of_ble_eq_true rfl) ?_
      refine go_cSx2 (DX4_culpritIn.at 16 rfl) nX4_110 vX5_element (by omega) (c_element hS6 hk6) (Nat.le_of_ble_eq_true rfl) ?_
      refine go_istore_4 (DX4_culpritIn.at 17 rfl) ?_
      refine go_iload_4 (DX4_culpritIn.at 18 rfl) ?_
      refine go_if_eq 52 (DX4_culpritIn.at 19 rfl) (by decide) (fun c33 => ?_) (fun c33 => ?_)
      · rw [nI_eq0 (by have := hS6 _ hk6; omega)] at c33
        have hno : ¬ CU C S (hcv g s j) j := fun q => q.1 c33
        refine go_iincN_3 (DX4_culpritIn.at 29 rfl) ?_
        refine go_goto 12 (DX4_culpritIn.at 30 rfl) (by decide) ?_
        refine ih (j + 1) _ (by omega) (fun k hk => ?_)
        rcases Nat.lt_or_ge k j with q | q
        · exact hb k q
        · rw [show k = j by omega]; exact hno
      · rw [nI_eq0 (by have := hS6 _ hk6; omega)] at c33
        refine go_aload_0 (DX4_culpritIn.at 20 rfl) ?_
        refine go_iload_3 (DX4_culpritIn.at 21 rfl) ?_
        refine go_cVx1 (DX4_culpritIn.at 22 rfl) nX4_120 vX4_columnOf (by omega) (c_columnOf hS (show j < 20 by omega) (by omega)) hS.1 rfl (Nat.le_of_ble_eq_true rfl) ?_
        rw [(hC j (by omega)).1]
        refine go_iload_4 (DX4_culpritIn.at 23 rfl) ?_
        refine go_cSx2 (DX4_culpritIn.at 24 rfl) nX4_123 vX5_scaled (by omega) (c_scaled (hC j (by omega)).2 (hS6 _ hk6)) (Nat.le_of_ble_eq_true rfl) ?_
        refine go_iload_2 (DX4_culpritIn.at 25 rfl) ?_
        refine go_icmp_ne 52 (DX4_culpritIn.at 26 rfl) (by decide) (fun c47 => ?_) (fun c47 => ?_)
        · have hno : ¬ CU C S (hcv g s j) j := fun q => c47 (congrArg nI (pq_congr q.2))
          refine go_iincN_3 (DX4_culpritIn.at 29 rfl) ?_
          refine go_goto 12 (DX4_culpritIn.at 30 rfl) (by decide) ?_
          refine ih (j + 1) _ (by omega) (fun k hk => ?_)
          rcases Nat.lt_or_ge k j with q | q
          · exact hb k q
          · rw [show k = j by omega]; exact hno
        · have e47 := (nI_eq (by have := pq_lt24 (v := fun i => gm (C j i) (S (hcv g s j))) (fun i hi => gm_lt ((hC j (by omega)).2 i hi) (hS6 _ hk6)); omega) (by have := pq_lt24 hS6; omega)).mp c47
          have hyes : CU C S (hcv g s j) j := ⟨c33, pq_inj (fun i hi => gm_lt ((hC j (by omega)).2 i hi) (hS6 _ hk6)) hS6 e47⟩
          refine go_iload_3 (DX4_culpritIn.at 27 rfl) ?_
          exact go_iret (DX4_culpritIn.at 28 rfl) rfl rfl (RI.mk ⟨rfl, Or.inl ⟨j, by omega, rfl, hyes, hb⟩⟩)
  refine go_aload_0 (DX4_culpritIn.at 0 rfl) ?_
  refine go_iload_1 (DX4_culpritIn.at 1 rfl) ?_
  refine go_aload_0 (DX4_culpritIn.at 2 rfl) ?_
  refine go_cVx0 (DX4_culpritIn.at 3 rfl) nX4_104 vX4_allCells (by omega) (c_allCells hS hL (by omega)) hS.1 rfl (Nat.le_of_ble_eq_true rfl) ?_
  refine go_cVx2 (DX4_culpritIn.at 4 rfl) nX4_126 vX4_sumsOver (by omega) (c_sumsOver hS hL hC ht (by omega) (fun c hc _ => hV c hc) (by omega)) hS.1 rfl (Nat.le_of_ble_eq_true rfl) ?_
  rw [← hSe]
  refine go_istore_2 (DX4_culpritIn.at 5 rfl) ?_
  refine go_iconst (v := nI 0) (DX4_culpritIn.at 6 rfl) (by decide) ?_
  refine go_istore_3 (DX4_culpritIn.at 7 rfl) ?_
  exact loop (nc g s) 0 none (by omega) (fun k hk => absurd hk (Nat.not_lt_zero k))

end SW
end
section
/-! LINEAR ALGEBRA over the field: functionals on six checks; what is left of a column behind a basis -/
def B6 (v : Nat → Nat) : Prop := ∀ i, i < 6 → v i < 16
def ev (l v : Nat → Nat) : Nat := ((gm (l 0) (v 0) ^^^ gm (l 1) (v 1)) ^^^ (gm (l 2) (v 2) ^^^ gm (l 3) (v 3))) ^^^ (gm (l 4) (v 4) ^^^ gm (l 5) (v 5))
theorem ev_lt {l v : Nat → Nat} (hl : B6 l) (hv : B6 v) : ev l v < 16 := by
  unfold ev
  have h : ∀ i, i < 6 → gm (l i) (v i) < 16 := fun i hi => gm_lt (hl i hi) (hv i hi)
  exact xor_lt (xor_lt (xor_lt (h 0 (by decide)) (h 1 (by decide))) (xor_lt (h 2 (by decide)) (h 3 (by decide)))) (xor_lt (h 4 (by decide)) (h 5 (by decide)))
theorem ev_congr {l l' v v' : Nat → Nat} (h1 : ∀ i, i < 6 → l i = l' i) (h2 : ∀ i, i < 6 → v i = v' i) : ev l v = ev l' v' := by
  unfold ev
  rw [h1 0 (by decide), h1 1 (by decide), h1 2 (by decide), h1 3 (by decide), h1 4 (by decide), h1 5 (by decide), h2 0 (by decide), h2 1 (by decide), h2 2 (by decide), h2 3 (by decide), h2 4 (by decide), h2 5 (by decide)]
theorem xor4 (a b c d : Nat) : (a ^^^ b) ^^^ (c ^^^ d) = (a ^^^ c) ^^^ (b ^^^ d) := by
  rw [Nat.xor_assoc, Nat.xor_assoc, ← Nat.xor_assoc b c d, Nat.xor_comm b c, Nat.xor_assoc c b d]
theorem ev_xor_r {l u v : Nat → Nat} (hl : B6 l) (hu : B6 u) (hv : B6 v) : ev l (fun i => u i ^^^ v i) = ev l u ^^^ ev l v := by
  unfold ev
  have h : ∀ i, i < 6 → gm (l i) (u i ^^^ v i) = gm (l i) (u i) ^^^ gm (l i) (v i) := fun i hi => gm_xor (hl i hi) (hu i hi) (hv i hi)
  rw [h 0 (by decide), h 1 (by decide), h 2 (by decide), h 3 (by decide), h 4 (by decide), h 5 (by decide)]
  rw [xor4 (gm (l 0) (u 0)), xor4 (gm (l 2) (u 2)), xor4 (gm (l 4) (u 4)), xor4 (gm (l 0) (u 0) ^^^ gm (l 1) (u 1)), xor4 ((gm (l 0) (u 0) ^^^ gm (l 1) (u 1)) ^^^ (gm (l 2) (u 2) ^^^ gm (l 3) (u 3)))]
theorem ev_xor_l {l m v : Nat → Nat} (hl : B6 l) (hm : B6 m) (hv : B6 v) : ev (fun i => l i ^^^ m i) v = ev l v ^^^ ev m v := by
  unfold ev
  have h : ∀ i, i < 6 → gm (l i ^^^ m i) (v i) = gm (l i) (v i) ^^^ gm (m i) (v i) := fun i hi => xor_gm (hl i hi) (hm i hi) (hv i hi)
  rw [h 0 (by decide), h 1 (by decide), h 2 (by decide), h 3 (by decide), h 4 (by decide), h 5 (by decide)]
  rw [xor4 (gm (l 0) (v 0)), xor4 (gm (l 2) (v 2)), xor4 (gm (l 4) (v 4)), xor4 (gm (l 0) (v 0) ^^^ gm (l 1) (v 1)), xor4 ((gm (l 0) (v 0) ^^^ gm (l 1) (v 1)) ^^^ (gm (l 2) (v 2) ^^^ gm (l 3) (v 3)))]
theorem ev_gm_r {l v : Nat → Nat} {x : Nat} (hl : B6 l) (hv : B6 v) (hx : x < 16) : ev l (fun i => gm (v i) x) = gm (ev l v) x := by
  unfold ev
  have h : ∀ i, i < 6 → gm (l i) (gm (v i) x) = gm (gm (l i) (v i)) x := fun i hi => (gm_assoc (hl i hi) (hv i hi) hx).symm
  have hb : ∀ i, i < 6 → gm (l i) (v i) < 16 := fun i hi => gm_lt (hl i hi) (hv i hi)
  have b0 := hb 0 (by decide)
  have b1 := hb 1 (by decide)
  have b2 := hb 2 (by decide)
  have b3 := hb 3 (by decide)
  have b4 := hb 4 (by decide)
  have b5 := hb 5 (by decide)
  rw [h 0 (by decide), h 1 (by decide), h 2 (by decide), h 3 (by decide), h 4 (by decide), h 5 (by decide)]
  rw [xor_gm (xor_lt (xor_lt b0 b1) (xor_lt b2 b3)) (xor_lt b4 b5) hx, xor_gm (xor_lt b0 b1) (xor_lt b2 b3) hx, xor_gm b0 b1 hx, xor_gm b2 b3 hx, xor_gm b4 b5 hx]
theorem ev_comm {l v : Nat → Nat} (hl : B6 l) (hv : B6 v) : ev l v = ev v l := by
  unfold ev
  have h : ∀ i, i < 6 → gm (l i) (v i) = gm (v i) (l i) := fun i hi => gm_comm (hl i hi) (hv i hi)
  rw [h 0 (by decide), h 1 (by decide), h 2 (by decide), h 3 (by decide), h 4 (by decide), h 5 (by decide)]
theorem B6.gm {v : Nat → Nat} {x : Nat} (hv : B6 v) (hx : x < 16) : B6 (fun i => gm (v i) x) := fun i hi => gm_lt (hv i hi) hx
theorem B6.xor {u v : Nat → Nat} (hu : B6 u) (hv : B6 v) : B6 (fun i => u i ^^^ v i) := fun i hi => xor_lt (hu i hi) (hv i hi)
theorem B6.sgl {x k : Nat} (hx : x < 16) : B6 (sgl x k) := fun i _ => sgl_lt hx i
theorem ev_gm_l {l v : Nat → Nat} {x : Nat} (hl : B6 l) (hv : B6 v) (hx : x < 16) : ev (fun i => gm (l i) x) v = gm (ev l v) x := by
  rw [ev_comm (hl.gm hx) hv, ev_gm_r hv hl hx, ev_comm hv hl]
theorem ev_sgl {v : Nat → Nat} (hv : B6 v) {k : Nat} (hk : k < 6) : ev (sgl 1 k) v = v k := by
  have z : ∀ i, i < 6 → gm 0 (v i) = 0 := fun i hi => gm_0l (hv i hi)
  have o : ∀ i, i < 6 → gm 1 (v i) = v i := fun i hi => gm_1l (hv i hi)
  unfold ev
  rcases (show k = 0 ∨ k = 1 ∨ k = 2 ∨ k = 3 ∨ k = 4 ∨ k = 5 by omega) with rfl | rfl | rfl | rfl | rfl | rfl <;>
    simp [sgl, z 0 (by decide), z 1 (by decide), z 2 (by decide), z 3 (by decide), z 4 (by decide), z 5 (by decide), o 0 (by decide), o 1 (by decide), o 2 (by decide), o 3 (by decide), o 4 (by decide), o 5 (by decide)]
theorem ev_0 {l v : Nat → Nat} (hl : B6 l) (hv : ∀ i, i < 6 → v i = 0) : ev l v = 0 := by
  rw [ev_congr (l' := l) (v' := fun _ => 0) (fun _ _ => rfl) hv]
  unfold ev
  have h : ∀ i, i < 6 → gm (l i) 0 = 0 := fun i hi => gm_0 (hl i hi)
  rw [h 0 (by decide), h 1 (by decide), h 2 (by decide), h 3 (by decide), h 4 (by decide), h 5 (by decide)]
  rfl
/-- a number's bit -/
abbrev bit (M c : Nat) : Prop := M / 2 ^ c % 2 = 1
def xsum (f : Nat → Nat) (M : Nat) : Nat → Nat
  | 0 => 0
  | j + 1 => xsum f M j ^^^ (if M / 2 ^ j % 2 = 1 then f j else 0)
theorem ev_vsum {l : Nat → Nat} {C : Nat → Nat → Nat} {V : Nat → Nat} {M n : Nat} (hl : B6 l) (hC : ∀ c, c < n → B6 (C c)) (hV : ∀ c, c < n → bit M c → V c < 16) : ∀ j, j ≤ n → ev l (vsum C V M j) = xsum (fun c => gm (ev l (C c)) (V c)) M j
  | 0, _ => ev_0 hl (fun _ _ => rfl)
  | j + 1, hj => by
    have ih := ev_vsum hl hC hV j (by omega)
    have hb := vsum_lt hC hV j (by omega)
    show ev l (fun i => vsum C V M j i ^^^ (if M / 2 ^ j % 2 = 1 then gm (C j i) (V j) else 0)) = xsum _ M j ^^^ (if M / 2 ^ j % 2 = 1 then gm (ev l (C j)) (V j) else 0)
    by_cases q : M / 2 ^ j % 2 = 1
    · rw [if_pos q, ← ih, ← ev_gm_r hl (hC j (by omega)) (hV j (by omega) q), ← ev_xor_r hl hb ((hC j (by omega)).gm (hV j (by omega) q))]
      exact ev_congr (fun _ _ => rfl) (fun i _ => by rw [if_pos q])
    · rw [if_neg q, Nat.xor_zero, ← ih]
      exact ev_congr (fun _ _ => rfl) (fun i _ => by rw [if_neg q, Nat.xor_zero])
/-- what is left of v behind the first p of the basis U with the leads K -/
def rst (U : Nat → Nat → Nat) (K : Nat → Nat) : Nat → (Nat → Nat) → Nat → Nat
  | 0, v => v
  | p + 1, v => fun i => rst U K p v i ^^^ gm (U p i) (rst U K p v (K p))
/-- the functional that reads the place i of what is left -/
def lam (U : Nat → Nat → Nat) (K : Nat → Nat) : Nat → Nat → Nat → Nat
  | 0, i => sgl 1 i
  | p + 1, i => fun k => lam U K p i k ^^^ gm (lam U K p (K p) k) (U p i)
def BasOK (U : Nat → Nat → Nat) (K : Nat → Nat) (r : Nat) : Prop := ∀ p, p < r → B6 (U p) ∧ K p < 6
theorem rst_lt {U : Nat → Nat → Nat} {K : Nat → Nat} {r : Nat} (h : BasOK U K r) : ∀ p, p ≤ r → ∀ {v : Nat → Nat}, B6 v → B6 (rst U K p v)
  | 0, _, _, hv => hv
  | p + 1, hp, _, hv => (rst_lt h p (by omega) hv).xor ((h p (by omega)).1.gm (rst_lt h p (by omega) hv _ (h p (by omega)).2))
theorem lam_lt {U : Nat → Nat → Nat} {K : Nat → Nat} {r : Nat} (h : BasOK U K r) : ∀ p, p ≤ r → ∀ i, i < 6 → B6 (lam U K p i)
  | 0, _, i, _ => B6.sgl (by decide)
  | p + 1, hp, i, hi => (lam_lt h p (by omega) i hi).xor ((lam_lt h p (by omega) _ (h p (by omega)).2).gm ((h p (by omega)).1 i hi))
theorem lam_ev {U : Nat → Nat → Nat} {K : Nat → Nat} {r : Nat} (h : BasOK U K r) : ∀ p, p ≤ r → ∀ i, i < 6 → ∀ {v : Nat → Nat}, B6 v → ev (lam U K p i) v = rst U K p v i
  | 0, _, i, hi, v, hv => ev_sgl hv hi
  | p + 1, hp, i, hi, v, hv => by
    have hK := (h p (by omega)).2
    have hU := (h p (by omega)).1 i hi
    have l1 := lam_lt h p (by omega) i hi
    have l2 := lam_lt h p (by omega) (K p) hK
    show ev (fun k => lam U K p i k ^^^ gm (lam U K p (K p) k) (U p i)) v = rst U K p v i ^^^ gm (U p i) (rst U K p v (K p))
    rw [ev_xor_l l1 (l2.gm hU) hv, ev_gm_l l2 hv hU, lam_ev h p (by omega) i hi hv, lam_ev h p (by omega) (K p) hK hv, gm_comm (rst_lt h p (by omega) hv _ hK) hU]
/-- a functional that is 0 on the basis doesn't see what is taken out -/
theorem ev_rst {U : Nat → Nat → Nat} {K : Nat → Nat} {r : Nat} (h : BasOK U K r) {l : Nat → Nat} (hl : B6 l) (h0 : ∀ p, p < r → ev l (U p) = 0) : ∀ p, p ≤ r → ∀ {v : Nat → Nat}, B6 v → ev l (rst U K p v) = ev l v
  | 0, _, _, _ => rfl
  | p + 1, hp, v, hv => by
    have hx := rst_lt h p (by omega) hv
    show ev l (fun i => rst U K p v i ^^^ gm (U p i) (rst U K p v (K p))) = ev l v
    rw [ev_xor_r hl hx ((h p (by omega)).1.gm (hx _ (h p (by omega)).2)), ev_gm_r hl (h p (by omega)).1 (hx _ (h p (by omega)).2), h0 p (by omega), gm_0l (hx _ (h p (by omega)).2), Nat.xor_zero, ev_rst h hl h0 p (by omega) hv]
theorem rst_0 {U : Nat → Nat → Nat} {K : Nat → Nat} {r : Nat} (h : BasOK U K r) {p : Nat} (hp : p < r) {v : Nat → Nat} (hv : ∀ i, i < 6 → rst U K p v i = 0) : ∀ i, i < 6 → rst U K (p + 1) v i = 0 := by
  intro i hi
  show rst U K p v i ^^^ gm (U p i) (rst U K p v (K p)) = 0
  rw [hv i hi, hv _ (h p hp).2, gm_0 ((h p hp).1 i hi)]
  rfl
end
section
/-! WHAT A BASIS OF SOME COLUMNS KNOWS -/
theorem php : ∀ (N : Nat) (l : List Nat), l.Nodup → (∀ x ∈ l, x < N) → l.length ≤ N
  | 0, l, _, h => by
    cases l with
    | nil => exact Nat.le_refl _
    | cons a l => exact absurd (h a List.mem_cons_self) (Nat.not_lt_zero a)
  | N + 1, l, hn, h => by
    have h1 : (l.erase N).Nodup := hn.erase N
    have h2 : ∀ x ∈ l.erase N, x < N := by
      intro x hx
      have h3 := (hn.mem_erase_iff).mp hx
      have h4 := h x h3.2
      have h5 := h3.1
      omega
    have h6 := php N _ h1 h2
    have h7 : l.length ≤ (l.erase N).length + 1 := by
      rw [List.length_erase]
      split <;> omega
    omega
/-- six different places below six are all of them -/
theorem six_all {K : Nat → Nat} (hK : ∀ p, p < 6 → K p < 6) (hd : ∀ p q, p < q → q < 6 → K p ≠ K q) {i : Nat} (hi : i < 6) : ∃ p, p < 6 ∧ K p = i := by
  apply Classical.byContradiction
  intro hno
  have hn : ∀ p, p < 6 → K p ≠ i := fun p hp q => hno ⟨p, hp, q⟩
  have h := php 6 [K 0, K 1, K 2, K 3, K 4, K 5, i] (by
    simp only [List.nodup_cons, List.mem_cons, List.not_mem_nil, or_false, not_or, not_false_eq_true, and_true, List.nodup_nil]
    exact ⟨⟨hd 0 1 (by decide) (by decide), hd 0 2 (by decide) (by decide), hd 0 3 (by decide) (by decide), hd 0 4 (by decide) (by decide), hd 0 5 (by decide) (by decide), hn 0 (by decide)⟩,
      ⟨hd 1 2 (by decide) (by decide), hd 1 3 (by decide) (by decide), hd 1 4 (by decide) (by decide), hd 1 5 (by decide) (by decide), hn 1 (by decide)⟩,
      ⟨hd 2 3 (by decide) (by decide), hd 2 4 (by decide) (by decide), hd 2 5 (by decide) (by decide), hn 2 (by decide)⟩,
      ⟨hd 3 4 (by decide) (by decide), hd 3 5 (by decide) (by decide), hn 3 (by decide)⟩,
      ⟨hd 4 5 (by decide) (by decide), hn 4 (by decide)⟩, hn 5 (by decide)⟩) (by
    intro x hx
    simp only [List.mem_cons, List.not_mem_nil, or_false] at hx
    rcases hx with rfl | rfl | rfl | rfl | rfl | rfl | rfl
    · exact hK 0 (by decide)
    · exact hK 1 (by decide)
    · exact hK 2 (by decide)
    · exact hK 3 (by decide)
    · exact hK 4 (by decide)
    · exact hK 5 (by decide)
    · exact hi)
  simp at h
/-- each column of the set can be told from the others by a functional -/
def Dual (C : Nat → Nat → Nat) (M n c : Nat) (l : Nat → Nat) : Prop := B6 l ∧ ev l (C c) = 1 ∧ ∀ c', c' < n → bit M c' → c' ≠ c → ev l (C c') = 0
def Van (C : Nat → Nat → Nat) (M n : Nat) (l : Nat → Nat) : Prop := B6 l ∧ ∀ c, c < n → bit M c → ev l (C c) = 0
def IndP (C : Nat → Nat → Nat) (M n : Nat) : Prop := ∀ c, c < n → bit M c → ∃ l, Dual C M n c l
def pcn (M : Nat) : Nat → Nat
  | 0 => 0
  | j + 1 => pcn M j + M / 2 ^ j % 2
def BInv (C : Nat → Nat → Nat) (M j r : Nat) (U : Nat → Nat → Nat) (K : Nat → Nat) : Prop :=
  r ≤ 6 ∧ BasOK U K r ∧ (∀ c, c < j → bit M c → ∀ i, i < 6 → rst U K r (C c) i = 0) ∧ (∀ l, Van C M j l → ∀ p, p < r → ev l (U p) = 0) ∧
  (∀ p, p < r → ∀ v, B6 v → rst U K r v (K p) = 0) ∧ (∀ p q, p < q → q < r → K p ≠ K q) ∧ r ≤ pcn M j ∧ (r = pcn M j ↔ IndP C M j)
theorem rst_congr {U U' : Nat → Nat → Nat} {K K' : Nat → Nat} {r : Nat} (hU : ∀ p, p < r → ∀ i, i < 6 → U p i = U' p i) (hK : ∀ p, p < r → K p = K' p) (hK6 : ∀ p, p < r → K p < 6) : ∀ p, p ≤ r → ∀ (v : Nat → Nat) i, i < 6 → rst U K p v i = rst U' K' p v i
  | 0, _, _, _, _ => rfl
  | p + 1, hp, v, i, hi => by
    have ih := rst_congr hU hK hK6 p (by omega) v
    show rst U K p v i ^^^ gm (U p i) (rst U K p v (K p)) = rst U' K' p v i ^^^ gm (U' p i) (rst U' K' p v (K' p))
    rw [ih i hi, hU p (by omega) i hi, ← hK p (by omega), ih (K p) (hK6 p (by omega))]
theorem BInv.zero {C : Nat → Nat → Nat} {M : Nat} {U : Nat → Nat → Nat} {K : Nat → Nat} : BInv C M 0 0 U K :=
  ⟨Nat.zero_le _, fun p hp => absurd hp (Nat.not_lt_zero p), fun c hc => absurd hc (Nat.not_lt_zero c), fun l _ p hp => absurd hp (Nat.not_lt_zero p), fun p hp => absurd hp (Nat.not_lt_zero p), fun p q _ hq => absurd hq (Nat.not_lt_zero q), Nat.le_refl _, ⟨fun _ c hc => absurd hc (Nat.not_lt_zero c), fun _ => rfl⟩⟩
theorem lt_s1 {c j : Nat} (h : c < j + 1) : c < j ∨ c = j := by omega
theorem BInv.skip {C : Nat → Nat → Nat} {M j r : Nat} {U : Nat → Nat → Nat} {K : Nat → Nat} (h : BInv C M j r U K) (hb : ¬ bit M j) : BInv C M (j + 1) r U K := by
  obtain ⟨h1, h2, h3, h4, h5, h6, h7, h8⟩ := h
  have e0 : M / 2 ^ j % 2 = 0 := by
    have : ¬ M / 2 ^ j % 2 = 1 := hb
    omega
  have ep : pcn M (j + 1) = pcn M j := by show pcn M j + M / 2 ^ j % 2 = _; rw [e0]; rfl
  have old : ∀ c, c < j + 1 → bit M c → c < j := fun c hc hbc => (lt_s1 hc).elim id (fun q => absurd (q ▸ hbc) hb)
  refine ⟨h1, h2, fun c hc hbc => h3 c (old c hc hbc) hbc, fun l hl => h4 l ⟨hl.1, fun c hc hbc => hl.2 c (by omega) hbc⟩, h5, h6, by rw [ep]; exact h7, ?_⟩
  rw [ep, h8]
  constructor
  · intro hI c hc hbc
    obtain ⟨l, l1, l2, l3⟩ := hI c (old c hc hbc) hbc
    exact ⟨l, l1, l2, fun c' hc' hb' hne => l3 c' (old c' hc' hb') hb' hne⟩
  · intro hI c hc hbc
    obtain ⟨l, l1, l2, l3⟩ := hI c (by omega) hbc
    exact ⟨l, l1, l2, fun c' hc' hb' hne => l3 c' (by omega) hb' hne⟩
theorem BInv.dep {C : Nat → Nat → Nat} {M j r : Nat} {U : Nat → Nat → Nat} {K : Nat → Nat} (h : BInv C M j r U K) (hC : B6 (C j)) (hb : bit M j) (hw : ∀ i, i < 6 → rst U K r (C j) i = 0) : BInv C M (j + 1) r U K := by
  obtain ⟨h1, h2, h3, h4, h5, h6, h7, h8⟩ := h
  have hb' : M / 2 ^ j % 2 = 1 := hb
  have ep : pcn M (j + 1) = pcn M j + 1 := by show pcn M j + M / 2 ^ j % 2 = _; rw [hb']
  refine ⟨h1, h2, fun c hc hbc => ?_, fun l hl => h4 l ⟨hl.1, fun c hc hbc => hl.2 c (by omega) hbc⟩, h5, h6, by omega, ?_⟩
  · rcases lt_s1 hc with q | rfl
    · exact h3 c q hbc
    · exact hw
  · constructor
    · intro e; omega
    · intro hI
      obtain ⟨l, l1, l2, l3⟩ := hI j (by omega) hb
      have hv : Van C M j l := ⟨l1, fun c hc hbc => l3 c (by omega) hbc (by omega)⟩
      have e1 := ev_rst h2 l1 (h4 l hv) r (Nat.le_refl r) hC
      rw [ev_0 l1 hw, l2] at e1
      cases e1
theorem BInv.room {C : Nat → Nat → Nat} {M j r : Nat} {U : Nat → Nat → Nat} {K : Nat → Nat} (h : BInv C M j r U K) {v : Nat → Nat} (hv : B6 v) {i : Nat} (hi : i < 6) (hw : rst U K r v i ≠ 0) : r < 6 := by
  obtain ⟨h1, h2, -, -, h5, h6, -⟩ := h
  rcases Nat.lt_or_ge r 6 with q | q
  · exact q
  · exfalso
    have e : r = 6 := by omega
    subst e
    obtain ⟨p, hp, e⟩ := six_all (fun p hp => (h2 p hp).2) h6 hi
    exact hw (by rw [← e]; exact h5 p hp v hv)
/-- one more column, that isn't 0 behind the basis -/
theorem BInv.more {C : Nat → Nat → Nat} {M j r ld : Nat} {U U' : Nat → Nat → Nat} {K K' : Nat → Nat} (h : BInv C M j r U K) (hC : B6 (C j)) (hCs : ∀ c, c < j → B6 (C c)) (hb : bit M j) (hr : r < 6) (hld : ld < 6) (hw : rst U K r (C j) ld ≠ 0)
    (hU : ∀ p, p < r → ∀ i, i < 6 → U p i = U' p i) (hK : ∀ p, p < r → K p = K' p) (hUr : ∀ i, i < 6 → U' r i = gm (rst U K r (C j) i) (gv (rst U K r (C j) ld))) (hKr : K' r = ld) : BInv C M (j + 1) (r + 1) U' K' := by
  obtain ⟨h1, h2, h3, h4, h5, h6, h7, h8⟩ := h
  have hb' : M / 2 ^ j % 2 = 1 := hb
  have ep : pcn M (j + 1) = pcn M j + 1 := by show pcn M j + M / 2 ^ j % 2 = _; rw [hb']
  have hwB := rst_lt h2 r (Nat.le_refl r) hC
  have hx : rst U K r (C j) ld < 16 := hwB ld hld
  have hg := gv_lt hx
  have hold : ∀ p, p ≤ r → ∀ (v : Nat → Nat) i, i < 6 → rst U K p v i = rst U' K' p v i := rst_congr hU hK (fun p hp => (h2 p hp).2)
  have hB' : BasOK U' K' (r + 1) := by
    intro p hp
    rcases lt_s1 hp with q | rfl
    · exact ⟨fun i hi => by rw [← hU p q i hi]; exact (h2 p q).1 i hi, by rw [← hK p q]; exact (h2 p q).2⟩
    · exact ⟨fun i hi => by rw [hUr i hi]; exact gm_lt (hwB i hi) hg, by rw [hKr]; exact hld⟩
  have step : ∀ (v : Nat → Nat) i, i < 6 → rst U' K' (r + 1) v i = rst U K r v i ^^^ gm (gm (rst U K r (C j) i) (gv (rst U K r (C j) ld))) (rst U K r v ld) := by
    intro v i hi
    show rst U' K' r v i ^^^ gm (U' r i) (rst U' K' r v (K' r)) = _
    rw [hKr, ← hold r (Nat.le_refl r) v i hi, ← hold r (Nat.le_refl r) v ld hld, hUr i hi]
  have unit : gm (rst U K r (C j) ld) (gv (rst U K r (C j) ld)) = 1 := gm_gv hx hw
  -- the functional that tells the new column
  have hlB := lam_lt h2 r (Nat.le_refl r) ld hld
  have hmu : ∀ v, B6 v → ev (fun k => gm (lam U K r ld k) (gv (rst U K r (C j) ld))) v = gm (rst U K r v ld) (gv (rst U K r (C j) ld)) := fun v hv => by
    rw [ev_gm_l hlB hv hg, lam_ev h2 r (Nat.le_refl r) ld hld hv]
  refine ⟨by omega, hB', fun c hc hbc i hi => ?_, fun l hl p hp => ?_, fun p hp v hv => ?_, fun p q hpq hq => ?_, by omega, ?_⟩
  · rw [step (C c) i hi]
    rcases lt_s1 hc with q | rfl
    · rw [h3 c q hbc i hi, h3 c q hbc ld hld, gm_0 (gm_lt (hwB i hi) hg)]
      rfl
    · rw [gm_assoc (hwB i hi) hg hx, gm_comm hg hx, unit, gm_1 (hwB i hi), Nat.xor_self]
  · have hlo : Van C M j l := ⟨hl.1, fun c hc hbc => hl.2 c (by omega) hbc⟩
    rcases lt_s1 hp with q | rfl
    · rw [ev_congr (l' := l) (v' := U p) (fun _ _ => rfl) (fun i hi => (hU p q i hi).symm)]
      exact h4 l hlo p q
    · rw [ev_congr (l' := l) (v' := fun i => gm (rst U K p (C j) i) (gv (rst U K p (C j) ld))) (fun _ _ => rfl) hUr, ev_gm_r hl.1 hwB hg, ev_rst h2 hl.1 (h4 l hlo) p (Nat.le_refl p) hC, hl.2 j (by omega) hb, gm_0l hg]
  · rcases lt_s1 hp with q | rfl
    · rw [← hK p q, step v _ (h2 p q).2, h5 p q v hv, h5 p q (C j) hC, gm_0l hg, gm_0l (rst_lt h2 r (Nat.le_refl r) hv ld hld)]
      rfl
    · rw [hKr, step v ld hld, unit, gm_1l (rst_lt h2 p (Nat.le_refl p) hv ld hld), Nat.xor_self]
  · rcases lt_s1 hq with qq | rfl
    · rw [← hK p (by omega), ← hK q qq]
      exact h6 p q hpq qq
    · rw [hKr, ← hK p hpq]
      intro e
      exact hw (by rw [← e]; exact h5 p hpq (C j) hC)
  · rw [ep]
    constructor
    · intro e c hc hbc
      have hI := h8.mp (by omega)
      have hmu0 : ∀ c', c' < j → bit M c' → ev (fun k => gm (lam U K r ld k) (gv (rst U K r (C j) ld))) (C c') = 0 := fun c' hc' hb' => by
        rw [hmu (C c') (hCs c' hc'), h3 c' hc' hb' ld hld, gm_0l hg]
      rcases lt_s1 hc with q | rfl
      · obtain ⟨l, l1, l2, l3⟩ := hI c q hbc
        have hy := ev_lt l1 hC
        refine ⟨fun k => l k ^^^ gm (gm (lam U K r ld k) (gv (rst U K r (C j) ld))) (ev l (C j)), l1.xor ((hlB.gm hg).gm hy), ?_, fun c' hc' hb' hne => ?_⟩
        · rw [ev_xor_l l1 ((hlB.gm hg).gm hy) (hCs c q), ev_gm_l (hlB.gm hg) (hCs c q) hy, hmu0 c q hbc, gm_0l hy, l2]
          rfl
        · rcases lt_s1 hc' with q' | rfl
          · rw [ev_xor_l l1 ((hlB.gm hg).gm hy) (hCs c' q'), ev_gm_l (hlB.gm hg) (hCs c' q') hy, hmu0 c' q' hb', gm_0l hy, l3 c' q' hb' hne]
            rfl
          · rw [ev_xor_l l1 ((hlB.gm hg).gm hy) hC, ev_gm_l (hlB.gm hg) hC hy, hmu _ hC, unit, gm_1l hy, Nat.xor_self]
      · exact ⟨_, hlB.gm hg, by rw [hmu _ hC, unit], fun c' hc' hb' hne => hmu0 c' (by omega) hb'⟩
    · intro hI
      have : r = pcn M j := h8.mpr (fun c hc hbc => by
        obtain ⟨l, l1, l2, l3⟩ := hI c (by omega) hbc
        exact ⟨l, l1, l2, fun c' hc' hb' hne => l3 c' (by omega) hb' hne⟩)
      omega
end
section
/-! THE CLASS'S BASIS AND PLAN -/
theorem bit_tb {M c : Nat} : bit M c ↔ M.testBit c = true := by
  rw [Nat.testBit_eq_decide_div_mod_eq]
  simp
theorem tb_m1 : ∀ c, c < 32 → (4294967295 : Nat).testBit c = true := by decide
theorem bit_clr {M c c' : Nat} (h' : c' < 32) : bit (clr M c) c' ↔ bit M c' ∧ c' ≠ c := by
  rw [bit_tb, bit_tb]
  unfold clr
  rw [Nat.testBit_and, Nat.testBit_xor, Nat.testBit_two_pow, tb_m1 c' h']
  by_cases e : c = c'
  · subst e; simp
  · simp [e, Ne.symm e]
theorem clr_le {M c : Nat} : clr M c ≤ M := Nat.and_le_left
theorem solve_math {C : Nat → Nat → Nat} {M n c r : Nat} {U : Nat → Nat → Nat} {K : Nat → Nat} {S : Nat → Nat} (hn : n ≤ 20) (hC : ∀ c, c < n → B6 (C c)) (hc : c < n) (hb : bit M c) (hB : BInv C (clr M c) n r U K) (hS : B6 S) :
    ((∀ i, i < 6 → rst U K r (C c) i = 0) → ¬ ∃ l, Dual C M n c l) ∧
    ((∃ i, i < 6 ∧ rst U K r (C c) i ≠ 0) → (∃ l, Dual C M n c l) ∧
      ((∀ i, i < 6 → gm (rst U K r (C c) i) (gm (rst U K r S (ldv (rst U K r (C c)))) (gv (rst U K r (C c) (ldv (rst U K r (C c)))))) = rst U K r S i) ↔ ∀ l, Van C M n l → ev l S = 0) ∧
      ((∀ i, i < 6 → gm (rst U K r (C c) i) (gm (rst U K r S (ldv (rst U K r (C c)))) (gv (rst U K r (C c) (ldv (rst U K r (C c)))))) = rst U K r S i) → ∀ l, Dual C M n c l → ev l S = gm (rst U K r S (ldv (rst U K r (C c)))) (gv (rst U K r (C c) (ldv (rst U K r (C c))))))) := by
  obtain ⟨h1, h2, h3, h4, -⟩ := hB
  have hv : ∀ l, B6 l → (∀ c', c' < n → bit M c' → c' ≠ c → ev l (C c') = 0) → ∀ v, B6 v → ev l (rst U K r v) = ev l v := by
    intro l hl h0 v hv
    exact ev_rst h2 hl (h4 l ⟨hl, fun c' hc' hb' => by
      have q := (bit_clr (by omega)).mp hb'
      exact h0 c' hc' q.1 q.2⟩) r (Nat.le_refl r) hv
  have hoB := rst_lt h2 r (Nat.le_refl r) (hC c hc)
  have hwB := rst_lt h2 r (Nat.le_refl r) hS
  refine ⟨fun h0 ⟨l, l1, l2, l3⟩ => ?_, fun hne => ?_⟩
  · have e := hv l l1 l3 (C c) (hC c hc)
    rw [ev_0 l1 h0, l2] at e
    cases e
  · have hld := ldv_lt (rst U K r (C c))
    have hsp := ldv_spec hne
    generalize ldv (rst U K r (C c)) = ld at hld hsp ⊢
    have hx := hoB ld hld
    have hg := gv_lt hx
    have hun := gm_gv hx hsp
    have hX : gm (rst U K r S ld) (gv (rst U K r (C c) ld)) < 16 := gm_lt (hwB ld hld) hg
    have hL := lam_lt h2 r (Nat.le_refl r) ld hld
    have hmu : ∀ v, B6 v → ev (fun k => gm (lam U K r ld k) (gv (rst U K r (C c) ld))) v = gm (rst U K r v ld) (gv (rst U K r (C c) ld)) := fun v hv => by
      rw [ev_gm_l hL hv hg, lam_ev h2 r (Nat.le_refl r) ld hld hv]
    have hcl : ∀ c', c' < n → bit M c' → c' ≠ c → ∀ i, i < 6 → rst U K r (C c') i = 0 := fun c' hc' hb' hne' => h3 c' hc' ((bit_clr (by omega)).mpr ⟨hb', hne'⟩)
    refine ⟨⟨_, hL.gm hg, by rw [hmu _ (hC c hc), hun], fun c' hc' hb' hne' => by rw [hmu _ (hC c' hc'), hcl c' hc' hb' hne' ld hld, gm_0l hg]⟩, ⟨fun he l hl => ?_, fun ha i hi => ?_⟩, fun he l hl => ?_⟩
    · have e1 := hv l hl.1 (fun c' hc' hb' _ => hl.2 c' hc' hb') S hS
      have e2 := hv l hl.1 (fun c' hc' hb' _ => hl.2 c' hc' hb') (C c) (hC c hc)
      rw [← e1, ev_congr (l' := l) (v' := fun i => gm (rst U K r (C c) i) (gm (rst U K r S ld) (gv (rst U K r (C c) ld)))) (fun _ _ => rfl) (fun i hi => (he i hi).symm), ev_gm_r hl.1 hoB hX, e2, hl.2 c hc hb, gm_0l hX]
    · have hLi := lam_lt h2 r (Nat.le_refl r) i hi
      have hoi := hoB i hi
      have key : ∀ v, B6 v → ev (fun k => lam U K r i k ^^^ gm (gm (lam U K r ld k) (gv (rst U K r (C c) ld))) (rst U K r (C c) i)) v = rst U K r v i ^^^ gm (gm (rst U K r v ld) (gv (rst U K r (C c) ld))) (rst U K r (C c) i) := fun v hv => by
        rw [ev_xor_l hLi ((hL.gm hg).gm hoi) hv, ev_gm_l (hL.gm hg) hv hoi, hmu v hv, lam_ev h2 r (Nat.le_refl r) i hi hv]
      have h0 := ha _ ⟨hLi.xor ((hL.gm hg).gm hoi), fun c' hc' hb' => by
        rw [key _ (hC c' hc')]
        by_cases e : c' = c
        · subst e
          rw [hun, gm_1l hoi, Nat.xor_self]
        · rw [hcl c' hc' hb' e i hi, hcl c' hc' hb' e ld hld, gm_0l hg, gm_0l hoi]
          rfl⟩
      rw [key S hS] at h0
      rw [gm_comm hoi hX]
      exact (xor_eq0 h0).symm
    · obtain ⟨l1, l2, l3⟩ := hl
      have e1 := hv l l1 l3 S hS
      have e2 := hv l l1 l3 (C c) (hC c hc)
      rw [← e1, ev_congr (l' := l) (v' := fun i => gm (rst U K r (C c) i) (gm (rst U K r S ld) (gv (rst U K r (C c) ld)))) (fun _ _ => rfl) (fun i hi => (he i hi).symm), ev_gm_r l1 hoB hX, e2, l2, gm_1l hX]
def BsAt (h : List va_E) (b : Nat) (r : Nat) (cf lf : Nat → Int32) : Prop := h[b]? = some (.inr (0, [.ref (b + 1), .ref (b + 2), .int (nI r)])) ∧ h[b + 1]? = some (ar 6 cf) ∧ h[b + 2]? = some (ar 6 lf)
def BsRep (cf lf : Nat → Int32) (r : Nat) (U : Nat → Nat → Nat) (K : Nat → Nat) : Prop := ∀ p, p < r → cf p = nI (pq 6 (U p)) ∧ lf p = nI (K p)
theorem pq_eq0 {w : Nat → Nat} (hw : B6 w) : nI (pq 6 w) = 0 ↔ ∀ i, i < 6 → w i = 0 := by
  rw [nI_eq0 (by have := pq_lt24 hw; omega)]
  constructor
  · intro h
    exact pq_inj hw (fun _ _ => by decide) (h.trans (pq_0 6).symm)
  · intro h
    rw [pq_congr h, pq_0]
section BP
variable {E : AEnv} {d : Nat} {h : List va_E} {b : Nat} {σ : Rows} {g s T sh : Nat}
theorem c_restOf {r : Nat} {cf lf : Nat → Int32} {U : Nat → Nat → Nat} {K : Nat → Nat} {v : Nat → Nat} (hB : BsAt h b r cf lf) (hr : r ≤ 6) (hok : BasOK U K r) (hrep : BsRep cf lf r U K) (hv : B6 v) (hd : 1 ≤ d) : Calls E mX0_restOf d 0 0 [.ref b, .int (nI (pq 6 v))] h (RX (nI (pq 6 (rst U K r v))) h) := by
  refine Calls.of (ls := [some (.ref b), some (.int (nI (pq 6 v))), none, none]) (by decide +kernel) rfl (Nat.le_of_ble_eq_true rfl) (cat_ok rfl) ?_
  have loop : ∀ (m j : Nat), j + m = r → Go E mX0_restOf d 0 0 4 [some (.ref b), some (.int (nI (pq 6 v))), some (.int (nI (pq 6 (rst U K j v)))), some (.int (nI j))] [] h (RX (nI (pq 6 (rst U K r v))) h) := by
    intro m
    induction m with
    | zero =>
      intro j hj
      have ej : j = r := by omega
      subst ej
      refine go_iload_3 (DX0_restOf.at 4 rfl) ?_
      refine go_aload_0 (DX0_restOf.at 5 rfl) ?_
      refine go_getfield (DX0_restOf.at 6 rfl) fX0_18 hB.1 rfl ?_
      refine go_icmp_ge 44 (DX0_restOf.at 7 rfl) (by decide) (fun c9 => ?_) (fun c9 => absurd (Int32.le_refl _) c9)
      refine go_iload_2 (DX0_restOf.at 24 rfl) ?_
      exact go_iret (DX0_restOf.at 25 rfl) rfl rfl (RX.mk rfl rfl)
    | succ m ih =>
      intro j hj
      refine go_iload_3 (DX0_restOf.at 4 rfl) ?_
      refine go_aload_0 (DX0_restOf.at 5 rfl) ?_
      refine go_getfield (DX0_restOf.at 6 rfl) fX0_18 hB.1 rfl ?_
      refine go_icmp_ge 44 (DX0_restOf.at 7 rfl) (by decide) (fun c9 => absurd c9 (nI_ge (a := j) (b := r) (by omega) (by omega))) (fun c9 => ?_)
      refine go_iload_2 (DX0_restOf.at 8 rfl) ?_
      refine go_aload_0 (DX0_restOf.at 9 rfl) ?_
      refine go_getfield (DX0_restOf.at 10 rfl) fX0_9 hB.1 rfl ?_
      refine go_iload_3 (DX0_restOf.at 11 rfl) ?_
      refine go_cSx2 (DX0_restOf.at 12 rfl) nX0_46 vX5_at (by omega) (c_at (Or.inl hB.2.1) (show j < 6 by omega) (by decide)) (Nat.le_of_ble_eq_true rfl) ?_
      rw [(hrep j (by omega)).1]
      refine go_iload_2 (DX0_restOf.at 13 rfl) ?_
      refine go_aload_0 (DX0_restOf.at 14 rfl) ?_
      refine go_getfield (DX0_restOf.at 15 rfl) fX0_15 hB.1 rfl ?_
      refine go_iload_3 (DX0_restOf.at 16 rfl) ?_
      refine go_cSx2 (DX0_restOf.at 17 rfl) nX0_46 vX5_at (by omega) (c_at (Or.inl hB.2.2) (show j < 6 by omega) (by decide)) (Nat.le_of_ble_eq_true rfl) ?_
      rw [(hrep j (by omega)).2]
      refine go_cSx2 (DX0_restOf.at 18 rfl) nX0_50 vX5_element (by omega) (c_element (rst_lt hok j (by omega) hv) (hok j (by omega)).2) (Nat.le_of_ble_eq_true rfl) ?_
      refine go_cSx2 (DX0_restOf.at 19 rfl) nX0_53 vX5_scaled (by omega) (c_scaled (hok j (by omega)).1 (rst_lt hok j (by omega) hv _ (hok j (by omega)).2)) (Nat.le_of_ble_eq_true rfl) ?_
      refine go_ixor (DX0_restOf.at 20 rfl) ?_
      rw [nx_xor, pq_xor 6 _ _ (rst_lt hok j (by omega) hv) ((hok j (by omega)).1.gm (rst_lt hok j (by omega) hv _ (hok j (by omega)).2))]
      refine go_istore_2 (DX0_restOf.at 21 rfl) ?_
      refine go_iincN_3 (DX0_restOf.at 22 rfl) ?_
      refine go_goto 4 (DX0_restOf.at 23 rfl) (by decide) ?_
      exact ih (j + 1) (by omega)
  refine go_iload_1 (DX0_restOf.at 0 rfl) ?_
  refine go_istore_2 (DX0_restOf.at 1 rfl) ?_
  refine go_iconst (v := nI 0) (DX0_restOf.at 2 rfl) (by decide) ?_
  refine go_istore_3 (DX0_restOf.at 3 rfl) ?_
  exact loop r 0 (by omega)

theorem Only.bs {h h1 : List va_E} {b a : Nat} {e : va_E} (hO : Only b (b + 3) h h1) (h1' : b ≤ a) (h2 : a < b + 3) : Only b (b + 3) h (h1.set a e) := hO.trans (Only.set h1' h2)
theorem c_span {a M r0 : Nat} {cf0 lf0 : Nat → Int32} {C : Nat → Nat → Nat} (hB0 : BsAt h b r0 cf0 lf0) (hS : StAt h a σ) (hL : LayX σ g s T sh) (hC : ColX σ (nc g s) C) (hM : M < 2 ^ 31) (hab : a + 6 ≤ b ∨ b + 3 ≤ a) (hd : 2 ≤ d) : Calls E mX0_span d 0 0 [.ref b, .ref a, .int (nI M)] h (RV (fun h' => Only b (b + 3) h h' ∧ ∃ r U K cf lf, BsAt h' b r cf lf ∧ BsRep cf lf r U K ∧ BInv C M (nc g s) r U K)) := by
  refine Calls.of (ls := [some (.ref b), some (.ref a), some (.int (nI M)), none, none, none]) (by decide +kernel) rfl (Nat.le_of_ble_eq_true rfl) (cat_ok rfl) ?_
  have hn := hL.2.2.2.2.nc
  have loop : ∀ (m j : Nat) (h1 : List va_E) (r : Nat) (U : Nat → Nat → Nat) (K : Nat → Nat) (cf lf : Nat → Int32) (x4 x5 : Option Value), j + m = nc g s → Only b (b + 3) h h1 → BsAt h1 b r cf lf → BsRep cf lf r U K → BInv C M j r U K → Go E mX0_span d 0 0 7 [some (.ref b), some (.ref a), some (.int (nI M)), some (.int (nI j)), x4, x5] [] h1 (RV (fun h' => Only b (b + 3) h h' ∧ ∃ r U K cf lf, BsAt h' b r cf lf ∧ BsRep cf lf r U K ∧ BInv C M (nc g s) r U K)) := by
    intro m
    induction m with
    | zero =>
      intro j h1 r U K cf lf x4 x5 hj hO hB hrep hI
      have hS1 := hS.keep hO (by omega)
      have ej : j = nc g s := by omega
      subst ej
      refine go_iload_3 (DX0_span.at 5 rfl) ?_
      refine go_aload_1 (DX0_span.at 6 rfl) ?_
      refine go_cVx0 (DX0_span.at 7 rfl) nX0_22 vX4_cellCount (by omega) (c_cellCount hS1 hL) hS1.1 rfl (Nat.le_of_ble_eq_true rfl) ?_
      refine go_icmp_ge 106 (DX0_span.at 8 rfl) (by decide) (fun c12 => ?_) (fun c12 => absurd (Int32.le_refl _) c12)
      exact go_return (DX0_span.at 54 rfl) rfl (RV.mk ⟨hO, r, U, K, cf, lf, hB, hrep, hI⟩)
    | succ m ih =>
      intro j h1 r U K cf lf x4 x5 hj hO hB hrep hI
      have hS1 := hS.keep hO (by omega)
      refine go_iload_3 (DX0_span.at 5 rfl) ?_
      refine go_aload_1 (DX0_span.at 6 rfl) ?_
      refine go_cVx0 (DX0_span.at 7 rfl) nX0_22 vX4_cellCount (by omega) (c_cellCount hS1 hL) hS1.1 rfl (Nat.le_of_ble_eq_true rfl) ?_
      refine go_icmp_ge 106 (DX0_span.at 8 rfl) (by decide) (fun c12 => absurd c12 (nI_ge (a := j) (b := nc g s) (by omega) (by omega))) (fun c12 => ?_)
      refine go_iload_2 (DX0_span.at 9 rfl) ?_
      refine go_iload_3 (DX0_span.at 10 rfl) ?_
      refine go_ishr (DX0_span.at 11 rfl) ?_
      refine go_iconst (v := nI 1) (DX0_span.at 12 rfl) (by decide) ?_
      refine go_iand (DX0_span.at 13 rfl) ?_
      refine go_if_eq 35 (DX0_span.at 14 rfl) (by decide) (fun c20 => ?_) (fun c20 => ?_)
      · rw [nx_bit hM (by omega), nI_eq0 (by omega)] at c20
        have hnb : ¬ bit M j := fun q => by have q : M / 2 ^ j % 2 = 1 := q; omega
        refine go_iconst (v := nI 0) (DX0_span.at 21 rfl) (by decide) ?_
        refine go_istore_4 (DX0_span.at 22 rfl) ?_
        refine go_iload_4 (DX0_span.at 23 rfl) ?_
        refine go_if_eq 100 (DX0_span.at 24 rfl) (by decide) (fun c40 => ?_) (fun c40 => absurd (by decide) c40)
        refine go_iincN_3 (DX0_span.at 52 rfl) ?_
        refine go_goto 7 (DX0_span.at 53 rfl) (by decide) ?_
        exact ih (j + 1) h1 r U K cf lf _ x5 (by omega) hO hB hrep (hI.skip hnb)
      · rw [nx_bit hM (by omega), nI_eq0 (by omega)] at c20
        have hbj : bit M j := by show M / 2 ^ j % 2 = 1; omega
        have hwB : B6 (rst U K r (C j)) := rst_lt hI.2.1 r (Nat.le_refl r) (hC j (by omega)).2
        refine go_aload_0 (DX0_span.at 15 rfl) ?_
        refine go_aload_1 (DX0_span.at 16 rfl) ?_
        refine go_iload_3 (DX0_span.at 17 rfl) ?_
        refine go_cVx1 (DX0_span.at 18 rfl) nX0_28 vX4_columnOf (by omega) (c_columnOf hS1 (show j < 20 by omega) (by omega)) hS1.1 rfl (Nat.le_of_ble_eq_true rfl) ?_
        rw [(hC j (by omega)).1]
        refine go_cVx1 (DX0_span.at 19 rfl) nX0_32 vX0_restOf (by omega) (c_restOf hB hI.1 hI.2.1 hrep (hC j (by omega)).2 (by omega)) hB.1 rfl (Nat.le_of_ble_eq_true rfl) ?_
        refine go_goto 36 (DX0_span.at 20 rfl) (by decide) ?_
        refine go_istore_4 (DX0_span.at 22 rfl) ?_
        refine go_iload_4 (DX0_span.at 23 rfl) ?_
        refine go_if_eq 100 (DX0_span.at 24 rfl) (by decide) (fun c40 => ?_) (fun c40 => ?_)
        · refine go_iincN_3 (DX0_span.at 52 rfl) ?_
          refine go_goto 7 (DX0_span.at 53 rfl) (by decide) ?_
          exact ih (j + 1) h1 r U K cf lf _ x5 (by omega) hO hB hrep (hI.dep (hC j (by omega)).2 hbj ((pq_eq0 hwB).mp c40))
        · rw [pq_eq0 hwB] at c40
          have hex : ∃ i, i < 6 ∧ rst U K r (C j) i ≠ 0 := by
            apply Classical.byContradiction
            intro hno
            exact c40 (fun i hi => Classical.byContradiction fun q => hno ⟨i, hi, q⟩)
          have hr6 : r < 6 := by obtain ⟨i, hi, hw⟩ := hex; exact hI.room (hC j (by omega)).2 hi hw
          have hsp := ldv_spec hex
          refine go_aload_0 (DX0_span.at 25 rfl) ?_
          refine go_getfield (DX0_span.at 26 rfl) fX0_18 hB.1 rfl ?_
          refine go_bipush (v := nI 6) (DX0_span.at 27 rfl) (by decide) ?_
          refine go_icmp_ge 100 (DX0_span.at 28 rfl) (by decide) (fun c49 => absurd c49 (nI_ge (a := r) (b := 6) hr6 (by decide))) (fun c49 => ?_)
          refine go_iload_4 (DX0_span.at 29 rfl) ?_
          refine go_cSx1 (DX0_span.at 30 rfl) nX0_35 vX5_leadOf (by omega) (c_leadOf hwB (by omega)) (Nat.le_of_ble_eq_true rfl) ?_
          refine go_istore_5 (DX0_span.at 31 rfl) ?_
          refine go_aload_0 (DX0_span.at 32 rfl) ?_
          refine go_getfield (DX0_span.at 33 rfl) fX0_9 hB.1 rfl ?_
          refine go_aload_0 (DX0_span.at 34 rfl) ?_
          refine go_getfield (DX0_span.at 35 rfl) fX0_18 hB.1 rfl ?_
          refine go_iload_4 (DX0_span.at 36 rfl) ?_
          refine go_iload_5 (DX0_span.at 37 rfl) ?_
          refine go_cSx2 (DX0_span.at 38 rfl) nX0_38 vX5_unitOf (by omega) (c_unitOf hwB (ldv_lt _) (by omega)) (Nat.le_of_ble_eq_true rfl) ?_
          refine go_cSv3 (DX0_span.at 39 rfl) nX0_42 vX5_put (by omega) (c_put hB.2.1 hr6 (by decide)) (Nat.le_of_ble_eq_true rfl) (fun h74 q74 => ?_)
          subst q74
          have g74 : BsAt (h1.set (b + 1) (ar 6 (upd cf r (nI (pq 6 (fun i => gm (rst U K r (C j) i) (gv (rst U K r (C j) (ldv (rst U K r (C j)))))))))))  b r (upd cf r (nI (pq 6 (fun i => gm (rst U K r (C j) i) (gv (rst U K r (C j) (ldv (rst U K r (C j))))))))) lf := ⟨by rw [List.getElem?_set_ne (by omega)]; exact hB.1, get_set hB.2.1, by rw [List.getElem?_set_ne (by omega)]; exact hB.2.2⟩
          have o74 := hO.bs (a := b + 1) (e := ar 6 (upd cf r (nI (pq 6 (fun i => gm (rst U K r (C j) i) (gv (rst U K r (C j) (ldv (rst U K r (C j))))))))))  (by omega) (by omega)
          generalize hcf' : (upd cf r (nI (pq 6 (fun i => gm (rst U K r (C j) i) (gv (rst U K r (C j) (ldv (rst U K r (C j))))))))) = cf' at g74 o74 ⊢
          generalize (h1.set (b + 1) (ar 6 cf')) = h74 at g74 o74 ⊢
          refine go_aload_0 (DX0_span.at 40 rfl) ?_
          refine go_getfield (DX0_span.at 41 rfl) fX0_15 g74.1 rfl ?_
          refine go_aload_0 (DX0_span.at 42 rfl) ?_
          refine go_getfield (DX0_span.at 43 rfl) fX0_18 g74.1 rfl ?_
          refine go_iload_5 (DX0_span.at 44 rfl) ?_
          refine go_cSv3 (DX0_span.at 45 rfl) nX0_42 vX5_put (by omega) (c_put g74.2.2 hr6 (by decide)) (Nat.le_of_ble_eq_true rfl) (fun h87 q87 => ?_)
          subst q87
          have g87 : BsAt (h74.set (b + 2) (ar 6 (upd lf r (nI (ldv (rst U K r (C j))))))) b r cf' (upd lf r (nI (ldv (rst U K r (C j))))) := ⟨by rw [List.getElem?_set_ne (by omega)]; exact g74.1, by rw [List.getElem?_set_ne (by omega)]; exact g74.2.1, get_set g74.2.2⟩
          have o87 := o74.bs (a := b + 2) (e := ar 6 (upd lf r (nI (ldv (rst U K r (C j)))))) (by omega) (by omega)
          generalize (h74.set (b + 2) (ar 6 (upd lf r (nI (ldv (rst U K r (C j))))))) = h87 at g87 o87 ⊢
          refine go_aload_0 (DX0_span.at 46 rfl) ?_
          refine go_dup (DX0_span.at 47 rfl) rfl ?_
          refine go_getfield (DX0_span.at 48 rfl) fX0_18 g87.1 rfl ?_
          refine go_iconst (v := nI 1) (DX0_span.at 49 rfl) (by decide) ?_
          refine go_iadd (DX0_span.at 50 rfl) ?_
          rw [nI_add]
          refine go_putfield (DX0_span.at 51 rfl) fX0_18 rfl rfl g87.1 (Nat.le_of_ble_eq_true rfl) (fun w hw => by subst hw; exact ⟨rfl, rfl⟩) ?_
          have g97 : BsAt (h87.set b (.inr (0, [.ref (b + 1), .ref (b + 2), .int (nI (r + 1))]))) b (r + 1) cf' (upd lf r (nI (ldv (rst U K r (C j))))) := ⟨get_set g87.1, by rw [List.getElem?_set_ne (by omega)]; exact g87.2.1, by rw [List.getElem?_set_ne (by omega)]; exact g87.2.2⟩
          have o97 := o87.bs (a := b) (e := (.inr (0, [.ref (b + 1), .ref (b + 2), .int (nI (r + 1))]))) (by omega) (by omega)
          have K97 : ∀ h97 : List va_E, BsAt h97 b (r + 1) cf' (upd lf r (nI (ldv (rst U K r (C j))))) → Only b (b + 3) h h97 → Go E mX0_span d 0 0 100 [some (.ref b), some (.ref a), some (.int (nI M)), some (.int (nI j)), some (.int (nI (pq 6 (rst U K r (C j))))), some (.int (nI (ldv (rst U K r (C j)))))] [] h97 (RV (fun h' => Only b (b + 3) h h' ∧ ∃ r U K cf lf, BsAt h' b r cf lf ∧ BsRep cf lf r U K ∧ BInv C M (nc g s) r U K)) := by
            intro h97 g97 o97
            refine go_iincN_3 (DX0_span.at 52 rfl) ?_
            refine go_goto 7 (DX0_span.at 53 rfl) (by decide) ?_
            refine ih (j + 1) h97 (r + 1) (fun p => if p = r then (fun i => gm (rst U K r (C j) i) (gv (rst U K r (C j) (ldv (rst U K r (C j)))))) else U p) (fun p => if p = r then ldv (rst U K r (C j)) else K p) cf' _ _ _ (by omega) o97 g97 ?_ ?_
            · intro p hp
              subst hcf'
              show upd cf r _ p = nI (pq 6 (if p = r then _ else U p)) ∧ upd lf r _ p = nI (if p = r then _ else K p)
              by_cases e : p = r
              · rw [if_pos e, if_pos e, e, pk_us, pk_us]
                exact ⟨rfl, rfl⟩
              · rw [pk_un e, pk_un e, if_neg e, if_neg e]
                exact hrep p (by omega)
            · refine hI.more (ld := ldv (rst U K r (C j))) (hC j (by omega)).2 (fun c hc => (hC c (by omega)).2) hbj hr6 (ldv_lt _) hsp (fun p hp i _ => by rw [if_neg (by omega)]) (fun p hp => by rw [if_neg (by omega)]) (fun i _ => by rw [if_pos rfl]) (if_pos rfl)
          exact K97 _ g97 o97
  refine go_aload_0 (DX0_span.at 0 rfl) ?_
  refine go_iconst (v := nI 0) (DX0_span.at 1 rfl) (by decide) ?_
  refine go_putfield (DX0_span.at 2 rfl) fX0_18 rfl rfl hB0.1 (Nat.le_of_ble_eq_true rfl) (fun w hw => by subst hw; exact ⟨rfl, rfl⟩) ?_
  refine go_iconst (v := nI 0) (DX0_span.at 3 rfl) (by decide) ?_
  refine go_istore_3 (DX0_span.at 4 rfl) ?_
  exact loop (nc g s) 0 _ 0 (fun _ _ => 0) (fun _ => 0) cf0 lf0 _ _ (by omega) (Only.set (by omega) (by omega)) ⟨get_set hB0.1, by rw [List.getElem?_set_ne (by omega)]; exact hB0.2.1, by rw [List.getElem?_set_ne (by omega)]; exact hB0.2.2⟩ (fun p hp => absurd hp (Nat.not_lt_zero p)) BInv.zero

end BP
end
section
/-! HOW A LOST CELL IS MENDED: the class's plan -/
def Src3 (n M : Nat) : Nat := (2 ^ n - 1) &&& (M ^^^ 4294967295)
def Can3 (C : Nat → Nat → Nat) (V : Nat → Nat) (M n c : Nat) : Prop := (∃ l, Dual C M n c l) ∧ ∀ l, Van C M n l → ev l (vsum C V (Src3 n M) n) = 0
def WayX (C : Nat → Nat → Nat) (V : Nat → Nat) (g s M c w src X : Nat) : Prop :=
  (pmv g s c &&& M = 0 ∧ w = (if hcv g s c < g then 1 else 2) ∧ src = pmv g s c ∧ X = vsum C V (pmv g s c) (nc g s) (hcv g s c)) ∨
  (pmv g s c &&& M ≠ 0 ∧ Can3 C V M (nc g s) c ∧ w = 3 ∧ src = Src3 (nc g s) M ∧ X < 16 ∧ ∀ l, Dual C M (nc g s) c l → ev l (vsum C V (Src3 (nc g s) M) (nc g s)) = X)
def NoWay (C : Nat → Nat → Nat) (V : Nat → Nat) (g s M c : Nat) : Prop := pmv g s c &&& M ≠ 0 ∧ ¬ Can3 C V M (nc g s) c
/-- a Plan at b, its Basis behind it -/
def PlIs (h : List va_E) (b : Nat) (src out : Int32) : Prop := h[b]? = some (.inr (2, [.ref (b + 1), .int src, .int out])) ∧ ∃ r cf lf, BsAt h (b + 1) r cf lf
theorem BsAt.keep {h h1 : List va_E} {b lo hi r : Nat} {cf lf : Nat → Int32} (hB : BsAt h b r cf lf) (hO : Only lo hi h h1) (hd : b + 3 ≤ lo ∨ hi ≤ b) : BsAt h1 b r cf lf := ⟨hO.at (by omega) hB.1, hO.at (by omega) hB.2.1, hO.at (by omega) hB.2.2⟩
theorem PlIs.keep {h h1 : List va_E} {b lo hi : Nat} {src out : Int32} (hB : PlIs h b src out) (hO : Only lo hi h h1) (hd : b + 4 ≤ lo ∨ hi ≤ b) : PlIs h1 b src out := by
  obtain ⟨h1, r, cf, lf, h2⟩ := hB
  exact ⟨hO.at (by omega) h1, r, cf, lf, h2.keep hO (by omega)⟩
theorem pmv_lt {g s T sh c : Nat} (hL : LayOK g s T sh) (hc : c < nc g s) : pmv g s c < 2 ^ 31 := by
  have hn := hL.nc
  have hgs : g * s ≤ 15 := hL.2.2.2.2.1
  unfold pmv
  split
  · rename_i q
    refine Nat.lt_of_le_of_lt Nat.and_le_left (Nat.or_lt_two_pow ?_ (Nat.pow_lt_pow_right (by decide) (by unfold nc at hn; omega)))
    have h1 : hcv g s c * s + s ≤ 15 := by
      have : hcv g s c * s + s = (hcv g s c + 1) * s := by rw [Nat.add_mul, Nat.one_mul]
      rw [this]
      exact Nat.le_trans (Nat.mul_le_mul_right s q) hgs
    have h2 : (2 ^ s - 1) * 2 ^ (hcv g s c * s) ≤ 2 ^ s * 2 ^ (hcv g s c * s) := Nat.mul_le_mul_right _ (Nat.sub_le _ _)
    rw [← Nat.pow_add] at h2
    exact Nat.lt_of_le_of_lt h2 (Nat.pow_lt_pow_right (by decide) (by omega))
  · exact Nat.lt_of_le_of_lt (Nat.sub_le _ _) (Nat.pow_lt_pow_right (by decide) (by omega))
theorem and_bit {P M c : Nat} (h : P &&& M = 0) (hb : bit P c) : ¬ bit M c := by
  rw [bit_tb] at hb ⊢
  intro q
  have h1 : (P &&& M).testBit c = true := by rw [Nat.testBit_and, hb, q]; rfl
  rw [h, Nat.zero_testBit] at h1
  cases h1
theorem src_bit {n M c : Nat} (hc : c < 32) : bit (Src3 n M) c ↔ c < n ∧ ¬ bit M c := by
  rw [bit_tb, bit_tb]
  unfold Src3
  rw [Nat.testBit_and, Nat.testBit_two_pow_sub_one, Nat.testBit_xor, tb_m1 c hc]
  simp
theorem Src3_lt {n M : Nat} (hn : n ≤ 20) : Src3 n M < 2 ^ 31 := by
  have := p20 hn
  exact Nat.lt_of_le_of_lt Nat.and_le_left (by omega)
section PL
variable {E : AEnv} {d : Nat} {h : List va_E} {b : Nat} {σ : Rows} {g s T sh : Nat}
theorem c_solve {r : Nat} {src out : Int32} {cf lf : Nat → Int32} {U : Nat → Nat → Nat} {K : Nat → Nat} {v S : Nat → Nat} (hp : h[b]? = some (.inr (2, [.ref (b + 1), .int src, .int out]))) (hB : BsAt h (b + 1) r cf lf) (hr : r ≤ 6) (hok : BasOK U K r) (hrep : BsRep cf lf r U K) (hv : B6 v) (hS : B6 S) (hd : 2 ≤ d) : Calls E mX2_solve d 0 0 [.ref b, .int (nI (pq 6 v)), .int (nI (pq 6 S))] h (RI (fun x h' => h' = h.set b (.inr (2, [.ref (b + 1), .int src, .int (nI (gm (rst U K r S (ldv (rst U K r v))) (gv (rst U K r v (ldv (rst U K r v))))))])) ∧ (((∃ i, i < 6 ∧ rst U K r v i ≠ 0) ∧ (∀ i, i < 6 → gm (rst U K r v i) (gm (rst U K r S (ldv (rst U K r v))) (gv (rst U K r v (ldv (rst U K r v))))) = rst U K r S i) ∧ x = nI 3) ∨ (¬ ((∃ i, i < 6 ∧ rst U K r v i ≠ 0) ∧ (∀ i, i < 6 → gm (rst U K r v i) (gm (rst U K r S (ldv (rst U K r v))) (gv (rst U K r v (ldv (rst U K r v))))) = rst U K r S i)) ∧ x = (-4))))) := by
  refine Calls.of (ls := [some (.ref b), some (.int (nI (pq 6 v))), some (.int (nI (pq 6 S))), none, none, none]) (by decide +kernel) rfl (Nat.le_of_ble_eq_true rfl) (cat_ok rfl) ?_
  have hoB := rst_lt hok r (Nat.le_refl r) hv
  have hwB := rst_lt hok r (Nat.le_refl r) hS
  refine go_aload_0 (DX2_solve.at 0 rfl) ?_
  refine go_getfield (DX2_solve.at 1 rfl) fX2_12 hp rfl ?_
  refine go_iload_1 (DX2_solve.at 2 rfl) ?_
  refine go_cVx1 (DX2_solve.at 3 rfl) nX2_68 vX0_restOf (by omega) (c_restOf hB hr hok hrep hv (by omega)) hB.1 rfl (Nat.le_of_ble_eq_true rfl) ?_
  refine go_istore_3 (DX2_solve.at 4 rfl) ?_
  refine go_aload_0 (DX2_solve.at 5 rfl) ?_
  refine go_getfield (DX2_solve.at 6 rfl) fX2_12 hp rfl ?_
  refine go_iload_2 (DX2_solve.at 7 rfl) ?_
  refine go_cVx1 (DX2_solve.at 8 rfl) nX2_68 vX0_restOf (by omega) (c_restOf hB hr hok hrep hS (by omega)) hB.1 rfl (Nat.le_of_ble_eq_true rfl) ?_
  refine go_istore_4 (DX2_solve.at 9 rfl) ?_
  refine go_iload_3 (DX2_solve.at 10 rfl) ?_
  refine go_cSx1 (DX2_solve.at 11 rfl) nX2_71 vX5_leadOf (by omega) (c_leadOf hoB (by omega)) (Nat.le_of_ble_eq_true rfl) ?_
  refine go_istore_5 (DX2_solve.at 12 rfl) ?_
  refine go_aload_0 (DX2_solve.at 13 rfl) ?_
  refine go_iload_4 (DX2_solve.at 14 rfl) ?_
  refine go_iload_5 (DX2_solve.at 15 rfl) ?_
  refine go_cSx2 (DX2_solve.at 16 rfl) nX2_48 vX5_element (by omega) (c_element hwB (ldv_lt _)) (Nat.le_of_ble_eq_true rfl) ?_
  refine go_inverses (DX2_solve.at 17 rfl) zX2_74 ?_
  refine go_iload_3 (DX2_solve.at 18 rfl) ?_
  refine go_iload_5 (DX2_solve.at 19 rfl) ?_
  refine go_cSx2 (DX2_solve.at 20 rfl) nX2_48 vX5_element (by omega) (c_element hoB (ldv_lt _)) (Nat.le_of_ble_eq_true rfl) ?_
  refine go_cSx2 (DX2_solve.at 21 rfl) nX2_78 vX5_at (by omega) (c_at (Or.inr (Or.inr (Or.inl ⟨rfl, rfl, rfl⟩))) (hoB _ (ldv_lt _)) (by decide)) (Nat.le_of_ble_eq_true rfl) ?_
  rw [INV_gv (hoB _ (ldv_lt _))]
  rw [show nI (rst U K r S (ldv (rst U K r v))) = nI (pq 6 (sgl (rst U K r S (ldv (rst U K r v))) 0)) from congrArg nI (by rw [← pq_sgl _ (by decide)]; simp)]
  refine go_cSx2 (DX2_solve.at 22 rfl) nX2_82 vX5_scaled (by omega) (c_scaled (fun i _ => sgl_lt (hwB _ (ldv_lt _)) i) (gv_lt (hoB _ (ldv_lt _)))) (Nat.le_of_ble_eq_true rfl) ?_
  rw [show nI (pq 6 (fun i => gm (sgl (rst U K r S (ldv (rst U K r v))) 0 i) (gv (rst U K r v (ldv (rst U K r v)))))) = nI (gm (rst U K r S (ldv (rst U K r v))) (gv (rst U K r v (ldv (rst U K r v))))) from congrArg nI (by
    rw [pq_congr (v := sgl (gm (rst U K r S (ldv (rst U K r v))) (gv (rst U K r v (ldv (rst U K r v))))) 0) (fun i _ => by
      unfold sgl
      split
      · rfl
      · exact gm_0l (gv_lt (hoB _ (ldv_lt _)))), ← pq_sgl _ (by decide)]
    simp)]
  refine go_putfield (DX2_solve.at 23 rfl) fX2_22 rfl rfl hp (Nat.le_of_ble_eq_true rfl) (fun w hw => by subst hw; exact ⟨rfl, rfl⟩) ?_
  have g48 : (h.set b (.inr (2, [.ref (b + 1), .int src, .int (nI (gm (rst U K r S (ldv (rst U K r v))) (gv (rst U K r v (ldv (rst U K r v))))))])))[b]? = some (.inr (2, [.ref (b + 1), .int src, .int (nI (gm (rst U K r S (ldv (rst U K r v))) (gv (rst U K r v (ldv (rst U K r v))))))])) := get_set hp
  refine go_iload_3 (DX2_solve.at 24 rfl) ?_
  refine go_if_eq 72 (DX2_solve.at 25 rfl) (by decide) (fun c52 => ?_) (fun c52 => ?_)
  · rw [pq_eq0 hoB] at c52
    refine go_bipush (v := (-4)) (DX2_solve.at 34 rfl) (by decide) ?_
    exact go_iret (DX2_solve.at 35 rfl) rfl rfl (RI.mk ⟨rfl, by first | exact Or.inl ⟨hex, hyes, rfl⟩ | exact Or.inr ⟨fun q => hno q.2, rfl⟩ | exact Or.inr ⟨fun q => by obtain ⟨⟨i, hi, hw⟩, -⟩ := q; exact hw (c52 i hi), rfl⟩⟩)
  · rw [pq_eq0 hoB] at c52
    have hex : ∃ i, i < 6 ∧ rst U K r v i ≠ 0 := by
      apply Classical.byContradiction
      intro hno
      exact c52 (fun i hi => Classical.byContradiction fun q => hno ⟨i, hi, q⟩)
    refine go_iload_3 (DX2_solve.at 26 rfl) ?_
    refine go_aload_0 (DX2_solve.at 27 rfl) ?_
    refine go_getfield (DX2_solve.at 28 rfl) fX2_22 g48 rfl ?_
    refine go_cSx2 (DX2_solve.at 29 rfl) nX2_82 vX5_scaled (by omega) (c_scaled hoB (gm_lt (hwB _ (ldv_lt _)) (gv_lt (hoB _ (ldv_lt _))))) (Nat.le_of_ble_eq_true rfl) ?_
    refine go_iload_4 (DX2_solve.at 30 rfl) ?_
    refine go_icmp_ne 72 (DX2_solve.at 31 rfl) (by decide) (fun c65 => ?_) (fun c65 => ?_)
    · have hno : ¬ ∀ i, i < 6 → gm (rst U K r v i) (gm (rst U K r S (ldv (rst U K r v))) (gv (rst U K r v (ldv (rst U K r v))))) = rst U K r S i := fun q => c65 (congrArg nI (pq_congr q))
      refine go_bipush (v := (-4)) (DX2_solve.at 34 rfl) (by decide) ?_
      exact go_iret (DX2_solve.at 35 rfl) rfl rfl (RI.mk ⟨rfl, by first | exact Or.inl ⟨hex, hyes, rfl⟩ | exact Or.inr ⟨fun q => hno q.2, rfl⟩ | exact Or.inr ⟨fun q => by obtain ⟨⟨i, hi, hw⟩, -⟩ := q; exact hw (c52 i hi), rfl⟩⟩)
    · have hyes : ∀ i, i < 6 → gm (rst U K r v i) (gm (rst U K r S (ldv (rst U K r v))) (gv (rst U K r v (ldv (rst U K r v))))) = rst U K r S i := pq_inj (fun i hi => gm_lt (hoB i hi) (gm_lt (hwB _ (ldv_lt _)) (gv_lt (hoB _ (ldv_lt _))))) hwB ((nI_eq (by have := pq_lt24 (v := fun i => gm (rst U K r v i) (gm (rst U K r S (ldv (rst U K r v))) (gv (rst U K r v (ldv (rst U K r v)))))) (fun i hi => gm_lt (hoB i hi) (gm_lt (hwB _ (ldv_lt _)) (gv_lt (hoB _ (ldv_lt _))))); omega) (by have := pq_lt24 hwB; omega)).mp c65)
      refine go_iconst (v := nI 3) (DX2_solve.at 32 rfl) (by decide) ?_
      refine go_goto 74 (DX2_solve.at 33 rfl) (by decide) ?_
      exact go_iret (DX2_solve.at 35 rfl) rfl rfl (RI.mk ⟨rfl, by first | exact Or.inl ⟨hex, hyes, rfl⟩ | exact Or.inr ⟨fun q => hno q.2, rfl⟩ | exact Or.inr ⟨fun q => by obtain ⟨⟨i, hi, hw⟩, -⟩ := q; exact hw (c52 i hi), rfl⟩⟩)

theorem not_nI (a : Nat) : nI a ^^^ (-1) = nI (a ^^^ 4294967295) := by rw [m1_nI, nx_xor]
theorem BsAt.set0 {h : List va_E} {b r : Nat} {cf lf : Nat → Int32} {e : va_E} (hB : BsAt h (b + 1) r cf lf) : BsAt (h.set b e) (b + 1) r cf lf := hB.keep (Only.set (lo := b) (hi := b + 1) (by omega) (by omega)) (by omega)
theorem BsAt.set2 {h : List va_E} {b r : Nat} {cf lf : Nat → Int32} {e e' : va_E} (hB : BsAt h (b + 1) r cf lf) : BsAt ((h.set b e).set b e') (b + 1) r cf lf := hB.set0.set0
theorem c_make {a r0 : Nat} {src0 out0 x y : Int32} {cf0 lf0 : Nat → Int32} {C : Nat → Nat → Nat} {V : Nat → Nat → Nat} {Mx : Nat → Nat} (hp : h[b]? = some (.inr (2, [.ref (b + 1), .int src0, .int out0]))) (hB0 : BsAt h (b + 1) r0 cf0 lf0) (hS : StAt h a σ) (hL : LayX σ g s T sh) (hC : ColX σ (nc g s) C) (hM : ∀ t, t < T → σ 3 t = nI (Mx t) ∧ Mx t < 2 ^ 20) (hV : ∀ t, t < T → ∀ c, c < nc g s → ¬ bit (Mx t) c → σ 2 (t * 20 + c) = nI (V t c) ∧ V t c < 16) (hab : a + 6 ≤ b ∨ b + 4 ≤ a) (hd : 4 ≤ d) : Calls E mX2_make d 0 0 [.ref b, .ref a, .int x, .int y] h (RI (fun r h' => Only b (b + 4) h h' ∧ ∃ src out, PlIs h' b src out ∧ ((¬ (inR x T ∧ inR y (nc g s)) ∧ r = (-1)) ∨ ∃ t c, t < T ∧ c < nc g s ∧ x = nI t ∧ y = nI c ∧ ((¬ bit (Mx t) c ∧ r = (-5)) ∨ (bit (Mx t) c ∧ ((∃ w sc X, WayX C (V t) g s (Mx t) c w sc X ∧ r = nI w ∧ src = nI sc ∧ out = nI X) ∨ (NoWay C (V t) g s (Mx t) c ∧ r = (-4)))))))) := by
  refine Calls.of (ls := [some (.ref b), some (.ref a), some (.int x), some (.int y), none, none, none]) (by decide +kernel) rfl (Nat.le_of_ble_eq_true rfl) (cat_ok rfl) ?_
  have hn := hL.2.2.2.2.nc
  refine go_aload_1 (DX2_make.at 0 rfl) ?_
  refine go_iload_2 (DX2_make.at 1 rfl) ?_
  refine go_iload_3 (DX2_make.at 2 rfl) ?_
  refine go_cVx2 (DX2_make.at 3 rfl) nX2_25 vX4_hasCell (by omega) (c_hasCell hS hL (by omega)) hS.1 rfl (Nat.le_of_ble_eq_true rfl) ?_
  refine go_if_ne 11 (DX2_make.at 4 rfl) (by decide) (fun c6 => ?_) (fun c6 => ?_)
  · rw [bP_eq0, Classical.not_not] at c6
    obtain ⟨t, ht, rfl⟩ := inR_ex (by have := hL.2.2.2.2.2.2.2.2.2.2.1; omega) c6.1
    obtain ⟨c, hc, rfl⟩ := inR_ex (by omega) c6.2
    have ht8 : t < 8 := by have := hL.2.2.2.2.2.2.2.2.2.2.1; omega
    have hc20 : c < 20 := by omega
    have hM31 : Mx t < 2 ^ 31 := by have := (hM t ht).2; omega
    refine go_aload_1 (DX2_make.at 7 rfl) ?_
    refine go_iload_2 (DX2_make.at 8 rfl) ?_
    refine go_iload_3 (DX2_make.at 9 rfl) ?_
    refine go_cVx2 (DX2_make.at 10 rfl) nX2_31 vX4_isMissing (by omega) (c_isMissing hS ht8 hc20 (hM t ht).1 hM31 (by omega)) hS.1 rfl (Nat.le_of_ble_eq_true rfl) ?_
    refine go_if_ne 23 (DX2_make.at 11 rfl) (by decide) (fun c17 => ?_) (fun c17 => ?_)
    · rw [bP_eq0, Classical.not_not] at c17
      refine go_aload_1 (DX2_make.at 14 rfl) ?_
      refine go_iload_2 (DX2_make.at 15 rfl) ?_
      refine go_cVx1 (DX2_make.at 16 rfl) nX2_34 vX4_missingIn (by omega) (c_missingIn hS ht8 (by omega)) hS.1 rfl (Nat.le_of_ble_eq_true rfl) ?_
      rw [(hM t ht).1]
      refine go_istore_4 (DX2_make.at 17 rfl) ?_
      refine go_aload_1 (DX2_make.at 18 rfl) ?_
      refine go_iload_3 (DX2_make.at 19 rfl) ?_
      refine go_cVx1 (DX2_make.at 20 rfl) nX2_38 vX4_partnersOf (by omega) (c_partnersOf hS hL hc (by omega)) hS.1 rfl (Nat.le_of_ble_eq_true rfl) ?_
      refine go_istore_5 (DX2_make.at 21 rfl) ?_
      refine go_iload_5 (DX2_make.at 22 rfl) ?_
      refine go_iload_4 (DX2_make.at 23 rfl) ?_
      refine go_iand (DX2_make.at 24 rfl) ?_
      rw [nx_and]
      refine go_if_ne 89 (DX2_make.at 25 rfl) (by decide) (fun c42 => ?_) (fun c42 => ?_)
      · rw [nI_eq0 (Nat.lt_of_le_of_lt Nat.and_le_left (pmv_lt hL.2.2.2.2 hc))] at c42
        refine go_aload_0 (DX2_make.at 49 rfl) ?_
        refine go_aload_1 (DX2_make.at 50 rfl) ?_
        refine go_cVx0 (DX2_make.at 51 rfl) nX2_54 vX4_allCells (by omega) (c_allCells hS hL (by omega)) hS.1 rfl (Nat.le_of_ble_eq_true rfl) ?_
        refine go_iload_4 (DX2_make.at 52 rfl) ?_
        refine go_iconst (v := (-1)) (DX2_make.at 53 rfl) (by decide) ?_
        refine go_ixor (DX2_make.at 54 rfl) ?_
        rw [not_nI]
        refine go_iand (DX2_make.at 55 rfl) ?_
        rw [nx_and]
        refine go_putfield (DX2_make.at 56 rfl) fX2_18 rfl rfl hp (Nat.le_of_ble_eq_true rfl) (fun w hw => by subst hw; exact ⟨rfl, rfl⟩) ?_
        have g99 : (h.set b (.inr (2, [.ref (b + 1), .int (nI (Src3 (nc g s) (Mx t))), .int out0])))[b]? = some (.inr (2, [.ref (b + 1), .int (nI (Src3 (nc g s) (Mx t))), .int out0])) := get_set hp
        have o99 : Only b (b + 1) h (h.set b (.inr (2, [.ref (b + 1), .int (nI (Src3 (nc g s) (Mx t))), .int out0]))) := Only.set (by omega) (by omega)
        have s99 := hS.keep o99 (by omega)
        have hB99 := hB0.keep o99 (by omega)
        show Go E mX2_make d 0 0 102 _ _ (h.set b (.inr (2, [.ref (b + 1), .int (nI (Src3 (nc g s) (Mx t))), .int out0]))) _
        refine go_aload_0 (DX2_make.at 57 rfl) ?_
        refine go_getfield (DX2_make.at 58 rfl) fX2_12 g99 rfl ?_
        refine go_aload_1 (DX2_make.at 59 rfl) ?_
        refine go_iload_4 (DX2_make.at 60 rfl) ?_
        refine go_iconst (v := nI 1) (DX2_make.at 61 rfl) (by decide) ?_
        refine go_iload_3 (DX2_make.at 62 rfl) ?_
        refine go_ishl (DX2_make.at 63 rfl) ?_
        rw [nx_shlW _ (by omega), Nat.one_mul]
        refine go_iconst (v := (-1)) (DX2_make.at 64 rfl) (by decide) ?_
        refine go_ixor (DX2_make.at 65 rfl) ?_
        rw [not_nI]
        refine go_iand (DX2_make.at 66 rfl) ?_
        rw [nx_and]
        refine go_cVv2 (DX2_make.at 67 rfl) nX2_58 vX0_span (by omega) (c_span hB99 s99 hL hC (Nat.lt_of_le_of_lt clr_le hM31) (by omega) (by omega)) hB99.1 rfl (Nat.le_of_ble_eq_true rfl) (fun h115 q115 => ?_)
        obtain ⟨o115, r1, U, K, cf1, lf1, hB115, hrep, hI⟩ := q115
        have s115 := s99.keep o115 (by omega)
        have g115 := o115.at (i := b) (by omega) g99
        have hSv : ∀ c1, c1 < nc g s → bit (Src3 (nc g s) (Mx t)) c1 → σ 2 (t * 20 + c1) = nI (V t c1) ∧ V t c1 < 16 := fun c1 h1 hb1 => hV t ht c1 h1 ((src_bit (by omega)).mp hb1).2
        have hS6 : B6 (vsum C (V t) (Src3 (nc g s) (Mx t)) (nc g s)) := vsum_lt (fun c1 h1 => (hC c1 h1).2) (fun c1 h1 hb1 => (hSv c1 h1 hb1).2) _ (Nat.le_refl _)
        refine go_aload_0 (DX2_make.at 68 rfl) ?_
        refine go_aload_1 (DX2_make.at 69 rfl) ?_
        refine go_iload_3 (DX2_make.at 70 rfl) ?_
        refine go_cVx1 (DX2_make.at 71 rfl) nX2_62 vX4_columnOf (by omega) (c_columnOf s115 hc20 (by omega)) s115.1 rfl (Nat.le_of_ble_eq_true rfl) ?_
        rw [(hC c hc).1]
        refine go_aload_1 (DX2_make.at 72 rfl) ?_
        refine go_iload_2 (DX2_make.at 73 rfl) ?_
        refine go_aload_0 (DX2_make.at 74 rfl) ?_
        refine go_getfield (DX2_make.at 75 rfl) fX2_18 g115 rfl ?_
        refine go_cVx2 (DX2_make.at 76 rfl) nX2_44 vX4_sumsOver (by omega) (c_sumsOver s115 hL hC ht8 (Src3_lt hn.2) hSv (by omega)) s115.1 rfl (Nat.le_of_ble_eq_true rfl) ?_
        refine go_cVi2 (DX2_make.at 77 rfl) nX2_65 vX2_solve (by omega) (c_solve g115 hB115 hI.1 hI.2.1 hrep (hC c hc).2 hS6 (by omega)) g115 rfl (Nat.le_of_ble_eq_true rfl) (fun x133 h133 q133 => ?_)
        exact go_iret (DX2_make.at 78 rfl) rfl rfl (by
            obtain ⟨rfl, q133⟩ := q133
            have sm := solve_math (C := C) hn.2 (fun c1 h1 => (hC c1 h1).2) hc c17 hI hS6
            refine RI.mk ⟨(o99.mono (Nat.le_refl b) (by omega)).trans ((o115.mono (by omega) (by omega)).trans (Only.set (by omega) (by omega))), _, _, ⟨get_set g115, r1, cf1, lf1, hB115.set0⟩, Or.inr ⟨t, c, ht, hc, rfl, rfl, Or.inr ⟨c17, ?_⟩⟩⟩
            have hgm : gm (rst U K r1 (vsum C (V t) (Src3 (nc g s) (Mx t)) (nc g s)) (ldv (rst U K r1 (C c)))) (gv (rst U K r1 (C c) (ldv (rst U K r1 (C c))))) < 16 := gm_lt (rst_lt hI.2.1 r1 (Nat.le_refl r1) hS6 _ (ldv_lt _)) (gv_lt (rst_lt hI.2.1 r1 (Nat.le_refl r1) (hC c hc).2 _ (ldv_lt _)))
            rcases q133 with ⟨he, ha, rfl⟩ | ⟨hno, rfl⟩
            · exact Or.inl ⟨3, _, _, Or.inr ⟨c42, ⟨(sm.2 he).1, (sm.2 he).2.1.mp ha⟩, rfl, rfl, hgm, (sm.2 he).2.2 ha⟩, rfl, rfl, rfl⟩
            · refine Or.inr ⟨⟨c42, fun hcan => ?_⟩, rfl⟩
              by_cases he : ∃ i, i < 6 ∧ rst U K r1 (C c) i ≠ 0
              · exact hno ⟨he, (sm.2 he).2.1.mpr hcan.2⟩
              · exact sm.1 (fun i hi => Classical.byContradiction fun q => he ⟨i, hi, q⟩) hcan.1)
      · rw [nI_eq0 (Nat.lt_of_le_of_lt Nat.and_le_left (pmv_lt hL.2.2.2.2 hc))] at c42
        have hh6 : hcv g s c < 6 := Nat.lt_of_lt_of_le (hcv_lt hL.2.2.2.2 hc) (by have := hL.2.2.2.2.2.1; omega)
        have hg4 : g ≤ 4 := hL.2.2.2.2.2.1
        refine go_aload_1 (DX2_make.at 26 rfl) ?_
        refine go_iload_3 (DX2_make.at 27 rfl) ?_
        refine go_cVx1 (DX2_make.at 28 rfl) nX2_41 vX4_homeCheck (by omega) (c_homeC hS hL hc (by omega)) hS.1 rfl (Nat.le_of_ble_eq_true rfl) ?_
        refine go_istore_6 (DX2_make.at 29 rfl) ?_
        refine go_aload_0 (DX2_make.at 30 rfl) ?_
        refine go_iload_5 (DX2_make.at 31 rfl) ?_
        refine go_putfield (DX2_make.at 32 rfl) fX2_18 rfl rfl hp (Nat.le_of_ble_eq_true rfl) (fun w hw => by subst hw; exact ⟨rfl, rfl⟩) ?_
        have g55 : (h.set b (.inr (2, [.ref (b + 1), .int (nI (pmv g s c)), .int out0])))[b]? = some (.inr (2, [.ref (b + 1), .int (nI (pmv g s c)), .int out0])) := get_set hp
        have o55 : Only b (b + 4) h (h.set b (.inr (2, [.ref (b + 1), .int (nI (pmv g s c)), .int out0]))) := Only.set (by omega) (by omega)
        have s55 := hS.keep o55 (by omega)
        refine go_aload_0 (DX2_make.at 33 rfl) ?_
        refine go_aload_1 (DX2_make.at 34 rfl) ?_
        refine go_iload_2 (DX2_make.at 35 rfl) ?_
        refine go_iload_5 (DX2_make.at 36 rfl) ?_
        refine go_cVx2 (DX2_make.at 37 rfl) nX2_44 vX4_sumsOver (by omega) (c_sumsOver s55 hL hC ht8 (pmv_lt hL.2.2.2.2 hc) (fun c1 h1 hb1 => hV t ht c1 h1 (and_bit c42 hb1)) (by omega)) s55.1 rfl (Nat.le_of_ble_eq_true rfl) ?_
        refine go_iload_6 (DX2_make.at 38 rfl) ?_
        refine go_cSx2 (DX2_make.at 39 rfl) nX2_48 vX5_element (by omega) (c_element (vsum_lt (fun c1 h1 => (hC c1 h1).2) (fun c1 h1 hb1 => (hV t ht c1 h1 (and_bit c42 hb1)).2) _ (Nat.le_refl _)) hh6) (Nat.le_of_ble_eq_true rfl) ?_
        refine go_putfield (DX2_make.at 40 rfl) fX2_22 rfl rfl g55 (Nat.le_of_ble_eq_true rfl) (fun w hw => by subst hw; exact ⟨rfl, rfl⟩) ?_
        have o71 := o55.trans (Only.set (h := h.set b (.inr (2, [.ref (b + 1), .int (nI (pmv g s c)), .int out0]))) (a := b) (e := .inr (2, [.ref (b + 1), .int (nI (pmv g s c)), .int (nI (vsum C (V t) (pmv g s c) (nc g s) (hcv g s c)))])) (lo := b) (hi := b + 4) (by omega) (by omega))
        have s71 := hS.keep o71 (by omega)
        have g71 : PlIs _ b (nI (pmv g s c)) (nI (vsum C (V t) (pmv g s c) (nc g s) (hcv g s c))) := ⟨get_set g55, r0, cf0, lf0, hB0.set2⟩
        refine go_iload_6 (DX2_make.at 41 rfl) ?_
        refine go_aload_1 (DX2_make.at 42 rfl) ?_
        refine go_getfield (DX2_make.at 43 rfl) fX2_51 s71.1 rfl ?_
        rw [hL.1]
        refine go_icmp_ge 87 (DX2_make.at 44 rfl) (by decide) (fun c80 => ?_) (fun c80 => ?_)
        · rw [nI_leI (by omega) (by omega)] at c80
          have e80 : (if hcv g s c < g then 1 else 2) = 2 := if_neg (by omega)
          refine go_iconst (v := nI 2) (DX2_make.at 47 rfl) (by decide) ?_
          exact go_iret (DX2_make.at 48 rfl) rfl rfl (RI.mk ⟨o71, _, _, g71, Or.inr ⟨t, c, ht, hc, rfl, rfl, Or.inr ⟨c17, Or.inl ⟨_, _, _, Or.inl ⟨c42, rfl, rfl, rfl⟩, by rw [e80], rfl, rfl⟩⟩⟩⟩)
        · rw [nI_leI (by omega) (by omega)] at c80
          have e80 : (if hcv g s c < g then 1 else 2) = 1 := if_pos (by omega)
          refine go_iconst (v := nI 1) (DX2_make.at 45 rfl) (by decide) ?_
          refine go_goto 88 (DX2_make.at 46 rfl) (by decide) ?_
          exact go_iret (DX2_make.at 48 rfl) rfl rfl (RI.mk ⟨o71, _, _, g71, Or.inr ⟨t, c, ht, hc, rfl, rfl, Or.inr ⟨c17, Or.inl ⟨_, _, _, Or.inl ⟨c42, rfl, rfl, rfl⟩, by rw [e80], rfl, rfl⟩⟩⟩⟩)
    · rw [bP_eq0] at c17
      refine go_bipush (v := (-5)) (DX2_make.at 12 rfl) (by decide) ?_
      exact go_iret (DX2_make.at 13 rfl) rfl rfl (RI.mk ⟨Only.rf, src0, out0, ⟨hp, r0, cf0, lf0, hB0⟩, Or.inr ⟨t, c, ht, hc, rfl, rfl, Or.inl ⟨c17, rfl⟩⟩⟩)
  · rw [bP_eq0] at c6
    refine go_iconst (v := (-1)) (DX2_make.at 5 rfl) (by decide) ?_
    exact go_iret (DX2_make.at 6 rfl) rfl rfl (RI.mk ⟨Only.rf, src0, out0, ⟨hp, r0, cf0, lf0, hB0⟩, Or.inl ⟨c6, rfl⟩⟩)

end PL
end
section
/-! COUNTING BITS; which sets survive; the nodes of a set -/
theorem and256 (a b c d : Nat) (ha : a < 256) (hc : c < 256) : (a + 256 * b) &&& (c + 256 * d) = (a &&& c) + 256 * (b &&& d) := by
  have e1 : a + 256 * b = 2 ^ 8 * b + a := by omega
  have e2 : c + 256 * d = 2 ^ 8 * d + c := by omega
  have e3 : (a &&& c) + 256 * (b &&& d) = 2 ^ 8 * (b &&& d) + (a &&& c) := by omega
  rw [e1, e2, e3]
  have hx : a &&& c < 2 ^ 8 := Nat.lt_of_le_of_lt Nat.and_le_left ha
  apply Nat.eq_of_testBit_eq
  intro i
  rw [Nat.testBit_and, Nat.testBit_two_pow_mul_add _ (show a < 2 ^ 8 from ha), Nat.testBit_two_pow_mul_add _ (show c < 2 ^ 8 from hc), Nat.testBit_two_pow_mul_add _ hx]
  by_cases hi : i < 8
  · simp [hi, Nat.testBit_and]
  · simp [hi, Nat.testBit_and]
theorem dec256 {P : Nat → Prop} [DecidablePred P] (h : (List.range 256).all (fun a => decide (P a)) = true) {a : Nat} (ha : a < 256) : P a := of_decide_eq_true (List.all_eq_true.mp h a (List.mem_range.mpr ha))
def f1 (a : Nat) : Nat := a - (a / 2 &&& 85)
def f2 (a : Nat) : Nat := (a &&& 51) + (a / 4 &&& 51)
theorem b_tab : ∀ {a : Nat}, a < 256 → a / 2 &&& 85 ≤ a ∧ f1 a < 256 ∧ f2 (f1 a) ≤ 68 ∧ f2 (f1 a) % 16 ≤ 4 ∧ (f2 (f1 a) + f2 (f1 a) / 16) &&& 15 = pcn a 8 ∧ pcn a 8 ≤ 8 :=
  fun h => dec256 (P := fun a => a / 2 &&& 85 ≤ a ∧ f1 a < 256 ∧ f2 (f1 a) ≤ 68 ∧ f2 (f1 a) % 16 ≤ 4 ∧ (f2 (f1 a) + f2 (f1 a) / 16) &&& 15 = pcn a 8 ∧ pcn a 8 ≤ 8) (by decide +kernel) h
/-- bits that another byte lends are masked away -/
theorem lend_tab : ∀ {a : Nat}, a < 256 → ((a / 2 + 128 * 0) &&& 85 = a / 2 &&& 85 ∧ (a / 2 + 128 * 1) &&& 85 = a / 2 &&& 85 ∧ (a / 4 + 64 * 0) &&& 51 = a / 4 &&& 51 ∧ (a / 4 + 64 * 1) &&& 51 = a / 4 &&& 51 ∧ (a / 4 + 64 * 2) &&& 51 = a / 4 &&& 51 ∧ (a / 4 + 64 * 3) &&& 51 = a / 4 &&& 51) :=
  fun h => dec256 (P := fun a => ((a / 2 + 128 * 0) &&& 85 = a / 2 &&& 85 ∧ (a / 2 + 128 * 1) &&& 85 = a / 2 &&& 85 ∧ (a / 4 + 64 * 0) &&& 51 = a / 4 &&& 51 ∧ (a / 4 + 64 * 1) &&& 51 = a / 4 &&& 51 ∧ (a / 4 + 64 * 2) &&& 51 = a / 4 &&& 51 ∧ (a / 4 + 64 * 3) &&& 51 = a / 4 &&& 51)) (by decide +kernel) h
theorem lend_15 {a k : Nat} : (a + 16 * k) &&& 15 = a &&& 15 := by
  rw [show (15 : Nat) = 2 ^ 4 - 1 from rfl, Nat.and_two_pow_sub_one_eq_mod, Nat.and_two_pow_sub_one_eq_mod]
  omega
theorem byte_A {a b m : Nat} (ha : a < 256) (hb : (b / 2 &&& m) ≤ b) : (a + 256 * b) - ((a + 256 * b) / 2 &&& (85 + 256 * m)) = f1 a + 256 * (b - (b / 2 &&& m)) ∧ ((a + 256 * b) / 2 &&& (85 + 256 * m)) ≤ a + 256 * b := by
  have e : (a + 256 * b) / 2 = (a / 2 + 128 * (b % 2)) + 256 * (b / 2) := by omega
  have h1 := (b_tab ha).1
  have h2 : (a / 2 + 128 * (b % 2)) &&& 85 = a / 2 &&& 85 := by
    rcases (show b % 2 = 0 ∨ b % 2 = 1 by omega) with q | q <;> rw [q]
    · exact (lend_tab ha).1
    · exact (lend_tab ha).2.1
  rw [e, and256 _ _ _ _ (by omega) (by decide), h2]
  unfold f1
  omega
theorem byte_B {a b m : Nat} (ha : a < 256) : ((a + 256 * b) &&& (51 + 256 * m)) + ((a + 256 * b) / 4 &&& (51 + 256 * m)) = f2 a + 256 * ((b &&& m) + (b / 4 &&& m)) := by
  have e : (a + 256 * b) / 4 = (a / 4 + 64 * (b % 4)) + 256 * (b / 4) := by omega
  have h2 : (a / 4 + 64 * (b % 4)) &&& 51 = a / 4 &&& 51 := by
    rcases (show b % 4 = 0 ∨ b % 4 = 1 ∨ b % 4 = 2 ∨ b % 4 = 3 by omega) with q | q | q | q <;> rw [q]
    · exact (lend_tab ha).2.2.1
    · exact (lend_tab ha).2.2.2.1
    · exact (lend_tab ha).2.2.2.2.1
    · exact (lend_tab ha).2.2.2.2.2
  rw [e, and256 _ _ _ _ ha (by decide), and256 _ _ _ _ (by omega) (by decide), h2]
  unfold f2
  omega
theorem byte_C {a b m : Nat} (ha : a ≤ 68) (hb : b % 16 ≤ 4) : ((a + 256 * b) + (a + 256 * b) / 16) &&& (15 + 256 * m) = ((a + a / 16) &&& 15) + 256 * ((b + b / 16) &&& m) := by
  have e : (a + 256 * b) + (a + 256 * b) / 16 = ((a + a / 16) + 16 * (b % 16)) + 256 * (b + b / 16) := by omega
  rw [e, and256 _ _ _ _ (by omega) (by decide), lend_15]
theorem pcn_add (M : Nat) : ∀ k j, pcn M (j + k) = pcn M j + pcn (M / 2 ^ j) k
  | 0, j => rfl
  | k + 1, j => by
    show pcn M (j + k) + M / 2 ^ (j + k) % 2 = pcn M j + (pcn (M / 2 ^ j) k + M / 2 ^ j / 2 ^ k % 2)
    rw [pcn_add M k j, Nat.pow_add, Nat.div_div_eq_div_mul]
    omega
theorem pcn_mod {M a b : Nat} (e : M = a + 2 ^ 8 * b) : ∀ k, k ≤ 8 → pcn M k = pcn a k
  | 0, _ => rfl
  | k + 1, hk => by
    have e1 : M / 2 ^ k % 2 = a / 2 ^ k % 2 := by
      rcases (show k = 0 ∨ k = 1 ∨ k = 2 ∨ k = 3 ∨ k = 4 ∨ k = 5 ∨ k = 6 ∨ k = 7 by omega) with rfl | rfl | rfl | rfl | rfl | rfl | rfl | rfl <;> omega
    show pcn M k + M / 2 ^ k % 2 = pcn a k + a / 2 ^ k % 2
    rw [pcn_mod e k (by omega), e1]
theorem pcn_z : ∀ k, pcn 0 k = 0
  | 0 => rfl
  | k + 1 => by show pcn 0 k + 0 / 2 ^ k % 2 = 0; rw [pcn_z k, Nat.zero_div]
theorem pcn_hi {M j : Nat} (h : M < 2 ^ j) : ∀ k, pcn M (j + k) = pcn M j
  | k => by rw [pcn_add, Nat.div_eq_of_lt h, pcn_z]; rfl
/-- the three rounds of bitCount over three bytes -/
theorem bc_rounds {a0 a1 a2 : Nat} (h0 : a0 < 256) (h1 : a1 < 256) (h2 : a2 < 256) :
    let x := a0 + 256 * (a1 + 256 * (a2 + 256 * 0))
    let y := x - (x / 2 &&& 1431655765)
    let z := (y &&& 858993459) + (y / 4 &&& 858993459)
    (x / 2 &&& 1431655765) ≤ x ∧ (z + z / 16) &&& 252645135 = pcn a0 8 + 256 * (pcn a1 8 + 256 * pcn a2 8) := by
  have mA : (1431655765 : Nat) = 85 + 256 * (85 + 256 * (85 + 256 * 85)) := rfl
  have mB : (858993459 : Nat) = 51 + 256 * (51 + 256 * (51 + 256 * 51)) := rfl
  have mC : (252645135 : Nat) = 15 + 256 * (15 + 256 * (15 + 256 * 15)) := rfl
  have b2 := byte_A (b := 0) (m := 85) h2 (by decide)
  have b1 := byte_A (b := a2 + 256 * 0) (m := 85 + 256 * 85) h1 b2.2
  have b0 := byte_A (b := a1 + 256 * (a2 + 256 * 0)) (m := 85 + 256 * (85 + 256 * 85)) h0 b1.2
  rw [b2.1] at b1
  rw [b1.1] at b0
  intro x y z
  refine ⟨by rw [mA]; exact b0.2, ?_⟩
  have ey : y = f1 a0 + 256 * (f1 a1 + 256 * (f1 a2 + 256 * (0 - (0 / 2 &&& 85)))) := by
    show x - (x / 2 &&& 1431655765) = _
    rw [mA]; exact b0.1
  have t0 := b_tab h0
  have t1 := b_tab h1
  have t2 := b_tab h2
  have ez : z = f2 (f1 a0) + 256 * (f2 (f1 a1) + 256 * (f2 (f1 a2) + 256 * 0)) := by
    show (y &&& 858993459) + (y / 4 &&& 858993459) = _
    rw [ey, mB, byte_B t0.2.1, byte_B t1.2.1, byte_B t2.2.1]
    rfl
  rw [ez, mC, byte_C t0.2.2.1 (by have := t1.2.2.2.1; omega), byte_C t1.2.2.1 (by have := t2.2.2.2.1; omega), byte_C t2.2.2.1 (by decide), t0.2.2.2.2.1, t1.2.2.2.2.1, t2.2.2.2.2.1]
  rfl
theorem pcn_20 {M : Nat} (hM : M < 2 ^ 20) : pcn M 20 = pcn (M % 256) 8 + (pcn (M / 256 % 256) 8 + pcn (M / 65536) 8) := by
  have e1 : pcn M 20 = pcn M 8 + (pcn (M / 2 ^ 8) 8 + pcn (M / 2 ^ 8 / 2 ^ 8) 4) := by
    rw [show (20 : Nat) = 8 + 12 from rfl, pcn_add, show (12 : Nat) = 8 + 4 from rfl, pcn_add]
  have e2 : pcn M 8 = pcn (M % 256) 8 := pcn_mod (b := M / 256) (by omega) 8 (Nat.le_refl 8)
  have e3 : pcn (M / 2 ^ 8) 8 = pcn (M / 256 % 256) 8 := pcn_mod (M := M / 2 ^ 8) (b := M / 65536) (by omega) 8 (Nat.le_refl 8)
  have e4 : M / 2 ^ 8 / 2 ^ 8 = M / 65536 := by omega
  have e5 : pcn (M / 65536) 4 = pcn (M / 65536) 8 := (pcn_hi (j := 4) (by omega) 4).symm
  rw [e1, e2, e3, e4, e5]
theorem sum63 {p q r : Nat} (h1 : p ≤ 8) (h2 : q ≤ 8) (h3 : r ≤ 8) : ((p + 256 * (q + 256 * r)) + (p + 256 * (q + 256 * r)) / 2 ^ 8 + ((p + 256 * (q + 256 * r)) + (p + 256 * (q + 256 * r)) / 2 ^ 8) / 2 ^ 16) % 2 ^ 6 = p + (q + r) := by
  have e1 : (p + 256 * (q + 256 * r)) / 2 ^ 8 = q + 256 * r := by omega
  rw [e1]
  have e2 : (p + 256 * (q + 256 * r) + (q + 256 * r)) / 2 ^ 16 = r := by omega
  rw [e2]
  omega
theorem kJ6_265 : Jvm.Cond.constant RJ6 265 1431655765 ∈ BW := BW_mem (by decide +kernel) rfl
theorem kJ6_266 : Jvm.Cond.constant RJ6 266 858993459 ∈ BW := BW_mem (by decide +kernel) rfl
theorem kJ6_267 : Jvm.Cond.constant RJ6 267 252645135 ∈ BW := BW_mem (by decide +kernel) rfl
section BC
variable {E : AEnv} {d : Nat} {h : List va_E} {b : Nat} {σ : Rows} {g s T sh : Nat}
theorem c_bitCount {M : Nat} (hM : M < 2 ^ 20) : Calls E mJ6_bitCount_0f7a4 d 0 0 [.int (nI M)] h (RX (nI (pcn M 20)) h) := by
  refine Calls.of (ls := [some (.int (nI M))]) (by decide +kernel) rfl (Nat.le_of_ble_eq_true rfl) (cat_ok rfl) ?_
  have hM32 : M < 2 ^ 32 := by omega
  have eM : M = M % 256 + 256 * (M / 256 % 256 + 256 * (M / 65536 + 256 * 0)) := by omega
  obtain ⟨hle, hr⟩ := bc_rounds (a0 := M % 256) (a1 := M / 256 % 256) (a2 := M / 65536) (by omega) (by omega) (by omega)
  have p0 := (b_tab (a := M % 256) (by omega)).2.2.2.2.2
  have p1 := (b_tab (a := M / 256 % 256) (by omega)).2.2.2.2.2
  have p2 := (b_tab (a := M / 65536) (by omega)).2.2.2.2.2
  rw [← eM] at hle
  rw [← eM] at hr
  have hy32 : M - (M / 2 &&& 1431655765) < 2 ^ 32 := by omega
  have hz32 : (M - (M / 2 &&& 1431655765) &&& 858993459) + ((M - (M / 2 &&& 1431655765)) / 4 &&& 858993459) < 2 ^ 32 := by
    have q1 : (M - (M / 2 &&& 1431655765) &&& 858993459) ≤ 858993459 := Nat.and_le_right
    have q2 : ((M - (M / 2 &&& 1431655765)) / 4 &&& 858993459) ≤ 858993459 := Nat.and_le_right
    omega
  refine go_iload_0 (DJ6_bitCount_0f7a4.at 0 rfl) ?_
  refine go_iload_0 (DJ6_bitCount_0f7a4.at 1 rfl) ?_
  refine go_iconst (v := nI 1) (DJ6_bitCount_0f7a4.at 2 rfl) (by decide) ?_
  refine go_iushr (DJ6_bitCount_0f7a4.at 3 rfl) ?_
  rw [nx_ush hM32 (by decide)]
  refine go_ldcw (DJ6_bitCount_0f7a4.at 4 rfl) kJ6_265 ?_
  refine go_iand (DJ6_bitCount_0f7a4.at 5 rfl) ?_
  rw [show (1431655765 : Int32) = nI 1431655765 from by decide, nx_and]
  refine go_isub (DJ6_bitCount_0f7a4.at 6 rfl) ?_
  rw [pk_sub hle]
  refine go_istore_0 (DJ6_bitCount_0f7a4.at 7 rfl) ?_
  refine go_iload_0 (DJ6_bitCount_0f7a4.at 8 rfl) ?_
  refine go_ldcw (DJ6_bitCount_0f7a4.at 9 rfl) kJ6_266 ?_
  refine go_iand (DJ6_bitCount_0f7a4.at 10 rfl) ?_
  rw [show (858993459 : Int32) = nI 858993459 from by decide, nx_and]
  refine go_iload_0 (DJ6_bitCount_0f7a4.at 11 rfl) ?_
  refine go_iconst (v := nI 2) (DJ6_bitCount_0f7a4.at 12 rfl) (by decide) ?_
  refine go_iushr (DJ6_bitCount_0f7a4.at 13 rfl) ?_
  rw [nx_ush hy32 (by decide)]
  refine go_ldcw (DJ6_bitCount_0f7a4.at 14 rfl) kJ6_266 ?_
  refine go_iand (DJ6_bitCount_0f7a4.at 15 rfl) ?_
  rw [show (858993459 : Int32) = nI 858993459 from by decide, nx_and]
  refine go_iadd (DJ6_bitCount_0f7a4.at 16 rfl) ?_
  rw [nI_add]
  refine go_istore_0 (DJ6_bitCount_0f7a4.at 17 rfl) ?_
  refine go_iload_0 (DJ6_bitCount_0f7a4.at 18 rfl) ?_
  refine go_iload_0 (DJ6_bitCount_0f7a4.at 19 rfl) ?_
  refine go_iconst (v := nI 4) (DJ6_bitCount_0f7a4.at 20 rfl) (by decide) ?_
  refine go_iushr (DJ6_bitCount_0f7a4.at 21 rfl) ?_
  rw [nx_ush hz32 (by decide)]
  refine go_iadd (DJ6_bitCount_0f7a4.at 22 rfl) ?_
  rw [nI_add]
  refine go_ldcw (DJ6_bitCount_0f7a4.at 23 rfl) kJ6_267 ?_
  refine go_iand (DJ6_bitCount_0f7a4.at 24 rfl) ?_
  rw [show (252645135 : Int32) = nI 252645135 from by decide, nx_and, hr]
  refine go_istore_0 (DJ6_bitCount_0f7a4.at 25 rfl) ?_
  refine go_iload_0 (DJ6_bitCount_0f7a4.at 26 rfl) ?_
  refine go_iload_0 (DJ6_bitCount_0f7a4.at 27 rfl) ?_
  refine go_bipush (v := nI 8) (DJ6_bitCount_0f7a4.at 28 rfl) (by decide) ?_
  refine go_iushr (DJ6_bitCount_0f7a4.at 29 rfl) ?_
  rw [nx_ush (by omega) (by decide)]
  refine go_iadd (DJ6_bitCount_0f7a4.at 30 rfl) ?_
  rw [nI_add]
  refine go_istore_0 (DJ6_bitCount_0f7a4.at 31 rfl) ?_
  refine go_iload_0 (DJ6_bitCount_0f7a4.at 32 rfl) ?_
  refine go_iload_0 (DJ6_bitCount_0f7a4.at 33 rfl) ?_
  refine go_bipush (v := nI 16) (DJ6_bitCount_0f7a4.at 34 rfl) (by decide) ?_
  refine go_iushr (DJ6_bitCount_0f7a4.at 35 rfl) ?_
  rw [nx_ush (by omega) (by decide)]
  refine go_iadd (DJ6_bitCount_0f7a4.at 36 rfl) ?_
  rw [nI_add]
  refine go_istore_0 (DJ6_bitCount_0f7a4.at 37 rfl) ?_
  refine go_iload_0 (DJ6_bitCount_0f7a4.at 38 rfl) ?_
  refine go_bipush (v := nI 63) (DJ6_bitCount_0f7a4.at 39 rfl) (by decide) ?_
  refine go_iand (DJ6_bitCount_0f7a4.at 40 rfl) ?_
  rw [nx_and]
  exact go_iret (DJ6_bitCount_0f7a4.at 41 rfl) rfl rfl (RX.mk (congrArg nI (by
      rw [show (63 : Nat) = 2 ^ 6 - 1 from rfl, Nat.and_two_pow_sub_one_eq_mod, pcn_20 hM]
      exact sum63 p0 p1 p2)) rfl)

theorem pcn_le (M : Nat) : ∀ j, pcn M j ≤ j
  | 0 => Nat.le_refl 0
  | j + 1 => by
    have := pcn_le M j
    have h2 : M / 2 ^ j % 2 < 2 := Nat.mod_lt _ (by decide)
    show pcn M j + M / 2 ^ j % 2 ≤ j + 1
    omega
theorem c_canMendAll {a M r0 : Nat} {src out : Int32} {cf0 lf0 : Nat → Int32} {C : Nat → Nat → Nat} (hp : h[b]? = some (.inr (2, [.ref (b + 1), .int src, .int out]))) (hB0 : BsAt h (b + 1) r0 cf0 lf0) (hS : StAt h a σ) (hL : LayX σ g s T sh) (hC : ColX σ (nc g s) C) (hM : M < 2 ^ nc g s) (hab : a + 6 ≤ b ∨ b + 4 ≤ a) (hd : 3 ≤ d) : Calls E mX2_canMendAll d 0 0 [.ref b, .ref a, .int (nI M)] h (RI (fun x h' => Only b (b + 4) h h' ∧ (∃ src out, PlIs h' b src out) ∧ x = bP (IndP C M (nc g s)))) := by
  refine Calls.of (ls := [some (.ref b), some (.ref a), some (.int (nI M))]) (by decide +kernel) rfl (Nat.le_of_ble_eq_true rfl) (cat_ok rfl) ?_
  have hM20 : M < 2 ^ 20 := Nat.lt_of_lt_of_le hM (Nat.pow_le_pow_right (by decide) hL.2.2.2.2.nc.2)
  refine go_aload_0 (DX2_canMendAll.at 0 rfl) ?_
  refine go_getfield (DX2_canMendAll.at 1 rfl) fX2_12 hp rfl ?_
  refine go_aload_1 (DX2_canMendAll.at 2 rfl) ?_
  refine go_iload_2 (DX2_canMendAll.at 3 rfl) ?_
  refine go_cVv2 (DX2_canMendAll.at 4 rfl) nX2_58 vX0_span (by omega) (c_span hB0 hS hL hC (by omega) (by omega) (by omega)) hB0.1 rfl (Nat.le_of_ble_eq_true rfl) (fun h6 q6 => ?_)
  obtain ⟨o6, r1, U, K, cf1, lf1, hB6, hrep, hI⟩ := q6
  have g6 := o6.at (i := b) (by omega) hp
  have hcnt := hI.2.2.2.2.2.2.2
  have h20 : pcn M 20 = pcn M (nc g s) := by
    have hn := hL.2.2.2.2.nc
    have := pcn_hi hM (20 - nc g s)
    rw [show nc g s + (20 - nc g s) = 20 by omega] at this
    exact this
  refine go_aload_0 (DX2_canMendAll.at 5 rfl) ?_
  refine go_getfield (DX2_canMendAll.at 6 rfl) fX2_12 g6 rfl ?_
  refine go_getfield (DX2_canMendAll.at 7 rfl) fX2_85 hB6.1 rfl ?_
  refine go_iload_2 (DX2_canMendAll.at 8 rfl) ?_
  refine go_cSx1 (DX2_canMendAll.at 9 rfl) nX2_88 vJ6_bitCount_0f7a4 (by omega) (c_bitCount (by omega)) (Nat.le_of_ble_eq_true rfl) ?_
  rw [h20]
  refine go_icmp_ne 27 (DX2_canMendAll.at 10 rfl) (by decide) (fun c20 => ?_) (fun c20 => ?_)
  · rw [nI_eq (by have := hI.1; omega) (by have := pcn_le M (nc g s); have := hL.2.2.2.2.nc; omega)] at c20
    have e0 : bP (IndP C M (nc g s)) = nI 0 := bP_f (fun q => c20 (hcnt.mpr q))
    refine go_iconst (v := nI 0) (DX2_canMendAll.at 13 rfl) (by decide) ?_
    exact go_iret (DX2_canMendAll.at 14 rfl) rfl rfl (RI.mk ⟨o6.mono (by omega) (by omega), ⟨_, _, g6, r1, cf1, lf1, hB6⟩, e0.symm⟩)
  · rw [nI_eq (by have := hI.1; omega) (by have := pcn_le M (nc g s); have := hL.2.2.2.2.nc; omega)] at c20
    have e0 : bP (IndP C M (nc g s)) = nI 1 := bP_t (hcnt.mp c20)
    refine go_iconst (v := nI 1) (DX2_canMendAll.at 11 rfl) (by decide) ?_
    refine go_goto 28 (DX2_canMendAll.at 12 rfl) (by decide) ?_
    exact go_iret (DX2_canMendAll.at 14 rfl) rfl rfl (RI.mk ⟨o6.mono (by omega) (by omega), ⟨_, _, g6, r1, cf1, lf1, hB6⟩, e0.symm⟩)

def ndv (g s sh t A : Nat) : Nat := ((A * 2 ^ (t * sh % nc g s)) ||| (A / 2 ^ (nc g s - t * sh % nc g s))) &&& (2 ^ nc g s - 1)
end BC
end
section
/-! THE SEARCH FOR FATAL SETS -/
/-- a Search at b: how many cells are wanted, sets found, the least nodes, its rows -/
def SeIs (h : List va_E) (b w fd ls : Nat) (rf : Nat → Int32) : Prop := h[b]? = some (.inr (3, [.ref (b + 1), .int (nI w), .int (nI fd), .int (nI ls)])) ∧ h[b + 1]? = some (ar 80 rf)
theorem SeIs.keep {h h1 : List va_E} {b lo hi w fd ls : Nat} {rf : Nat → Int32} (hB : SeIs h b w fd ls rf) (hO : Only lo hi h h1) (hd : b + 2 ≤ lo ∨ hi ≤ b) : SeIs h1 b w fd ls rf := ⟨hO.at (by omega) hB.1, hO.at (by omega) hB.2⟩
theorem SeIs.obj {h : List va_E} {b w fd ls w' fd' ls' : Nat} {rf : Nat → Int32} (hB : SeIs h b w fd ls rf) : SeIs (h.set b (.inr (3, [.ref (b + 1), .int (nI w'), .int (nI fd'), .int (nI ls')]))) b w' fd' ls' rf ∧ Only b (b + 2) h (h.set b (.inr (3, [.ref (b + 1), .int (nI w'), .int (nI fd'), .int (nI ls')]))) :=
  ⟨⟨get_set hB.1, by rw [List.getElem?_set_ne (by omega)]; exact hB.2⟩, Only.set (by omega) (by omega)⟩
theorem SeIs.row {h : List va_E} {b w fd ls : Nat} {rf : Nat → Int32} (hB : SeIs h b w fd ls rf) (f : Nat → Int32) : SeIs (h.set (b + 1) (ar 80 f)) b w fd ls f ∧ Only b (b + 2) h (h.set (b + 1) (ar 80 f)) :=
  ⟨⟨by rw [List.getElem?_set_ne (by omega)]; exact hB.1, get_set hB.2⟩, Only.set (by omega) (by omega)⟩
/-- the least of what was and of f 0 .. f (t - 1); 0 is none yet -/
def nt1 (f : Nat → Nat) : Nat → Nat → Nat
  | 0, ls => ls
  | t + 1, ls => if nt1 f t ls = 0 ∨ f t < nt1 f t ls then f t else nt1 f t ls
theorem nt1_lt {f : Nat → Nat} {B : Nat} (hf : ∀ t, f t < B) : ∀ t {ls}, ls < B → nt1 f t ls < B
  | 0, _, h => h
  | t + 1, _, h => by
    unfold nt1
    split
    · exact hf t
    · exact nt1_lt hf t h
theorem ndv_lt {g s sh t A : Nat} (hn : nc g s ≤ 20) : ndv g s sh t A < 2 ^ 20 := by
  have h1 : ndv g s sh t A ≤ 2 ^ nc g s - 1 := Nat.and_le_right
  have h2 := p20 hn
  have h3 : 0 < 2 ^ nc g s := Nat.two_pow_pos _
  omega
noncomputable def depB (C : Nat → Nat → Nat) (n A : Nat) : Bool := @decide (¬ IndP C A n) (Classical.propDecidable _)
theorem depB_t {C : Nat → Nat → Nat} {n A : Nat} (h : ¬ IndP C A n) : depB C n A = true := @decide_eq_true _ (Classical.propDecidable _) h
theorem depB_f {C : Nat → Nat → Nat} {n A : Nat} (h : IndP C A n) : depB C n A = false := @decide_eq_false _ (Classical.propDecidable _) (fun q => q h)
noncomputable def ntF (C : Nat → Nat → Nat) (g s sh T : Nat) (p : Nat × Nat) (A : Nat) : Nat × Nat := if depB C (nc g s) A then (p.1 + 1, nt1 (fun t => ndv g s sh t A) T p.2) else p
/-- all sets of k more cells from n - m on, beside M -/
def dl (n : Nat) : Nat → Nat → Nat → List Nat
  | 0, k, M => if k = 0 then [M] else []
  | m + 1, k, M => if k = 0 then [M] else dl n m (k - 1) (M ||| 2 ^ (n - m - 1)) ++ dl n m k M
section SE
variable {E : AEnv} {d : Nat} {h : List va_E} {b : Nat} {σ : Rows} {g s T sh : Nat}
end SE
end
section
/-! THE SEARCH GOES THROUGH ALL SETS -/
theorem bit_lt {M j c : Nat} (hM : M < 2 ^ j) (hb : bit M c) : c < j := by
  rcases Nat.lt_or_ge c j with q | q
  · exact q
  · have h1 : M / 2 ^ c = 0 := Nat.div_eq_of_lt (Nat.lt_of_lt_of_le hM (Nat.pow_le_pow_right (by decide) q))
    have h2 : M / 2 ^ c % 2 = 1 := hb
    rw [h1] at h2
    cases h2
theorem bit_or {M j c : Nat} : bit (M ||| 2 ^ j) c ↔ bit M c ∨ c = j := by
  rw [bit_tb, bit_tb, Nat.testBit_or, Nat.testBit_two_pow]
  by_cases e : j = c
  · subst e; simp
  · simp [e, Ne.symm e]
theorem or_lt {M fr j : Nat} (hM : M < 2 ^ fr) (hj : fr ≤ j) : M ||| 2 ^ j < 2 ^ (j + 1) := Nat.or_lt_two_pow (Nat.lt_of_lt_of_le hM (Nat.pow_le_pow_right (by decide) (by omega))) (Nat.pow_lt_pow_right (by decide) (by omega))
theorem pcn_congr {M M' : Nat} : ∀ j, (∀ c, c < j → (bit M c ↔ bit M' c)) → pcn M j = pcn M' j
  | 0, _ => rfl
  | j + 1, h => by
    have h1 := h j (by omega)
    have h2 : M / 2 ^ j % 2 = 1 ↔ M' / 2 ^ j % 2 = 1 := h1
    show pcn M j + M / 2 ^ j % 2 = pcn M' j + M' / 2 ^ j % 2
    rw [pcn_congr j (fun c hc => h c (by omega))]
    omega
theorem IndP.congr {C : Nat → Nat → Nat} {M M' j : Nat} (h : ∀ c, c < j → (bit M c ↔ bit M' c)) (hI : IndP C M j) : IndP C M' j := by
  intro c hc hb
  obtain ⟨l, l1, l2, l3⟩ := hI c hc ((h c hc).mpr hb)
  exact ⟨l, l1, l2, fun c' hc' hb' hne => l3 c' hc' ((h c' hc').mpr hb') hne⟩
theorem BInv.congr {C : Nat → Nat → Nat} {M M' j r : Nat} {U : Nat → Nat → Nat} {K : Nat → Nat} (h : ∀ c, c < j → (bit M c ↔ bit M' c)) (hB : BInv C M j r U K) : BInv C M' j r U K := by
  obtain ⟨h1, h2, h3, h4, h5, h6, h7, h8⟩ := hB
  refine ⟨h1, h2, fun c hc hb => h3 c hc ((h c hc).mpr hb), fun l hl => h4 l ⟨hl.1, fun c hc hb => hl.2 c hc ((h c hc).mp hb)⟩, h5, h6, by rw [← pcn_congr j h]; exact h7, ?_⟩
  rw [← pcn_congr j h, h8]
  exact ⟨fun q => q.congr h, fun q => q.congr (fun c hc => (h c hc).symm)⟩
/-- fewer cells -/
theorem IndP.less {C : Nat → Nat → Nat} {M M' j j' : Nat} (hjj : j ≤ j') (h : ∀ c, c < j → bit M c → bit M' c) (hI : IndP C M' j') : IndP C M j := by
  intro c hc hb
  obtain ⟨l, l1, l2, l3⟩ := hI c (by omega) (h c hc hb)
  exact ⟨l, l1, l2, fun c' hc' hb' hne => l3 c' (by omega) (h c' hc' hb') hne⟩
theorem IndP.ext {C : Nat → Nat → Nat} {M j n : Nat} (hM : M < 2 ^ j) (hI : IndP C M j) : IndP C M n := by
  intro c hc hb
  obtain ⟨l, l1, l2, l3⟩ := hI c (bit_lt hM hb) hb
  exact ⟨l, l1, l2, fun c' hc' hb' hne => l3 c' (bit_lt hM hb') hb' hne⟩
theorem BInv.skips {C : Nat → Nat → Nat} {M fr r : Nat} {U : Nat → Nat → Nat} {K : Nat → Nat} (hM : M < 2 ^ fr) (hB : BInv C M fr r U K) : ∀ k, BInv C M (fr + k) r U K
  | 0 => hB
  | k + 1 => (hB.skips hM k).skip (fun q => by have := bit_lt hM q; omega)
theorem pcn_skips {M fr : Nat} (hM : M < 2 ^ fr) (k : Nat) : pcn M (fr + k) = pcn M fr := pcn_hi hM k
/-- the flag: the chosen cells are independent, and the rows hold what is left; or they are not -/
def FInv (C : Nat → Nat → Nat) (n M fr L F : Nat) (R : Nat → Nat → Nat) : Prop :=
  (F = 0 ∧ ∃ U K, BInv C M fr L U K ∧ L = pcn M fr ∧ ∀ c, fr ≤ c → c < n → ∀ i, i < 6 → R c i = rst U K L (C c) i) ∨ (F = 1 ∧ ¬ IndP C M fr)
theorem FInv.more {C : Nat → Nat → Nat} {n M fr L F j : Nat} {R : Nat → Nat → Nat} (hF : FInv C n M fr L F R) (hC : ∀ c, c < n → B6 (C c)) (hM : M < 2 ^ fr) (hj : fr ≤ j) (hjn : j < n) (hR : B6 (R j)) :
    (F = 1 ∨ (∀ i, i < 6 → R j i = 0) → ∀ R', FInv C n (M ||| 2 ^ j) (j + 1) (L + 1) 1 R') ∧
    (F = 0 → (¬ ∀ i, i < 6 → R j i = 0) → FInv C n (M ||| 2 ^ j) (j + 1) (L + 1) 0 (fun c i => R c i ^^^ gm (gm (R j i) (gv (R j (ldv (R j))))) (R c (ldv (R j))))) := by
  have hcg : ∀ c, c < j → (bit M c ↔ bit (M ||| 2 ^ j) c) := fun c hc => by
    rw [bit_or]
    exact ⟨Or.inl, fun q => q.elim id (fun e => by omega)⟩
  have hbj : bit (M ||| 2 ^ j) j := bit_or.mpr (Or.inr rfl)
  have hbad : ¬ IndP C M fr → ¬ IndP C (M ||| 2 ^ j) (j + 1) := fun hno hI => hno (hI.less (by omega) (fun c hc hb => bit_or.mpr (Or.inl hb)))
  have hpc : ∀ U K, BInv C M fr L U K → L = pcn M fr → BInv C (M ||| 2 ^ j) j L U K ∧ L = pcn (M ||| 2 ^ j) j := by
    intro U K hB hL
    have h1 := hB.skips hM (j - fr)
    rw [show fr + (j - fr) = j by omega] at h1
    refine ⟨h1.congr hcg, ?_⟩
    rw [← pcn_congr j hcg]
    have h2 := pcn_skips hM (j - fr)
    rw [show fr + (j - fr) = j by omega] at h2
    rw [h2]
    exact hL
  refine ⟨fun hor R' => Or.inr ⟨rfl, ?_⟩, fun h0 hne => ?_⟩
  · rcases hF with ⟨hF0, U, K, hB, hL, hrst⟩ | ⟨-, hno⟩
    · rcases hor with q | hz
      · omega
      · obtain ⟨hB', hL'⟩ := hpc U K hB hL
        have hD := hB'.dep (hC j hjn) hbj (fun i hi => by rw [← hrst j hj hjn i hi]; exact hz i hi)
        intro hI
        have e := hD.2.2.2.2.2.2.2.mpr hI
        have e2 : pcn (M ||| 2 ^ j) (j + 1) = pcn (M ||| 2 ^ j) j + 1 := by
          show pcn (M ||| 2 ^ j) j + (M ||| 2 ^ j) / 2 ^ j % 2 = _
          rw [show (M ||| 2 ^ j) / 2 ^ j % 2 = 1 from hbj]
        omega
    · exact hbad hno
  · rcases hF with ⟨hF0, U, K, hB, hL, hrst⟩ | ⟨hF1, -⟩
    · obtain ⟨hB', hL'⟩ := hpc U K hB hL
      have hex : ∃ i, i < 6 ∧ R j i ≠ 0 := by
        apply Classical.byContradiction
        intro hno
        exact hne (fun i hi => Classical.byContradiction fun q => hno ⟨i, hi, q⟩)
      have hsp := ldv_spec hex
      have hld := ldv_lt (R j)
      have hw : ∃ i, i < 6 ∧ rst U K L (C j) i ≠ 0 := by
        obtain ⟨i, hi, q⟩ := hex
        exact ⟨i, hi, by rw [← hrst j hj hjn i hi]; exact q⟩
      have hr6 : L < 6 := by
        obtain ⟨i, hi, q⟩ := hw
        exact hB'.room (hC j hjn) hi q
      have ew : ∀ i, i < 6 → rst U K L (C j) i = R j i := fun i hi => (hrst j hj hjn i hi).symm
      have e2 : pcn (M ||| 2 ^ j) (j + 1) = pcn (M ||| 2 ^ j) j + 1 := by
        show pcn (M ||| 2 ^ j) j + (M ||| 2 ^ j) / 2 ^ j % 2 = _
        rw [show (M ||| 2 ^ j) / 2 ^ j % 2 = 1 from hbj]
      refine Or.inl ⟨rfl, (fun p => if p = L then (fun i => gm (rst U K L (C j) i) (gv (rst U K L (C j) (ldv (R j))))) else U p), (fun p => if p = L then ldv (R j) else K p), ?_, by omega, ?_⟩
      · exact hB'.more (ld := ldv (R j)) (hC j hjn) (fun c hc => hC c (by omega)) hbj hr6 hld (by rw [ew _ hld]; exact hsp) (fun p hp i _ => by rw [if_neg (by omega)]) (fun p hp => by rw [if_neg (by omega)]) (fun i _ => by rw [if_pos rfl]) (if_pos rfl)
      · intro c h1 h2 i hi
        show R c i ^^^ gm (gm (R j i) (gv (R j (ldv (R j))))) (R c (ldv (R j))) = rst _ _ L (C c) i ^^^ gm ((if L = L then (fun i => gm (rst U K L (C j) i) (gv (rst U K L (C j) (ldv (R j))))) else U L) i) (rst _ _ L (C c) (if L = L then ldv (R j) else K L))
        rw [if_pos rfl, if_pos rfl]
        have hold := rst_congr (U := U) (K := K) (U' := fun p => if p = L then (fun i => gm (rst U K L (C j) i) (gv (rst U K L (C j) (ldv (R j))))) else U p) (K' := fun p => if p = L then ldv (R j) else K p) (r := L) (fun p hp i _ => by show U p i = (if p = L then _ else U p) i; rw [if_neg (by omega)]) (fun p hp => by show K p = if p = L then _ else K p; rw [if_neg (by omega)]) (fun p hp => (hB.2.1 p hp).2) L (Nat.le_refl L) (C c)
        rw [← hold i hi, ← hold _ hld, ← hrst c (by omega) h2 i hi, ← hrst c (by omega) h2 _ hld]
        show _ = R c i ^^^ gm (gm (rst U K L (C j) i) (gv (rst U K L (C j) (ldv (R j))))) (R c (ldv (R j)))
        rw [ew i hi, ew _ hld]
    · omega
section SE
variable {E : AEnv} {b : Nat} {σ : Rows} {g s T sh : Nat}
end SE
end
section
/-! THE SEARCH'S RUN -/
section SE
variable {E : AEnv} {d : Nat} {h : List va_E} {b : Nat} {σ : Rows} {g s T sh : Nat}
end SE
end
section
/-! THE TEXT, read by the class -/
abbrev orO (b : Nat) (o : Nat → Int32) : va_E := .inr (1, [.ref (b + 1), .int (o 1), .int (o 2), .int (o 3), .int (o 4), .int (o 5), .int (o 6), .int (o 7), .int (o 8)])
/-- Orders at b: o 1 .. o 8: length, place, count, kind, stripe, cell, node, value; X the signs -/
def OrAt (h : List va_E) (b : Nat) (o : Nat → Int32) (X : Nat → Int32) : Prop := h[b]? = some (orO b o) ∧ h[b + 1]? = some (.inl (1, 60, .inl X))
def OrU (h : List va_E) (b : Nat) (o : Nat → Int32) (X : Nat → Int32) (h' : List va_E) : Prop := OrAt h' b o X ∧ Only b (b + 2) h h'
theorem OrAt.obj {h : List va_E} {b : Nat} {o : Nat → Int32} {X : Nat → Int32} (hO : OrAt h b o X) (o' : Nat → Int32) : OrU h b o' X (h.set b (orO b o')) := ⟨⟨get_set hO.1, by rw [List.getElem?_set_ne (by omega)]; exact hO.2⟩, Only.set (by omega) (by omega)⟩
theorem OrAt.keep {h h1 : List va_E} {b lo hi : Nat} {o : Nat → Int32} {X : Nat → Int32} (hB : OrAt h b o X) (hO : Only lo hi h h1) (hd : b + 2 ≤ lo ∨ hi ≤ b) : OrAt h1 b o X := ⟨hO.at (by omega) hB.1, hO.at (by omega) hB.2⟩
theorem OrU.then {h h1 h2 : List va_E} {b : Nat} {o1 o2 : Nat → Int32} {X1 X2 : Nat → Int32} (u1 : OrU h b o1 X1 h1) (u2 : OrU h1 b o2 X2 h2) : OrU h b o2 X2 h2 := ⟨u2.1, u1.2.trans u2.2⟩
/-- the text: N signs Y -/
def TxtIs (X : Nat → Int32) (Y : Nat → Nat) (N : Nat) : Prop := N ≤ 60 ∧ ∀ j, j < N → X j = nI (Y j) ∧ Y j < 65536
abbrev dgt (Y : Nat → Nat) (N p : Nat) : Prop := p < N ∧ 48 ≤ Y p ∧ Y p ≤ 57
section OR
variable {E : AEnv} {Y : MI} {d k n pc pc' idx : Nat} {ls : List (Option Value)} {st : List Value} {h : List va_E} {b : Nat} {o X : Nat → Int32} {Ψ : Pst}
theorem go_putOr {kf : Nat} {x : Int32} (hd : Dc Y pc (.putfield idx) pc') (hF : FLk Y.1.cls idx 1 kf) (hk : 1 ≤ kf ∧ kf < 9) (hO : OrAt h b o X) (K : ∀ h1, OrU h b (upd o kf x) X h1 → Go E Y d k n pc' ls st h1 Ψ) : Go E Y d k n pc ls (.int x :: .ref b :: st) h Ψ := by
  have K' := K _ (hO.obj (upd o kf x))
  rcases (show kf = 1 ∨ kf = 2 ∨ kf = 3 ∨ kf = 4 ∨ kf = 5 ∨ kf = 6 ∨ kf = 7 ∨ kf = 8 by omega) with rfl | rfl | rfl | rfl | rfl | rfl | rfl | rfl <;>
    exact go_putfield hd hF rfl rfl hO.1 (Nat.le_of_ble_eq_true rfl) (fun w hw => by subst hw; exact ⟨rfl, rfl⟩) K'
/-- the number at p, and where it ends -/
def nmv (Y : Nat → Nat) (N p : Nat) : Nat := if Y p = 48 then 0 else if p + 1 < N ∧ 48 ≤ Y (p + 1) ∧ Y (p + 1) ≤ 57 then 10 * (Y p - 48) + (Y (p + 1) - 48) else Y p - 48
def nme (Y : Nat → Nat) (N p : Nat) : Nat := if Y p = 48 then p + 1 else if p + 1 < N ∧ 48 ≤ Y (p + 1) ∧ Y (p + 1) ≤ 57 then p + 2 else p + 1
end OR
end
section
/-! AN ORDER OF THE TEXT -/
/-- whether an order stands at p, and where it ends, or its first wrong place -/
def ordR (Y : Nat → Nat) (N p : Nat) : Bool × Nat :=
  if p < N ∧ Y p = 110 then (if dgt Y N (p + 1) then (true, nme Y N (p + 1)) else (false, p + 1))
  else if p < N ∧ (Y p = 119 ∨ Y p = 120 ∨ Y p = 109) then
    (if dgt Y N (p + 1) then
      (if p + 2 < N ∧ Y (p + 2) = 46 then
        (if dgt Y N (p + 3) then
          (if Y p = 119 then
            (if nme Y N (p + 3) < N ∧ Y (nme Y N (p + 3)) = 61 then
              (if dgt Y N (nme Y N (p + 3) + 1) then (true, nme Y N (nme Y N (p + 3) + 1)) else (false, nme Y N (p + 3) + 1))
            else (false, nme Y N (p + 3)))
          else (true, nme Y N (p + 3)))
        else (false, p + 3))
      else (false, p + 2))
    else (false, p + 1))
  else (false, p)
theorem nme_le {Y : Nat → Nat} {N p : Nat} (h : p < N) : p + 1 ≤ nme Y N p ∧ nme Y N p ≤ N := by
  unfold nme
  split
  · omega
  · split
    · rename_i q; omega
    · omega
theorem nI_ne1 {v : Nat} (h : v < 2 ^ 31) : ¬ nI v = (-1) := by
  intro e
  have := congrArg (fun z : Int32 => z.toInt) e
  rw [nI_toInt h] at this
  exact absurd this (by rw [show ((-1 : Int32)).toInt = -1 from by decide]; omega)
theorem nmv_lt {Y : Nat → Nat} {N p : Nat} (h : dgt Y N p) : nmv Y N p < 100 := by
  have h1 := h.2.1
  have h2 := h.2.2
  unfold nmv
  split
  · decide
  · split
    · rename_i q; omega
    · omega
section OR
variable {E : AEnv} {d : Nat} {h : List va_E} {b : Nat} {o X : Nat → Int32}
def OrdPost (Yt : Nat → Nat) (N p : Nat) (h : List va_E) (b : Nat) (o X : Nat → Int32) (x : Int32) (h' : List va_E) : Prop :=
  ∃ o', OrU h b o' X h' ∧ o' 1 = o 1 ∧ o' 3 = o 3 ∧ o' 2 = nI (ordR Yt N p).2 ∧
    (((ordR Yt N p).1 = true ∧ x = nI 1 ∧ o' 4 = nI (Yt p) ∧ (Yt p = 110 → o' 7 = nI (nmv Yt N (p + 1))) ∧ (Yt p ≠ 110 → o' 5 = nI (Yt (p + 1) - 48) ∧ o' 6 = nI (nmv Yt N (p + 3)) ∧ (Yt p = 119 → o' 8 = nI (nmv Yt N (nme Yt N (p + 3) + 1))))) ∨
     ((ordR Yt N p).1 = false ∧ x = nI 0))
end OR
end
section
/-! THE FAULT OF THE TEXT -/
theorem ordR_ok {Y : Nat → Nat} {N p : Nat} (h : (ordR Y N p).1 = true) : p + 2 ≤ (ordR Y N p).2 ∧ (ordR Y N p).2 ≤ N := by
  revert h
  unfold ordR
  split
  · split
    · rename_i q; intro _; have := nme_le (Y := Y) (N := N) (p := p + 1) q.1; exact ⟨by show p + 2 ≤ nme Y N (p + 1); omega, this.2⟩
    · intro h; cases h
  · split
    · split
      · split
        · split
          · rename_i q3
            have l3 := nme_le (Y := Y) (N := N) (p := p + 3) q3.1
            split
            · split
              · split
                · rename_i q5; intro _; have := nme_le (Y := Y) (N := N) (p := nme Y N (p + 3) + 1) q5.1; exact ⟨by show p + 2 ≤ nme Y N (nme Y N (p + 3) + 1); omega, this.2⟩
                · intro h; cases h
              · intro h; cases h
            · intro _; exact ⟨by show p + 2 ≤ nme Y N (p + 3); omega, l3.2⟩
          · intro h; cases h
        · intro h; cases h
      · intro h; cases h
    · intro h; cases h
theorem ordR_le {Y : Nat → Nat} {N p : Nat} (hp : p ≤ N) : (ordR Y N p).2 ≤ N := by
  unfold ordR
  split
  · rename_i q
    split
    · rename_i q1; exact (nme_le q1.1).2
    · show p + 1 ≤ N; omega
  · split
    · rename_i q
      split
      · rename_i q1
        split
        · rename_i q2
          split
          · rename_i q3
            have l3 := nme_le (Y := Y) (N := N) (p := p + 3) q3.1
            split
            · split
              · rename_i q4
                split
                · rename_i q5; exact (nme_le q5.1).2
                · show nme Y N (p + 3) + 1 ≤ N; omega
              · exact l3.2
            · exact l3.2
          · show p + 3 ≤ N; omega
        · show p + 2 ≤ N; have := q1.1; omega
      · show p + 1 ≤ N; omega
    · exact hp
/-- the fault of the text from p on, if there is one, and how many orders there are; m: more than the signs that are left -/
def ffS (Y : Nat → Nat) (N : Nat) : Nat → Nat → Option Nat × Nat
  | 0, p => (some p, 0)
  | m + 1, p => if (ordR Y N p).1 = false then (some (ordR Y N p).2, 0) else
      if (ordR Y N p).2 < N ∧ Y (ordR Y N p).2 = 59 then ((ffS Y N m ((ordR Y N p).2 + 1)).1, (ffS Y N m ((ordR Y N p).2 + 1)).2 + 1)
      else if (ordR Y N p).2 < N then (some (ordR Y N p).2, 1) else (none, 1)
section OR
variable {E : AEnv} {d : Nat} {h : List va_E} {b : Nat} {o X : Nat → Int32}
end OR
end
section
/-! CONSTRUCTORS: the new object lies behind l, its rows behind it -/
theorem get_app {α : Type} {l as : List α} {i : Nat} {x : α} (h : as[i]? = some x) : (l ++ as)[l.length + i]? = some x := by
  rw [List.getElem?_append_right (by omega), show l.length + i - l.length = i by omega]
  exact h
theorem get_mid {α : Type} {l as : List α} {x : α} : (l ++ x :: as)[l.length]? = some x := get_app (i := 0) rfl
theorem set_mid {α : Type} {l as : List α} {x y : α} : (l ++ x :: as).set l.length y = l ++ y :: as := by
  rw [List.set_append_right _ _ (Nat.le_refl _), Nat.sub_self, List.set_cons_zero]
theorem len_mid {α : Type} {l as : List α} {x : α} {m : Nat} (h : as.length = m) : (l ++ x :: as).length = l.length + (m + 1) := by
  rw [List.length_append, List.length_cons, h]
theorem Only.app {l cs : List va_E} {h' : List va_E} {hi : Nat} (hO : Only l.length hi (l ++ cs) h') : ∃ cs', h' = l ++ cs' ∧ cs'.length = cs.length := by
  refine ⟨h'.drop l.length, ?_, ?_⟩
  · have e : h'.take l.length = l := by
      apply List.ext_getElem?
      intro i
      rw [List.getElem?_take]
      by_cases q : i < l.length
      · rw [if_pos q, hO.2 i (Or.inl q), List.getElem?_append_left q]
      · rw [if_neg q, List.getElem?_eq_none (by omega)]
    conv => lhs; rw [← List.take_append_drop l.length h']
    rw [e]
  · rw [List.length_drop, hO.1, List.length_append]
    omega
section CT
variable {E : AEnv} {Y : MI} {d k n pc pc' idx : Nat} {ls : List (Option Value)} {st : List Value} {l as : List va_E} {x : va_E} {Ψ : Pst}
theorem go_putM {ci kf : Nat} {C0 : String} {T : u_T} {N : Nat} {fs : List Value} {v : Value} (hd : Dc Y pc (.putfield idx) pc') (hF : FLk Y.1.cls idx ci kf) (hcl : vwCl[ci]? = some (C0, T, N)) (hfin : (T kf).2.2.2 = false) (hl : kf < fs.length)
    (hty : ∀ w : Value, w = cV E v → narrow (clTy ci kf) w = w ∧ fits (clTy ci kf) w = true) (K : Go E Y d k n pc' ls st (l ++ .inr (ci, fs.set kf v) :: as) Ψ) : Go E Y d k n pc ls (v :: .ref l.length :: st) (l ++ .inr (ci, fs) :: as) Ψ :=
  go_putfield hd hF hcl hfin get_mid hl hty (by rw [set_mid]; exact K)
theorem go_finM {ci kf : Nat} {C0 : String} {T : u_T} {N : Nat} {fs : List Value} {v : Value} (hd : Dc Y pc (.putfield idx) pc') (hF : Jvm.Cond.fieldLink Y.1.cls idx (T kf).1 (T kf).2.1 (T kf).2.2.1 ∈ BW) (hcl : vwCl[ci]? = some (C0, T, N)) (hkN : kf < N) (hfin : (T kf).2.2.2 = true) (hin2 : Y.1.name = "<init>") (hdecl : (T kf).1 = Y.1.cls) (hl : kf < fs.length)
    (hty : ∀ w : Value, w = cV E v → narrow (clTy ci kf) w = w ∧ fits (clTy ci kf) w = true) (K : Go E Y d k n pc' ls st (l ++ .inr (ci, fs.set kf v) :: as) Ψ) : Go E Y d k n pc ls (v :: .ref l.length :: st) (l ++ .inr (ci, fs) :: as) Ψ :=
  go_putfinal hd hF hcl hkN hfin hin2 hdecl get_mid hl hty (by rw [set_mid]; exact K)
theorem go_nintM {N m : Nat} {c : Int32} (hd : Dc Y pc (.newarray .int) pc') (hx : ¬ c < 0) (hN : c.toNatClampNeg = N) (hb : N * 4 ≤ 536870912) (hm : as.length = m) (hlen : l.length + (m + 1) < BIGN)
    (K : Go E Y d k n pc' ls (.ref (l.length + (m + 1)) :: st) (l ++ x :: (as ++ [ar N (fun _ => 0)])) Ψ) : Go E Y d (1 + k) (N + n) pc ls (.int c :: st) (l ++ x :: as) Ψ :=
  go_newint hd (BW_i 147 (by decide +kernel) rfl) hx hN hb (by rw [len_mid hm]; exact hlen) (by rw [len_mid hm, List.append_assoc, List.cons_append]; exact K)
theorem go_ncharM {N m : Nat} {c : Int32} (hd : Dc Y pc (.newarray .char) pc') (hx : ¬ c < 0) (hN : c.toNatClampNeg = N) (hb : N * 2 ≤ 536870912) (hm : as.length = m) (hlen : l.length + (m + 1) < BIGN)
    (K : Go E Y d k n pc' ls (.ref (l.length + (m + 1)) :: st) (l ++ x :: (as ++ [.inl (1, N, .inl (fun _ => 0))])) Ψ) : Go E Y d (1 + k) (N + n) pc ls (.int c :: st) (l ++ x :: as) Ψ :=
  go_newchar hd (BW_i 184 (by decide +kernel) rfl) hx hN hb (by rw [len_mid hm]; exact hlen) (by rw [len_mid hm, List.append_assoc, List.cons_append]; exact K)
/-- a new state: 2 groups of 3, 4 stripes, shift 1; nothing lost, nothing counted -/
def StNew (σ : Rows) : Prop := LayX σ 2 3 4 1 ∧ (∀ i, 4 ≤ i → i < 9 → σ 0 i = nI 0) ∧ (∀ a, 2 ≤ a → a ≤ 4 → ∀ j, j < nA a → σ a j = nI 0) ∧ ColX σ (nc 2 3) (colv 2 3)
theorem c_newState (hl : l.length + 6 < BIGN) (hd : 3 ≤ d) : Calls E mX4_init d 5 368 [.ref l.length] (l ++ [.inr (4, [.int 0, .int 0, .int 0, .int 0, .int 0, .int 0, .int 0, .int 0, .int 0, .null, .null, .null, .null, .null])]) (RV (fun h' => ∃ cs σ, h' = l ++ cs ∧ cs.length = 6 ∧ StAt h' l.length σ ∧ StNew σ)) := by
  refine Calls.of (ls := [some (.ref l.length)]) (by decide +kernel) rfl (Nat.le_of_ble_eq_true rfl) (cat_ok rfl) ?_
  refine go_aload_0 (DX4_init.at 0 rfl) ?_
  refine go_objInit (DX4_init.at 1 rfl) (BW_i 64 (by decide +kernel) rfl) (BW_i 57 (by decide +kernel) rfl) (BW_i 58 (by decide +kernel) rfl) (by omega) (Nat.le_of_ble_eq_true rfl) ?_
  refine go_aload_0 (DX4_init.at 2 rfl) ?_
  refine go_iconst (v := nI 0) (DX4_init.at 3 rfl) (by decide) ?_
  refine go_putM (DX4_init.at 4 rfl) fX4_9 rfl rfl (Nat.le_of_ble_eq_true rfl) (fun w hw => by subst hw; exact ⟨rfl, rfl⟩) ?_
  refine go_aload_0 (DX4_init.at 5 rfl) ?_
  refine go_iconst (v := nI 0) (DX4_init.at 6 rfl) (by decide) ?_
  refine go_putM (DX4_init.at 7 rfl) fX4_15 rfl rfl (Nat.le_of_ble_eq_true rfl) (fun w hw => by subst hw; exact ⟨rfl, rfl⟩) ?_
  refine go_aload_0 (DX4_init.at 8 rfl) ?_
  refine go_iconst (v := nI 0) (DX4_init.at 9 rfl) (by decide) ?_
  refine go_putM (DX4_init.at 10 rfl) fX4_18 rfl rfl (Nat.le_of_ble_eq_true rfl) (fun w hw => by subst hw; exact ⟨rfl, rfl⟩) ?_
  refine go_aload_0 (DX4_init.at 11 rfl) ?_
  refine go_iconst (v := nI 0) (DX4_init.at 12 rfl) (by decide) ?_
  refine go_putM (DX4_init.at 13 rfl) fX4_21 rfl rfl (Nat.le_of_ble_eq_true rfl) (fun w hw => by subst hw; exact ⟨rfl, rfl⟩) ?_
  refine go_aload_0 (DX4_init.at 14 rfl) ?_
  refine go_iconst (v := nI 0) (DX4_init.at 15 rfl) (by decide) ?_
  refine go_putM (DX4_init.at 16 rfl) fX4_24 rfl rfl (Nat.le_of_ble_eq_true rfl) (fun w hw => by subst hw; exact ⟨rfl, rfl⟩) ?_
  refine go_aload_0 (DX4_init.at 17 rfl) ?_
  refine go_iconst (v := nI 0) (DX4_init.at 18 rfl) (by decide) ?_
  refine go_putM (DX4_init.at 19 rfl) fX4_27 rfl rfl (Nat.le_of_ble_eq_true rfl) (fun w hw => by subst hw; exact ⟨rfl, rfl⟩) ?_
  refine go_aload_0 (DX4_init.at 20 rfl) ?_
  refine go_iconst (v := nI 0) (DX4_init.at 21 rfl) (by decide) ?_
  refine go_putM (DX4_init.at 22 rfl) fX4_30 rfl rfl (Nat.le_of_ble_eq_true rfl) (fun w hw => by subst hw; exact ⟨rfl, rfl⟩) ?_
  refine go_aload_0 (DX4_init.at 23 rfl) ?_
  refine go_iconst (v := nI 0) (DX4_init.at 24 rfl) (by decide) ?_
  refine go_putM (DX4_init.at 25 rfl) fX4_33 rfl rfl (Nat.le_of_ble_eq_true rfl) (fun w hw => by subst hw; exact ⟨rfl, rfl⟩) ?_
  refine go_aload_0 (DX4_init.at 26 rfl) ?_
  refine go_iconst (v := nI 0) (DX4_init.at 27 rfl) (by decide) ?_
  refine go_putM (DX4_init.at 28 rfl) fX4_36 rfl rfl (Nat.le_of_ble_eq_true rfl) (fun w hw => by subst hw; exact ⟨rfl, rfl⟩) ?_
  refine go_aload_0 (DX4_init.at 29 rfl) ?_
  refine go_sipush (v := nI 160) (DX4_init.at 30 rfl) (by decide) ?_
  refine go_nintM (k := 4) (n := 208) (N := 160) (m := 0) (DX4_init.at 31 rfl) (by decide) (by decide) (by decide) rfl (by omega) ?_
  refine go_finM (DX4_init.at 32 rfl) gX4_39 rfl (by decide) rfl rfl rfl (Nat.le_of_ble_eq_true rfl) (fun w hw => by subst hw; exact ⟨rfl, rfl⟩) ?_
  refine go_aload_0 (DX4_init.at 33 rfl) ?_
  refine go_sipush (v := nI 160) (DX4_init.at 34 rfl) (by decide) ?_
  refine go_nintM (k := 3) (n := 48) (N := 160) (m := 1) (DX4_init.at 35 rfl) (by decide) (by decide) (by decide) rfl (by omega) ?_
  refine go_finM (DX4_init.at 36 rfl) gX4_43 rfl (by decide) rfl rfl rfl (Nat.le_of_ble_eq_true rfl) (fun w hw => by subst hw; exact ⟨rfl, rfl⟩) ?_
  refine go_aload_0 (DX4_init.at 37 rfl) ?_
  refine go_bipush (v := nI 8) (DX4_init.at 38 rfl) (by decide) ?_
  refine go_nintM (k := 2) (n := 40) (N := 8) (m := 2) (DX4_init.at 39 rfl) (by decide) (by decide) (by decide) rfl (by omega) ?_
  refine go_finM (DX4_init.at 40 rfl) gX4_46 rfl (by decide) rfl rfl rfl (Nat.le_of_ble_eq_true rfl) (fun w hw => by subst hw; exact ⟨rfl, rfl⟩) ?_
  refine go_aload_0 (DX4_init.at 41 rfl) ?_
  refine go_bipush (v := nI 20) (DX4_init.at 42 rfl) (by decide) ?_
  refine go_nintM (k := 1) (n := 20) (N := 20) (m := 3) (DX4_init.at 43 rfl) (by decide) (by decide) (by decide) rfl (by omega) ?_
  refine go_finM (DX4_init.at 44 rfl) gX4_49 rfl (by decide) rfl rfl rfl (Nat.le_of_ble_eq_true rfl) (fun w hw => by subst hw; exact ⟨rfl, rfl⟩) ?_
  refine go_aload_0 (DX4_init.at 45 rfl) ?_
  refine go_bipush (v := nI 20) (DX4_init.at 46 rfl) (by decide) ?_
  refine go_nintM (k := 0) (n := 0) (N := 20) (m := 4) (DX4_init.at 47 rfl) (by decide) (by decide) (by decide) rfl (by omega) ?_
  refine go_finM (DX4_init.at 48 rfl) gX4_52 rfl (by decide) rfl rfl rfl (Nat.le_of_ble_eq_true rfl) (fun w hw => by subst hw; exact ⟨rfl, rfl⟩) ?_
  refine go_aload_0 (DX4_init.at 49 rfl) ?_
  refine go_iconst (v := nI 2) (DX4_init.at 50 rfl) (by decide) ?_
  refine go_iconst (v := nI 3) (DX4_init.at 51 rfl) (by decide) ?_
  refine go_iconst (v := nI 4) (DX4_init.at 52 rfl) (by decide) ?_
  refine go_iconst (v := nI 1) (DX4_init.at 53 rfl) (by decide) ?_
  refine go_cVv4 (DX4_init.at 54 rfl) nX4_55 vX4_layOut (by omega) (c_layOut (g := 2) (s := 3) (T := 4) (sh := 1) (σ := fun _ _ => 0) ⟨get_mid, get_app (i := 1) rfl, get_app (i := 2) rfl, get_app (i := 3) rfl, get_app (i := 4) rfl, get_app (i := 5) rfl⟩ (by unfold LayOK; decide) (by omega)) get_mid rfl (Nat.le_of_ble_eq_true rfl) (fun h96 q96 => ?_)
  obtain ⟨σ', u, hL, h47, h8, hz, hC⟩ := q96
  obtain ⟨cs, rfl, hcs⟩ := u.2.app
  exact go_return (DX4_init.at 55 rfl) rfl (RV.mk ⟨cs, σ', rfl, hcs, u.1, hL, fun i h4 h9 => (if e8 : i = 8 then by subst e8; exact h8 else h47 i h4 (by omega)), hz, hC⟩)

theorem c_newOrders (hl : l.length + 2 < BIGN) (hd : 1 ≤ d) : Calls E mX1_init d 1 60 [.ref l.length] (l ++ [.inr (1, [.null, .int 0, .int 0, .int 0, .int 0, .int 0, .int 0, .int 0, .int 0])]) (RV (fun h' => ∃ cs, h' = l ++ cs ∧ cs.length = 2 ∧ OrAt h' l.length (fun _ => 0) (fun _ => 0))) := by
  refine Calls.of (ls := [some (.ref l.length)]) (by decide +kernel) rfl (Nat.le_of_ble_eq_true rfl) (cat_ok rfl) ?_
  refine go_aload_0 (DX1_init.at 0 rfl) ?_
  refine go_objInit (DX1_init.at 1 rfl) (BW_i 154 (by decide +kernel) rfl) (BW_i 57 (by decide +kernel) rfl) (BW_i 58 (by decide +kernel) rfl) (by omega) (Nat.le_of_ble_eq_true rfl) ?_
  refine go_aload_0 (DX1_init.at 2 rfl) ?_
  refine go_bipush (v := nI 60) (DX1_init.at 3 rfl) (by decide) ?_
  refine go_ncharM (k := 0) (n := 0) (N := 60) (m := 0) (DX1_init.at 4 rfl) (by decide) (by decide) (by decide) rfl (by omega) ?_
  refine go_finM (DX1_init.at 5 rfl) gX1_9 rfl (by decide) rfl rfl rfl (Nat.le_of_ble_eq_true rfl) (fun w hw => by subst hw; exact ⟨rfl, rfl⟩) ?_
  refine go_aload_0 (DX1_init.at 6 rfl) ?_
  refine go_iconst (v := nI 0) (DX1_init.at 7 rfl) (by decide) ?_
  refine go_putM (DX1_init.at 8 rfl) fX1_15 rfl rfl (Nat.le_of_ble_eq_true rfl) (fun w hw => by subst hw; exact ⟨rfl, rfl⟩) ?_
  refine go_aload_0 (DX1_init.at 9 rfl) ?_
  refine go_iconst (v := nI 0) (DX1_init.at 10 rfl) (by decide) ?_
  refine go_putM (DX1_init.at 11 rfl) fX1_19 rfl rfl (Nat.le_of_ble_eq_true rfl) (fun w hw => by subst hw; exact ⟨rfl, rfl⟩) ?_
  refine go_aload_0 (DX1_init.at 12 rfl) ?_
  refine go_iconst (v := nI 0) (DX1_init.at 13 rfl) (by decide) ?_
  refine go_putM (DX1_init.at 14 rfl) fX1_22 rfl rfl (Nat.le_of_ble_eq_true rfl) (fun w hw => by subst hw; exact ⟨rfl, rfl⟩) ?_
  refine go_aload_0 (DX1_init.at 15 rfl) ?_
  refine go_iconst (v := nI 0) (DX1_init.at 16 rfl) (by decide) ?_
  refine go_putM (DX1_init.at 17 rfl) fX1_25 rfl rfl (Nat.le_of_ble_eq_true rfl) (fun w hw => by subst hw; exact ⟨rfl, rfl⟩) ?_
  refine go_aload_0 (DX1_init.at 18 rfl) ?_
  refine go_iconst (v := nI 0) (DX1_init.at 19 rfl) (by decide) ?_
  refine go_putM (DX1_init.at 20 rfl) fX1_28 rfl rfl (Nat.le_of_ble_eq_true rfl) (fun w hw => by subst hw; exact ⟨rfl, rfl⟩) ?_
  refine go_aload_0 (DX1_init.at 21 rfl) ?_
  refine go_iconst (v := nI 0) (DX1_init.at 22 rfl) (by decide) ?_
  refine go_putM (DX1_init.at 23 rfl) fX1_31 rfl rfl (Nat.le_of_ble_eq_true rfl) (fun w hw => by subst hw; exact ⟨rfl, rfl⟩) ?_
  refine go_aload_0 (DX1_init.at 24 rfl) ?_
  refine go_iconst (v := nI 0) (DX1_init.at 25 rfl) (by decide) ?_
  refine go_putM (DX1_init.at 26 rfl) fX1_34 rfl rfl (Nat.le_of_ble_eq_true rfl) (fun w hw => by subst hw; exact ⟨rfl, rfl⟩) ?_
  refine go_aload_0 (DX1_init.at 27 rfl) ?_
  refine go_iconst (v := nI 0) (DX1_init.at 28 rfl) (by decide) ?_
  refine go_putM (DX1_init.at 29 rfl) fX1_37 rfl rfl (Nat.le_of_ble_eq_true rfl) (fun w hw => by subst hw; exact ⟨rfl, rfl⟩) ?_
  exact go_return (DX1_init.at 30 rfl) rfl (RV.mk ⟨_, rfl, rfl, get_mid, get_app (i := 1) rfl⟩)

theorem c_newBasis (hl : l.length + 3 < BIGN) (hd : 1 ≤ d) : Calls E mX0_init d 2 12 [.ref l.length] (l ++ [.inr (0, [.null, .null, .int 0])]) (RV (fun h' => ∃ cs, h' = l ++ cs ∧ cs.length = 3 ∧ BsAt h' l.length 0 (fun _ => 0) (fun _ => 0))) := by
  refine Calls.of (ls := [some (.ref l.length)]) (by decide +kernel) rfl (Nat.le_of_ble_eq_true rfl) (cat_ok rfl) ?_
  refine go_aload_0 (DX0_init.at 0 rfl) ?_
  refine go_objInit (DX0_init.at 1 rfl) (BW_i 196 (by decide +kernel) rfl) (BW_i 57 (by decide +kernel) rfl) (BW_i 58 (by decide +kernel) rfl) (by omega) (Nat.le_of_ble_eq_true rfl) ?_
  refine go_aload_0 (DX0_init.at 2 rfl) ?_
  refine go_bipush (v := nI 6) (DX0_init.at 3 rfl) (by decide) ?_
  refine go_nintM (k := 1) (n := 6) (N := 6) (m := 0) (DX0_init.at 4 rfl) (by decide) (by decide) (by decide) rfl (by omega) ?_
  refine go_finM (DX0_init.at 5 rfl) gX0_9 rfl (by decide) rfl rfl rfl (Nat.le_of_ble_eq_true rfl) (fun w hw => by subst hw; exact ⟨rfl, rfl⟩) ?_
  refine go_aload_0 (DX0_init.at 6 rfl) ?_
  refine go_bipush (v := nI 6) (DX0_init.at 7 rfl) (by decide) ?_
  refine go_nintM (k := 0) (n := 0) (N := 6) (m := 1) (DX0_init.at 8 rfl) (by decide) (by decide) (by decide) rfl (by omega) ?_
  refine go_finM (DX0_init.at 9 rfl) gX0_15 rfl (by decide) rfl rfl rfl (Nat.le_of_ble_eq_true rfl) (fun w hw => by subst hw; exact ⟨rfl, rfl⟩) ?_
  refine go_aload_0 (DX0_init.at 10 rfl) ?_
  refine go_iconst (v := nI 0) (DX0_init.at 11 rfl) (by decide) ?_
  refine go_putM (DX0_init.at 12 rfl) fX0_18 rfl rfl (Nat.le_of_ble_eq_true rfl) (fun w hw => by subst hw; exact ⟨rfl, rfl⟩) ?_
  exact go_return (DX0_init.at 13 rfl) rfl (RV.mk ⟨_, rfl, rfl, get_mid, get_app (i := 1) rfl, get_app (i := 2) rfl⟩)

theorem c_newSearch (hl : l.length + 2 < BIGN) (hd : 1 ≤ d) : Calls E mX3_init d 1 80 [.ref l.length] (l ++ [.inr (3, [.null, .int 0, .int 0, .int 0])]) (RV (fun h' => ∃ cs, h' = l ++ cs ∧ cs.length = 2 ∧ SeIs h' l.length 0 0 0 (fun _ => 0))) := by
  refine Calls.of (ls := [some (.ref l.length)]) (by decide +kernel) rfl (Nat.le_of_ble_eq_true rfl) (cat_ok rfl) ?_
  refine go_aload_0 (DX3_init.at 0 rfl) ?_
  refine go_objInit (DX3_init.at 1 rfl) (BW_i 225 (by decide +kernel) rfl) (BW_i 57 (by decide +kernel) rfl) (BW_i 58 (by decide +kernel) rfl) (by omega) (Nat.le_of_ble_eq_true rfl) ?_
  refine go_aload_0 (DX3_init.at 2 rfl) ?_
  refine go_bipush (v := nI 80) (DX3_init.at 3 rfl) (by decide) ?_
  refine go_nintM (k := 0) (n := 0) (N := 80) (m := 0) (DX3_init.at 4 rfl) (by decide) (by decide) (by decide) rfl (by omega) ?_
  refine go_finM (DX3_init.at 5 rfl) gX3_9 rfl (by decide) rfl rfl rfl (Nat.le_of_ble_eq_true rfl) (fun w hw => by subst hw; exact ⟨rfl, rfl⟩) ?_
  refine go_aload_0 (DX3_init.at 6 rfl) ?_
  refine go_iconst (v := nI 0) (DX3_init.at 7 rfl) (by decide) ?_
  refine go_putM (DX3_init.at 8 rfl) fX3_15 rfl rfl (Nat.le_of_ble_eq_true rfl) (fun w hw => by subst hw; exact ⟨rfl, rfl⟩) ?_
  refine go_aload_0 (DX3_init.at 9 rfl) ?_
  refine go_iconst (v := nI 0) (DX3_init.at 10 rfl) (by decide) ?_
  refine go_putM (DX3_init.at 11 rfl) fX3_19 rfl rfl (Nat.le_of_ble_eq_true rfl) (fun w hw => by subst hw; exact ⟨rfl, rfl⟩) ?_
  refine go_aload_0 (DX3_init.at 12 rfl) ?_
  refine go_iconst (v := nI 0) (DX3_init.at 13 rfl) (by decide) ?_
  refine go_putM (DX3_init.at 14 rfl) fX3_22 rfl rfl (Nat.le_of_ble_eq_true rfl) (fun w hw => by subst hw; exact ⟨rfl, rfl⟩) ?_
  exact go_return (DX3_init.at 15 rfl) rfl (RV.mk ⟨_, rfl, rfl, get_mid, get_app (i := 1) rfl⟩)

end CT
end
section
/-! CONSTRUCTORS that make other objects -/
/-- what stood elsewhere than at a still stands -/
def Ext (a : Nat) (h h' : List va_E) : Prop := ∀ i e, i ≠ a → h[i]? = some e → h'[i]? = some e
theorem Ext.rf {a : Nat} {h : List va_E} : Ext a h h := fun _ _ _ e => e
theorem Ext.trans {a : Nat} {h h1 h2 : List va_E} (x : Ext a h h1) (y : Ext a h1 h2) : Ext a h h2 := fun i e hi he => y i e hi (x i e hi he)
theorem Ext.app {a : Nat} {h cs : List va_E} : Ext a h (h ++ cs) := fun i e _ he => by
  rw [List.getElem?_append_left (List.getElem?_eq_some_iff.mp he).1]
  exact he
theorem Ext.mid {l as cs : List va_E} {x y : va_E} : Ext l.length (l ++ x :: as) (l ++ y :: (as ++ cs)) := by
  have h1 : Ext l.length (l ++ x :: as) (l ++ y :: as) := by
    intro i e hi he
    rw [← set_mid (x := x), List.getElem?_set_ne (by omega)]
    exact he
  refine h1.trans ?_
  rw [← List.cons_append, ← List.append_assoc]
  exact Ext.app
theorem StAt.ext {a b : Nat} {h h' : List va_E} {σ : Rows} (x : Ext a h h') (hab : a < b ∨ b + 6 ≤ a) (hS : StAt h b σ) : StAt h' b σ := ⟨x _ _ (by omega) hS.1, x _ _ (by omega) hS.2.1, x _ _ (by omega) hS.2.2.1, x _ _ (by omega) hS.2.2.2.1, x _ _ (by omega) hS.2.2.2.2.1, x _ _ (by omega) hS.2.2.2.2.2⟩
theorem BsAt.ext {a b r : Nat} {h h' : List va_E} {cf lf : Nat → Int32} (x : Ext a h h') (hab : a < b ∨ b + 3 ≤ a) (hS : BsAt h b r cf lf) : BsAt h' b r cf lf := ⟨x _ _ (by omega) hS.1, x _ _ (by omega) hS.2.1, x _ _ (by omega) hS.2.2⟩
theorem PlIs.ext {a b : Nat} {h h' : List va_E} {s o : Int32} (x : Ext a h h') (hab : a < b ∨ b + 4 ≤ a) (hS : PlIs h b s o) : PlIs h' b s o := by
  obtain ⟨h1, r, cf, lf, h2⟩ := hS
  exact ⟨x _ _ (by omega) h1, r, cf, lf, h2.ext x (by omega)⟩
theorem OrAt.ext {a b : Nat} {h h' : List va_E} {o X : Nat → Int32} (x : Ext a h h') (hab : a < b ∨ b + 2 ≤ a) (hS : OrAt h b o X) : OrAt h' b o X := ⟨x _ _ (by omega) hS.1, x _ _ (by omega) hS.2⟩
theorem SeIs.ext {a b w fd ls : Nat} {h h' : List va_E} {rf : Nat → Int32} (x : Ext a h h') (hab : a < b ∨ b + 2 ≤ a) (hS : SeIs h b w fd ls rf) : SeIs h' b w fd ls rf := ⟨x _ _ (by omega) hS.1, x _ _ (by omega) hS.2⟩
abbrev bn0 : va_E := .inr (0, [.null, .null, .int 0])
theorem bn0_ok : ∀ j, j < 3 → defaultValue (clTy 0 j) = vp_V [.null, .null, .int 0] j := by
  intro j hj
  rcases (show j = 0 ∨ j = 1 ∨ j = 2 by omega) with rfl | rfl | rfl <;> rfl
abbrev bn1 : va_E := .inr (1, [.null, .int 0, .int 0, .int 0, .int 0, .int 0, .int 0, .int 0, .int 0])
theorem bn1_ok : ∀ j, j < 9 → defaultValue (clTy 1 j) = vp_V [.null, .int 0, .int 0, .int 0, .int 0, .int 0, .int 0, .int 0, .int 0] j := by
  intro j hj
  rcases (show j = 0 ∨ j = 1 ∨ j = 2 ∨ j = 3 ∨ j = 4 ∨ j = 5 ∨ j = 6 ∨ j = 7 ∨ j = 8 by omega) with rfl | rfl | rfl | rfl | rfl | rfl | rfl | rfl | rfl <;> rfl
abbrev bn2 : va_E := .inr (2, [.null, .int 0, .int 0])
theorem bn2_ok : ∀ j, j < 3 → defaultValue (clTy 2 j) = vp_V [.null, .int 0, .int 0] j := by
  intro j hj
  rcases (show j = 0 ∨ j = 1 ∨ j = 2 by omega) with rfl | rfl | rfl <;> rfl
abbrev bn3 : va_E := .inr (3, [.null, .int 0, .int 0, .int 0])
theorem bn3_ok : ∀ j, j < 4 → defaultValue (clTy 3 j) = vp_V [.null, .int 0, .int 0, .int 0] j := by
  intro j hj
  rcases (show j = 0 ∨ j = 1 ∨ j = 2 ∨ j = 3 by omega) with rfl | rfl | rfl | rfl <;> rfl
abbrev bn4 : va_E := .inr (4, [.int 0, .int 0, .int 0, .int 0, .int 0, .int 0, .int 0, .int 0, .int 0, .null, .null, .null, .null, .null])
theorem bn4_ok : ∀ j, j < 14 → defaultValue (clTy 4 j) = vp_V [.int 0, .int 0, .int 0, .int 0, .int 0, .int 0, .int 0, .int 0, .int 0, .null, .null, .null, .null, .null] j := by
  intro j hj
  rcases (show j = 0 ∨ j = 1 ∨ j = 2 ∨ j = 3 ∨ j = 4 ∨ j = 5 ∨ j = 6 ∨ j = 7 ∨ j = 8 ∨ j = 9 ∨ j = 10 ∨ j = 11 ∨ j = 12 ∨ j = 13 by omega) with rfl | rfl | rfl | rfl | rfl | rfl | rfl | rfl | rfl | rfl | rfl | rfl | rfl | rfl <;> rfl
section CT
variable {E : AEnv} {Y : MI} {d k n pc pc' idx : Nat} {ls : List (Option Value)} {st : List Value} {l as : List va_E} {x : va_E} {Ψ : Pst}
/-- new in the middle -/
theorem go_newM {ci N m : Nat} {C0 : String} {T : u_T} {fs : List Value} (hd : Dc Y pc (.new idx) pc') (hcl : vwCl[ci]? = some (C0, T, N)) (hlk : Cond.classLink Y.1.cls idx C0 ∈ BW) (hin : Cond.instantiable C0 N ∈ BW) (hini : Cond.initialized C0 ∈ BW) (hfs : ∀ j, j < N → defaultValue (clTy ci j) = vp_V fs j) (hno : fs.map (cV E) = fs) (hm : as.length = m) (hlen : l.length + (m + 1) < BIGN)
    (K : Go E Y d k n pc' ls (.ref (l ++ x :: as).length :: st) ((l ++ x :: as) ++ [.inr (ci, fs)]) Ψ) : Go E Y d (1 + k) (N + n) pc ls st (l ++ x :: as) Ψ :=
  go_new hd hcl hlk hin hini hfs hno (by rw [len_mid hm]; exact hlen) K
theorem c_newPlan (hl : l.length + 4 < BIGN) (hl2 : l.length + 1 + 3 < BIGN) (hd : 2 ≤ d) : Calls E mX2_init d 3 15 [.ref l.length] (l ++ [bn2]) (RV (fun h' => ∃ cs, h' = l ++ cs ∧ cs.length = 4 ∧ PlIs h' l.length 0 0)) := by
  refine Calls.of (ls := [some (.ref l.length)]) (by decide +kernel) rfl (Nat.le_of_ble_eq_true rfl) (cat_ok rfl) ?_
  refine go_aload_0 (DX2_init.at 0 rfl) ?_
  refine go_objInit (DX2_init.at 1 rfl) (BW_i 190 (by decide +kernel) rfl) (BW_i 57 (by decide +kernel) rfl) (BW_i 58 (by decide +kernel) rfl) (by omega) (Nat.le_of_ble_eq_true rfl) ?_
  refine go_aload_0 (DX2_init.at 2 rfl) ?_
  refine go_newM (ci := 0) (N := 3) (k := 2) (n := 12) (m := 0) (DX2_init.at 3 rfl) rfl (BW_i 191 (by decide +kernel) rfl) (BW_i 192 (by decide +kernel) rfl) (BW_i 46 (by decide +kernel) rfl) bn0_ok rfl rfl (by omega) ?_
  refine go_dup (DX2_init.at 4 rfl) rfl ?_
  refine go_callI (k1 := 2) (n1 := 12) (k := 0) (n := 0) (As := []) (DX2_init.at 5 rfl) nX2_11 vX0_init (by omega) (c_newBasis (by rw [len_mid rfl]; exact hl2) (by omega)) rfl (Nat.le_of_ble_eq_true rfl) (fun h9 q9 => ?_)
  obtain ⟨cs, rfl, hcs, hB⟩ := q9
  rw [len_mid (m := 0) rfl, List.append_assoc, List.cons_append, List.nil_append] at *
  refine go_finM (DX2_init.at 6 rfl) gX2_12 rfl (by decide) rfl rfl rfl (Nat.le_of_ble_eq_true rfl) (fun w hw => by subst hw; exact ⟨rfl, rfl⟩) ?_
  refine go_aload_0 (DX2_init.at 7 rfl) ?_
  refine go_iconst (v := nI 0) (DX2_init.at 8 rfl) (by decide) ?_
  refine go_putM (DX2_init.at 9 rfl) fX2_18 rfl rfl (Nat.le_of_ble_eq_true rfl) (fun w hw => by subst hw; exact ⟨rfl, rfl⟩) ?_
  refine go_aload_0 (DX2_init.at 10 rfl) ?_
  refine go_iconst (v := nI 0) (DX2_init.at 11 rfl) (by decide) ?_
  refine go_putM (DX2_init.at 12 rfl) fX2_22 rfl rfl (Nat.le_of_ble_eq_true rfl) (fun w hw => by subst hw; exact ⟨rfl, rfl⟩) ?_
  exact go_return (DX2_init.at 13 rfl) rfl (RV.mk ⟨_, rfl, by rw [List.length_cons, hcs], get_mid, 0, _, _, hB.ext (by have := Ext.mid (l := l) (as := cs) (cs := []) (x := bn2) (y := .inr (2, [.ref (l.length + 1), .int 0, .int 0])); rw [List.append_nil] at this; exact this) (by omega)⟩)

end CT
end
section
/-! THE CLASS'S OBJECT: what it holds, and how it is made -/
abbrev clO (b : Nat) (n t : Int32) : va_E := .inr (5, [.ref (b + 1), .ref (b + 7), .ref (b + 13), .ref (b + 19), .ref (b + 20), .ref (b + 22), .ref (b + 26), .int n, .int t])
abbrev hsA (F : Nat → Option Nat) : va_E := .inl (2, 4, .inr (.inr (.inr (.inr F))))
theorem Ext.mid0 {l as : List va_E} {x y : va_E} : Ext l.length (l ++ x :: as) (l ++ y :: as) := by
  intro i e hi he
  rw [← set_mid (x := x), List.getElem?_set_ne (by omega)]
  exact he
theorem Ext.set {a : Nat} {h : List va_E} {e : va_E} : Ext a h (h.set a e) := fun i e' hi he => by
  rw [List.getElem?_set_ne (by omega)]
  exact he
theorem set_app {α : Type} {l as : List α} {i : Nat} {y : α} : (l ++ as).set (l.length + i) y = l ++ as.set i y := by
  rw [List.set_append_right _ _ (by omega), show l.length + i - l.length = i by omega]
section CT
variable {E : AEnv} {Y : MI} {d k n pc0 pc1 pc2 pc3 pc4 idx : Nat} {ls : List (Option Value)} {st : List Value} {l as : List va_E} {x : va_E} {Ψ : Pst}
theorem go_mkState {m : Nat} (d1 : Dc mX5_init pc0 (.new 7) pc1) (d2 : Dc mX5_init pc1 .dup pc2) (d3 : Dc mX5_init pc2 (.invokespecial 9) pc3) (hm : as.length = m) (hlen : l.length + (m + 8) < BIGN) (hd : 4 ≤ d) (hcat : (st.map fun v => v.category).sum ≤ 7)
    (K : ∀ cs, cs.length = 6 → (∃ σ, StAt (l ++ x :: (as ++ cs)) (l.length + (m + 1)) σ ∧ StNew σ) → Go E mX5_init d k n pc3 ls (.ref (l.length + (m + 1)) :: st) (l ++ x :: (as ++ cs)) Ψ) : Go E mX5_init d (6 + k) (382 + n) pc0 ls st (l ++ x :: as) Ψ := by
  rw [show 6 + k = 1 + (5 + k) by omega, show 382 + n = 14 + (368 + n) by omega]
  refine go_newM (ci := 4) (N := 14) (m := m) d1 rfl (BW_i 59 (by decide +kernel) rfl) (BW_i 60 (by decide +kernel) rfl) (BW_i 42 (by decide +kernel) rfl) bn4_ok rfl hm (by omega) ?_
  refine go_dup d2 rfl ?_
  refine go_callI (k1 := 5) (n1 := 368) (k := k) (n := n) (As := []) d3 nX5_9 vX4_init (by omega) (c_newState (by rw [len_mid hm]; omega) (by omega)) rfl (by rw [List.map_cons, List.sum_cons]; have : (Value.ref (l ++ x :: as).length).category = 1 := rfl; omega) (fun h9 q9 => ?_)
  obtain ⟨cs, σ, rfl, hcs, q1, q2⟩ := q9
  rw [len_mid hm, List.append_assoc, List.cons_append] at *
  exact K cs hcs ⟨σ, q1, q2⟩
theorem go_fiState {m kf : Nat} {fs : List Value} (d1 : Dc mX5_init pc0 (.new 7) pc1) (d2 : Dc mX5_init pc1 .dup pc2) (d3 : Dc mX5_init pc2 (.invokespecial 9) pc3) (d4 : Dc mX5_init pc3 (.putfield idx) pc4) (hF : Jvm.Cond.fieldLink RX5 idx (TX5 kf).1 (TX5 kf).2.1 (TX5 kf).2.2.1 ∈ BW) (hkN : kf < 9) (hfin : (TX5 kf).2.2.2 = true) (hdecl : (TX5 kf).1 = RX5) (hl : kf < fs.length)
    (hty : ∀ a, narrow (clTy 5 kf) (.ref a) = .ref a ∧ fits (clTy 5 kf) (.ref a) = true) (hm : as.length = m) (hlen : l.length + (m + 8) < BIGN) (hd : 4 ≤ d)
    (K : ∀ as', as'.length = m + 6 → Ext l.length (l ++ .inr (5, fs) :: as) (l ++ .inr (5, fs.set kf (.ref (l.length + (m + 1)))) :: as') → (∃ σ, StAt (l ++ .inr (5, fs.set kf (.ref (l.length + (m + 1)))) :: as') (l.length + (m + 1)) σ ∧ StNew σ) → Go E mX5_init d k n pc4 ls [] (l ++ .inr (5, fs.set kf (.ref (l.length + (m + 1)))) :: as') Ψ) : Go E mX5_init d (6 + k) (382 + n) pc0 ls [.ref l.length] (l ++ .inr (5, fs) :: as) Ψ := by
  refine go_mkState d1 d2 d3 hm hlen hd (Nat.le_of_ble_eq_true rfl) (fun cs hcs q => ?_)
  refine go_finM d4 hF rfl hkN hfin rfl hdecl hl (fun w hw => by subst hw; exact hty _) (K (as ++ cs) (by rw [List.length_append, hm, hcs]) Ext.mid ?_)
  obtain ⟨σ, q1, q2⟩ := q
  exact ⟨σ, q1.ext Ext.mid0 (by omega), q2⟩
theorem go_mkOrders {m : Nat} (d1 : Dc mX5_init pc0 (.new 26) pc1) (d2 : Dc mX5_init pc1 .dup pc2) (d3 : Dc mX5_init pc2 (.invokespecial 28) pc3) (hm : as.length = m) (hlen : l.length + (m + 8) < BIGN) (hd : 2 ≤ d) (hcat : (st.map fun v => v.category).sum ≤ 7)
    (K : ∀ cs, cs.length = 2 → (OrAt (l ++ x :: (as ++ cs)) (l.length + (m + 1)) (fun _ => 0) (fun _ => 0)) → Go E mX5_init d k n pc3 ls (.ref (l.length + (m + 1)) :: st) (l ++ x :: (as ++ cs)) Ψ) : Go E mX5_init d (2 + k) (69 + n) pc0 ls st (l ++ x :: as) Ψ := by
  rw [show 2 + k = 1 + (1 + k) by omega, show 69 + n = 9 + (60 + n) by omega]
  refine go_newM (ci := 1) (N := 9) (m := m) d1 rfl (BW_i 149 (by decide +kernel) rfl) (BW_i 150 (by decide +kernel) rfl) (BW_i 44 (by decide +kernel) rfl) bn1_ok rfl hm (by omega) ?_
  refine go_dup d2 rfl ?_
  refine go_callI (k1 := 1) (n1 := 60) (k := k) (n := n) (As := []) d3 nX5_28 vX1_init (by omega) (c_newOrders (by rw [len_mid hm]; omega) (by omega)) rfl (by rw [List.map_cons, List.sum_cons]; have : (Value.ref (l ++ x :: as).length).category = 1 := rfl; omega) (fun h9 q9 => ?_)
  obtain ⟨cs, rfl, hcs, q1⟩ := q9
  rw [len_mid hm, List.append_assoc, List.cons_append] at *
  exact K cs hcs q1
theorem go_fiOrders {m kf : Nat} {fs : List Value} (d1 : Dc mX5_init pc0 (.new 26) pc1) (d2 : Dc mX5_init pc1 .dup pc2) (d3 : Dc mX5_init pc2 (.invokespecial 28) pc3) (d4 : Dc mX5_init pc3 (.putfield idx) pc4) (hF : Jvm.Cond.fieldLink RX5 idx (TX5 kf).1 (TX5 kf).2.1 (TX5 kf).2.2.1 ∈ BW) (hkN : kf < 9) (hfin : (TX5 kf).2.2.2 = true) (hdecl : (TX5 kf).1 = RX5) (hl : kf < fs.length)
    (hty : ∀ a, narrow (clTy 5 kf) (.ref a) = .ref a ∧ fits (clTy 5 kf) (.ref a) = true) (hm : as.length = m) (hlen : l.length + (m + 8) < BIGN) (hd : 2 ≤ d)
    (K : ∀ as', as'.length = m + 2 → Ext l.length (l ++ .inr (5, fs) :: as) (l ++ .inr (5, fs.set kf (.ref (l.length + (m + 1)))) :: as') → (OrAt (l ++ .inr (5, fs.set kf (.ref (l.length + (m + 1)))) :: as') (l.length + (m + 1)) (fun _ => 0) (fun _ => 0)) → Go E mX5_init d k n pc4 ls [] (l ++ .inr (5, fs.set kf (.ref (l.length + (m + 1)))) :: as') Ψ) : Go E mX5_init d (2 + k) (69 + n) pc0 ls [.ref l.length] (l ++ .inr (5, fs) :: as) Ψ := by
  refine go_mkOrders d1 d2 d3 hm hlen hd (Nat.le_of_ble_eq_true rfl) (fun cs hcs q => ?_)
  refine go_finM d4 hF rfl hkN hfin rfl hdecl hl (fun w hw => by subst hw; exact hty _) (K (as ++ cs) (by rw [List.length_append, hm, hcs]) Ext.mid ?_)
  have q1 := q
  exact q1.ext Ext.mid0 (by omega)
theorem go_mkPlan {m : Nat} (d1 : Dc mX5_init pc0 (.new 33) pc1) (d2 : Dc mX5_init pc1 .dup pc2) (d3 : Dc mX5_init pc2 (.invokespecial 35) pc3) (hm : as.length = m) (hlen : l.length + (m + 8) < BIGN) (hd : 3 ≤ d) (hcat : (st.map fun v => v.category).sum ≤ 7)
    (K : ∀ cs, cs.length = 4 → (PlIs (l ++ x :: (as ++ cs)) (l.length + (m + 1)) 0 0) → Go E mX5_init d k n pc3 ls (.ref (l.length + (m + 1)) :: st) (l ++ x :: (as ++ cs)) Ψ) : Go E mX5_init d (4 + k) (18 + n) pc0 ls st (l ++ x :: as) Ψ := by
  rw [show 4 + k = 1 + (3 + k) by omega, show 18 + n = 3 + (15 + n) by omega]
  refine go_newM (ci := 2) (N := 3) (m := m) d1 rfl (BW_i 185 (by decide +kernel) rfl) (BW_i 186 (by decide +kernel) rfl) (BW_i 45 (by decide +kernel) rfl) bn2_ok rfl hm (by omega) ?_
  refine go_dup d2 rfl ?_
  refine go_callI (k1 := 3) (n1 := 15) (k := k) (n := n) (As := []) d3 nX5_35 vX2_init (by omega) (c_newPlan (by rw [len_mid hm]; omega) (by rw [len_mid hm]; omega) (by omega)) rfl (by rw [List.map_cons, List.sum_cons]; have : (Value.ref (l ++ x :: as).length).category = 1 := rfl; omega) (fun h9 q9 => ?_)
  obtain ⟨cs, rfl, hcs, q1⟩ := q9
  rw [len_mid hm, List.append_assoc, List.cons_append] at *
  exact K cs hcs q1
theorem go_fiPlan {m kf : Nat} {fs : List Value} (d1 : Dc mX5_init pc0 (.new 33) pc1) (d2 : Dc mX5_init pc1 .dup pc2) (d3 : Dc mX5_init pc2 (.invokespecial 35) pc3) (d4 : Dc mX5_init pc3 (.putfield idx) pc4) (hF : Jvm.Cond.fieldLink RX5 idx (TX5 kf).1 (TX5 kf).2.1 (TX5 kf).2.2.1 ∈ BW) (hkN : kf < 9) (hfin : (TX5 kf).2.2.2 = true) (hdecl : (TX5 kf).1 = RX5) (hl : kf < fs.length)
    (hty : ∀ a, narrow (clTy 5 kf) (.ref a) = .ref a ∧ fits (clTy 5 kf) (.ref a) = true) (hm : as.length = m) (hlen : l.length + (m + 8) < BIGN) (hd : 3 ≤ d)
    (K : ∀ as', as'.length = m + 4 → Ext l.length (l ++ .inr (5, fs) :: as) (l ++ .inr (5, fs.set kf (.ref (l.length + (m + 1)))) :: as') → (PlIs (l ++ .inr (5, fs.set kf (.ref (l.length + (m + 1)))) :: as') (l.length + (m + 1)) 0 0) → Go E mX5_init d k n pc4 ls [] (l ++ .inr (5, fs.set kf (.ref (l.length + (m + 1)))) :: as') Ψ) : Go E mX5_init d (4 + k) (18 + n) pc0 ls [.ref l.length] (l ++ .inr (5, fs) :: as) Ψ := by
  refine go_mkPlan d1 d2 d3 hm hlen hd (Nat.le_of_ble_eq_true rfl) (fun cs hcs q => ?_)
  refine go_finM d4 hF rfl hkN hfin rfl hdecl hl (fun w hw => by subst hw; exact hty _) (K (as ++ cs) (by rw [List.length_append, hm, hcs]) Ext.mid ?_)
  have q1 := q
  exact q1.ext Ext.mid0 (by omega)
theorem go_mkSearch {m : Nat} (d1 : Dc mX5_init pc0 (.new 40) pc1) (d2 : Dc mX5_init pc1 .dup pc2) (d3 : Dc mX5_init pc2 (.invokespecial 42) pc3) (hm : as.length = m) (hlen : l.length + (m + 8) < BIGN) (hd : 2 ≤ d) (hcat : (st.map fun v => v.category).sum ≤ 7)
    (K : ∀ cs, cs.length = 2 → (SeIs (l ++ x :: (as ++ cs)) (l.length + (m + 1)) 0 0 0 (fun _ => 0)) → Go E mX5_init d k n pc3 ls (.ref (l.length + (m + 1)) :: st) (l ++ x :: (as ++ cs)) Ψ) : Go E mX5_init d (2 + k) (84 + n) pc0 ls st (l ++ x :: as) Ψ := by
  rw [show 2 + k = 1 + (1 + k) by omega, show 84 + n = 4 + (80 + n) by omega]
  refine go_newM (ci := 3) (N := 4) (m := m) d1 rfl (BW_i 220 (by decide +kernel) rfl) (BW_i 221 (by decide +kernel) rfl) (BW_i 47 (by decide +kernel) rfl) bn3_ok rfl hm (by omega) ?_
  refine go_dup d2 rfl ?_
  refine go_callI (k1 := 1) (n1 := 80) (k := k) (n := n) (As := []) d3 nX5_42 vX3_init (by omega) (c_newSearch (by rw [len_mid hm]; omega) (by omega)) rfl (by rw [List.map_cons, List.sum_cons]; have : (Value.ref (l ++ x :: as).length).category = 1 := rfl; omega) (fun h9 q9 => ?_)
  obtain ⟨cs, rfl, hcs, q1⟩ := q9
  rw [len_mid hm, List.append_assoc, List.cons_append] at *
  exact K cs hcs q1
theorem go_fiSearch {m kf : Nat} {fs : List Value} (d1 : Dc mX5_init pc0 (.new 40) pc1) (d2 : Dc mX5_init pc1 .dup pc2) (d3 : Dc mX5_init pc2 (.invokespecial 42) pc3) (d4 : Dc mX5_init pc3 (.putfield idx) pc4) (hF : Jvm.Cond.fieldLink RX5 idx (TX5 kf).1 (TX5 kf).2.1 (TX5 kf).2.2.1 ∈ BW) (hkN : kf < 9) (hfin : (TX5 kf).2.2.2 = true) (hdecl : (TX5 kf).1 = RX5) (hl : kf < fs.length)
    (hty : ∀ a, narrow (clTy 5 kf) (.ref a) = .ref a ∧ fits (clTy 5 kf) (.ref a) = true) (hm : as.length = m) (hlen : l.length + (m + 8) < BIGN) (hd : 2 ≤ d)
    (K : ∀ as', as'.length = m + 2 → Ext l.length (l ++ .inr (5, fs) :: as) (l ++ .inr (5, fs.set kf (.ref (l.length + (m + 1)))) :: as') → (SeIs (l ++ .inr (5, fs.set kf (.ref (l.length + (m + 1)))) :: as') (l.length + (m + 1)) 0 0 0 (fun _ => 0)) → Go E mX5_init d k n pc4 ls [] (l ++ .inr (5, fs.set kf (.ref (l.length + (m + 1)))) :: as') Ψ) : Go E mX5_init d (2 + k) (84 + n) pc0 ls [.ref l.length] (l ++ .inr (5, fs) :: as) Ψ := by
  refine go_mkSearch d1 d2 d3 hm hlen hd (Nat.le_of_ble_eq_true rfl) (fun cs hcs q => ?_)
  refine go_finM d4 hF rfl hkN hfin rfl hdecl hl (fun w hw => by subst hw; exact hty _) (K (as ++ cs) (by rw [List.length_append, hm, hcs]) Ext.mid ?_)
  have q1 := q
  exact q1.ext Ext.mid0 (by omega)
end CT
end
section
/-! THE CLASS'S OBJECT IS MADE -/
def CtB (h : List va_E) (b : Nat) : Prop := (∃ σ, StAt h (b + 1) σ ∧ StNew σ) ∧ (∃ σ, StAt h (b + 7) σ ∧ StNew σ) ∧ (∃ σ, StAt h (b + 13) σ ∧ StNew σ) ∧ OrAt h (b + 20) (fun _ => 0) (fun _ => 0) ∧ PlIs h (b + 22) 0 0 ∧ SeIs h (b + 26) 0 0 0 (fun _ => 0)
theorem CtB.ext {h h' : List va_E} {a b : Nat} (x : Ext a h h') (ha : a = b ∨ a = b + 19) (q : CtB h b) : CtB h' b := by
  obtain ⟨⟨σ1, s1, w1⟩, ⟨σ2, s2, w2⟩, ⟨σ3, s3, w3⟩, o, p, e⟩ := q
  exact ⟨⟨σ1, s1.ext x (by omega), w1⟩, ⟨σ2, s2.ext x (by omega), w2⟩, ⟨σ3, s3.ext x (by omega), w3⟩, o.ext x (by omega), p.ext x (by omega), e.ext x (by omega)⟩
def HsT (h : List va_E) (b : Nat) (j : Nat) : Prop := ∃ F, h[b + 19]? = some (hsA F) ∧ ∀ i, i < j → F i = some (b + 28 + 6 * i) ∧ ∃ σ, StAt h (b + 28 + 6 * i) σ ∧ StNew σ
def ClNew (h : List va_E) (b : Nat) : Prop := h[b]? = some (clO b (nI 0) (nI 0)) ∧ CtB h b ∧ HsT h b 4
section CT
variable {E : AEnv} {Y : MI} {d k n pc pc' idx : Nat} {ls : List (Option Value)} {st : List Value} {l as : List va_E} {x : va_E} {Ψ : Pst}
theorem go_fiHist {m : Nat} {fs : List Value} (hd : Dc mX5_init pc (.anewarray 7) pc') {pc2 : Nat} (hd2 : Dc mX5_init pc' (.putfield 22) pc2) (hm : as.length = m) (hlen : l.length + (m + 8) < BIGN) (hl : 3 < fs.length)
    (K : ∀ as', as'.length = m + 1 → Ext l.length (l ++ .inr (5, fs) :: as) (l ++ .inr (5, fs.set 3 (.ref (l.length + (m + 1)))) :: as') → (l ++ .inr (5, fs.set 3 (.ref (l.length + (m + 1)))) :: as')[l.length + (m + 1)]? = some (hsA fun _ => none) → Go E mX5_init d k n pc2 ls [] (l ++ .inr (5, fs.set 3 (.ref (l.length + (m + 1)))) :: as') Ψ) : Go E mX5_init d (1 + k) (4 + n) pc ls [.int (nI 4), .ref l.length] (l ++ .inr (5, fs) :: as) Ψ := by
  refine go_newStates (N := 4) hd (BW_i 59 (by decide +kernel) rfl) (by decide) (by decide) (by decide) (by rw [len_mid hm]; omega) ?_
  rw [len_mid hm, List.append_assoc, List.cons_append]
  refine go_finM hd2 gX5_22 rfl (by decide) rfl rfl rfl hl (fun w hw => by subst hw; exact ⟨rfl, rfl⟩) (K (as ++ [hsA fun _ => none]) (by rw [List.length_append, hm]; rfl) Ext.mid ?_)
  refine get_app ?_
  rw [List.getElem?_cons_succ, List.getElem?_append_right (by omega), show m - as.length = 0 by omega]
  rfl
theorem c_newClass (hl : l.length + 60 < BIGN) (hd : 5 ≤ d) : Calls E mX5_init d 51 2849 [.ref l.length] (l ++ [.inr (5, [.null, .null, .null, .null, .null, .null, .null, .int 0, .int 0])]) (RV (fun h' => ∃ cs, h' = l ++ cs ∧ cs.length = 52 ∧ ClNew h' l.length)) := by
  refine Calls.of (ls := [some (.ref l.length), none]) (by decide +kernel) rfl (Nat.le_of_ble_eq_true rfl) (cat_ok rfl) ?_
  have loop : ∀ (m j : Nat) (as : List va_E), j + m = 4 → as.length = 27 + 6 * j → CtB (l ++ clO l.length (nI 0) (nI 0) :: as) l.length → HsT (l ++ clO l.length (nI 0) (nI 0) :: as) l.length j → Go E mX5_init d (6 * m) (382 * m) 90 [some (.ref l.length), some (.int (nI j))] [] (l ++ clO l.length (nI 0) (nI 0) :: as) (RV (fun h' => ∃ cs, h' = l ++ cs ∧ cs.length = 52 ∧ ClNew h' l.length)) := by
    intro m
    induction m with
    | zero =>
      intro j as hj hm hB hT
      obtain ⟨F, hF, hT⟩ := hT
      obtain rfl : j = 4 := by omega
      refine go_iload_1 (DX5_init.at 44 rfl) ?_
      refine go_aload_0 (DX5_init.at 45 rfl) ?_
      refine go_getfield (DX5_init.at 46 rfl) fX5_22 get_mid rfl ?_
      refine go_alenS (v := nI 4) (DX5_init.at 47 rfl) hF rfl ?_
      refine go_icmp_ge 118 (DX5_init.at 48 rfl) (by decide) (fun c96 => ?_) (fun c96 => absurd (by decide) c96)
      exact go_return (DX5_init.at 58 rfl) rfl (RV.mk ⟨_, rfl, by rw [List.length_cons, hm], get_mid, hB, F, hF, hT⟩)
    | succ m ih =>
      intro j as hj hm hB hT
      obtain ⟨F, hF, hT⟩ := hT
      refine go_iload_1 (DX5_init.at 44 rfl) ?_
      refine go_aload_0 (DX5_init.at 45 rfl) ?_
      refine go_getfield (DX5_init.at 46 rfl) fX5_22 get_mid rfl ?_
      refine go_alenS (v := nI 4) (DX5_init.at 47 rfl) hF rfl ?_
      refine go_icmp_ge 118 (DX5_init.at 48 rfl) (by decide) (fun c96 => absurd c96 (by rw [nI_leI (by omega) (by omega)]; omega)) (fun c96 => ?_)
      refine go_aload_0 (DX5_init.at 49 rfl) ?_
      refine go_getfield (DX5_init.at 50 rfl) fX5_22 get_mid rfl ?_
      refine go_iload_1 (DX5_init.at 51 rfl) ?_
      rw [show 6 * (m + 1) = 6 + 6 * m by omega, show 382 * (m + 1) = 382 + 382 * m by omega]
      refine go_mkState (m := 27 + 6 * j) (DX5_init.at 52 rfl) (DX5_init.at 53 rfl) (DX5_init.at 54 rfl) hm (by omega) (by omega) (Nat.le_of_ble_eq_true rfl) (fun cs hcs q => ?_)
      obtain ⟨σ, q1, q2⟩ := q
      
      
      have hF1 : (l ++ clO l.length (nI 0) (nI 0) :: (as ++ cs))[l.length + 19]? = some (hsA F) := Ext.mid _ _ (by omega) hF
      refine go_aastore (DX5_init.at 55 rfl) hF1 (vp_in_nI (show j < 4 by omega) (by decide)) q1.1 ?_
      have e : ∀ y, (l ++ clO l.length (nI 0) (nI 0) :: (as ++ cs)).set (l.length + 19) y = l ++ clO l.length (nI 0) (nI 0) :: (as ++ cs).set 18 y := fun y => set_app (i := 19)
      have xe : ∀ y, Ext (l.length + 19) (l ++ clO l.length (nI 0) (nI 0) :: (as ++ cs)) (l ++ clO l.length (nI 0) (nI 0) :: (as ++ cs).set 18 y) := fun y => by rw [← e]; exact Ext.set
      rw [nI_cl (by omega), e]
      refine go_iincN_1 (DX5_init.at 56 rfl) ?_
      refine go_goto 90 (DX5_init.at 57 rfl) (by decide) ?_
      exact ih (j + 1) _ (by omega) (by rw [List.length_set, List.length_append, hm, hcs]; omega) ((hB.ext Ext.mid (Or.inl rfl)).ext (xe _) (Or.inr rfl)) ⟨_, by rw [← e]; exact get_set hF1, fun i hi => by
        unfold va_up
        by_cases qi : i = j
        · subst qi
          rw [if_pos rfl, show l.length + 28 + 6 * i = l.length + (27 + 6 * i + 1) by omega]
          exact ⟨rfl, σ, q1.ext (xe _) (by omega), q2⟩
        · rw [if_neg qi]
          obtain ⟨t1, σ', t2, t3⟩ := hT i (by omega)
          exact ⟨t1, σ', (t2.ext Ext.mid (by omega)).ext (xe _) (by omega), t3⟩⟩
  refine go_aload_0 (DX5_init.at 0 rfl) ?_
  refine go_objInit (DX5_init.at 1 rfl) (BW_i 56 (by decide +kernel) rfl) (BW_i 57 (by decide +kernel) rfl) (BW_i 58 (by decide +kernel) rfl) (by omega) (Nat.le_of_ble_eq_true rfl) ?_
  refine go_aload_0 (DX5_init.at 2 rfl) ?_
  refine go_fiState (kf := 0) (k := 45) (n := 2467) (m := 0) (DX5_init.at 3 rfl) (DX5_init.at 4 rfl) (DX5_init.at 5 rfl) (DX5_init.at 6 rfl) gX5_10 (by decide) rfl rfl (Nat.le_of_ble_eq_true rfl) (fun _ => ⟨rfl, rfl⟩) rfl (by omega) (by omega) (fun as1 m1 x1 s1 => ?_)
  
  
  
  refine go_aload_0 (DX5_init.at 7 rfl) ?_
  refine go_fiState (kf := 1) (k := 39) (n := 2085) (m := 6) (DX5_init.at 8 rfl) (DX5_init.at 9 rfl) (DX5_init.at 10 rfl) (DX5_init.at 11 rfl) gX5_16 (by decide) rfl rfl (Nat.le_of_ble_eq_true rfl) (fun _ => ⟨rfl, rfl⟩) m1 (by omega) (by omega) (fun as2 m2 x2 s2 => ?_)
  
  
  
  refine go_aload_0 (DX5_init.at 12 rfl) ?_
  refine go_fiState (kf := 2) (k := 33) (n := 1703) (m := 12) (DX5_init.at 13 rfl) (DX5_init.at 14 rfl) (DX5_init.at 15 rfl) (DX5_init.at 16 rfl) gX5_19 (by decide) rfl rfl (Nat.le_of_ble_eq_true rfl) (fun _ => ⟨rfl, rfl⟩) m2 (by omega) (by omega) (fun as3 m3 x3 s3 => ?_)
  
  
  
  refine go_aload_0 (DX5_init.at 17 rfl) ?_
  refine go_iconst (v := nI 4) (DX5_init.at 18 rfl) (by decide) ?_
  refine go_fiHist (k := 32) (n := 1699) (m := 18) (DX5_init.at 19 rfl) (DX5_init.at 20 rfl) m3 (by omega) (Nat.le_of_ble_eq_true rfl) (fun as4 m4 x4 s4 => ?_)
  
  refine go_aload_0 (DX5_init.at 21 rfl) ?_
  refine go_fiOrders (kf := 4) (k := 30) (n := 1630) (m := 19) (DX5_init.at 22 rfl) (DX5_init.at 23 rfl) (DX5_init.at 24 rfl) (DX5_init.at 25 rfl) gX5_29 (by decide) rfl rfl (Nat.le_of_ble_eq_true rfl) (fun _ => ⟨rfl, rfl⟩) m4 (by omega) (by omega) (fun as5 m5 x5 s5 => ?_)
  
  
  
  refine go_aload_0 (DX5_init.at 26 rfl) ?_
  refine go_fiPlan (kf := 5) (k := 26) (n := 1612) (m := 21) (DX5_init.at 27 rfl) (DX5_init.at 28 rfl) (DX5_init.at 29 rfl) (DX5_init.at 30 rfl) gX5_36 (by decide) rfl rfl (Nat.le_of_ble_eq_true rfl) (fun _ => ⟨rfl, rfl⟩) m5 (by omega) (by omega) (fun as6 m6 x6 s6 => ?_)
  
  
  
  refine go_aload_0 (DX5_init.at 31 rfl) ?_
  refine go_fiSearch (kf := 6) (k := 24) (n := 1528) (m := 25) (DX5_init.at 32 rfl) (DX5_init.at 33 rfl) (DX5_init.at 34 rfl) (DX5_init.at 35 rfl) gX5_43 (by decide) rfl rfl (Nat.le_of_ble_eq_true rfl) (fun _ => ⟨rfl, rfl⟩) m6 (by omega) (by omega) (fun as7 m7 x7 s7 => ?_)
  
  
  
  refine go_aload_0 (DX5_init.at 36 rfl) ?_
  refine go_iconst (v := nI 0) (DX5_init.at 37 rfl) (by decide) ?_
  refine go_putM (DX5_init.at 38 rfl) fX5_47 rfl rfl (Nat.le_of_ble_eq_true rfl) (fun w hw => by subst hw; exact ⟨rfl, rfl⟩) ?_
  refine go_aload_0 (DX5_init.at 39 rfl) ?_
  refine go_iconst (v := nI 0) (DX5_init.at 40 rfl) (by decide) ?_
  refine go_putM (DX5_init.at 41 rfl) fX5_51 rfl rfl (Nat.le_of_ble_eq_true rfl) (fun w hw => by subst hw; exact ⟨rfl, rfl⟩) ?_
  refine go_iconst (v := nI 0) (DX5_init.at 42 rfl) (by decide) ?_
  refine go_istore_1 (DX5_init.at 43 rfl) ?_
  have xf : Ext l.length (l ++ .inr (5, [.ref (l.length + 1), .ref (l.length + 7), .ref (l.length + 13), .ref (l.length + 19), .ref (l.length + 20), .ref (l.length + 22), .ref (l.length + 26), .int 0, .int 0]) :: as7) (l ++ clO l.length (nI 0) (nI 0) :: as7) := Ext.mid0
  have y7 := xf
  have y6 := Ext.trans x7 y7
  have y5 := Ext.trans x6 y6
  have y4 := Ext.trans x5 y5
  have y3 := Ext.trans x4 y4
  have y2 := Ext.trans x3 y3
  have y1 := Ext.trans x2 y2
  obtain ⟨σ1, s1, w1⟩ := s1
  obtain ⟨σ2, s2, w2⟩ := s2
  obtain ⟨σ3, s3, w3⟩ := s3
  exact loop 4 0 as7 rfl m7 ⟨⟨σ1, s1.ext y1 (by omega), w1⟩, ⟨σ2, s2.ext y2 (by omega), w2⟩, ⟨σ3, s3.ext y3 (by omega), w3⟩, s5.ext y5 (by omega), s6.ext y6 (by omega), s7.ext y7 (by omega)⟩ ⟨_, y4 _ _ (by omega) s4, fun i hi => absurd hi (Nat.not_lt_zero i)⟩

end CT
end
section
/-! THE CLASS: now, before, the snapshot and the history, whatever a state means -/
abbrev RP : Type := Rows → Prop
/-- a meaning looks only at what lies in the rows -/
def RC (N : RP) : Prop := ∀ σ σ', REq σ' σ → N σ → N σ'
def StP (h : List va_E) (b : Nat) (N : RP) : Prop := ∃ σ, StAt h b σ ∧ N σ
def HsP (h : List va_E) (b n : Nat) (Hs : Nat → RP) : Prop := ∃ (F : Nat → Option Nat) (p : Nat → Nat), h[b + 19]? = some (hsA F) ∧ (∀ i, i < 4 → p i < 4 ∧ F i = some (b + 28 + 6 * p i)) ∧ (∀ i j, i < 4 → j < 4 → p i = p j → i = j) ∧ (∀ q, q < 4 → ∃ σ, StAt h (b + 28 + 6 * q) σ) ∧ ∀ i, i < n → StP h (b + 28 + 6 * p i) (Hs i)
def Frm (G : Nat → Option va_E) (b : Nat) (h : List va_E) : Prop := ∀ i, (i < b ∨ b + 52 ≤ i) → h[i]? = G i
theorem Frm.up {G : Nat → Option va_E} {b lo hi : Nat} {h h1 : List va_E} (f : Frm G b h) (u : Only lo hi h h1) (h1' : b ≤ lo) (h2 : hi ≤ b + 52) : Frm G b h1 := fun i hi => (u.2 i (by omega)).trans (f i hi)
/-- the object at b: now N, before B, the snapshot S, n states of history, taken or not, the text -/
def ClAt (G : Nat → Option va_E) (h : List va_E) (b : Nat) (N B S : RP) (n : Nat) (Hs : Nat → RP) (tk : Nat) (o X : Nat → Int32) : Prop := h[b]? = some (clO b (nI n) (nI tk)) ∧ n ≤ 4 ∧ StP h (b + 1) N ∧ StP h (b + 7) B ∧ StP h (b + 13) S ∧ HsP h b n Hs ∧ OrAt h (b + 20) o X ∧ (∃ s u, PlIs h (b + 22) s u) ∧ Frm G b h ∧ ∃ w fd l rf, SeIs h (b + 26) w fd l rf
theorem StP.keep {h h1 : List va_E} {b lo hi : Nat} {N : RP} (q : StP h b N) (hO : Only lo hi h h1) (hd : b + 6 ≤ lo ∨ hi ≤ b) : StP h1 b N := by
  obtain ⟨σ, s, w⟩ := q
  exact ⟨σ, s.keep hO hd, w⟩
theorem HsP.keep {h h1 : List va_E} {b n lo hi : Nat} {Hs : Nat → RP} (q : HsP h b n Hs) (hO : Only lo hi h h1) (hn : n ≤ 4) (hd : hi ≤ b + 19 ∨ (b + 20 ≤ lo ∧ hi ≤ b + 28)) : HsP h1 b n Hs := by
  obtain ⟨F, p, h1, h2, h3, h4, h5⟩ := q
  refine ⟨F, p, hO.at (by omega) h1, h2, h3, fun q hq => ?_, fun i hi => (h5 i hi).keep hO (by omega)⟩
  obtain ⟨σ, s⟩ := h4 q hq
  exact ⟨σ, s.keep hO (by omega)⟩
section CL
variable {E : AEnv} {d : Nat} {h h' : List va_E} {b : Nat} {N B S : RP} {n : Nat} {Hs : Nat → RP} {tk : Nat} {o X : Nat → Int32} {G : Nat → Option va_E}
theorem ClAt.toNow {M : RP} {σ' : Rows} (q : ClAt G h b N B S n Hs tk o X) (u : StU h (b + 1) σ' h') (hM : M σ') : ClAt G h' b M B S n Hs tk o X := by
  obtain ⟨q0, qn, q1, q2, q3, q4, q5, ⟨s, t, q6⟩, fr, w, fd, l, rf, q7⟩ := q
  exact ⟨u.2.at (by omega) q0, qn, ⟨σ', u.1, hM⟩, q2.keep u.2 (by omega), q3.keep u.2 (by omega), q4.keep u.2 qn (by omega), q5.keep u.2 (by omega), ⟨s, t, q6.keep u.2 (by omega)⟩, fr.up u.2 (by omega) (by omega), w, fd, l, rf, q7.keep u.2 (by omega)⟩
theorem ClAt.toBefore {M : RP} {σ' : Rows} (q : ClAt G h b N B S n Hs tk o X) (u : StU h (b + 7) σ' h') (hM : M σ') : ClAt G h' b N M S n Hs tk o X := by
  obtain ⟨q0, qn, q1, q2, q3, q4, q5, ⟨s, t, q6⟩, fr, w, fd, l, rf, q7⟩ := q
  exact ⟨u.2.at (by omega) q0, qn, q1.keep u.2 (by omega), ⟨σ', u.1, hM⟩, q3.keep u.2 (by omega), q4.keep u.2 qn (by omega), q5.keep u.2 (by omega), ⟨s, t, q6.keep u.2 (by omega)⟩, fr.up u.2 (by omega) (by omega), w, fd, l, rf, q7.keep u.2 (by omega)⟩
theorem ClAt.toSnap {M : RP} {σ' : Rows} (q : ClAt G h b N B S n Hs tk o X) (u : StU h (b + 13) σ' h') (hM : M σ') : ClAt G h' b N B M n Hs tk o X := by
  obtain ⟨q0, qn, q1, q2, q3, q4, q5, ⟨s, t, q6⟩, fr, w, fd, l, rf, q7⟩ := q
  exact ⟨u.2.at (by omega) q0, qn, q1.keep u.2 (by omega), q2.keep u.2 (by omega), ⟨σ', u.1, hM⟩, q4.keep u.2 qn (by omega), q5.keep u.2 (by omega), ⟨s, t, q6.keep u.2 (by omega)⟩, fr.up u.2 (by omega) (by omega), w, fd, l, rf, q7.keep u.2 (by omega)⟩
theorem ClAt.toText {o' X' : Nat → Int32} (q : ClAt G h b N B S n Hs tk o X) (u : OrU h (b + 20) o' X' h') : ClAt G h' b N B S n Hs tk o' X' := by
  obtain ⟨q0, qn, q1, q2, q3, q4, q5, ⟨s, t, q6⟩, fr, w, fd, l, rf, q7⟩ := q
  exact ⟨u.2.at (by omega) q0, qn, q1.keep u.2 (by omega), q2.keep u.2 (by omega), q3.keep u.2 (by omega), q4.keep u.2 qn (by omega), u.1, ⟨s, t, q6.keep u.2 (by omega)⟩, fr.up u.2 (by omega) (by omega), w, fd, l, rf, q7.keep u.2 (by omega)⟩
theorem ClAt.toPlan {s' t' : Int32} (q : ClAt G h b N B S n Hs tk o X) (u : PlIs h' (b + 22) s' t' ∧ Only (b + 22) (b + 26) h h') : ClAt G h' b N B S n Hs tk o X := by
  obtain ⟨q0, qn, q1, q2, q3, q4, q5, -, fr, w, fd, l, rf, q7⟩ := q
  exact ⟨u.2.at (by omega) q0, qn, q1.keep u.2 (by omega), q2.keep u.2 (by omega), q3.keep u.2 (by omega), q4.keep u.2 qn (by omega), q5.keep u.2 (by omega), ⟨s', t', u.1⟩, fr.up u.2 (by omega) (by omega), w, fd, l, rf, q7.keep u.2 (by omega)⟩
theorem ClAt.toSearch {w' fd' l' : Nat} {rf' : Nat → Int32} (q : ClAt G h b N B S n Hs tk o X) (u : SeIs h' (b + 26) w' fd' l' rf' ∧ Only (b + 26) (b + 28) h h') : ClAt G h' b N B S n Hs tk o X := by
  obtain ⟨q0, qn, q1, q2, q3, q4, q5, ⟨s, t, q6⟩, fr, -⟩ := q
  exact ⟨u.2.at (by omega) q0, qn, q1.keep u.2 (by omega), q2.keep u.2 (by omega), q3.keep u.2 (by omega), q4.keep u.2 qn (by omega), q5.keep u.2 (by omega), ⟨s, t, q6.keep u.2 (by omega)⟩, fr.up u.2 (by omega) (by omega), w', fd', l', rf', u.1⟩
theorem ClAt.toObj {n' tk' : Nat} (q : ClAt G h b N B S n Hs tk o X) (hn' : n' ≤ 4) (hh : HsP h b n Hs → HsP (h.set b (clO b (nI n') (nI tk'))) b n Hs → HsP (h.set b (clO b (nI n') (nI tk'))) b n' Hs) : ClAt G (h.set b (clO b (nI n') (nI tk'))) b N B S n' Hs tk' o X := by
  obtain ⟨q0, qn, q1, q2, q3, q4, q5, ⟨s, t, q6⟩, fr, w, fd, l, rf, q7⟩ := q
  have u : Only b (b + 1) h (h.set b (clO b (nI n') (nI tk'))) := Only.set (by omega) (by omega)
  exact ⟨get_set q0, hn', q1.keep u (by omega), q2.keep u (by omega), q3.keep u (by omega), hh q4 (q4.keep u qn (by omega)), q5.keep u (by omega), ⟨s, t, q6.keep u (by omega)⟩, fr.up u (by omega) (by omega), w, fd, l, rf, q7.keep u (by omega)⟩
theorem c_copyP {a c : Nat} {σ1 : Rows} {M : RP} (hA : StAt h a σ1) (hB : StP h c M) (hM : RC M) (hac : a + 6 ≤ c ∨ c + 6 ≤ a) (hd : 2 ≤ d) : Calls E mX4_copyFrom d 0 0 [.ref a, .ref c] h (RV (fun h' => ∃ σ', StU h a σ' h' ∧ M σ')) := by
  obtain ⟨σ2, hB, hw⟩ := hB
  refine (c_copyFrom hA hB hac hd).weaken (fun r h1 q => ?_)
  obtain ⟨e, σ', u, q⟩ := q
  exact ⟨e, σ', u, hM _ _ q hw⟩
theorem c_begin (hC : ClAt G h b N B S n Hs tk o X) (hN : RC N) (hd : 3 ≤ d) : Calls E mX5_begin d 0 0 [.ref b] h (RV (fun h' => ClAt G h' b N N S n Hs tk o X)) := by
  refine Calls.of (ls := [some (.ref b)]) (by decide +kernel) rfl (Nat.le_of_ble_eq_true rfl) (cat_ok rfl) ?_
  obtain ⟨σb, sb, -⟩ := hC.2.2.2.1
  refine go_aload_0 (DX5_begin.at 0 rfl) ?_
  refine go_getfield (DX5_begin.at 1 rfl) fX5_16 hC.1 rfl ?_
  refine go_aload_0 (DX5_begin.at 2 rfl) ?_
  refine go_getfield (DX5_begin.at 3 rfl) fX5_10 hC.1 rfl ?_
  refine go_cVv1 (DX5_begin.at 4 rfl) nX5_127 vX4_copyFrom (by omega) (c_copyP sb hC.2.2.1 hN (by omega) (by omega)) sb.1 rfl (Nat.le_of_ble_eq_true rfl) (fun h8 q8 => ?_)
  obtain ⟨σ', u, w⟩ := q8
  exact go_return (DX5_begin.at 5 rfl) rfl (RV.mk (hC.toBefore u w))

end CL
end
section
/-! THE CLASS: history -/
section CL
variable {E : AEnv} {d : Nat} {h h' : List va_E} {b : Nat} {N B S : RP} {n : Nat} {Hs : Nat → RP} {tk : Nat} {o X : Nat → Int32} {G : Nat → Option va_E}
theorem ClAt.toHist {Hs' : Nat → RP} (q : ClAt G h b N B S n Hs tk o X) (u : Only (b + 19) (b + 20) h h') (hh : HsP h' b n Hs') : ClAt G h' b N B S n Hs' tk o X := by
  obtain ⟨q0, qn, q1, q2, q3, q4, q5, ⟨s, t, q6⟩, fr, w, fd, l, rf, q7⟩ := q
  exact ⟨u.at (by omega) q0, qn, q1.keep u (by omega), q2.keep u (by omega), q3.keep u (by omega), hh, q5.keep u (by omega), ⟨s, t, q6.keep u (by omega)⟩, fr.up u (by omega) (by omega), w, fd, l, rf, q7.keep u (by omega)⟩
theorem c_dropOldest (hC : ClAt G h b N B S 4 Hs tk o X) : Calls E mX5_dropOldest d 0 0 [.ref b] h (RV (fun h' => ClAt G h' b N B S 3 (fun i => Hs (i + 1)) tk o X)) := by
  refine Calls.of (ls := [some (.ref b), none, none]) (by decide +kernel) rfl (Nat.le_of_ble_eq_true rfl) (cat_ok rfl) ?_
  have hH := hC.2.2.2.2.2.1
  obtain ⟨F, p, hF, hp, hj, hs, hst⟩ := hH
  obtain ⟨σ0, s0⟩ := hs (p 0) (hp 0 (by omega)).1
  have loop : ∀ (m j : Nat) (h1 : List va_E) (F1 : Nat → Option Nat), j + m = 4 → 1 ≤ j → Only (b + 19) (b + 20) h h1 → h1[b + 19]? = some (hsA F1) → (∀ i, i < 4 → F1 i = if i + 1 < j then F (i + 1) else F i) → Go E mX5_dropOldest d 0 0 17 [some (.ref b), some (.ref (b + 28 + 6 * p 0)), some (.int (nI j))] [] h1 (RV (fun h' => ClAt G h' b N B S 3 (fun i => Hs (i + 1)) tk o X)) := by
    intro m
    induction m with
    | zero =>
      intro j h1 F1 hm h1j u1 hF1 hT
      have hO1 := u1.at (by omega) hC.1
      have hs0 := s0.keep u1 (by omega)
      obtain rfl : j = 4 := by omega
      refine go_iload_2 (DX5_dropOldest.at 11 rfl) ?_
      refine go_aload_0 (DX5_dropOldest.at 12 rfl) ?_
      refine go_getfield (DX5_dropOldest.at 13 rfl) fX5_22 hO1 rfl ?_
      refine go_alenS (v := nI 4) (DX5_dropOldest.at 14 rfl) hF1 rfl ?_
      refine go_icmp_ge 46 (DX5_dropOldest.at 15 rfl) (by decide) (fun c23 => ?_) (fun c23 => absurd (by decide) c23)
      refine go_aload_0 (DX5_dropOldest.at 28 rfl) ?_
      refine go_getfield (DX5_dropOldest.at 29 rfl) fX5_22 hO1 rfl ?_
      refine go_aload_0 (DX5_dropOldest.at 30 rfl) ?_
      refine go_getfield (DX5_dropOldest.at 31 rfl) fX5_22 hO1 rfl ?_
      refine go_alenS (v := nI 4) (DX5_dropOldest.at 32 rfl) hF1 rfl ?_
      refine go_iconst (v := nI 1) (DX5_dropOldest.at 33 rfl) (by decide) ?_
      refine go_isub (DX5_dropOldest.at 34 rfl) ?_
      rw [show nI 4 - nI 1 = nI 3 from by decide]
      refine go_aload_1 (DX5_dropOldest.at 35 rfl) ?_
      refine go_aastore (DX5_dropOldest.at 36 rfl) hF1 (vp_in_nI (show 3 < 4 by decide) (by decide)) hs0.1 ?_
      have hF3 := get_set (e := hsA (va_up F1 (nI 3).toNatClampNeg (some (b + 28 + 6 * p 0)))) hF1
      have u3 : Only (b + 19) (b + 20) h (h1.set (b + 19) (hsA (va_up F1 (nI 3).toNatClampNeg (some (b + 28 + 6 * p 0))))) := u1.trans (Only.set (by omega) (by omega))
      have hO3 := u3.at (by omega) hC.1
      have e3 : (nI 3).toNatClampNeg = 3 := by decide
      refine go_aload_0 (DX5_dropOldest.at 37 rfl) ?_
      refine go_aload_0 (DX5_dropOldest.at 38 rfl) ?_
      refine go_getfield (DX5_dropOldest.at 39 rfl) fX5_22 hO3 rfl ?_
      refine go_alenS (v := nI 4) (DX5_dropOldest.at 40 rfl) hF3 rfl ?_
      refine go_iconst (v := nI 1) (DX5_dropOldest.at 41 rfl) (by decide) ?_
      refine go_isub (DX5_dropOldest.at 42 rfl) ?_
      rw [show nI 4 - nI 1 = nI 3 from by decide]
      have hC3 : ClAt G _ b N B S 4 (fun i => if i < 3 then Hs (i + 1) else Hs 0) tk o X := hC.toHist u3 ⟨_, fun i => if i < 3 then p (i + 1) else p 0, hF3, fun i hi => by
        rw [e3]
        unfold va_up
        dsimp only
        by_cases q : i < 3
        · rw [if_pos q, if_neg (by omega), hT i hi, if_pos (by omega)]
          exact hp (i + 1) (by omega)
        · rw [if_neg q, if_pos (by omega)]
          exact ⟨(hp 0 (by omega)).1, rfl⟩, fun i k hi hk e => by
        dsimp only at e
        by_cases qi : i < 3
        · rw [if_pos qi] at e
          by_cases qk : k < 3
          · rw [if_pos qk] at e
            have := hj _ _ (by omega) (by omega) e
            omega
          · rw [if_neg qk] at e
            have := hj _ _ (by omega) (by omega) e
            omega
        · rw [if_neg qi] at e
          by_cases qk : k < 3
          · rw [if_pos qk] at e
            have := hj _ _ (by omega) (by omega) e
            omega
          · omega, fun q hq => by
        obtain ⟨σ, s⟩ := hs q hq
        exact ⟨σ, s.keep u3 (by omega)⟩, fun i hi => by
        dsimp only
        by_cases q : i < 3
        · rw [if_pos q, if_pos q]
          exact (hst (i + 1) (by omega)).keep u3 (by omega)
        · rw [if_neg q, if_neg q]
          exact (hst 0 (by omega)).keep u3 (by omega)⟩
      refine go_putfield (DX5_dropOldest.at 43 rfl) fX5_47 rfl rfl hO3 (Nat.le_of_ble_eq_true rfl) (fun w hw => by subst hw; exact ⟨rfl, rfl⟩) ?_
      have hC4 := hC3.toObj (n' := 3) (tk' := tk) (by omega) (fun _ g => by
        obtain ⟨F, p, g1, g2, g3, g4, g5⟩ := g
        exact ⟨F, p, g1, g2, g3, g4, fun i hi => g5 i (by omega)⟩)
      exact go_return (DX5_dropOldest.at 44 rfl) rfl (RV.mk ⟨hC4.1, hC4.2.1, hC4.2.2.1, hC4.2.2.2.1, hC4.2.2.2.2.1, by
  obtain ⟨F, p, g1, g2, g3, g4, g5⟩ := hC4.2.2.2.2.2.1
  exact ⟨F, p, g1, g2, g3, g4, fun i hi => by have := g5 i (by omega); dsimp only at this; rw [if_pos hi] at this; exact this⟩, hC4.2.2.2.2.2.2⟩)
    | succ m ih =>
      intro j h1 F1 hm h1j u1 hF1 hT
      have hO1 := u1.at (by omega) hC.1
      have ej : nI j - nI 1 = nI (j - 1) := pk_sub h1j
      have hF1j : F1 j = some (b + 28 + 6 * p j) := by rw [hT j (by omega), if_neg (by omega)]; exact (hp j (by omega)).2
      obtain ⟨σj, sj⟩ := hs (p j) (hp j (by omega)).1
      have hsj := sj.keep u1 (by omega)
      refine go_iload_2 (DX5_dropOldest.at 11 rfl) ?_
      refine go_aload_0 (DX5_dropOldest.at 12 rfl) ?_
      refine go_getfield (DX5_dropOldest.at 13 rfl) fX5_22 hO1 rfl ?_
      refine go_alenS (v := nI 4) (DX5_dropOldest.at 14 rfl) hF1 rfl ?_
      refine go_icmp_ge 46 (DX5_dropOldest.at 15 rfl) (by decide) (fun c23 => absurd ((nI_leI (by decide) (by omega)).mp c23) (by omega)) (fun c23 => ?_)
      refine go_aload_0 (DX5_dropOldest.at 16 rfl) ?_
      refine go_getfield (DX5_dropOldest.at 17 rfl) fX5_22 hO1 rfl ?_
      refine go_iload_2 (DX5_dropOldest.at 18 rfl) ?_
      refine go_iconst (v := nI 1) (DX5_dropOldest.at 19 rfl) (by decide) ?_
      refine go_isub (DX5_dropOldest.at 20 rfl) ?_
      refine go_aload_0 (DX5_dropOldest.at 21 rfl) ?_
      refine go_getfield (DX5_dropOldest.at 22 rfl) fX5_22 hO1 rfl ?_
      refine go_iload_2 (DX5_dropOldest.at 23 rfl) ?_
      refine go_aaload (DX5_dropOldest.at 24 rfl) hF1 (vp_in_nI (show j < 4 by omega) (by decide)) (by rw [nI_cl (by omega)]; exact hF1j) ?_
      refine go_aastore (DX5_dropOldest.at 25 rfl) hF1 (by rw [ej]; exact vp_in_nI (show j - 1 < 4 by omega) (by decide)) hsj.1 ?_
      rw [ej, nI_cl (by omega)]
      refine go_iincN_2 (DX5_dropOldest.at 26 rfl) ?_
      refine go_goto 17 (DX5_dropOldest.at 27 rfl) (by decide) ?_
      exact ih (j + 1) _ _ (by omega) (by omega) (u1.trans (Only.set (by omega) (by omega))) (get_set hF1) (fun i hi => by
        unfold va_up
        by_cases q : i = j - 1
        · rw [if_pos q, if_pos (by omega), show i + 1 = j by omega]
          exact (hp j (by omega)).2.symm
        · rw [if_neg q, hT i hi]
          by_cases q2 : i + 1 < j
          · rw [if_pos q2, if_pos (by omega)]
          · rw [if_neg q2, if_neg (by omega)])
  refine go_aload_0 (DX5_dropOldest.at 0 rfl) ?_
  refine go_getfield (DX5_dropOldest.at 1 rfl) fX5_22 hC.1 rfl ?_
  refine go_alenS (v := nI 4) (DX5_dropOldest.at 2 rfl) hF rfl ?_
  refine go_if_le 70 (DX5_dropOldest.at 3 rfl) (by decide) (fun c5 => absurd c5 (by decide)) (fun c5 => ?_)
  refine go_aload_0 (DX5_dropOldest.at 4 rfl) ?_
  refine go_getfield (DX5_dropOldest.at 5 rfl) fX5_22 hC.1 rfl ?_
  refine go_iconst (v := nI 0) (DX5_dropOldest.at 6 rfl) (by decide) ?_
  refine go_aaload (DX5_dropOldest.at 7 rfl) hF (vp_in_nI (show 0 < 4 by decide) (by decide)) (hp 0 (by omega)).2 ?_
  refine go_astore_1 (DX5_dropOldest.at 8 rfl) ?_
  refine go_iconst (v := nI 1) (DX5_dropOldest.at 9 rfl) (by decide) ?_
  refine go_istore_2 (DX5_dropOldest.at 10 rfl) ?_
  exact loop 3 1 h F (by omega) (by omega) Only.rf hF (fun i hi => by rw [if_neg (by omega)])

end CL
end
section
/-! THE CLASS: what ends a change -/
def recN (n : Nat) : Nat := if n < 4 then n + 1 else 4
def recH (n : Nat) (Hs : Nat → RP) (B : RP) : Nat → RP := fun i => if i = (if n < 4 then n else 3) then B else if n < 4 then Hs i else Hs (i + 1)
section CL
variable {E : AEnv} {d : Nat} {h h' : List va_E} {b : Nat} {N B S : RP} {n : Nat} {Hs : Nat → RP} {tk : Nat} {o X : Nat → Int32} {G : Nat → Option va_E}
theorem ClAt.toSlot {k m : Nat} {Hs' : Nat → RP} (q : ClAt G h b N B S n Hs tk o X) (u : Only (b + 28 + 6 * k) (b + 28 + 6 * k + 6) h h') (hm : m ≤ 4) (hk : k < 4) (hh : HsP h' b m Hs') : ClAt G (h'.set b (clO b (nI m) (nI tk))) b N B S m Hs' tk o X := by
  obtain ⟨q0, qn, q1, q2, q3, q4, q5, ⟨s, t, q6⟩, fr, w, fd, l, rf, q7⟩ := q
  have v : Only b (b + 1) h' (h'.set b (clO b (nI m) (nI tk))) := Only.set (by omega) (by omega)
  exact ⟨get_set (u.at (by omega) q0), hm, (q1.keep u (by omega)).keep v (by omega), (q2.keep u (by omega)).keep v (by omega), (q3.keep u (by omega)).keep v (by omega), hh.keep v hm (by omega), (q5.keep u (by omega)).keep v (by omega), ⟨s, t, (q6.keep u (by omega)).keep v (by omega)⟩, (fr.up u (by omega) (by omega)).up v (by omega) (by omega), w, fd, l, rf, (q7.keep u (by omega)).keep v (by omega)⟩
theorem c_record (hC : ClAt G h b N B S n Hs tk o X) (hB : RC B) (hd : 4 ≤ d) : Calls E mX5_record d 0 0 [.ref b] h (RV (fun h' => ClAt G h' b N B S (recN n) (recH n Hs B) tk o X)) := by
  refine Calls.of (ls := [some (.ref b)]) (by decide +kernel) rfl (Nat.le_of_ble_eq_true rfl) (cat_ok rfl) ?_
  have tail : ∀ (n : Nat) (Hs : Nat → RP) (h : List va_E), ClAt G h b N B S n Hs tk o X → n < 4 → Go E mX5_record d 0 0 16 [some (.ref b)] [] h (RV (fun h' => ClAt G h' b N B S (n + 1) (fun i => if i = n then B else Hs i) tk o X)) := by
    intro n Hs h hC hn
    obtain ⟨F, p, hF, hp, hj, hs, hst⟩ := hC.2.2.2.2.2.1
    obtain ⟨σA, sA⟩ := hs (p n) (hp n hn).1
    refine go_aload_0 (DX5_record.at 8 rfl) ?_
    refine go_getfield (DX5_record.at 9 rfl) fX5_47 hC.1 rfl ?_
    refine go_if_lt 73 (DX5_record.at 10 rfl) (by decide) (fun c20 => absurd c20 (nI_pos (by omega))) (fun c20 => ?_)
    refine go_aload_0 (DX5_record.at 11 rfl) ?_
    refine go_getfield (DX5_record.at 12 rfl) fX5_47 hC.1 rfl ?_
    refine go_aload_0 (DX5_record.at 13 rfl) ?_
    refine go_getfield (DX5_record.at 14 rfl) fX5_22 hC.1 rfl ?_
    refine go_alenS (v := nI 4) (DX5_record.at 15 rfl) hF rfl ?_
    refine go_icmp_ge 73 (DX5_record.at 16 rfl) (by decide) (fun c32 => absurd ((nI_leI (by decide) (by omega)).mp c32) (by omega)) (fun c32 => ?_)
    refine go_aload_0 (DX5_record.at 17 rfl) ?_
    refine go_getfield (DX5_record.at 18 rfl) fX5_22 hC.1 rfl ?_
    refine go_aload_0 (DX5_record.at 19 rfl) ?_
    refine go_getfield (DX5_record.at 20 rfl) fX5_47 hC.1 rfl ?_
    refine go_aaload (DX5_record.at 21 rfl) hF (vp_in_nI hn (by decide)) (by rw [nI_cl (by omega)]; exact (hp n hn).2) ?_
    refine go_ifnull (DX5_record.at 22 rfl) ?_
    refine go_aload_0 (DX5_record.at 23 rfl) ?_
    refine go_getfield (DX5_record.at 24 rfl) fX5_22 hC.1 rfl ?_
    refine go_aload_0 (DX5_record.at 25 rfl) ?_
    refine go_getfield (DX5_record.at 26 rfl) fX5_47 hC.1 rfl ?_
    refine go_aaload (DX5_record.at 27 rfl) hF (vp_in_nI hn (by decide)) (by rw [nI_cl (by omega)]; exact (hp n hn).2) ?_
    refine go_aload_0 (DX5_record.at 28 rfl) ?_
    refine go_getfield (DX5_record.at 29 rfl) fX5_16 hC.1 rfl ?_
    refine go_cVv1 (DX5_record.at 30 rfl) nX5_127 vX4_copyFrom (by omega) (c_copyP sA hC.2.2.2.1 hB (by omega) (by omega)) sA.1 rfl (Nat.le_of_ble_eq_true rfl) (fun h60 q60 => ?_)
    obtain ⟨σ', u, w⟩ := q60
    have hO := u.2.at (by omega) hC.1
    refine go_aload_0 (DX5_record.at 31 rfl) ?_
    refine go_dup (DX5_record.at 32 rfl) rfl ?_
    refine go_getfield (DX5_record.at 33 rfl) fX5_47 hO rfl ?_
    refine go_iconst (v := nI 1) (DX5_record.at 34 rfl) (by decide) ?_
    refine go_iadd (DX5_record.at 35 rfl) ?_
    rw [nI_add]
    refine go_putfield (DX5_record.at 36 rfl) fX5_47 rfl rfl hO (Nat.le_of_ble_eq_true rfl) (fun w hw => by subst hw; exact ⟨rfl, rfl⟩) ?_
    exact go_return (DX5_record.at 37 rfl) rfl (RV.mk (hC.toSlot u.2 (m := n + 1) (by omega) (hp n hn).1 ⟨F, p, u.2.at (by omega) hF, hp, hj, fun q hq => by
  by_cases e : q = p n
  · subst e
    exact ⟨σ', u.1⟩
  · obtain ⟨σ, s⟩ := hs q hq
    exact ⟨σ, s.keep u.2 (by omega)⟩, fun i hi => by
  dsimp only
  by_cases e : i = n
  · subst e
    rw [if_pos rfl]
    exact ⟨σ', u.1, w⟩
  · rw [if_neg e]
    have e2 : p i ≠ p n := fun e2 => e (hj i n (by omega) (by omega) e2)
    exact (hst i (by omega)).keep u.2 (by omega)⟩))
  have hn4 := hC.2.1
  obtain ⟨F, p, hF, -⟩ := hC.2.2.2.2.2.1
  refine go_aload_0 (DX5_record.at 0 rfl) ?_
  refine go_getfield (DX5_record.at 1 rfl) fX5_47 hC.1 rfl ?_
  refine go_aload_0 (DX5_record.at 2 rfl) ?_
  refine go_getfield (DX5_record.at 3 rfl) fX5_22 hC.1 rfl ?_
  refine go_alenS (v := nI 4) (DX5_record.at 4 rfl) hF rfl ?_
  refine go_icmp_lt 16 (DX5_record.at 5 rfl) (by decide) (fun c9 => ?_) (fun c9 => ?_)
  · rw [nI_ltI (by omega) (by decide)] at c9
    rw [show recN n = n + 1 from if_pos c9, show recH n Hs B = fun i => if i = n then B else Hs i from by unfold recH; simp only [if_pos c9]]
    exact tail n Hs h hC c9
  · rw [nI_ltI (by omega) (by decide)] at c9
    obtain rfl : n = 4 := by omega
    refine go_aload_0 (DX5_record.at 6 rfl) ?_
    refine go_cVv0 (DX5_record.at 7 rfl) nX5_236 vX5_dropOldest (by omega) (c_dropOldest hC) hC.1 rfl (Nat.le_of_ble_eq_true rfl) (fun h13 q13 => ?_)
    exact tail 3 _ h13 q13 (by omega)
    

theorem c_finishNo {x : Int32} (hC : ClAt G h b N B S n Hs tk o X) (hB : RC B) (hx : x < 0) (hd : 3 ≤ d) : Calls E mX5_finish d 0 0 [.ref b, .int x] h (RI (fun y h' => y = x ∧ ClAt G h' b B B S n Hs tk o X)) := by
  refine Calls.of (ls := [some (.ref b), some (.int x)]) (by decide +kernel) rfl (Nat.le_of_ble_eq_true rfl) (cat_ok rfl) ?_
  obtain ⟨σn, sn, -⟩ := hC.2.2.1
  refine go_iload_1 (DX5_finish.at 0 rfl) ?_
  refine go_if_ge 18 (DX5_finish.at 1 rfl) (by decide) (fun c1 => absurd c1 (Int32.not_le.mpr hx)) (fun c1 => ?_)
  refine go_aload_0 (DX5_finish.at 2 rfl) ?_
  refine go_getfield (DX5_finish.at 3 rfl) fX5_10 hC.1 rfl ?_
  refine go_aload_0 (DX5_finish.at 4 rfl) ?_
  refine go_getfield (DX5_finish.at 5 rfl) fX5_16 hC.1 rfl ?_
  refine go_cVv1 (DX5_finish.at 6 rfl) nX5_127 vX4_copyFrom (by omega) (c_copyP sn hC.2.2.2.1 hB (by omega) (by omega)) sn.1 rfl (Nat.le_of_ble_eq_true rfl) (fun h12 q12 => ?_)
  obtain ⟨σ', u, w⟩ := q12
  refine go_goto 22 (DX5_finish.at 7 rfl) (by decide) ?_
  refine go_iload_1 (DX5_finish.at 10 rfl) ?_
  exact go_iret (DX5_finish.at 11 rfl) rfl rfl (RI.mk ⟨rfl, hC.toNow u w⟩)

theorem c_finishYes {x : Int32} (hC : ClAt G h b N B S n Hs tk o X) (hB : RC B) (hx : 0 ≤ x) (hd : 5 ≤ d) : Calls E mX5_finish d 0 0 [.ref b, .int x] h (RI (fun y h' => y = x ∧ ClAt G h' b N B S (recN n) (recH n Hs B) tk o X)) := by
  refine Calls.of (ls := [some (.ref b), some (.int x)]) (by decide +kernel) rfl (Nat.le_of_ble_eq_true rfl) (cat_ok rfl) ?_
  refine go_iload_1 (DX5_finish.at 0 rfl) ?_
  refine go_if_ge 18 (DX5_finish.at 1 rfl) (by decide) (fun c1 => ?_) (fun c1 => absurd hx c1)
  refine go_aload_0 (DX5_finish.at 8 rfl) ?_
  refine go_cVv0 (DX5_finish.at 9 rfl) nX5_233 vX5_record (by omega) (c_record hC hB (by omega)) hC.1 rfl (Nat.le_of_ble_eq_true rfl) (fun h19 q19 => ?_)
  refine go_iload_1 (DX5_finish.at 10 rfl) ?_
  exact go_iret (DX5_finish.at 11 rfl) rfl rfl (RI.mk ⟨rfl, q19⟩)

end CL
end
section
/-! THE CLASS: undo, keep, restore -/
section CL
variable {E : AEnv} {d : Nat} {h h' : List va_E} {b : Nat} {N B S : RP} {n : Nat} {Hs : Nat → RP} {tk : Nat} {o X : Nat → Int32} {G : Nat → Option va_E}
theorem c_undoNone (hC : ClAt G h b N B S 0 Hs tk o X) : Calls E mX5_undo d 0 0 [.ref b] h (RX (-5) h) := by
  refine Calls.of (ls := [some (.ref b)]) (by decide +kernel) rfl (Nat.le_of_ble_eq_true rfl) (cat_ok rfl) ?_
  refine go_aload_0 (DX5_undo.at 0 rfl) ?_
  refine go_getfield (DX5_undo.at 1 rfl) fX5_47 hC.1 rfl ?_
  refine go_if_le 19 (DX5_undo.at 2 rfl) (by decide) (fun c4 => ?_) (fun c4 => absurd (by decide) c4)
  refine go_bipush (v := (-5)) (DX5_undo.at 9 rfl) (by decide) ?_
  exact go_iret (DX5_undo.at 10 rfl) rfl rfl (RX.mk rfl rfl)

theorem c_undo (hC : ClAt G h b N B S (n + 1) Hs tk o X) (hN : RC (Hs n)) (hd : 3 ≤ d) : Calls E mX5_undo d 0 0 [.ref b] h (RI (fun y h' => y = nI n ∧ ClAt G h' b (Hs n) B S n Hs tk o X)) := by
  refine Calls.of (ls := [some (.ref b)]) (by decide +kernel) rfl (Nat.le_of_ble_eq_true rfl) (cat_ok rfl) ?_
  have hn4 := hC.2.1
  obtain ⟨F, p, hF, hp, hj, hs, hst⟩ := hC.2.2.2.2.2.1
  refine go_aload_0 (DX5_undo.at 0 rfl) ?_
  refine go_getfield (DX5_undo.at 1 rfl) fX5_47 hC.1 rfl ?_
  refine go_if_le 19 (DX5_undo.at 2 rfl) (by decide) (fun c4 => absurd c4 (by rw [show (0 : Int32) = nI 0 from rfl, nI_leI (by omega) (by omega)]; omega)) (fun c4 => ?_)
  refine go_aload_0 (DX5_undo.at 3 rfl) ?_
  refine go_getfield (DX5_undo.at 4 rfl) fX5_47 hC.1 rfl ?_
  refine go_aload_0 (DX5_undo.at 5 rfl) ?_
  refine go_getfield (DX5_undo.at 6 rfl) fX5_22 hC.1 rfl ?_
  refine go_alenS (v := nI 4) (DX5_undo.at 7 rfl) hF rfl ?_
  refine go_icmp_le 22 (DX5_undo.at 8 rfl) (by decide) (fun c16 => ?_) (fun c16 => absurd c16 (by rw [nI_leI (by omega) (by decide)]; omega))
  refine go_aload_0 (DX5_undo.at 11 rfl) ?_
  refine go_dup (DX5_undo.at 12 rfl) rfl ?_
  refine go_getfield (DX5_undo.at 13 rfl) fX5_47 hC.1 rfl ?_
  refine go_iconst (v := nI 1) (DX5_undo.at 14 rfl) (by decide) ?_
  refine go_isub (DX5_undo.at 15 rfl) ?_
  rw [pk_sub (by omega), Nat.add_sub_cancel]
  refine go_putfield (DX5_undo.at 16 rfl) fX5_47 rfl rfl hC.1 (Nat.le_of_ble_eq_true rfl) (fun w hw => by subst hw; exact ⟨rfl, rfl⟩) ?_
  have hC2 : ClAt G (h.set b (clO b (nI n) (nI tk))) b N B S n Hs tk o X := hC.toObj (by omega) (fun _ g => by
    obtain ⟨F, p, g1, g2, g3, g4, g5⟩ := g
    exact ⟨F, p, g1, g2, g3, g4, fun i hi => g5 i (by omega)⟩)
  have u2 : Only b (b + 1) h (h.set b (clO b (nI n) (nI tk))) := Only.set (by omega) (by omega)
  have hF2 := u2.at (by omega) hF
  obtain ⟨sg, sn, -⟩ := hC2.2.2.1
  refine go_aload_0 (DX5_undo.at 17 rfl) ?_
  refine go_getfield (DX5_undo.at 18 rfl) fX5_10 hC2.1 rfl ?_
  refine go_aload_0 (DX5_undo.at 19 rfl) ?_
  refine go_getfield (DX5_undo.at 20 rfl) fX5_22 hC2.1 rfl ?_
  refine go_aload_0 (DX5_undo.at 21 rfl) ?_
  refine go_getfield (DX5_undo.at 22 rfl) fX5_47 hC2.1 rfl ?_
  refine go_aaload (DX5_undo.at 23 rfl) hF2 (vp_in_nI (show n < 4 by omega) (by decide)) (by rw [nI_cl (by omega)]; exact (hp n (by omega)).2) ?_
  refine go_cVv1 (DX5_undo.at 24 rfl) nX5_127 vX4_copyFrom (by omega) (c_copyP sn ((hst n (by omega)).keep u2 (by omega)) hN (by omega) (by omega)) sn.1 rfl (Nat.le_of_ble_eq_true rfl) (fun h45 q45 => ?_)
  obtain ⟨σ', u, w⟩ := q45
  have hC3 := hC2.toNow u w
  refine go_aload_0 (DX5_undo.at 25 rfl) ?_
  refine go_getfield (DX5_undo.at 26 rfl) fX5_47 hC3.1 rfl ?_
  exact go_iret (DX5_undo.at 27 rfl) rfl rfl (RI.mk ⟨rfl, hC3⟩)

end CL
end
section
/-! THE CLASS: what there is -/
section CL
variable {E : AEnv} {d : Nat} {h h' : List va_E} {b : Nat} {N B S : RP} {n : Nat} {Hs : Nat → RP} {tk : Nat} {o X : Nat → Int32} {G : Nat → Option va_E} {σ : Rows} {g s T sh : Nat}
theorem c_value {x y : Int32} {Mx : Nat → Nat} (hC : ClAt G h b N B S n Hs tk o X) (hS : StAt h (b + 1) σ) (hL : LayX σ g s T sh) (hM : ∀ t, t < T → σ 3 t = nI (Mx t) ∧ Mx t < 2 ^ 20) (hd : 3 ≤ d) : Calls E mX5_value d 0 0 [.ref b, .int x, .int y] h (RI (fun r h' => h' = h ∧ ((¬ (inR x T ∧ inR y (nc g s)) ∧ r = (-1)) ∨ ∃ t c, t < T ∧ c < nc g s ∧ x = nI t ∧ y = nI c ∧ ((bit (Mx t) c ∧ r = (-5)) ∨ (¬ bit (Mx t) c ∧ r = σ 2 (t * 20 + c)))))) := by
  refine Calls.of (ls := [some (.ref b), some (.int x), some (.int y)]) (by decide +kernel) rfl (Nat.le_of_ble_eq_true rfl) (cat_ok rfl) ?_
  have hn20 := hL.2.2.2.2.nc
  have hT8 : T ≤ 8 := hL.2.2.2.2.2.2.2.2.2.2.1
  refine go_aload_0 (DX5_value.at 0 rfl) ?_
  refine go_getfield (DX5_value.at 1 rfl) fX5_10 hC.1 rfl ?_
  refine go_iload_1 (DX5_value.at 2 rfl) ?_
  refine go_iload_2 (DX5_value.at 3 rfl) ?_
  refine go_cVx2 (DX5_value.at 4 rfl) nX5_134 vX4_hasCell (by omega) (c_hasCell hS hL (by omega)) hS.1 rfl (Nat.le_of_ble_eq_true rfl) ?_
  refine go_if_ne 14 (DX5_value.at 5 rfl) (by decide) (fun c9 => ?_) (fun c9 => ?_)
  · rw [bP_eq0, Classical.not_not] at c9
    obtain ⟨⟨t, ht, rfl⟩, ⟨c, hc, rfl⟩⟩ := And.intro (inR_ex (by omega) c9.1) (inR_ex (by omega) c9.2)
    obtain ⟨m1, m2⟩ := hM t ht
    refine go_aload_0 (DX5_value.at 8 rfl) ?_
    refine go_getfield (DX5_value.at 9 rfl) fX5_10 hC.1 rfl ?_
    refine go_iload_1 (DX5_value.at 10 rfl) ?_
    refine go_iload_2 (DX5_value.at 11 rfl) ?_
    refine go_cVx2 (DX5_value.at 12 rfl) nX5_138 vX4_isMissing (by omega) (c_isMissing hS (by omega) (by omega) m1 (by omega) (by omega)) hS.1 rfl (Nat.le_of_ble_eq_true rfl) ?_
    refine go_if_eq 31 (DX5_value.at 13 rfl) (by decide) (fun c23 => ?_) (fun c23 => ?_)
    · rw [bP_eq0] at c23
      
      refine go_aload_0 (DX5_value.at 16 rfl) ?_
      refine go_getfield (DX5_value.at 17 rfl) fX5_10 hC.1 rfl ?_
      refine go_iload_1 (DX5_value.at 18 rfl) ?_
      refine go_iload_2 (DX5_value.at 19 rfl) ?_
      refine go_cVx2 (DX5_value.at 20 rfl) nX5_141 vX4_valueOf (by omega) (c_valueOf hS (by omega) (by omega) (by omega)) hS.1 rfl (Nat.le_of_ble_eq_true rfl) ?_
      exact go_iret (DX5_value.at 21 rfl) rfl rfl (RI.mk ⟨rfl, Or.inr ⟨t, c, ht, hc, rfl, rfl, by first | exact Or.inl ⟨c23, rfl⟩ | exact Or.inr ⟨c23, rfl⟩⟩⟩)
    · rw [bP_eq0, Classical.not_not] at c23
      
      refine go_bipush (v := (-5)) (DX5_value.at 14 rfl) (by decide) ?_
      refine go_goto 40 (DX5_value.at 15 rfl) (by decide) ?_
      exact go_iret (DX5_value.at 21 rfl) rfl rfl (RI.mk ⟨rfl, Or.inr ⟨t, c, ht, hc, rfl, rfl, by first | exact Or.inl ⟨c23, rfl⟩ | exact Or.inr ⟨c23, rfl⟩⟩⟩)
  · rw [bP_eq0] at c9
    
    refine go_iconst (v := (-1)) (DX5_value.at 6 rfl) (by decide) ?_
    exact go_iret (DX5_value.at 7 rfl) rfl rfl (RI.mk ⟨rfl, Or.inl ⟨c9, rfl⟩⟩)

theorem c_node {x y : Int32} (hC : ClAt G h b N B S n Hs tk o X) (hS : StAt h (b + 1) σ) (hL : LayX σ g s T sh) (hd : 3 ≤ d) : Calls E mX5_node d 0 0 [.ref b, .int x, .int y] h (RI (fun r h' => h' = h ∧ ((¬ (inR x T ∧ inR y (nc g s)) ∧ r = (-1)) ∨ ∃ t c, t < T ∧ c < nc g s ∧ x = nI t ∧ y = nI c ∧ r = nI ((c + t * sh) % nc g s)))) := by
  refine Calls.of (ls := [some (.ref b), some (.int x), some (.int y)]) (by decide +kernel) rfl (Nat.le_of_ble_eq_true rfl) (cat_ok rfl) ?_
  have hn20 := hL.2.2.2.2.nc
  have hT8 : T ≤ 8 := hL.2.2.2.2.2.2.2.2.2.2.1
  refine go_aload_0 (DX5_node.at 0 rfl) ?_
  refine go_getfield (DX5_node.at 1 rfl) fX5_10 hC.1 rfl ?_
  refine go_iload_1 (DX5_node.at 2 rfl) ?_
  refine go_iload_2 (DX5_node.at 3 rfl) ?_
  refine go_cVx2 (DX5_node.at 4 rfl) nX5_134 vX4_hasCell (by omega) (c_hasCell hS hL (by omega)) hS.1 rfl (Nat.le_of_ble_eq_true rfl) ?_
  refine go_if_eq 24 (DX5_node.at 5 rfl) (by decide) (fun c9 => ?_) (fun c9 => ?_)
  · rw [bP_eq0] at c9
    
    refine go_iconst (v := (-1)) (DX5_node.at 12 rfl) (by decide) ?_
    exact go_iret (DX5_node.at 13 rfl) rfl rfl (RI.mk ⟨rfl, by first | exact Or.inl ⟨c9, rfl⟩ | exact Or.inr ⟨t, c, ht, hc, rfl, rfl, rfl⟩⟩)
  · rw [bP_eq0, Classical.not_not] at c9
    obtain ⟨⟨t, ht, rfl⟩, ⟨c, hc, rfl⟩⟩ := And.intro (inR_ex (by omega) c9.1) (inR_ex (by omega) c9.2)
    refine go_aload_0 (DX5_node.at 6 rfl) ?_
    refine go_getfield (DX5_node.at 7 rfl) fX5_10 hC.1 rfl ?_
    refine go_iload_1 (DX5_node.at 8 rfl) ?_
    refine go_iload_2 (DX5_node.at 9 rfl) ?_
    refine go_cVx2 (DX5_node.at 10 rfl) nX5_144 vX4_nodeOf (by omega) (c_nodeOf hS hL (by omega) (by omega) (by omega)) hS.1 rfl (Nat.le_of_ble_eq_true rfl) ?_
    refine go_goto 25 (DX5_node.at 11 rfl) (by decide) ?_
    exact go_iret (DX5_node.at 13 rfl) rfl rfl (RI.mk ⟨rfl, by first | exact Or.inl ⟨c9, rfl⟩ | exact Or.inr ⟨t, c, ht, hc, rfl, rfl, rfl⟩⟩)

theorem c_load {x : Int32} (hC : ClAt G h b N B S n Hs tk o X) (hS : StAt h (b + 1) σ) (hL : LayX σ g s T sh) (hd : 3 ≤ d) : Calls E mX5_load d 0 0 [.ref b, .int x] h (RI (fun r h' => h' = h ∧ ((¬ inR x (nc g s) ∧ r = (-1)) ∨ ∃ c, c < nc g s ∧ x = nI c ∧ r = σ 4 c))) := by
  refine Calls.of (ls := [some (.ref b), some (.int x)]) (by decide +kernel) rfl (Nat.le_of_ble_eq_true rfl) (cat_ok rfl) ?_
  have hn20 := hL.2.2.2.2.nc
  have hT8 : T ≤ 8 := hL.2.2.2.2.2.2.2.2.2.2.1
  refine go_aload_0 (DX5_load.at 0 rfl) ?_
  refine go_getfield (DX5_load.at 1 rfl) fX5_10 hC.1 rfl ?_
  refine go_iload_1 (DX5_load.at 2 rfl) ?_
  refine go_cVx1 (DX5_load.at 3 rfl) nX5_147 vX4_hasNode (by omega) (c_hasNode hS hL (by omega)) hS.1 rfl (Nat.le_of_ble_eq_true rfl) ?_
  refine go_if_eq 25 (DX5_load.at 4 rfl) (by decide) (fun c8 => ?_) (fun c8 => ?_)
  · rw [bP_eq0] at c8
    
    refine go_iconst (v := (-1)) (DX5_load.at 11 rfl) (by decide) ?_
    exact go_iret (DX5_load.at 12 rfl) rfl rfl (RI.mk ⟨rfl, by first | exact Or.inl ⟨c8, rfl⟩ | exact Or.inr ⟨c, hc, rfl, rfl⟩⟩)
  · rw [bP_eq0, Classical.not_not] at c8
    obtain ⟨c, hc, rfl⟩ := inR_ex (by omega) c8
    refine go_aload_0 (DX5_load.at 5 rfl) ?_
    refine go_getfield (DX5_load.at 6 rfl) fX5_10 hC.1 rfl ?_
    refine go_getfield (DX5_load.at 7 rfl) fX5_151 hS.1 rfl ?_
    refine go_iload_1 (DX5_load.at 8 rfl) ?_
    refine go_cSx2 (DX5_load.at 9 rfl) nX5_155 vX5_at (by omega) (c_at (Or.inl hS.2.2.2.2.1) (by omega) (by decide)) (Nat.le_of_ble_eq_true rfl) ?_
    refine go_goto 26 (DX5_load.at 10 rfl) (by decide) ?_
    exact go_iret (DX5_load.at 12 rfl) rfl rfl (RI.mk ⟨rfl, by first | exact Or.inl ⟨c8, rfl⟩ | exact Or.inr ⟨c, hc, rfl, rfl⟩⟩)

theorem c_lost {x : Int32} (hC : ClAt G h b N B S n Hs tk o X) (hS : StAt h (b + 1) σ) (hL : LayX σ g s T sh) (hd : 3 ≤ d) : Calls E mX5_lost d 0 0 [.ref b, .int x] h (RI (fun r h' => h' = h ∧ ((¬ inR x T ∧ r = (-1)) ∨ ∃ t, t < T ∧ x = nI t ∧ r = σ 3 t))) := by
  refine Calls.of (ls := [some (.ref b), some (.int x)]) (by decide +kernel) rfl (Nat.le_of_ble_eq_true rfl) (cat_ok rfl) ?_
  have hn20 := hL.2.2.2.2.nc
  have hT8 : T ≤ 8 := hL.2.2.2.2.2.2.2.2.2.2.1
  refine go_aload_0 (DX5_lost.at 0 rfl) ?_
  refine go_getfield (DX5_lost.at 1 rfl) fX5_10 hC.1 rfl ?_
  refine go_iload_1 (DX5_lost.at 2 rfl) ?_
  refine go_cVx1 (DX5_lost.at 3 rfl) nX5_159 vX4_hasStripe (by omega) (c_hasStripe hS hL) hS.1 rfl (Nat.le_of_ble_eq_true rfl) ?_
  refine go_if_eq 22 (DX5_lost.at 4 rfl) (by decide) (fun c8 => ?_) (fun c8 => ?_)
  · rw [bP_eq0] at c8
    
    refine go_iconst (v := (-1)) (DX5_lost.at 10 rfl) (by decide) ?_
    exact go_iret (DX5_lost.at 11 rfl) rfl rfl (RI.mk ⟨rfl, by first | exact Or.inl ⟨c8, rfl⟩ | exact Or.inr ⟨t, ht, rfl, rfl⟩⟩)
  · rw [bP_eq0, Classical.not_not] at c8
    obtain ⟨t, ht, rfl⟩ := inR_ex (by omega) c8
    refine go_aload_0 (DX5_lost.at 5 rfl) ?_
    refine go_getfield (DX5_lost.at 6 rfl) fX5_10 hC.1 rfl ?_
    refine go_iload_1 (DX5_lost.at 7 rfl) ?_
    refine go_cVx1 (DX5_lost.at 8 rfl) nX5_162 vX4_missingIn (by omega) (c_missingIn hS (by omega) (by omega)) hS.1 rfl (Nat.le_of_ble_eq_true rfl) ?_
    refine go_goto 23 (DX5_lost.at 9 rfl) (by decide) ?_
    exact go_iret (DX5_lost.at 11 rfl) rfl rfl (RI.mk ⟨rfl, by first | exact Or.inl ⟨c8, rfl⟩ | exact Or.inr ⟨t, ht, rfl, rfl⟩⟩)

end CL
end
section
/-! THE CLASS: the queue's places, the text, the search, the culprit -/
/-- what a search for w cells has counted and the least of the nodes -/
noncomputable abbrev frun (C : Nat → Nat → Nat) (g s sh T w : Nat) : Nat × Nat := List.foldl (ntF C g s sh T) (0, 0) (dl (nc g s) (nc g s) (min w 4) 0)
section CL
variable {E : AEnv} {d : Nat} {h h' : List va_E} {b : Nat} {N B S : RP} {n : Nat} {Hs : Nat → RP} {tk : Nat} {o X : Nat → Int32} {G : Nat → Option va_E} {σ : Rows} {g s T sh : Nat}
theorem c_waiting {x : Int32} {Q : Nat} (hC : ClAt G h b N B S n Hs tk o X) (hS : StAt h (b + 1) σ) (hQ : σ 0 8 = nI Q) (hQ2 : Q ≤ 160) (hd : 1 ≤ d) : Calls E mX5_waiting d 0 0 [.ref b, .int x] h (RI (fun r h' => h' = h ∧ ((x < 0 ∧ r = (-2)) ∨ (∃ j, j < Q ∧ x = nI j ∧ r = σ 1 j) ∨ (0 ≤ x ∧ ¬ inR x Q ∧ r = (-5))))) := by
  refine Calls.of (ls := [some (.ref b), some (.int x)]) (by decide +kernel) rfl (Nat.le_of_ble_eq_true rfl) (cat_ok rfl) ?_
  refine go_iload_1 (DX5_waiting.at 0 rfl) ?_
  refine go_if_ge 7 (DX5_waiting.at 1 rfl) (by decide) (fun c1 => ?_) (fun c1 => ?_)
  · refine go_iload_1 (DX5_waiting.at 4 rfl) ?_
    refine go_aload_0 (DX5_waiting.at 5 rfl) ?_
    refine go_getfield (DX5_waiting.at 6 rfl) fX5_10 hC.1 rfl ?_
    refine go_getfield (DX5_waiting.at 7 rfl) fX5_131 hS.1 rfl ?_
    refine go_icmp_ge 32 (DX5_waiting.at 8 rfl) (by decide) (fun c15 => ?_) (fun c15 => ?_)
    · rw [hQ] at c15
      refine go_bipush (v := (-5)) (DX5_waiting.at 15 rfl) (by decide) ?_
      exact go_iret (DX5_waiting.at 16 rfl) rfl rfl (RI.mk ⟨rfl, by first | exact Or.inr (Or.inl ⟨j, hj, rfl, rfl⟩) | exact Or.inr (Or.inr ⟨c1, fun q => absurd q.2 (Int32.not_lt.mpr c15), rfl⟩)⟩)
    · rw [hQ] at c15
      obtain ⟨j, hj, rfl⟩ := inR_ex (by omega) (show inR x Q from ⟨c1, Int32.not_le.mp c15⟩)
      refine go_aload_0 (DX5_waiting.at 9 rfl) ?_
      refine go_getfield (DX5_waiting.at 10 rfl) fX5_10 hC.1 rfl ?_
      refine go_getfield (DX5_waiting.at 11 rfl) fX5_165 hS.1 rfl ?_
      refine go_iload_1 (DX5_waiting.at 12 rfl) ?_
      refine go_cSx2 (DX5_waiting.at 13 rfl) nX5_155 vX5_at (by omega) (c_at (Or.inl hS.2.1) (by omega) (by decide)) (Nat.le_of_ble_eq_true rfl) ?_
      refine go_goto 34 (DX5_waiting.at 14 rfl) (by decide) ?_
      exact go_iret (DX5_waiting.at 16 rfl) rfl rfl (RI.mk ⟨rfl, by first | exact Or.inr (Or.inl ⟨j, hj, rfl, rfl⟩) | exact Or.inr (Or.inr ⟨c1, fun q => absurd q.2 (Int32.not_lt.mpr c15), rfl⟩)⟩)
  · refine go_bipush (v := (-2)) (DX5_waiting.at 2 rfl) (by decide) ?_
    exact go_iret (DX5_waiting.at 3 rfl) rfl rfl (RI.mk ⟨rfl, Or.inl ⟨Int32.not_le.mp c1, rfl⟩⟩)

theorem c_culprit {x : Int32} {C : Nat → Nat → Nat} {V : Nat → Nat → Nat} {Mx : Nat → Nat} (hC : ClAt G h b N B S n Hs tk o X) (hS : StAt h (b + 1) σ) (hL : LayX σ g s T sh) (hX : ColX σ (nc g s) C) (hM : ∀ t, t < T → σ 3 t = nI (Mx t) ∧ Mx t < 2 ^ 20) (hV : ∀ t, t < T → Mx t = 0 → ∀ c, c < nc g s → σ 2 (t * 20 + c) = nI (V t c) ∧ V t c < 16) (hd : 4 ≤ d) : Calls E mX5_culprit d 0 0 [.ref b, .int x] h (RI (fun r h' => h' = h ∧ ((¬ inR x T ∧ r = (-1)) ∨ ∃ t, t < T ∧ x = nI t ∧ ((Mx t ≠ 0 ∧ r = (-4)) ∨ (Mx t = 0 ∧ ((∃ c, c < nc g s ∧ r = nI c ∧ CU C (vsum C (V t) (2 ^ nc g s - 1) (nc g s)) (hcv g s c) c ∧ ∀ j, j < c → ¬ CU C (vsum C (V t) (2 ^ nc g s - 1) (nc g s)) (hcv g s j) j) ∨ (r = (-5) ∧ ∀ j, j < nc g s → ¬ CU C (vsum C (V t) (2 ^ nc g s - 1) (nc g s)) (hcv g s j) j))))))) := by
  refine Calls.of (ls := [some (.ref b), some (.int x)]) (by decide +kernel) rfl (Nat.le_of_ble_eq_true rfl) (cat_ok rfl) ?_
  have hn20 := hL.2.2.2.2.nc
  have hT8 : T ≤ 8 := hL.2.2.2.2.2.2.2.2.2.2.1
  refine go_aload_0 (DX5_culprit.at 0 rfl) ?_
  refine go_getfield (DX5_culprit.at 1 rfl) fX5_10 hC.1 rfl ?_
  refine go_iload_1 (DX5_culprit.at 2 rfl) ?_
  refine go_cVx1 (DX5_culprit.at 3 rfl) nX5_159 vX4_hasStripe (by omega) (c_hasStripe hS hL) hS.1 rfl (Nat.le_of_ble_eq_true rfl) ?_
  refine go_if_ne 13 (DX5_culprit.at 4 rfl) (by decide) (fun c8 => ?_) (fun c8 => ?_)
  · rw [bP_eq0, Classical.not_not] at c8
    obtain ⟨t, ht, rfl⟩ := inR_ex (by omega) c8
    obtain ⟨m1, m2⟩ := hM t ht
    refine go_aload_0 (DX5_culprit.at 7 rfl) ?_
    refine go_getfield (DX5_culprit.at 8 rfl) fX5_10 hC.1 rfl ?_
    refine go_iload_1 (DX5_culprit.at 9 rfl) ?_
    refine go_cVx1 (DX5_culprit.at 10 rfl) nX5_162 vX4_missingIn (by omega) (c_missingIn hS (by omega) (by omega)) hS.1 rfl (Nat.le_of_ble_eq_true rfl) ?_
    refine go_if_eq 29 (DX5_culprit.at 11 rfl) (by decide) (fun c21 => ?_) (fun c21 => ?_)
    · rw [m1, nI_eq0 (by omega)] at c21
      refine go_aload_0 (DX5_culprit.at 14 rfl) ?_
      refine go_getfield (DX5_culprit.at 15 rfl) fX5_10 hC.1 rfl ?_
      refine go_iload_1 (DX5_culprit.at 16 rfl) ?_
      refine go_cVi1 (DX5_culprit.at 17 rfl) nX5_216 vX4_culpritIn (by omega) (c_culpritIn hS hL hX (by omega) (hV t ht c21) (by omega)) hS.1 rfl (Nat.le_of_ble_eq_true rfl) (fun x34 h34 q34 => ?_)
      exact go_iret (DX5_culprit.at 18 rfl) rfl rfl (RI.mk (by first | exact ⟨rfl, Or.inr ⟨t, ht, rfl, Or.inl ⟨c21, rfl⟩⟩⟩ | exact ⟨q34.1, Or.inr ⟨t, ht, rfl, Or.inr ⟨c21, q34.2⟩⟩⟩))
    · rw [m1, nI_eq0 (by omega)] at c21
      refine go_bipush (v := (-4)) (DX5_culprit.at 12 rfl) (by decide) ?_
      refine go_goto 37 (DX5_culprit.at 13 rfl) (by decide) ?_
      exact go_iret (DX5_culprit.at 18 rfl) rfl rfl (RI.mk (by first | exact ⟨rfl, Or.inr ⟨t, ht, rfl, Or.inl ⟨c21, rfl⟩⟩⟩ | exact ⟨q34.1, Or.inr ⟨t, ht, rfl, Or.inr ⟨c21, q34.2⟩⟩⟩))
  · rw [bP_eq0] at c8
    
    refine go_iconst (v := (-1)) (DX5_culprit.at 5 rfl) (by decide) ?_
    exact go_iret (DX5_culprit.at 6 rfl) rfl rfl (RI.mk ⟨rfl, Or.inl ⟨c8, rfl⟩⟩)

end CL
end
section
/-! THE CLASS: at the start; totals; a new layout -/
theorem ClNew.cl {G : Nat → Option va_E} {h : List va_E} {b : Nat} {Hs : Nat → RP} (q : ClNew h b) (fr : Frm G b h) : ClAt G h b StNew StNew StNew 0 Hs 0 (fun _ => 0) (fun _ => 0) := by
  obtain ⟨q0, ⟨q1, q2, q3, q4, q5, q6⟩, F, hF, hT⟩ := q
  exact ⟨q0, by omega, q1, q2, q3, ⟨F, fun i => i, hF, fun i hi => ⟨hi, (hT i hi).1⟩, fun i j _ _ e => e, fun i hi => by
    obtain ⟨σ, s, -⟩ := (hT i hi).2
    exact ⟨σ, s⟩, fun i hi => absurd hi (Nat.not_lt_zero i)⟩, q4, ⟨_, _, q5⟩, fr, _, _, _, _, q6⟩
theorem StNew.rc : RC StNew := by
  intro σ σ' ⟨e1, e2⟩ ⟨⟨l1, l2, l3, l4, l5⟩, h1, h2, h3⟩
  refine ⟨⟨(e1 0 (by omega)).trans l1, (e1 1 (by omega)).trans l2, (e1 2 (by omega)).trans l3, (e1 3 (by omega)).trans l4, l5⟩, fun i g1 g2 => (e1 i g2).trans (h1 i g1 g2), fun a g1 g2 j hj => (e2 a (by omega) (by omega) j hj).trans (h2 a g1 g2 j hj), fun c hc => ⟨(e2 5 (by omega) (by omega) c (by have : nc 2 3 = 10 := rfl; show c < 20; omega)).trans (h3 c hc).1, (h3 c hc).2⟩⟩
/-- what total answers for j -/
def totv (σ : Rows) (g s : Nat) (n : Nat) (o : Nat → Int32) (j : Nat) : Int32 := if j < 4 then σ 0 j else if j = 4 then nI (nc g s) else if j = 5 then σ 0 8 else if j < 10 then σ 0 (j - 2) else if j = 10 then nI n else o 1
section CL
variable {E : AEnv} {d : Nat} {h h' : List va_E} {b : Nat} {N B S : RP} {n : Nat} {Hs : Nat → RP} {tk : Nat} {o X : Nat → Int32} {G : Nat → Option va_E} {σ : Rows} {g s T sh : Nat}
theorem c_total {j : Nat} (hj : j < 12) (hC : ClAt G h b N B S n Hs tk o X) (hS : StAt h (b + 1) σ) (hL : LayX σ g s T sh) (hd : 2 ≤ d) : Calls E mX5_total d 0 0 [.ref b, .int (nI j)] h (RX (totv σ g s n o j) h) := by
  refine Calls.of (ls := [some (.ref b), some (.int (nI j))]) (by decide +kernel) rfl (Nat.le_of_ble_eq_true rfl) (cat_ok rfl) ?_
  refine go_iload_1 (DX5_total.at 0 rfl) ?_
  rcases (show j = 0 ∨ j = 1 ∨ j = 2 ∨ j = 3 ∨ j = 4 ∨ j = 5 ∨ j = 6 ∨ j = 7 ∨ j = 8 ∨ j = 9 ∨ j = 10 ∨ j = 11 by omega) with rfl | rfl | rfl | rfl | rfl | rfl | rfl | rfl | rfl | rfl | rfl | rfl
  · refine go_tableIn (off := 63) 64 (DX5_total.at 1 rfl) (by decide) (by decide) rfl (by decide) ?_
    refine go_aload_0 (DX5_total.at 2 rfl) ?_
    refine go_getfield (DX5_total.at 3 rfl) fX5_10 hC.1 rfl ?_
    refine go_getfield (DX5_total.at 4 rfl) fX5_177 hS.1 rfl ?_
    exact go_iret (DX5_total.at 5 rfl) rfl rfl (RX.mk rfl rfl)
  · refine go_tableIn (off := 71) 72 (DX5_total.at 1 rfl) (by decide) (by decide) rfl (by decide) ?_
    refine go_aload_0 (DX5_total.at 6 rfl) ?_
    refine go_getfield (DX5_total.at 7 rfl) fX5_10 hC.1 rfl ?_
    refine go_getfield (DX5_total.at 8 rfl) fX5_180 hS.1 rfl ?_
    exact go_iret (DX5_total.at 9 rfl) rfl rfl (RX.mk rfl rfl)
  · refine go_tableIn (off := 79) 80 (DX5_total.at 1 rfl) (by decide) (by decide) rfl (by decide) ?_
    refine go_aload_0 (DX5_total.at 10 rfl) ?_
    refine go_getfield (DX5_total.at 11 rfl) fX5_10 hC.1 rfl ?_
    refine go_getfield (DX5_total.at 12 rfl) fX5_183 hS.1 rfl ?_
    exact go_iret (DX5_total.at 13 rfl) rfl rfl (RX.mk rfl rfl)
  · refine go_tableIn (off := 87) 88 (DX5_total.at 1 rfl) (by decide) (by decide) rfl (by decide) ?_
    refine go_aload_0 (DX5_total.at 14 rfl) ?_
    refine go_getfield (DX5_total.at 15 rfl) fX5_10 hC.1 rfl ?_
    refine go_getfield (DX5_total.at 16 rfl) fX5_186 hS.1 rfl ?_
    exact go_iret (DX5_total.at 17 rfl) rfl rfl (RX.mk rfl rfl)
  · refine go_tableIn (off := 95) 96 (DX5_total.at 1 rfl) (by decide) (by decide) rfl (by decide) ?_
    refine go_aload_0 (DX5_total.at 18 rfl) ?_
    refine go_getfield (DX5_total.at 19 rfl) fX5_10 hC.1 rfl ?_
    refine go_cVx0 (DX5_total.at 20 rfl) nX5_66 vX4_cellCount (by omega) (c_cellCount hS hL) hS.1 rfl (Nat.le_of_ble_eq_true rfl) ?_
    exact go_iret (DX5_total.at 21 rfl) rfl rfl (RX.mk rfl rfl)
  · refine go_tableIn (off := 103) 104 (DX5_total.at 1 rfl) (by decide) (by decide) rfl (by decide) ?_
    refine go_aload_0 (DX5_total.at 22 rfl) ?_
    refine go_getfield (DX5_total.at 23 rfl) fX5_10 hC.1 rfl ?_
    refine go_getfield (DX5_total.at 24 rfl) fX5_131 hS.1 rfl ?_
    exact go_iret (DX5_total.at 25 rfl) rfl rfl (RX.mk rfl rfl)
  · refine go_tableIn (off := 111) 112 (DX5_total.at 1 rfl) (by decide) (by decide) rfl (by decide) ?_
    refine go_aload_0 (DX5_total.at 26 rfl) ?_
    refine go_getfield (DX5_total.at 27 rfl) fX5_10 hC.1 rfl ?_
    refine go_getfield (DX5_total.at 28 rfl) fX5_189 hS.1 rfl ?_
    exact go_iret (DX5_total.at 29 rfl) rfl rfl (RX.mk rfl rfl)
  · refine go_tableIn (off := 119) 120 (DX5_total.at 1 rfl) (by decide) (by decide) rfl (by decide) ?_
    refine go_aload_0 (DX5_total.at 30 rfl) ?_
    refine go_getfield (DX5_total.at 31 rfl) fX5_10 hC.1 rfl ?_
    refine go_getfield (DX5_total.at 32 rfl) fX5_192 hS.1 rfl ?_
    exact go_iret (DX5_total.at 33 rfl) rfl rfl (RX.mk rfl rfl)
  · refine go_tableIn (off := 127) 128 (DX5_total.at 1 rfl) (by decide) (by decide) rfl (by decide) ?_
    refine go_aload_0 (DX5_total.at 34 rfl) ?_
    refine go_getfield (DX5_total.at 35 rfl) fX5_10 hC.1 rfl ?_
    refine go_getfield (DX5_total.at 36 rfl) fX5_195 hS.1 rfl ?_
    exact go_iret (DX5_total.at 37 rfl) rfl rfl (RX.mk rfl rfl)
  · refine go_tableIn (off := 135) 136 (DX5_total.at 1 rfl) (by decide) (by decide) rfl (by decide) ?_
    refine go_aload_0 (DX5_total.at 38 rfl) ?_
    refine go_getfield (DX5_total.at 39 rfl) fX5_10 hC.1 rfl ?_
    refine go_getfield (DX5_total.at 40 rfl) fX5_198 hS.1 rfl ?_
    exact go_iret (DX5_total.at 41 rfl) rfl rfl (RX.mk rfl rfl)
  · refine go_tableIn (off := 143) 144 (DX5_total.at 1 rfl) (by decide) (by decide) rfl (by decide) ?_
    refine go_aload_0 (DX5_total.at 42 rfl) ?_
    refine go_getfield (DX5_total.at 43 rfl) fX5_47 hC.1 rfl ?_
    exact go_iret (DX5_total.at 44 rfl) rfl rfl (RX.mk rfl rfl)
  · refine go_tableIn (off := 148) 149 (DX5_total.at 1 rfl) (by decide) (by decide) rfl (by decide) ?_
    refine go_aload_0 (DX5_total.at 45 rfl) ?_
    refine go_getfield (DX5_total.at 46 rfl) fX5_29 hC.1 rfl ?_
    refine go_getfield (DX5_total.at 47 rfl) fX5_104 hC.2.2.2.2.2.2.1.1 rfl ?_
    exact go_iret (DX5_total.at 48 rfl) rfl rfl (RX.mk rfl rfl)

theorem c_totalOut {x : Int32} (hx : ¬ inR x 12) : Calls E mX5_total d 0 0 [.ref b, .int x] h (RX (-2) h) := by
  refine Calls.of (ls := [some (.ref b), some (.int x)]) (by decide +kernel) rfl (Nat.le_of_ble_eq_true rfl) (cat_ok rfl) ?_
  have key : x.toInt < 0 ∨ 11 < x.toInt := by
    by_cases q : x < 0
    · exact Or.inl (Int32.lt_iff_toInt_lt.mp q)
    · have q2 : ¬ x < nI 12 := fun q2 => hx ⟨Int32.not_lt.mp q, q2⟩
      rw [Int32.lt_iff_toInt_lt, show (nI 12).toInt = 12 from by decide] at q2
      exact Or.inr (by omega)
  refine go_iload_1 (DX5_total.at 0 rfl) ?_
  refine go_tableOut 157 (DX5_total.at 1 rfl) key (by decide) ?_
  refine go_bipush (v := (-2)) (DX5_total.at 49 rfl) (by decide) ?_
  exact go_iret (DX5_total.at 50 rfl) rfl rfl (RX.mk rfl rfl)

/-- a state that was laid out anew out of an N state -/
def LaidOut (N : RP) (g s T sh : Nat) : RP := fun σ' => ∃ σ, N σ ∧ LayX σ' g s T sh ∧ (∀ k, 4 ≤ k → k < 8 → σ' 0 k = σ 0 k) ∧ σ' 0 8 = nI 0 ∧ (∀ a, 2 ≤ a → a ≤ 4 → ∀ j, j < nA a → σ' a j = nI 0) ∧ ColX σ' (nc g s) (colv g s)
theorem c_setLayout {x y z w : Int32} (hC : ClAt G h b N B S n Hs tk o X) (hN : RC N) (hd : 6 ≤ d) : Calls E mX5_setLayout d 0 0 [.ref b, .int x, .int y, .int z, .int w] h (RI (fun r h' => (¬ ((nI 1 ≤ x ∧ x ≤ nI 4) ∧ (nI 2 ≤ y ∧ y ≤ nI 6) ∧ ¬ nI 15 < x * y ∧ (nI 1 ≤ z ∧ z ≤ nI 8) ∧ (nI 0 ≤ w ∧ w ≤ nI 5)) ∧ r = (-2) ∧ h' = h) ∨ ∃ g s T sh, x = nI g ∧ y = nI s ∧ z = nI T ∧ w = nI sh ∧ LayOK g s T sh ∧ r = nI (nc g s) ∧ ClAt G h' b (LaidOut N g s T sh) N S (recN n) (recH n Hs N) tk o X)) := by
  refine Calls.of (ls := [some (.ref b), some (.int x), some (.int y), some (.int z), some (.int w)]) (by decide +kernel) rfl (Nat.le_of_ble_eq_true rfl) (cat_ok rfl) ?_
  refine go_iload_1 (DX5_setLayout.at 0 rfl) ?_
  refine go_iconst (v := nI 1) (DX5_setLayout.at 1 rfl) (by decide) ?_
  refine go_iconst (v := nI 4) (DX5_setLayout.at 2 rfl) (by decide) ?_
  refine go_cSx3 (DX5_setLayout.at 3 rfl) nX5_55 vX5_isWithin (by omega) c_isWithin (Nat.le_of_ble_eq_true rfl) ?_
  refine go_if_eq 47 (DX5_setLayout.at 4 rfl) (by decide) (fun c6 => ?_) (fun c6 => ?_)
  · rw [bI_eq0] at c6
    refine go_bipush (v := (-2)) (DX5_setLayout.at 25 rfl) (by decide) ?_
    exact go_iret (DX5_setLayout.at 26 rfl) rfl rfl (RI.mk (Or.inl ⟨by first | exact fun q => c6 q.1 | exact fun q => c16 q.2.1 | exact fun q => q.2.2.1 c24 | exact fun q => c34 q.2.2.2.1 | exact fun q => c44 q.2.2.2.2, rfl, rfl⟩))
  · rw [bI_eq0, Classical.not_not] at c6
    refine go_iload_2 (DX5_setLayout.at 5 rfl) ?_
    refine go_iconst (v := nI 2) (DX5_setLayout.at 6 rfl) (by decide) ?_
    refine go_bipush (v := nI 6) (DX5_setLayout.at 7 rfl) (by decide) ?_
    refine go_cSx3 (DX5_setLayout.at 8 rfl) nX5_55 vX5_isWithin (by omega) c_isWithin (Nat.le_of_ble_eq_true rfl) ?_
    refine go_if_eq 47 (DX5_setLayout.at 9 rfl) (by decide) (fun c16 => ?_) (fun c16 => ?_)
    · rw [bI_eq0] at c16
      refine go_bipush (v := (-2)) (DX5_setLayout.at 25 rfl) (by decide) ?_
      exact go_iret (DX5_setLayout.at 26 rfl) rfl rfl (RI.mk (Or.inl ⟨by first | exact fun q => c6 q.1 | exact fun q => c16 q.2.1 | exact fun q => q.2.2.1 c24 | exact fun q => c34 q.2.2.2.1 | exact fun q => c44 q.2.2.2.2, rfl, rfl⟩))
    · rw [bI_eq0, Classical.not_not] at c16
      refine go_iload_1 (DX5_setLayout.at 10 rfl) ?_
      refine go_iload_2 (DX5_setLayout.at 11 rfl) ?_
      refine go_imul (DX5_setLayout.at 12 rfl) ?_
      refine go_bipush (v := nI 15) (DX5_setLayout.at 13 rfl) (by decide) ?_
      refine go_icmp_gt 47 (DX5_setLayout.at 14 rfl) (by decide) (fun c24 => ?_) (fun c24 => ?_)
      · refine go_bipush (v := (-2)) (DX5_setLayout.at 25 rfl) (by decide) ?_
        exact go_iret (DX5_setLayout.at 26 rfl) rfl rfl (RI.mk (Or.inl ⟨by first | exact fun q => c6 q.1 | exact fun q => c16 q.2.1 | exact fun q => q.2.2.1 c24 | exact fun q => c34 q.2.2.2.1 | exact fun q => c44 q.2.2.2.2, rfl, rfl⟩))
      · refine go_iload_3 (DX5_setLayout.at 15 rfl) ?_
        refine go_iconst (v := nI 1) (DX5_setLayout.at 16 rfl) (by decide) ?_
        refine go_bipush (v := nI 8) (DX5_setLayout.at 17 rfl) (by decide) ?_
        refine go_cSx3 (DX5_setLayout.at 18 rfl) nX5_55 vX5_isWithin (by omega) c_isWithin (Nat.le_of_ble_eq_true rfl) ?_
        refine go_if_eq 47 (DX5_setLayout.at 19 rfl) (by decide) (fun c34 => ?_) (fun c34 => ?_)
        · rw [bI_eq0] at c34
          refine go_bipush (v := (-2)) (DX5_setLayout.at 25 rfl) (by decide) ?_
          exact go_iret (DX5_setLayout.at 26 rfl) rfl rfl (RI.mk (Or.inl ⟨by first | exact fun q => c6 q.1 | exact fun q => c16 q.2.1 | exact fun q => q.2.2.1 c24 | exact fun q => c34 q.2.2.2.1 | exact fun q => c44 q.2.2.2.2, rfl, rfl⟩))
        · rw [bI_eq0, Classical.not_not] at c34
          refine go_iload_4 (DX5_setLayout.at 20 rfl) ?_
          refine go_iconst (v := nI 0) (DX5_setLayout.at 21 rfl) (by decide) ?_
          refine go_iconst (v := nI 5) (DX5_setLayout.at 22 rfl) (by decide) ?_
          refine go_cSx3 (DX5_setLayout.at 23 rfl) nX5_55 vX5_isWithin (by omega) c_isWithin (Nat.le_of_ble_eq_true rfl) ?_
          refine go_if_ne 50 (DX5_setLayout.at 24 rfl) (by decide) (fun c44 => ?_) (fun c44 => ?_)
          · rw [bI_eq0, Classical.not_not] at c44
            obtain ⟨g, hg, rfl⟩ := inR_ex (n := 5) (by decide) (show inR x 5 from ⟨Int32.le_trans (by decide) c6.1, Int32.lt_of_le_of_lt c6.2 (by decide)⟩)
            obtain ⟨s, hs, rfl⟩ := inR_ex (n := 7) (by decide) (show inR y 7 from ⟨Int32.le_trans (by decide) c16.1, Int32.lt_of_le_of_lt c16.2 (by decide)⟩)
            obtain ⟨T, hT, rfl⟩ := inR_ex (n := 9) (by decide) (show inR z 9 from ⟨Int32.le_trans (by decide) c34.1, Int32.lt_of_le_of_lt c34.2 (by decide)⟩)
            obtain ⟨sh, hsh, rfl⟩ := inR_ex (n := 6) (by decide) (show inR w 6 from ⟨Int32.le_trans (by decide) c44.1, Int32.lt_of_le_of_lt c44.2 (by decide)⟩)
            have hgs : g * s ≤ 28 := Nat.le_trans (Nat.mul_le_mul (show g ≤ 4 by omega) (show s ≤ 6 by omega)) (by decide)
            rw [pk_mul, nI_ltI (by decide) (by omega)] at c24
            rw [nI_leI (by decide) (by omega)] at c6 c16 c34
            have hLO : LayOK g s T sh := ⟨c6.1, by omega, c16.1, by omega, by omega, c34.1, by omega, by omega⟩
            obtain ⟨σ0, s0, w0⟩ := hC.2.2.1
            refine go_aload_0 (DX5_setLayout.at 27 rfl) ?_
            refine go_cVv0 (DX5_setLayout.at 28 rfl) nX5_59 vX5_begin (by omega) (c_begin hC hN (by omega)) hC.1 rfl (Nat.le_of_ble_eq_true rfl) (fun h51 q51 => ?_)
            obtain ⟨σn, sn, wn⟩ := q51.2.2.1
            refine go_aload_0 (DX5_setLayout.at 29 rfl) ?_
            refine go_getfield (DX5_setLayout.at 30 rfl) fX5_10 q51.1 rfl ?_
            refine go_iload_1 (DX5_setLayout.at 31 rfl) ?_
            refine go_iload_2 (DX5_setLayout.at 32 rfl) ?_
            refine go_iload_3 (DX5_setLayout.at 33 rfl) ?_
            refine go_iload_4 (DX5_setLayout.at 34 rfl) ?_
            refine go_cVv4 (DX5_setLayout.at 35 rfl) nX5_62 vX4_layOut (by omega) (c_layOut sn hLO (by omega)) sn.1 rfl (Nat.le_of_ble_eq_true rfl) (fun h63 q63 => ?_)
            obtain ⟨σ', u, hLX, k1, k2, k3, k4⟩ := q63
            have hC2 : ClAt G h63 b (LaidOut N g s T sh) N S n Hs tk o X := q51.toNow u ⟨σn, wn, hLX, k1, k2, k3, k4⟩
            refine go_aload_0 (DX5_setLayout.at 36 rfl) ?_
            refine go_aload_0 (DX5_setLayout.at 37 rfl) ?_
            refine go_getfield (DX5_setLayout.at 38 rfl) fX5_10 hC2.1 rfl ?_
            refine go_cVx0 (DX5_setLayout.at 39 rfl) nX5_66 vX4_cellCount (by omega) (c_cellCount u.1 hLX) u.1.1 rfl (Nat.le_of_ble_eq_true rfl) ?_
            refine go_cVi1 (DX5_setLayout.at 40 rfl) nX5_70 vX5_finish (by omega) (c_finishYes hC2 hN (nI_le0 (by have := hLO.nc; omega)) (by omega)) hC2.1 rfl (Nat.le_of_ble_eq_true rfl) (fun x74 h74 q74 => ?_)
            exact go_iret (DX5_setLayout.at 41 rfl) rfl rfl (RI.mk (Or.inr ⟨g, s, T, sh, rfl, rfl, rfl, rfl, hLO, q74.1, q74.2⟩))
          · rw [bI_eq0] at c44
            refine go_bipush (v := (-2)) (DX5_setLayout.at 25 rfl) (by decide) ?_
            exact go_iret (DX5_setLayout.at 26 rfl) rfl rfl (RI.mk (Or.inl ⟨by first | exact fun q => c6 q.1 | exact fun q => c16 q.2.1 | exact fun q => q.2.2.1 c24 | exact fun q => c34 q.2.2.2.1 | exact fun q => c44 q.2.2.2.2, rfl, rfl⟩))

end CL
end
section
/-! THE CLASS: what a loss would do -/
theorem and_out (M k : Nat) (hM : M < 2 ^ 31) (hk : k ≤ 20) : M &&& ((2 ^ k - 1) ^^^ 4294967295) = 0 ↔ M < 2 ^ k := by
  have e : (4294967295 : Nat) = 2 ^ 32 - 1 := by decide
  rw [e]
  constructor
  · intro h
    apply Nat.lt_of_not_le
    intro hge
    obtain ⟨i, hi, hb⟩ := Nat.exists_ge_and_testBit_of_ge_two_pow hge
    have hi31 : i < 31 := by
      apply Nat.lt_of_not_le
      intro q
      have : M < 2 ^ i := Nat.lt_of_lt_of_le hM (Nat.pow_le_pow_right (by decide) q)
      rw [Nat.testBit_lt_two_pow this] at hb
      cases hb
    have := congrArg (fun z => z.testBit i) h
    rw [Nat.testBit_and, Nat.testBit_xor, Nat.testBit_two_pow_sub_one, Nat.testBit_two_pow_sub_one, hb, Nat.zero_testBit, decide_eq_false (by omega), decide_eq_true (by omega)] at this
    cases this
  · intro h
    apply Nat.eq_of_testBit_eq
    intro i
    rw [Nat.testBit_and, Nat.testBit_xor, Nat.testBit_two_pow_sub_one, Nat.testBit_two_pow_sub_one, Nat.zero_testBit]
    by_cases q : i < k
    · rw [decide_eq_true q, decide_eq_true (by omega)]
      simp
    · have : M < 2 ^ i := Nat.lt_of_lt_of_le h (Nat.pow_le_pow_right (by decide) (by omega))
      rw [Nat.testBit_lt_two_pow this]
      rfl
theorem nn_ex (x : Int32) (h : ¬ x < 0) : ∃ M, M < 2 ^ 31 ∧ x = nI M := by
  have h0 : 0 ≤ x.toInt := by
    rw [Int32.lt_iff_toInt_lt] at h
    have : (0 : Int32).toInt = 0 := by decide
    omega
  have h1 : x.toInt < 2 ^ 31 := x.toInt_lt
  refine ⟨x.toInt.toNat, by omega, ?_⟩
  apply Int32.toInt_inj.mp
  show x.toInt = (Int32.ofNat x.toInt.toNat).toInt
  rw [Int32.toInt_ofNat_of_lt (by omega)]
  omega
section CL
variable {E : AEnv} {d : Nat} {h h' : List va_E} {b : Nat} {N B S : RP} {n : Nat} {Hs : Nat → RP} {tk : Nat} {o X : Nat → Int32} {G : Nat → Option va_E} {σ : Rows} {g s T sh : Nat}
theorem c_survives {x : Int32} {C : Nat → Nat → Nat} (hC : ClAt G h b N B S n Hs tk o X) (hS : StAt h (b + 1) σ) (hL : LayX σ g s T sh) (hX : ColX σ (nc g s) C) (hd : 4 ≤ d) : Calls E mX5_survives d 0 0 [.ref b, .int x] h (RI (fun r h' => (¬ inR x (2 ^ nc g s) ∧ r = (-2) ∧ h' = h) ∨ ∃ M, M < 2 ^ nc g s ∧ x = nI M ∧ r = bP (IndP C M (nc g s)) ∧ ClAt G h' b N B S n Hs tk o X)) := by
  refine Calls.of (ls := [some (.ref b), some (.int x)]) (by decide +kernel) rfl (Nat.le_of_ble_eq_true rfl) (cat_ok rfl) ?_
  have hn20 := hL.2.2.2.2.nc
  have h2n : 2 ^ nc g s ≤ 2 ^ 20 := Nat.pow_le_pow_right (by decide) hn20.2
  have hpl := hC.2.2.2.2.2.2.2.1
  obtain ⟨s0, t0, hp, r0, cf0, lf0, hB0⟩ := hpl
  refine go_iload_1 (DX5_survives.at 0 rfl) ?_
  refine go_if_lt 18 (DX5_survives.at 1 rfl) (by decide) (fun c1 => ?_) (fun c1 => ?_)
  · refine go_bipush (v := (-2)) (DX5_survives.at 10 rfl) (by decide) ?_
    exact go_iret (DX5_survives.at 11 rfl) rfl rfl (RI.mk (Or.inl ⟨fun q => by first | exact absurd c1 (Int32.not_lt.mpr q.1) | (obtain ⟨j, hj, e⟩ := inR_ex (by omega) q; rw [nI_eq hM (by omega)] at e; omega), rfl, rfl⟩))
  · obtain ⟨M, hM, rfl⟩ := nn_ex x c1
    refine go_iload_1 (DX5_survives.at 2 rfl) ?_
    refine go_aload_0 (DX5_survives.at 3 rfl) ?_
    refine go_getfield (DX5_survives.at 4 rfl) fX5_10 hC.1 rfl ?_
    refine go_cVx0 (DX5_survives.at 5 rfl) nX5_168 vX4_allCells (by omega) (c_allCells hS hL (by omega)) hS.1 rfl (Nat.le_of_ble_eq_true rfl) ?_
    refine go_iconst (v := (-1)) (DX5_survives.at 6 rfl) (by decide) ?_
    refine go_ixor (DX5_survives.at 7 rfl) ?_
    refine go_iand (DX5_survives.at 8 rfl) ?_
    refine go_if_eq 21 (DX5_survives.at 9 rfl) (by decide) (fun c15 => ?_) (fun c15 => ?_)
    · rw [not_nI, nx_and, nI_eq0 (Nat.lt_of_le_of_lt Nat.and_le_left hM), and_out M _ hM hn20.2] at c15
      have hM2 := c15
      refine go_aload_0 (DX5_survives.at 12 rfl) ?_
      refine go_getfield (DX5_survives.at 13 rfl) fX5_36 hC.1 rfl ?_
      refine go_aload_0 (DX5_survives.at 14 rfl) ?_
      refine go_getfield (DX5_survives.at 15 rfl) fX5_10 hC.1 rfl ?_
      refine go_iload_1 (DX5_survives.at 16 rfl) ?_
      refine go_cVi2 (DX5_survives.at 17 rfl) nX5_219 vX2_canMendAll (by omega) (c_canMendAll hp hB0 hS hL hX hM2 (by omega) (by omega)) hp rfl (Nat.le_of_ble_eq_true rfl) (fun x30 h30 q30 => ?_)
      obtain ⟨u, ⟨s1, t1, q1⟩, q2⟩ := q30
      have hC2 := hC.toPlan ⟨q1, u⟩
      refine go_if_eq 40 (DX5_survives.at 18 rfl) (by decide) (fun c33 => ?_) (fun c33 => ?_)
      · rw [q2, bP_eq0] at c33
        refine go_iconst (v := nI 0) (DX5_survives.at 21 rfl) (by decide) ?_
        exact go_iret (DX5_survives.at 22 rfl) rfl rfl (RI.mk (Or.inr ⟨M, hM2, rfl, by first | exact (bP_t c33).symm | exact (bP_f c33).symm, hC2⟩))
      · rw [q2, bP_eq0, Classical.not_not] at c33
        refine go_iconst (v := nI 1) (DX5_survives.at 19 rfl) (by decide) ?_
        refine go_goto 41 (DX5_survives.at 20 rfl) (by decide) ?_
        exact go_iret (DX5_survives.at 22 rfl) rfl rfl (RI.mk (Or.inr ⟨M, hM2, rfl, by first | exact (bP_t c33).symm | exact (bP_f c33).symm, hC2⟩))
    · rw [not_nI, nx_and, nI_eq0 (Nat.lt_of_le_of_lt Nat.and_le_left hM), and_out M _ hM hn20.2] at c15
      refine go_bipush (v := (-2)) (DX5_survives.at 10 rfl) (by decide) ?_
      exact go_iret (DX5_survives.at 11 rfl) rfl rfl (RI.mk (Or.inl ⟨fun q => by first | exact absurd c1 (Int32.not_lt.mpr q.1) | (obtain ⟨j, hj, e⟩ := inR_ex (by omega) q; rw [nI_eq hM (by omega)] at e; omega), rfl, rfl⟩))

end CL
end
section
/-! THE CLASS: the way that would be taken -/
theorem WayX.w {C : Nat → Nat → Nat} {V : Nat → Nat} {g s M c w src X : Nat} (h : WayX C V g s M c w src X) : w = 1 ∨ w = 2 ∨ w = 3 := by
  rcases h with ⟨-, e, -⟩ | ⟨-, -, e, -⟩
  · split at e
    · exact Or.inl e
    · exact Or.inr (Or.inl e)
  · exact Or.inr (Or.inr e)
/-- r is: -1 for no cell, -5 for one that isn't lost, A of the way that is taken, Z if there is none -/
def Asked (C : Nat → Nat → Nat) (V : Nat → Nat → Nat) (Mx : Nat → Nat) (g s T : Nat) (x y : Int32) (A : Nat → Nat → Nat → Int32) (Z r : Int32) : Prop := (¬ (inR x T ∧ inR y (nc g s)) ∧ r = (-1)) ∨ ∃ t c, t < T ∧ c < nc g s ∧ x = nI t ∧ y = nI c ∧ ((¬ bit (Mx t) c ∧ r = (-5)) ∨ (bit (Mx t) c ∧ ((∃ w sc X, WayX C (V t) g s (Mx t) c w sc X ∧ r = A w sc X) ∨ (NoWay C (V t) g s (Mx t) c ∧ r = Z))))
section CL
variable {E : AEnv} {d : Nat} {h h' : List va_E} {b : Nat} {N B S : RP} {n : Nat} {Hs : Nat → RP} {tk : Nat} {o X : Nat → Int32} {G : Nat → Option va_E} {σ : Rows} {g s T sh : Nat}
theorem c_way {x y : Int32} {C : Nat → Nat → Nat} {V : Nat → Nat → Nat} {Mx : Nat → Nat} (hC : ClAt G h b N B S n Hs tk o X) (hS : StAt h (b + 1) σ) (hL : LayX σ g s T sh) (hX : ColX σ (nc g s) C) (hM : ∀ t, t < T → σ 3 t = nI (Mx t) ∧ Mx t < 2 ^ 20) (hV : ∀ t, t < T → ∀ c, c < nc g s → ¬ bit (Mx t) c → σ 2 (t * 20 + c) = nI (V t c) ∧ V t c < 16) (hd : 5 ≤ d) : Calls E mX5_way d 0 0 [.ref b, .int x, .int y] h (RI (fun r h' => ClAt G h' b N B S n Hs tk o X ∧ Asked C V Mx g s T x y (fun w sc v => nI w) 0 r)) := by
  refine Calls.of (ls := [some (.ref b), some (.int x), some (.int y), none]) (by decide +kernel) rfl (Nat.le_of_ble_eq_true rfl) (cat_ok rfl) ?_
  have hpl := hC.2.2.2.2.2.2.2.1
  obtain ⟨s0, t0, hp, r0, cf0, lf0, hB0⟩ := hpl
  refine go_aload_0 (DX5_way.at 0 rfl) ?_
  refine go_getfield (DX5_way.at 1 rfl) fX5_36 hC.1 rfl ?_
  refine go_aload_0 (DX5_way.at 2 rfl) ?_
  refine go_getfield (DX5_way.at 3 rfl) fX5_10 hC.1 rfl ?_
  refine go_iload_1 (DX5_way.at 4 rfl) ?_
  refine go_iload_2 (DX5_way.at 5 rfl) ?_
  refine go_cVi3 (DX5_way.at 6 rfl) nX5_201 vX2_make (by omega) (c_make hp hB0 hS hL hX hM hV (by omega) (by omega)) hp rfl (Nat.le_of_ble_eq_true rfl) (fun x10 h10 q10 => ?_)
  obtain ⟨u, src, out, q1, q⟩ := q10
  have hC2 := hC.toPlan ⟨q1, u⟩
  rcases q with ⟨a1, rfl⟩ | ⟨t, c, ht, hc, rfl, rfl, ⟨a1, rfl⟩ | ⟨a1, ⟨w, sc, X', hW, rfl, rfl, rfl⟩ | ⟨hW, rfl⟩⟩⟩
  · refine go_istore_3 (DX5_way.at 7 rfl) ?_
    refine go_iload_3 (DX5_way.at 8 rfl) ?_
    refine go_bipush (v := (-4)) (DX5_way.at 9 rfl) (by decide) ?_
    refine go_icmp_ne 24 (DX5_way.at 10 rfl) (by decide) (fun c17 => ?_) (fun c17 => absurd c17 (by decide))
    refine go_iload_3 (DX5_way.at 13 rfl) ?_
    exact go_iret (DX5_way.at 14 rfl) rfl rfl (RI.mk ⟨hC2, Or.inl ⟨a1, rfl⟩⟩)
  · refine go_istore_3 (DX5_way.at 7 rfl) ?_
    refine go_iload_3 (DX5_way.at 8 rfl) ?_
    refine go_bipush (v := (-4)) (DX5_way.at 9 rfl) (by decide) ?_
    refine go_icmp_ne 24 (DX5_way.at 10 rfl) (by decide) (fun c17 => ?_) (fun c17 => absurd c17 (by decide))
    refine go_iload_3 (DX5_way.at 13 rfl) ?_
    exact go_iret (DX5_way.at 14 rfl) rfl rfl (RI.mk ⟨hC2, Or.inr ⟨t, c, ht, hc, rfl, rfl, Or.inl ⟨a1, rfl⟩⟩⟩)
  · rcases hW.w with rfl | rfl | rfl
    · refine go_istore_3 (DX5_way.at 7 rfl) ?_
      refine go_iload_3 (DX5_way.at 8 rfl) ?_
      refine go_bipush (v := (-4)) (DX5_way.at 9 rfl) (by decide) ?_
      refine go_icmp_ne 24 (DX5_way.at 10 rfl) (by decide) (fun c17 => ?_) (fun c17 => absurd c17 (by decide))
      refine go_iload_3 (DX5_way.at 13 rfl) ?_
      exact go_iret (DX5_way.at 14 rfl) rfl rfl (RI.mk ⟨hC2, Or.inr ⟨t, c, ht, hc, rfl, rfl, Or.inr ⟨a1, Or.inl ⟨_, _, _, hW, rfl⟩⟩⟩⟩)
    · refine go_istore_3 (DX5_way.at 7 rfl) ?_
      refine go_iload_3 (DX5_way.at 8 rfl) ?_
      refine go_bipush (v := (-4)) (DX5_way.at 9 rfl) (by decide) ?_
      refine go_icmp_ne 24 (DX5_way.at 10 rfl) (by decide) (fun c17 => ?_) (fun c17 => absurd c17 (by decide))
      refine go_iload_3 (DX5_way.at 13 rfl) ?_
      exact go_iret (DX5_way.at 14 rfl) rfl rfl (RI.mk ⟨hC2, Or.inr ⟨t, c, ht, hc, rfl, rfl, Or.inr ⟨a1, Or.inl ⟨_, _, _, hW, rfl⟩⟩⟩⟩)
    · refine go_istore_3 (DX5_way.at 7 rfl) ?_
      refine go_iload_3 (DX5_way.at 8 rfl) ?_
      refine go_bipush (v := (-4)) (DX5_way.at 9 rfl) (by decide) ?_
      refine go_icmp_ne 24 (DX5_way.at 10 rfl) (by decide) (fun c17 => ?_) (fun c17 => absurd c17 (by decide))
      refine go_iload_3 (DX5_way.at 13 rfl) ?_
      exact go_iret (DX5_way.at 14 rfl) rfl rfl (RI.mk ⟨hC2, Or.inr ⟨t, c, ht, hc, rfl, rfl, Or.inr ⟨a1, Or.inl ⟨_, _, _, hW, rfl⟩⟩⟩⟩)
  · refine go_istore_3 (DX5_way.at 7 rfl) ?_
    refine go_iload_3 (DX5_way.at 8 rfl) ?_
    refine go_bipush (v := (-4)) (DX5_way.at 9 rfl) (by decide) ?_
    refine go_icmp_ne 24 (DX5_way.at 10 rfl) (by decide) (fun c17 => absurd rfl c17) (fun c17 => ?_)
    refine go_iconst (v := nI 0) (DX5_way.at 11 rfl) (by decide) ?_
    refine go_goto 25 (DX5_way.at 12 rfl) (by decide) ?_
    exact go_iret (DX5_way.at 14 rfl) rfl rfl (RI.mk ⟨hC2, Or.inr ⟨t, c, ht, hc, rfl, rfl, Or.inr ⟨a1, Or.inr ⟨hW, rfl⟩⟩⟩⟩)

theorem c_mended {x y : Int32} {C : Nat → Nat → Nat} {V : Nat → Nat → Nat} {Mx : Nat → Nat} (hC : ClAt G h b N B S n Hs tk o X) (hS : StAt h (b + 1) σ) (hL : LayX σ g s T sh) (hX : ColX σ (nc g s) C) (hM : ∀ t, t < T → σ 3 t = nI (Mx t) ∧ Mx t < 2 ^ 20) (hV : ∀ t, t < T → ∀ c, c < nc g s → ¬ bit (Mx t) c → σ 2 (t * 20 + c) = nI (V t c) ∧ V t c < 16) (hd : 5 ≤ d) : Calls E mX5_mended d 0 0 [.ref b, .int x, .int y] h (RI (fun r h' => ClAt G h' b N B S n Hs tk o X ∧ Asked C V Mx g s T x y (fun w sc v => nI v) (-4) r)) := by
  refine Calls.of (ls := [some (.ref b), some (.int x), some (.int y), none]) (by decide +kernel) rfl (Nat.le_of_ble_eq_true rfl) (cat_ok rfl) ?_
  have hpl := hC.2.2.2.2.2.2.2.1
  obtain ⟨s0, t0, hp, r0, cf0, lf0, hB0⟩ := hpl
  refine go_aload_0 (DX5_mended.at 0 rfl) ?_
  refine go_getfield (DX5_mended.at 1 rfl) fX5_36 hC.1 rfl ?_
  refine go_aload_0 (DX5_mended.at 2 rfl) ?_
  refine go_getfield (DX5_mended.at 3 rfl) fX5_10 hC.1 rfl ?_
  refine go_iload_1 (DX5_mended.at 4 rfl) ?_
  refine go_iload_2 (DX5_mended.at 5 rfl) ?_
  refine go_cVi3 (DX5_mended.at 6 rfl) nX5_201 vX2_make (by omega) (c_make hp hB0 hS hL hX hM hV (by omega) (by omega)) hp rfl (Nat.le_of_ble_eq_true rfl) (fun x10 h10 q10 => ?_)
  obtain ⟨u, src, out, q1, q⟩ := q10
  have hC2 := hC.toPlan ⟨q1, u⟩
  rcases q with ⟨a1, rfl⟩ | ⟨t, c, ht, hc, rfl, rfl, ⟨a1, rfl⟩ | ⟨a1, ⟨w, sc, X', hW, rfl, rfl, rfl⟩ | ⟨hW, rfl⟩⟩⟩
  · refine go_istore_3 (DX5_mended.at 7 rfl) ?_
    refine go_iload_3 (DX5_mended.at 8 rfl) ?_
    refine go_if_lt 28 (DX5_mended.at 9 rfl) (by decide) (fun c15 => ?_) (fun c15 => absurd (by decide) c15)
    refine go_iload_3 (DX5_mended.at 14 rfl) ?_
    exact go_iret (DX5_mended.at 15 rfl) rfl rfl (RI.mk ⟨hC2, Or.inl ⟨a1, rfl⟩⟩)
  · refine go_istore_3 (DX5_mended.at 7 rfl) ?_
    refine go_iload_3 (DX5_mended.at 8 rfl) ?_
    refine go_if_lt 28 (DX5_mended.at 9 rfl) (by decide) (fun c15 => ?_) (fun c15 => absurd (by decide) c15)
    refine go_iload_3 (DX5_mended.at 14 rfl) ?_
    exact go_iret (DX5_mended.at 15 rfl) rfl rfl (RI.mk ⟨hC2, Or.inr ⟨t, c, ht, hc, rfl, rfl, Or.inl ⟨a1, rfl⟩⟩⟩)
  · rcases hW.w with rfl | rfl | rfl
    · refine go_istore_3 (DX5_mended.at 7 rfl) ?_
      refine go_iload_3 (DX5_mended.at 8 rfl) ?_
      refine go_if_lt 28 (DX5_mended.at 9 rfl) (by decide) (fun c15 => absurd c15 (by decide)) (fun c15 => ?_)
      refine go_aload_0 (DX5_mended.at 10 rfl) ?_
      refine go_getfield (DX5_mended.at 11 rfl) fX5_36 hC2.1 rfl ?_
      refine go_getfield (DX5_mended.at 12 rfl) fX5_213 q1.1 rfl ?_
      refine go_goto 29 (DX5_mended.at 13 rfl) (by decide) ?_
      exact go_iret (DX5_mended.at 15 rfl) rfl rfl (RI.mk ⟨hC2, Or.inr ⟨t, c, ht, hc, rfl, rfl, Or.inr ⟨a1, Or.inl ⟨_, _, _, hW, rfl⟩⟩⟩⟩)
    · refine go_istore_3 (DX5_mended.at 7 rfl) ?_
      refine go_iload_3 (DX5_mended.at 8 rfl) ?_
      refine go_if_lt 28 (DX5_mended.at 9 rfl) (by decide) (fun c15 => absurd c15 (by decide)) (fun c15 => ?_)
      refine go_aload_0 (DX5_mended.at 10 rfl) ?_
      refine go_getfield (DX5_mended.at 11 rfl) fX5_36 hC2.1 rfl ?_
      refine go_getfield (DX5_mended.at 12 rfl) fX5_213 q1.1 rfl ?_
      refine go_goto 29 (DX5_mended.at 13 rfl) (by decide) ?_
      exact go_iret (DX5_mended.at 15 rfl) rfl rfl (RI.mk ⟨hC2, Or.inr ⟨t, c, ht, hc, rfl, rfl, Or.inr ⟨a1, Or.inl ⟨_, _, _, hW, rfl⟩⟩⟩⟩)
    · refine go_istore_3 (DX5_mended.at 7 rfl) ?_
      refine go_iload_3 (DX5_mended.at 8 rfl) ?_
      refine go_if_lt 28 (DX5_mended.at 9 rfl) (by decide) (fun c15 => absurd c15 (by decide)) (fun c15 => ?_)
      refine go_aload_0 (DX5_mended.at 10 rfl) ?_
      refine go_getfield (DX5_mended.at 11 rfl) fX5_36 hC2.1 rfl ?_
      refine go_getfield (DX5_mended.at 12 rfl) fX5_213 q1.1 rfl ?_
      refine go_goto 29 (DX5_mended.at 13 rfl) (by decide) ?_
      exact go_iret (DX5_mended.at 15 rfl) rfl rfl (RI.mk ⟨hC2, Or.inr ⟨t, c, ht, hc, rfl, rfl, Or.inr ⟨a1, Or.inl ⟨_, _, _, hW, rfl⟩⟩⟩⟩)
  · refine go_istore_3 (DX5_mended.at 7 rfl) ?_
    refine go_iload_3 (DX5_mended.at 8 rfl) ?_
    refine go_if_lt 28 (DX5_mended.at 9 rfl) (by decide) (fun c15 => ?_) (fun c15 => absurd (by decide) c15)
    refine go_iload_3 (DX5_mended.at 14 rfl) ?_
    exact go_iret (DX5_mended.at 15 rfl) rfl rfl (RI.mk ⟨hC2, Or.inr ⟨t, c, ht, hc, rfl, rfl, Or.inr ⟨a1, Or.inr ⟨hW, rfl⟩⟩⟩⟩)

end CL
end
section
/-! THE CLASS: the busiest node -/
/-- best and most, of the first j loads -/
def BzI (L : Nat → Nat) (j : Nat) (x : Int32) (m : Nat) : Prop := (x = (-5) ∧ m = 0 ∧ ∀ i, i < j → L i = 0) ∨ ∃ c, c < j ∧ x = nI c ∧ m = L c ∧ 0 < L c ∧ (∀ i, i < j → L i ≤ L c) ∧ ∀ i, i < c → L i < L c
theorem BzI.up {L : Nat → Nat} {j m : Nat} {x : Int32} (q : BzI L j x m) (h : m < L j) : BzI L (j + 1) (nI j) (L j) := by
  rcases q with ⟨-, rfl, q⟩ | ⟨c, hc, -, rfl, h0, h1, h2⟩
  · exact Or.inr ⟨j, by omega, rfl, rfl, h, fun i hi => if e : i = j then Nat.le_of_eq (congrArg L e) else (by rw [q i (by omega)]; omega), fun i hi => by rw [q i hi]; exact h⟩
  · exact Or.inr ⟨j, by omega, rfl, rfl, by omega, fun i hi => if e : i = j then Nat.le_of_eq (congrArg L e) else (by have := h1 i (by omega); omega), fun i hi => by have := h1 i hi; omega⟩
theorem BzI.no {L : Nat → Nat} {j m : Nat} {x : Int32} (q : BzI L j x m) (h : ¬ m < L j) : BzI L (j + 1) x m := by
  rcases q with ⟨e, rfl, q⟩ | ⟨c, hc, e, rfl, h0, h1, h2⟩
  · exact Or.inl ⟨e, rfl, fun i hi => if e : i = j then (by have := congrArg L e; omega) else q i (by omega)⟩
  · exact Or.inr ⟨c, by omega, e, rfl, h0, fun i hi => if e : i = j then (by have := congrArg L e; omega) else h1 i (by omega), h2⟩
section CL
variable {E : AEnv} {d : Nat} {h h' : List va_E} {b : Nat} {N B S : RP} {n : Nat} {Hs : Nat → RP} {tk : Nat} {o X : Nat → Int32} {G : Nat → Option va_E} {σ : Rows} {g s T sh : Nat}
theorem c_busiest {L : Nat → Nat} (hC : ClAt G h b N B S n Hs tk o X) (hS : StAt h (b + 1) σ) (hL : LayX σ g s T sh) (hLd : ∀ j, j < nc g s → σ 4 j = nI (L j) ∧ L j < 2 ^ 31) (hd : 2 ≤ d) : Calls E mX5_busiest d 0 0 [.ref b] h (RI (fun r h' => h' = h ∧ ∃ m, BzI L (nc g s) r m)) := by
  refine Calls.of (ls := [some (.ref b), none, none, none]) (by decide +kernel) rfl (Nat.le_of_ble_eq_true rfl) (cat_ok rfl) ?_
  have hn20 := hL.2.2.2.2.nc
  have loop : ∀ (m j : Nat) (x : Int32) (mm : Nat), j + m = nc g s → mm < 2 ^ 31 → BzI L j x mm → Go E mX5_busiest d 0 0 7 [some (.ref b), some (.int x), some (.int (nI mm)), some (.int (nI j))] [] h (RI (fun r h' => h' = h ∧ ∃ m, BzI L (nc g s) r m)) := by
    intro m
    induction m with
    | zero =>
      intro j x mm hj hm hI
      obtain rfl : j = nc g s := by omega
      refine go_iload_3 (DX5_busiest.at 6 rfl) ?_
      refine go_aload_0 (DX5_busiest.at 7 rfl) ?_
      refine go_getfield (DX5_busiest.at 8 rfl) fX5_10 hC.1 rfl ?_
      refine go_cVx0 (DX5_busiest.at 9 rfl) nX5_66 vX4_cellCount (by omega) (c_cellCount hS hL) hS.1 rfl (Nat.le_of_ble_eq_true rfl) ?_
      refine go_icmp_ge 53 (DX5_busiest.at 10 rfl) (by decide) (fun c15 => ?_) (fun c15 => absurd (Int32.le_refl _) c15)
      refine go_iload_1 (DX5_busiest.at 28 rfl) ?_
      exact go_iret (DX5_busiest.at 29 rfl) rfl rfl (RI.mk ⟨rfl, mm, hI⟩)
    | succ m ih =>
      intro j x mm hj hm hI
      refine go_iload_3 (DX5_busiest.at 6 rfl) ?_
      refine go_aload_0 (DX5_busiest.at 7 rfl) ?_
      refine go_getfield (DX5_busiest.at 8 rfl) fX5_10 hC.1 rfl ?_
      refine go_cVx0 (DX5_busiest.at 9 rfl) nX5_66 vX4_cellCount (by omega) (c_cellCount hS hL) hS.1 rfl (Nat.le_of_ble_eq_true rfl) ?_
      refine go_icmp_ge 53 (DX5_busiest.at 10 rfl) (by decide) (fun c15 => absurd ((nI_leI (by omega) (by omega)).mp c15) (by omega)) (fun c15 => ?_)
      refine go_aload_0 (DX5_busiest.at 11 rfl) ?_
      refine go_getfield (DX5_busiest.at 12 rfl) fX5_10 hC.1 rfl ?_
      refine go_getfield (DX5_busiest.at 13 rfl) fX5_151 hS.1 rfl ?_
      refine go_iload_3 (DX5_busiest.at 14 rfl) ?_
      refine go_cSx2 (DX5_busiest.at 15 rfl) nX5_155 vX5_at (by omega) (c_at (Or.inl hS.2.2.2.2.1) (show j < 20 by omega) (by decide)) (Nat.le_of_ble_eq_true rfl) ?_
      rw [(hLd j (by omega)).1]
      refine go_iload_2 (DX5_busiest.at 16 rfl) ?_
      refine go_icmp_le 47 (DX5_busiest.at 17 rfl) (by decide) (fun c30 => ?_) (fun c30 => ?_)
      · rw [nI_leI (by have := hLd j (by omega); omega) hm] at c30
        refine go_iincN_3 (DX5_busiest.at 26 rfl) ?_
        refine go_goto 7 (DX5_busiest.at 27 rfl) (by decide) ?_
        first | exact ih (j + 1) x mm (by omega) hm (hI.no (by omega)) | exact ih (j + 1) (nI j) (L j) (by omega) (hLd j (by omega)).2 (hI.up (by omega))
      · rw [nI_leI (by have := hLd j (by omega); omega) hm] at c30
        refine go_aload_0 (DX5_busiest.at 18 rfl) ?_
        refine go_getfield (DX5_busiest.at 19 rfl) fX5_10 hC.1 rfl ?_
        refine go_getfield (DX5_busiest.at 20 rfl) fX5_151 hS.1 rfl ?_
        refine go_iload_3 (DX5_busiest.at 21 rfl) ?_
        refine go_cSx2 (DX5_busiest.at 22 rfl) nX5_155 vX5_at (by omega) (c_at (Or.inl hS.2.2.2.2.1) (show j < 20 by omega) (by decide)) (Nat.le_of_ble_eq_true rfl) ?_
        rw [(hLd j (by omega)).1]
        refine go_istore_2 (DX5_busiest.at 23 rfl) ?_
        refine go_iload_3 (DX5_busiest.at 24 rfl) ?_
        refine go_istore_1 (DX5_busiest.at 25 rfl) ?_
        refine go_iincN_3 (DX5_busiest.at 26 rfl) ?_
        refine go_goto 7 (DX5_busiest.at 27 rfl) (by decide) ?_
        first | exact ih (j + 1) x mm (by omega) hm (hI.no (by omega)) | exact ih (j + 1) (nI j) (L j) (by omega) (hLd j (by omega)).2 (hI.up (by omega))
  refine go_bipush (v := (-5)) (DX5_busiest.at 0 rfl) (by decide) ?_
  refine go_istore_1 (DX5_busiest.at 1 rfl) ?_
  refine go_iconst (v := nI 0) (DX5_busiest.at 2 rfl) (by decide) ?_
  refine go_istore_2 (DX5_busiest.at 3 rfl) ?_
  refine go_iconst (v := nI 0) (DX5_busiest.at 4 rfl) (by decide) ?_
  refine go_istore_3 (DX5_busiest.at 5 rfl) ?_
  exact loop (nc g s) 0 (-5) 0 (by omega) (by decide) (Or.inl ⟨rfl, rfl, fun i hi => absurd hi (Nat.not_lt_zero i)⟩)

end CL
end
section
/-! THE CLASS: how many cells would be read -/
theorem pmv_lt20 {g s T sh c : Nat} (hL : LayOK g s T sh) : pmv g s c < 2 ^ 20 := by
  have hn := hL.nc
  have hgs : g * s ≤ 15 := hL.2.2.2.2.1
  unfold pmv
  split
  · rename_i q
    refine Nat.lt_of_le_of_lt Nat.and_le_left (Nat.or_lt_two_pow ?_ (Nat.pow_lt_pow_right (by decide) (by unfold nc at hn; omega)))
    have h1 : hcv g s c * s + s ≤ 15 := by
      have : hcv g s c * s + s = (hcv g s c + 1) * s := by rw [Nat.add_mul, Nat.one_mul]
      rw [this]
      exact Nat.le_trans (Nat.mul_le_mul_right s q) hgs
    have h2 : (2 ^ s - 1) * 2 ^ (hcv g s c * s) ≤ 2 ^ s * 2 ^ (hcv g s c * s) := Nat.mul_le_mul_right _ (Nat.sub_le _ _)
    rw [← Nat.pow_add] at h2
    exact Nat.lt_of_le_of_lt h2 (Nat.pow_lt_pow_right (by decide) (by omega))
  · exact Nat.lt_of_le_of_lt (Nat.sub_le _ _) (Nat.pow_lt_pow_right (by decide) (by omega))
theorem WayX.src {C : Nat → Nat → Nat} {V : Nat → Nat} {g s T sh M c w src X : Nat} (hL : LayOK g s T sh) (h : WayX C V g s M c w src X) : src < 2 ^ 20 := by
  have hn := hL.nc
  rcases h with ⟨-, -, e, -⟩ | ⟨-, -, -, e, -⟩
  · rw [e]
    exact pmv_lt20 hL
  · rw [e]
    have h2n : 2 ^ nc g s ≤ 2 ^ 20 := Nat.pow_le_pow_right (by decide) hn.2
    have h1 : 1 ≤ 2 ^ nc g s := Nat.one_le_two_pow
    exact Nat.lt_of_le_of_lt Nat.and_le_left (by omega)
section CL
variable {E : AEnv} {d : Nat} {h h' : List va_E} {b : Nat} {N B S : RP} {n : Nat} {Hs : Nat → RP} {tk : Nat} {o X : Nat → Int32} {G : Nat → Option va_E} {σ : Rows} {g s T sh : Nat}
theorem c_reads {x y : Int32} {C : Nat → Nat → Nat} {V : Nat → Nat → Nat} {Mx : Nat → Nat} (hC : ClAt G h b N B S n Hs tk o X) (hS : StAt h (b + 1) σ) (hL : LayX σ g s T sh) (hX : ColX σ (nc g s) C) (hM : ∀ t, t < T → σ 3 t = nI (Mx t) ∧ Mx t < 2 ^ 20) (hV : ∀ t, t < T → ∀ c, c < nc g s → ¬ bit (Mx t) c → σ 2 (t * 20 + c) = nI (V t c) ∧ V t c < 16) (hd : 5 ≤ d) : Calls E mX5_reads d 0 0 [.ref b, .int x, .int y] h (RI (fun r h' => ClAt G h' b N B S n Hs tk o X ∧ Asked C V Mx g s T x y (fun w sc v => nI (pcn sc 20)) (-4) r)) := by
  refine Calls.of (ls := [some (.ref b), some (.int x), some (.int y), none]) (by decide +kernel) rfl (Nat.le_of_ble_eq_true rfl) (cat_ok rfl) ?_
  have hpl := hC.2.2.2.2.2.2.2.1
  obtain ⟨s0, t0, hp, r0, cf0, lf0, hB0⟩ := hpl
  refine go_aload_0 (DX5_reads.at 0 rfl) ?_
  refine go_getfield (DX5_reads.at 1 rfl) fX5_36 hC.1 rfl ?_
  refine go_aload_0 (DX5_reads.at 2 rfl) ?_
  refine go_getfield (DX5_reads.at 3 rfl) fX5_10 hC.1 rfl ?_
  refine go_iload_1 (DX5_reads.at 4 rfl) ?_
  refine go_iload_2 (DX5_reads.at 5 rfl) ?_
  refine go_cVi3 (DX5_reads.at 6 rfl) nX5_201 vX2_make (by omega) (c_make hp hB0 hS hL hX hM hV (by omega) (by omega)) hp rfl (Nat.le_of_ble_eq_true rfl) (fun x10 h10 q10 => ?_)
  obtain ⟨u, src, out, q1, q⟩ := q10
  have hC2 := hC.toPlan ⟨q1, u⟩
  rcases q with ⟨a1, rfl⟩ | ⟨t, c, ht, hc, rfl, rfl, ⟨a1, rfl⟩ | ⟨a1, ⟨w, sc, X', hW, rfl, rfl, rfl⟩ | ⟨hW, rfl⟩⟩⟩
  · refine go_istore_3 (DX5_reads.at 7 rfl) ?_
    refine go_iload_3 (DX5_reads.at 8 rfl) ?_
    refine go_if_lt 31 (DX5_reads.at 9 rfl) (by decide) (fun c15 => ?_) (fun c15 => absurd (by decide) c15)
    refine go_iload_3 (DX5_reads.at 15 rfl) ?_
    exact go_iret (DX5_reads.at 16 rfl) rfl rfl (RI.mk ⟨hC2, Or.inl ⟨a1, rfl⟩⟩)
  · refine go_istore_3 (DX5_reads.at 7 rfl) ?_
    refine go_iload_3 (DX5_reads.at 8 rfl) ?_
    refine go_if_lt 31 (DX5_reads.at 9 rfl) (by decide) (fun c15 => ?_) (fun c15 => absurd (by decide) c15)
    refine go_iload_3 (DX5_reads.at 15 rfl) ?_
    exact go_iret (DX5_reads.at 16 rfl) rfl rfl (RI.mk ⟨hC2, Or.inr ⟨t, c, ht, hc, rfl, rfl, Or.inl ⟨a1, rfl⟩⟩⟩)
  · rcases hW.w with rfl | rfl | rfl
    · refine go_istore_3 (DX5_reads.at 7 rfl) ?_
      refine go_iload_3 (DX5_reads.at 8 rfl) ?_
      refine go_if_lt 31 (DX5_reads.at 9 rfl) (by decide) (fun c15 => absurd c15 (by decide)) (fun c15 => ?_)
      refine go_aload_0 (DX5_reads.at 10 rfl) ?_
      refine go_getfield (DX5_reads.at 11 rfl) fX5_36 hC2.1 rfl ?_
      refine go_getfield (DX5_reads.at 12 rfl) fX5_205 q1.1 rfl ?_
      refine go_cSx1 (DX5_reads.at 13 rfl) nX5_208 vJ6_bitCount_0f7a4 (by omega) (c_bitCount (hW.src hL.2.2.2.2)) (Nat.le_of_ble_eq_true rfl) ?_
      refine go_goto 32 (DX5_reads.at 14 rfl) (by decide) ?_
      exact go_iret (DX5_reads.at 16 rfl) rfl rfl (RI.mk ⟨hC2, Or.inr ⟨t, c, ht, hc, rfl, rfl, Or.inr ⟨a1, Or.inl ⟨_, _, _, hW, rfl⟩⟩⟩⟩)
    · refine go_istore_3 (DX5_reads.at 7 rfl) ?_
      refine go_iload_3 (DX5_reads.at 8 rfl) ?_
      refine go_if_lt 31 (DX5_reads.at 9 rfl) (by decide) (fun c15 => absurd c15 (by decide)) (fun c15 => ?_)
      refine go_aload_0 (DX5_reads.at 10 rfl) ?_
      refine go_getfield (DX5_reads.at 11 rfl) fX5_36 hC2.1 rfl ?_
      refine go_getfield (DX5_reads.at 12 rfl) fX5_205 q1.1 rfl ?_
      refine go_cSx1 (DX5_reads.at 13 rfl) nX5_208 vJ6_bitCount_0f7a4 (by omega) (c_bitCount (hW.src hL.2.2.2.2)) (Nat.le_of_ble_eq_true rfl) ?_
      refine go_goto 32 (DX5_reads.at 14 rfl) (by decide) ?_
      exact go_iret (DX5_reads.at 16 rfl) rfl rfl (RI.mk ⟨hC2, Or.inr ⟨t, c, ht, hc, rfl, rfl, Or.inr ⟨a1, Or.inl ⟨_, _, _, hW, rfl⟩⟩⟩⟩)
    · refine go_istore_3 (DX5_reads.at 7 rfl) ?_
      refine go_iload_3 (DX5_reads.at 8 rfl) ?_
      refine go_if_lt 31 (DX5_reads.at 9 rfl) (by decide) (fun c15 => absurd c15 (by decide)) (fun c15 => ?_)
      refine go_aload_0 (DX5_reads.at 10 rfl) ?_
      refine go_getfield (DX5_reads.at 11 rfl) fX5_36 hC2.1 rfl ?_
      refine go_getfield (DX5_reads.at 12 rfl) fX5_205 q1.1 rfl ?_
      refine go_cSx1 (DX5_reads.at 13 rfl) nX5_208 vJ6_bitCount_0f7a4 (by omega) (c_bitCount (hW.src hL.2.2.2.2)) (Nat.le_of_ble_eq_true rfl) ?_
      refine go_goto 32 (DX5_reads.at 14 rfl) (by decide) ?_
      exact go_iret (DX5_reads.at 16 rfl) rfl rfl (RI.mk ⟨hC2, Or.inr ⟨t, c, ht, hc, rfl, rfl, Or.inr ⟨a1, Or.inl ⟨_, _, _, hW, rfl⟩⟩⟩⟩)
  · refine go_istore_3 (DX5_reads.at 7 rfl) ?_
    refine go_iload_3 (DX5_reads.at 8 rfl) ?_
    refine go_if_lt 31 (DX5_reads.at 9 rfl) (by decide) (fun c15 => ?_) (fun c15 => absurd (by decide) c15)
    refine go_iload_3 (DX5_reads.at 15 rfl) ?_
    exact go_iret (DX5_reads.at 16 rfl) rfl rfl (RI.mk ⟨hC2, Or.inr ⟨t, c, ht, hc, rfl, rfl, Or.inr ⟨a1, Or.inr ⟨hW, rfl⟩⟩⟩⟩)

end CL
end
section
/-! THE CLASS: the checks that fail -/
def flg (v : Nat → Nat) : Nat → Nat
  | 0 => 0
  | j + 1 => if v j = 0 then flg v j else flg v j ||| 1 * 2 ^ j
section CL
variable {E : AEnv} {d : Nat} {h h' : List va_E} {b : Nat} {N B S : RP} {n : Nat} {Hs : Nat → RP} {tk : Nat} {o X : Nat → Int32} {G : Nat → Option va_E} {σ : Rows} {g s T sh : Nat}
theorem c_failing {x : Int32} {C : Nat → Nat → Nat} {V : Nat → Nat → Nat} {Mx : Nat → Nat} (hC : ClAt G h b N B S n Hs tk o X) (hS : StAt h (b + 1) σ) (hL : LayX σ g s T sh) (hX : ColX σ (nc g s) C) (hM : ∀ t, t < T → σ 3 t = nI (Mx t) ∧ Mx t < 2 ^ 20) (hV : ∀ t, t < T → Mx t = 0 → ∀ c, c < nc g s → σ 2 (t * 20 + c) = nI (V t c) ∧ V t c < 16) (hd : 4 ≤ d) : Calls E mX5_failing d 0 0 [.ref b, .int x] h (RI (fun r h' => h' = h ∧ ((¬ inR x T ∧ r = (-1)) ∨ ∃ t, t < T ∧ x = nI t ∧ ((Mx t ≠ 0 ∧ r = (-4)) ∨ (Mx t = 0 ∧ r = nI (flg (vsum C (V t) (2 ^ nc g s - 1) (nc g s)) 6)))))) := by
  refine Calls.of (ls := [some (.ref b), some (.int x), none, none, none]) (by decide +kernel) rfl (Nat.le_of_ble_eq_true rfl) (cat_ok rfl) ?_
  have hn20 := hL.2.2.2.2.nc
  have hT8 : T ≤ 8 := hL.2.2.2.2.2.2.2.2.2.2.1
  have h2n : 2 ^ nc g s ≤ 2 ^ 20 := Nat.pow_le_pow_right (by decide) hn20.2
  refine go_aload_0 (DX5_failing.at 0 rfl) ?_
  refine go_getfield (DX5_failing.at 1 rfl) fX5_10 hC.1 rfl ?_
  refine go_iload_1 (DX5_failing.at 2 rfl) ?_
  refine go_cVx1 (DX5_failing.at 3 rfl) nX5_159 vX4_hasStripe (by omega) (c_hasStripe hS hL) hS.1 rfl (Nat.le_of_ble_eq_true rfl) ?_
  refine go_if_ne 13 (DX5_failing.at 4 rfl) (by decide) (fun c8 => ?_) (fun c8 => ?_)
  · rw [bP_eq0, Classical.not_not] at c8
    obtain ⟨t, ht, rfl⟩ := inR_ex (by omega) c8
    obtain ⟨m1, m2⟩ := hM t ht
    refine go_aload_0 (DX5_failing.at 7 rfl) ?_
    refine go_getfield (DX5_failing.at 8 rfl) fX5_10 hC.1 rfl ?_
    refine go_iload_1 (DX5_failing.at 9 rfl) ?_
    refine go_cVx1 (DX5_failing.at 10 rfl) nX5_162 vX4_missingIn (by omega) (c_missingIn hS (by omega) (by omega)) hS.1 rfl (Nat.le_of_ble_eq_true rfl) ?_
    refine go_if_eq 27 (DX5_failing.at 11 rfl) (by decide) (fun c21 => ?_) (fun c21 => ?_)
    · rw [m1, nI_eq0 (by omega)] at c21
      refine go_aload_0 (DX5_failing.at 14 rfl) ?_
      refine go_getfield (DX5_failing.at 15 rfl) fX5_10 hC.1 rfl ?_
      refine go_iload_1 (DX5_failing.at 16 rfl) ?_
      refine go_aload_0 (DX5_failing.at 17 rfl) ?_
      refine go_getfield (DX5_failing.at 18 rfl) fX5_10 hC.1 rfl ?_
      refine go_cVx0 (DX5_failing.at 19 rfl) nX5_168 vX4_allCells (by omega) (c_allCells hS hL (by omega)) hS.1 rfl (Nat.le_of_ble_eq_true rfl) ?_
      refine go_cVx2 (DX5_failing.at 20 rfl) nX5_171 vX4_sumsOver (by omega) (c_sumsOver hS hL hX (show t < 8 by omega) (by omega) (fun c hc _ => hV t ht c21 c hc) (by omega)) hS.1 rfl (Nat.le_of_ble_eq_true rfl) ?_
      refine go_istore_2 (DX5_failing.at 21 rfl) ?_
      refine go_iconst (v := nI 0) (DX5_failing.at 22 rfl) (by decide) ?_
      refine go_istore_3 (DX5_failing.at 23 rfl) ?_
      refine go_iconst (v := nI 0) (DX5_failing.at 24 rfl) (by decide) ?_
      refine go_istore_4 (DX5_failing.at 25 rfl) ?_
      have hv : ∀ i, i < 6 → vsum C (V t) (2 ^ nc g s - 1) (nc g s) i < 16 := vsum_lt (fun c hc => (hX c hc).2) (fun c hc _ => (hV t ht c21 c hc).2) _ (Nat.le_refl _)
      generalize hvv : vsum C (V t) (2 ^ nc g s - 1) (nc g s) = v at hv
      have loop : ∀ (m j : Nat), j + m = 6 → Go E mX5_failing d 0 0 48 [some (.ref b), some (.int (nI t)), some (.int (nI (pq 6 v))), some (.int (nI (flg v j))), some (.int (nI j))] [] h (RI (fun r h' => h' = h ∧ ((¬ inR (nI t) T ∧ r = (-1)) ∨ ∃ t', t' < T ∧ nI t = nI t' ∧ ((Mx t' ≠ 0 ∧ r = (-4)) ∨ (Mx t' = 0 ∧ r = nI (flg (vsum C (V t') (2 ^ nc g s - 1) (nc g s)) 6)))))) := by
        intro m
        induction m with
        | zero =>
          intro j hj
          obtain rfl : j = 6 := by omega
          refine go_iload_4 (DX5_failing.at 26 rfl) ?_
          refine go_bipush (v := nI 6) (DX5_failing.at 27 rfl) (by decide) ?_
          refine go_icmp_ge 77 (DX5_failing.at 28 rfl) (by decide) (fun c52 => ?_) (fun c52 => absurd (Int32.le_refl _) c52)
          refine go_iload_3 (DX5_failing.at 41 rfl) ?_
          exact go_iret (DX5_failing.at 42 rfl) rfl rfl (RI.mk ⟨rfl, Or.inr ⟨t, ht, rfl, Or.inr ⟨c21, by rw [hvv]⟩⟩⟩)
        | succ m ih =>
          intro j hj
          refine go_iload_4 (DX5_failing.at 26 rfl) ?_
          refine go_bipush (v := nI 6) (DX5_failing.at 27 rfl) (by decide) ?_
          refine go_icmp_ge 77 (DX5_failing.at 28 rfl) (by decide) (fun c52 => absurd ((nI_leI (by decide) (by omega)).mp c52) (by omega)) (fun c52 => ?_)
          refine go_iload_2 (DX5_failing.at 29 rfl) ?_
          refine go_iload_4 (DX5_failing.at 30 rfl) ?_
          refine go_cSx2 (DX5_failing.at 31 rfl) nX5_174 vX5_element (by omega) (c_element hv (show j < 6 by omega)) (Nat.le_of_ble_eq_true rfl) ?_
          refine go_if_eq 71 (DX5_failing.at 32 rfl) (by decide) (fun c61 => ?_) (fun c61 => ?_)
          · rw [nI_eq0 (by have := hv j (by omega); omega)] at c61
            refine go_iincN_4 (DX5_failing.at 39 rfl) ?_
            refine go_goto 48 (DX5_failing.at 40 rfl) (by decide) ?_
            have K := ih (j + 1) (by omega)
            first | (rw [show flg v (j + 1) = flg v j from if_pos c61] at K; exact K) | (rw [show flg v (j + 1) = flg v j ||| 1 * 2 ^ j from if_neg c61] at K; exact K)
          · rw [nI_eq0 (by have := hv j (by omega); omega)] at c61
            refine go_iload_3 (DX5_failing.at 33 rfl) ?_
            refine go_iconst (v := nI 1) (DX5_failing.at 34 rfl) (by decide) ?_
            refine go_iload_4 (DX5_failing.at 35 rfl) ?_
            refine go_ishl (DX5_failing.at 36 rfl) ?_
            rw [nx_shlW 1 (by omega)]
            refine go_ior (DX5_failing.at 37 rfl) ?_
            rw [nx_or]
            refine go_istore_3 (DX5_failing.at 38 rfl) ?_
            refine go_iincN_4 (DX5_failing.at 39 rfl) ?_
            refine go_goto 48 (DX5_failing.at 40 rfl) (by decide) ?_
            have K := ih (j + 1) (by omega)
            first | (rw [show flg v (j + 1) = flg v j from if_pos c61] at K; exact K) | (rw [show flg v (j + 1) = flg v j ||| 1 * 2 ^ j from if_neg c61] at K; exact K)
      exact loop 6 0 (by omega)
    · rw [m1, nI_eq0 (by omega)] at c21
      refine go_bipush (v := (-4)) (DX5_failing.at 12 rfl) (by decide) ?_
      exact go_iret (DX5_failing.at 13 rfl) rfl rfl (RI.mk ⟨rfl, Or.inr ⟨t, ht, rfl, Or.inl ⟨c21, rfl⟩⟩⟩)
  · rw [bP_eq0] at c8
    refine go_iconst (v := (-1)) (DX5_failing.at 5 rfl) (by decide) ?_
    exact go_iret (DX5_failing.at 6 rfl) rfl rfl (RI.mk ⟨rfl, Or.inl ⟨c8, rfl⟩⟩)

end CL
end
section
/-! THE CLASS: the fewest nodes -/
section CL
variable {E : AEnv} {d : Nat} {h h' : List va_E} {b : Nat} {N B S : RP} {n : Nat} {Hs : Nat → RP} {tk : Nat} {o X : Nat → Int32} {G : Nat → Option va_E} {σ : Rows} {g s T sh : Nat}
end CL
end
section
/-! WHAT A STORE IS, whoever holds it -/
noncomputable def cI {α : Type} (P : Prop) (a b : α) : α := @ite α P (Classical.propDecidable P) a b
theorem cI_t {α : Type} {P : Prop} {a b : α} (h : P) : cI P a b = a := by
  unfold cI
  exact if_pos h
theorem cI_f {α : Type} {P : Prop} {a b : α} (h : ¬ P) : cI P a b = b := by
  unfold cI
  exact if_neg h
/-- (groups, size, stripes, shift); values; lost sets; the queue (20 times the stripe, plus the cell); loads; counts (reads, mends, local mends, losses) -/
abbrev Ab : Type := (Nat × Nat × Nat × Nat) × (Nat → Nat → Nat) × (Nat → Nat) × List Nat × (Nat → Int32) × (Nat → Int32)
def aG (A : Ab) : Nat := A.1.1
def aS (A : Ab) : Nat := A.1.2.1
def aT (A : Ab) : Nat := A.1.2.2.1
def aH (A : Ab) : Nat := A.1.2.2.2
def aV (A : Ab) : Nat → Nat → Nat := A.2.1
def aM (A : Ab) : Nat → Nat := A.2.2.1
def aQ (A : Ab) : List Nat := A.2.2.2.1
def aL (A : Ab) : Nat → Int32 := A.2.2.2.2.1
def aK (A : Ab) : Nat → Int32 := A.2.2.2.2.2
def AOK (A : Ab) : Prop := LayOK (aG A) (aS A) (aT A) (aH A) ∧ (∀ t, t < aT A → aM A t < 2 ^ nc (aG A) (aS A)) ∧ (∀ t c, aV A t c < 16) ∧ (aQ A).Nodup ∧ ∀ x, x ∈ aQ A ↔ (x / 20 < aT A ∧ x % 20 < nc (aG A) (aS A) ∧ bit (aM A (x / 20)) (x % 20))
/-- the class's rows hold the store A -/
def RepS (A : Ab) : RP := fun σ => AOK A ∧ LayX σ (aG A) (aS A) (aT A) (aH A) ∧ ColX σ (nc (aG A) (aS A)) (colv (aG A) (aS A)) ∧ (∀ t, t < aT A → σ 3 t = nI (aM A t)) ∧
  (∀ t, t < aT A → ∀ c, c < nc (aG A) (aS A) → ¬ bit (aM A t) c → σ 2 (t * 20 + c) = nI (aV A t c)) ∧ σ 0 8 = nI (aQ A).length ∧ (∀ i x, (aQ A)[i]? = some x → σ 1 i = nI (100 * (x / 20) + x % 20)) ∧ (∀ j, j < 20 → σ 4 j = aL A j) ∧ ∀ k, k < 4 → σ 0 (4 + k) = aK A k
section AB
variable {A : Ab} {σ : Rows} {t c x v : Nat}
theorem AOK.lt160 (h : AOK A) {x : Nat} (hx : x ∈ aQ A) : x < 160 := by
  have h1 := ((h.2.2.2.2 x).mp hx).1
  have h2 : aT A ≤ 8 := h.1.2.2.2.2.2.2.1
  omega
theorem AOK.q160 (h : AOK A) : (aQ A).length ≤ 160 := php 160 _ h.2.2.2.1 (fun x hx => h.lt160 hx)
theorem AOK.qin (h : AOK A) (ht : t < aT A) (hc : c < nc (aG A) (aS A)) : 20 * t + c ∈ aQ A ↔ bit (aM A t) c := by
  have hn := h.1.nc
  rw [h.2.2.2.2, show (20 * t + c) / 20 = t by omega, show (20 * t + c) % 20 = c by omega]
  exact ⟨fun q => q.2.2, fun q => ⟨ht, hc, q⟩⟩
theorem AOK.qroom (h : AOK A) (ht : t < aT A) (hc : c < nc (aG A) (aS A)) (hb : ¬ bit (aM A t) c) : (aQ A).length < 160 := by
  have hn := h.1.nc
  have h2 : aT A ≤ 8 := h.1.2.2.2.2.2.2.1
  have h3 : ((20 * t + c) :: aQ A).Nodup := List.nodup_cons.mpr ⟨fun q => hb ((h.qin ht hc).mp q), h.2.2.2.1⟩
  have h4 := php 160 _ h3 (fun x hx => by
    rcases List.mem_cons.mp hx with rfl | hx
    · omega
    · exact h.lt160 hx)
  exact h4
theorem AOK.m20 (h : AOK A) (ht : t < aT A) : aM A t < 2 ^ 20 := Nat.lt_of_lt_of_le (h.2.1 t ht) (Nat.pow_le_pow_right (by decide) h.1.nc.2)
theorem RepS.rc : RC (RepS A) := by
  intro σ σ' ⟨e0, e1⟩ ⟨hA, hL, hC, hM, hV, hq, hQ, hLd, hK⟩
  have hn := hA.1.nc
  have h8 : aT A ≤ 8 := hA.1.2.2.2.2.2.2.1
  refine ⟨hA, hL.of0 (fun k hk => e0 k (by omega)), fun c hc => ⟨(e1 5 (by decide) (by decide) c (show c < 20 by omega)).trans (hC c hc).1, (hC c hc).2⟩, fun t ht => (e1 3 (by decide) (by decide) t (show t < 8 by omega)).trans (hM t ht),
    fun t ht c hc hb => (e1 2 (by decide) (by decide) (t * 20 + c) (show t * 20 + c < 160 by omega)).trans (hV t ht c hc hb), (e0 8 (by decide)).trans hq, fun i x hx => (e1 1 (by decide) (by decide) i ?_).trans (hQ i x hx), fun j hj => (e1 4 (by decide) (by decide) j hj).trans (hLd j hj), fun k hk => (e0 (4 + k) (by omega)).trans (hK k hk)⟩
  have h1 := (List.getElem?_eq_some_iff.mp hx).1
  exact Nat.lt_of_lt_of_le h1 hA.q160
/-- the store at the start -/
def ab0 : Ab := ((2, 3, 4, 1), fun _ _ => 0, fun _ => 0, [], fun _ => 0, fun _ => 0)
theorem nbit0 (c : Nat) : ¬ bit 0 c := by
  show ¬ (0 / 2 ^ c % 2 = 1)
  rw [Nat.zero_div]
  decide
theorem zero_ok {g s T sh : Nat} {K : Nat → Int32} (h : LayOK g s T sh) : AOK ((g, s, T, sh), fun _ _ => 0, fun _ => 0, [], fun _ => 0, K) :=
  ⟨h, fun _ _ => Nat.two_pow_pos _, fun _ _ => by show 0 < 16; decide, List.nodup_nil, fun x => ⟨fun q => absurd q List.not_mem_nil, fun q => absurd q.2.2 (nbit0 _)⟩⟩
theorem StNew.rep (h : StNew σ) : RepS ab0 σ := by
  obtain ⟨h1, h2, h3, h4⟩ := h
  refine ⟨zero_ok h1.2.2.2.2, h1, h4, fun t ht => h3 3 (by decide) (by decide) t (Nat.lt_of_lt_of_le (show t < 4 from ht) (by decide)), fun t ht c hc _ => h3 2 (by decide) (by decide) _ ?_, h2 8 (by decide) (by decide), fun i x hx => (by cases hx), fun j hj => h3 4 (by decide) (by decide) j hj, fun k hk => h2 (4 + k) (by omega) (by omega)⟩
  have hn := h1.2.2.2.2.nc
  have e : nc (aG ab0) (aS ab0) = nc 2 3 := rfl
  have e2 : aT ab0 = 4 := rfl
  rw [e] at hc
  rw [e2] at ht
  show t * 20 + c < 160
  omega
/-- a new layout -/
def aNew (A : Ab) (g s T sh : Nat) : Ab := ((g, s, T, sh), fun _ _ => 0, fun _ => 0, [], fun _ => 0, aK A)
theorem LaidOut.rep {g s T sh : Nat} (h : LaidOut (RepS A) g s T sh σ) : RepS (aNew A g s T sh) σ := by
  obtain ⟨σ0, h0, h1, h2, h3, h4, h5⟩ := h
  have hn := h1.2.2.2.2.nc
  have h8 : T ≤ 8 := h1.2.2.2.2.2.2.2.2.2.2.1
  refine ⟨zero_ok h1.2.2.2.2, h1, h5, fun t ht => h4 3 (by decide) (by decide) t (Nat.lt_of_lt_of_le (show t < T from ht) h8), fun t ht c hc _ => h4 2 (by decide) (by decide) _ ?_, h3, fun i x hx => (by cases hx), fun j hj => h4 4 (by decide) (by decide) j hj, fun k hk => (h2 (4 + k) (by omega) (by omega)).trans (h0.2.2.2.2.2.2.2.2 k hk)⟩
  have ht' : t < T := ht
  have hc' : c < nc g s := hc
  show t * 20 + c < 160
  omega
/-- one value -/
def put2 (V : Nat → Nat → Nat) (t c x : Nat) : Nat → Nat → Nat := fun t' c' => if t' = t ∧ c' = c then x else V t' c'
theorem put2_lt {V : Nat → Nat → Nat} (h : ∀ t c, V t c < 16) (hx : x < 16) (t' c' : Nat) : put2 V t c x t' c' < 16 := by
  unfold put2
  split
  · exact hx
  · exact h _ _
def aPut (A : Ab) (t c x : Nat) : Ab := (A.1, put2 (aV A) t c x, A.2.2)
theorem aPut_ok (h : AOK A) (hx : x < 16) : AOK (aPut A t c x) := ⟨h.1, h.2.1, put2_lt h.2.2.1 hx, h.2.2.2⟩
theorem at20 {t c t' c' : Nat} (h1 : c < 20) (h2 : c' < 20) (h : t * 20 + c = t' * 20 + c') : t = t' ∧ c = c' := by omega
theorem RepS.put (h : RepS A σ) (hc : c < nc (aG A) (aS A)) (hx : x < 16) : RepS (aPut A t c x) (rset σ 2 (upd (σ 2) (t * 20 + c) (nI x))) := by
  obtain ⟨hA, hL, hC, hM, hV, hq, hQ, hLd, hK⟩ := h
  have hn := hA.1.nc
  refine ⟨aPut_ok hA hx, hL, hC, hM, fun t' ht c' hc' hb => ?_, hq, hQ, hLd, hK⟩
  have hc2 : c' < nc (aG A) (aS A) := hc'
  rw [rset_s]
  show _ = nI (put2 (aV A) t c x t' c')
  unfold put2
  by_cases e : t' = t ∧ c' = c
  · rw [if_pos e, e.1, e.2, pk_us]
  · rw [if_neg e, pk_un (fun e2 => e (at20 (by omega) (by omega) e2))]
    exact hV t' ht c' hc' hb
/-- a data cell with the parities -/
def aWrt (A : Ab) (t c v : Nat) : Ab := (A.1, fun t' c' => if t' = t then (if c' = c then v else if c' < aG A * aS A then aV A t c' else aV A t c' ^^^ gm (colv (aG A) (aS A) c (c' - aG A * aS A)) (aV A t c ^^^ v)) else aV A t' c', A.2.2)
theorem aWrt_ok (h : AOK A) (hv : v < 16) : AOK (aWrt A t c v) := by
  refine ⟨h.1, h.2.1, fun t' c' => ?_, h.2.2.2⟩
  show (if t' = t then (if c' = c then v else if c' < aG A * aS A then aV A t c' else aV A t c' ^^^ gm (colv (aG A) (aS A) c (c' - aG A * aS A)) (aV A t c ^^^ v)) else aV A t' c') < 16
  split
  · split
    · exact hv
    · split
      · exact h.2.2.1 _ _
      · exact xor_lt (h.2.2.1 _ _) (gm_lt (colv_lt _) (xor_lt (h.2.2.1 _ _) hv))
  · exact h.2.2.1 _ _
theorem addp_at (f : Nat → Int32) (p : Nat) (w : Nat → Nat) : ∀ k j, addp f p w k j = if p ≤ j ∧ j < p + k then f j ^^^ nI (w (j - p)) else f j
  | 0, j => by
    rw [if_neg (by omega)]
    rfl
  | k + 1, j => by
    have ih := addp_at f p w k
    show upd (addp f p w k) (p + k) (addp f p w k (p + k) ^^^ nI (w k)) j = _
    by_cases e : j = p + k
    · subst e
      rw [pk_us, ih, if_neg (by omega), if_pos (by omega), show p + k - p = k by omega]
    · rw [pk_un e, ih]
      by_cases q : p ≤ j ∧ j < p + k
      · rw [if_pos q, if_pos (by omega)]
      · rw [if_neg q, if_neg (by omega)]
theorem RepS.wrt (h : RepS A σ) (ht : t < aT A) (hc : c < aG A * aS A) (hv : v < 16) (h0 : aM A t = 0) :
    RepS (aWrt A t c v) (rset (rset σ 2 (upd (σ 2) (t * 20 + c) (nI v))) 2 (addp (upd (σ 2) (t * 20 + c) (nI v)) (t * 20 + aG A * aS A) (fun i => gm (colv (aG A) (aS A) c i) (aV A t c ^^^ v)) (aG A + 2))) := by
  obtain ⟨hA, hL, hC, hM, hV, hq, hQ, hLd, hK⟩ := h
  have hn := hA.1.nc
  have en : nc (aG A) (aS A) = aG A * aS A + aG A + 2 := rfl
  rw [rset_rset]
  refine ⟨aWrt_ok hA hv, hL, hC, hM, fun t' ht' c' hc' hb => ?_, hq, hQ, hLd, hK⟩
  have ht2 : t' < aT A := ht'
  have hc2 : c' < nc (aG A) (aS A) := hc'
  have hb2 : ¬ bit (aM A t') c' := hb
  have hv' := hV t' ht2 c' hc2 hb2
  rw [rset_s, addp_at]
  show _ = nI (if t' = t then (if c' = c then v else if c' < aG A * aS A then aV A t c' else aV A t c' ^^^ gm (colv (aG A) (aS A) c (c' - aG A * aS A)) (aV A t c ^^^ v)) else aV A t' c')
  by_cases e : t' = t
  · subst e
    rw [if_pos rfl]
    by_cases e2 : c' = c
    · subst e2
      rw [if_pos rfl, if_neg (by omega), pk_us]
    · rw [if_neg e2]
      by_cases e3 : c' < aG A * aS A
      · rw [if_pos e3, if_neg (by omega), pk_un (by omega), hv']
      · rw [if_neg e3, if_pos (by omega), pk_un (by omega), hv', nx_xor, show t' * 20 + c' - (t' * 20 + aG A * aS A) = c' - aG A * aS A by omega]
  · rw [if_neg e, if_neg (by omega), pk_un (by omega), hv']
end AB
end
section
/-! A STORE: losing, mending, turning the queue -/
theorem erase_at : ∀ {l : List Nat} {p x : Nat}, l[p]? = some x → (∀ j, j < p → l[j]? ≠ some x) → ∀ i, (l.erase x)[i]? = if i < p then l[i]? else l[i + 1]?
  | [], p, x, hp, _, i => by simp at hp
  | y :: l, 0, x, hp, _, i => by
    rw [List.getElem?_cons_zero] at hp
    cases hp
    rw [List.erase_cons_head, if_neg (Nat.not_lt_zero i), List.getElem?_cons_succ]
  | y :: l, p + 1, x, hp, hne, i => by
    have h0 := hne 0 (by omega)
    rw [List.getElem?_cons_zero] at h0
    have hy : ¬ (y == x) = true := fun q => h0 (by rw [beq_iff_eq.mp q])
    rw [List.getElem?_cons_succ] at hp
    rw [List.erase_cons_tail hy]
    have ih := erase_at hp (fun j hj => by
      have := hne (j + 1) (by omega)
      rwa [List.getElem?_cons_succ] at this)
    cases i with
    | zero => rw [if_pos (by omega), List.getElem?_cons_zero, List.getElem?_cons_zero]
    | succ i =>
      rw [List.getElem?_cons_succ, ih i, List.getElem?_cons_succ, List.getElem?_cons_succ]
      by_cases q : i < p
      · rw [if_pos q, if_pos (by omega)]
      · rw [if_neg q, if_neg (by omega)]
/-- the place of a member that is the first of its kind -/
theorem first_at {l : List Nat} {x : Nat} (h : x ∈ l) : ∃ p : Nat, l[p]? = some x ∧ ∀ j : Nat, j < p → l[j]? ≠ some x :=
  pk_least (fun p => l[p]? = some x) (List.mem_iff_getElem?.mp h)
section AB
variable {A : Ab} {σ σ' : Rows} {t c w src X : Nat}
def aLos (A : Ab) (t c : Nat) : Ab := (A.1, aV A, (fun t' => if t' = t then aM A t ||| 2 ^ c else aM A t'), aQ A ++ [20 * t + c], aL A, upd (aK A) 3 (aK A 3 + 1))
theorem aLos_ok (h : AOK A) (ht : t < aT A) (hc : c < nc (aG A) (aS A)) (hb : ¬ bit (aM A t) c) : AOK (aLos A t c) := by
  have hn := h.1.nc
  refine ⟨h.1, fun t' ht' => ?_, h.2.2.1, ?_, fun x => ?_⟩
  · show (if t' = t then aM A t ||| 2 ^ c else aM A t') < 2 ^ nc (aG A) (aS A)
    split
    · exact Nat.or_lt_two_pow (h.2.1 t ht) (Nat.pow_lt_pow_right (by decide) hc)
    · exact h.2.1 t' ht'
  · refine List.nodup_append.mpr ⟨h.2.2.2.1, List.nodup_cons.mpr ⟨List.not_mem_nil, List.nodup_nil⟩, fun a ha b hb' => ?_⟩
    rcases List.mem_cons.mp hb' with rfl | hb'
    · intro e
      subst e
      exact hb ((h.qin ht hc).mp ha)
    · exact absurd hb' List.not_mem_nil
  · show x ∈ aQ A ++ [20 * t + c] ↔ (x / 20 < aT A ∧ x % 20 < nc (aG A) (aS A) ∧ bit (if x / 20 = t then aM A t ||| 2 ^ c else aM A (x / 20)) (x % 20))
    rw [List.mem_append, List.mem_singleton, h.2.2.2.2]
    by_cases e : x / 20 = t
    · rw [if_pos e, e, bit_or]
      constructor
      · rintro (⟨a, b, q⟩ | rfl)
        · exact ⟨a, b, Or.inl q⟩
        · exact ⟨ht, by omega, Or.inr (by omega)⟩
      · rintro ⟨a, b, q | q⟩
        · exact Or.inl ⟨a, b, q⟩
        · exact Or.inr (by omega)
    · rw [if_neg e]
      constructor
      · rintro (q | rfl)
        · exact q
        · exact absurd (show (20 * t + c) / 20 = t by omega) e
      · exact Or.inl
theorem RepS.los (h : RepS A σ) (ht : t < aT A) (hc : c < nc (aG A) (aS A)) (hb : ¬ bit (aM A t) c) :
    RepS (aLos A t c) (rset (rset (rset σ 3 (upd (σ 3) t (nI (aM A t ||| 2 ^ c)))) 1 (upd (σ 1) (aQ A).length (nI (100 * t + c)))) 0 (upd (upd (σ 0) 8 (nI ((aQ A).length + 1))) 7 (σ 0 7 + 1))) := by
  obtain ⟨hA, hL, hC, hM, hV, hq, hQ, hLd, hK⟩ := h
  have hn := hA.1.nc
  refine ⟨aLos_ok hA ht hc hb, hL.of0 (fun k hk => ?_), hC, fun t' ht' => ?_, fun t' ht' c' hc' hb' => ?_, ?_, fun i x hx => ?_, hLd, fun k hk => ?_⟩
  · rw [rset_s, pk_un (by omega), pk_un (by omega)]
  · rw [rset_n (by decide), rset_n (by decide), rset_s]
    show _ = nI (if t' = t then aM A t ||| 2 ^ c else aM A t')
    by_cases e : t' = t
    · rw [if_pos e, e, pk_us]
    · rw [if_neg e, pk_un e]
      exact hM t' ht'
  · refine hV t' ht' c' hc' (fun q => hb' ?_)
    show bit (if t' = t then aM A t ||| 2 ^ c else aM A t') c'
    by_cases e : t' = t
    · rw [if_pos e, bit_or]
      rw [e] at q
      exact Or.inl q
    · rw [if_neg e]
      exact q
  · rw [rset_s, pk_un (by decide), pk_us]
    show _ = nI (aQ A ++ [20 * t + c]).length
    rw [List.length_append]
    rfl
  · have hx2 : (aQ A ++ [20 * t + c])[i]? = some x := hx
    rw [rset_n (by decide), rset_s]
    by_cases q : i < (aQ A).length
    · rw [List.getElem?_append_left q] at hx2
      rw [pk_un (by omega)]
      exact hQ i x hx2
    · rw [List.getElem?_append_right (by omega)] at hx2
      have h1 := (List.getElem?_eq_some_iff.mp hx2).1
      have h2 : i = (aQ A).length := by
        simp only [List.length_cons, List.length_nil] at h1
        omega
      rw [h2, Nat.sub_self, List.getElem?_cons_zero] at hx2
      cases hx2
      rw [h2, pk_us, show (20 * t + c) / 20 = t by omega, show (20 * t + c) % 20 = c by omega]
  · rw [rset_s]
    show upd (upd (σ 0) 8 (nI ((aQ A).length + 1))) 7 (σ 0 7 + 1) (4 + k) = upd (aK A) 3 (aK A 3 + 1) k
    by_cases e : k = 3
    · subst e
      rw [pk_us, pk_us, ← hK 3 (by decide)]
    · rw [pk_un (by omega), pk_un (by omega), pk_un e]
      exact hK k hk
/-- the loads and counts of a mended cell -/
def aMnd (A : Ab) (t c w src X : Nat) : Ab := (A.1, put2 (aV A) t c X, (fun t' => if t' = t then clr (aM A t) c else aM A t'), (aQ A).erase (20 * t + c),
  rdl (aL A) src (fun c => (c + t * aH A) % nc (aG A) (aS A)) (nc (aG A) (aS A)), upd (upd (upd (aK A) 0 (rdc (aK A 0) src (nc (aG A) (aS A)))) 1 (aK A 1 + 1)) 2 (if w = 1 then aK A 2 + 1 else aK A 2))
theorem aMnd_ok (h : AOK A) (ht : t < aT A) (hc : c < nc (aG A) (aS A)) (hX : X < 16) : AOK (aMnd A t c w src X) := by
  have hn := h.1.nc
  refine ⟨h.1, fun t' ht' => ?_, put2_lt h.2.2.1 hX, h.2.2.2.1.erase _, fun x => ?_⟩
  · show (if t' = t then clr (aM A t) c else aM A t') < 2 ^ nc (aG A) (aS A)
    split
    · exact Nat.lt_of_le_of_lt clr_le (h.2.1 t ht)
    · exact h.2.1 t' ht'
  · show x ∈ (aQ A).erase (20 * t + c) ↔ (x / 20 < aT A ∧ x % 20 < nc (aG A) (aS A) ∧ bit (if x / 20 = t then clr (aM A t) c else aM A (x / 20)) (x % 20))
    rw [h.2.2.2.1.mem_erase_iff, h.2.2.2.2]
    by_cases e : x / 20 = t
    · rw [if_pos e, e, bit_clr (by omega)]
      constructor
      · rintro ⟨a, b, q, r⟩
        exact ⟨b, q, r, by omega⟩
      · rintro ⟨b, q, r, a⟩
        exact ⟨by omega, b, q, r⟩
    · rw [if_neg e]
      constructor
      · rintro ⟨-, q⟩
        exact q
      · intro q
        exact ⟨by omega, q⟩
theorem rdl_congr {f f' : Nat → Int32} {M : Nat} {nd : Nat → Nat} (h : ∀ j, j < 20 → f j = f' j) (hnd : ∀ c, nd c < 20) : ∀ k j, j < 20 → rdl f M nd k j = rdl f' M nd k j
  | 0, j, hj => h j hj
  | k + 1, j, hj => by
    have ih := rdl_congr (M := M) h hnd k
    show (if M / 2 ^ k % 2 = 1 then upd (rdl f M nd k) (nd k) (rdl f M nd k (nd k) + 1) else rdl f M nd k) j = (if M / 2 ^ k % 2 = 1 then upd (rdl f' M nd k) (nd k) (rdl f' M nd k (nd k) + 1) else rdl f' M nd k) j
    by_cases q : M / 2 ^ k % 2 = 1
    · rw [if_pos q, if_pos q]
      by_cases e : j = nd k
      · rw [e, pk_us, pk_us, ih _ (hnd k)]
      · rw [pk_un e, pk_un e, ih j hj]
    · rw [if_neg q, if_neg q, ih j hj]
theorem RepS.mnd {p : Nat} (h : RepS A σ) (ht : t < aT A) (hc : c < nc (aG A) (aS A)) (hX : X < 16) (hp : (aQ A)[p]? = some (20 * t + c)) (hne : ∀ j, j < p → (aQ A)[j]? ≠ some (20 * t + c))
    (e3 : σ' 3 = upd (σ 3) t (nI (clr (aM A t) c))) (e2 : σ' 2 = upd (σ 2) (t * 20 + c) (nI X)) (e1 : σ' 1 = shf (σ 1) p (aQ A).length) (e8 : σ' 0 8 = nI ((aQ A).length - 1)) (e4 : σ' 4 = rdl (σ 4) src (fun c => (c + t * aH A) % nc (aG A) (aS A)) (nc (aG A) (aS A))) (e5 : σ' 5 = σ 5)
    (e0 : ∀ k, k < 4 → σ' 0 k = σ 0 k) (k4 : σ' 0 4 = rdc (σ 0 4) src (nc (aG A) (aS A))) (k5 : σ' 0 5 = σ 0 5 + 1) (k6 : σ' 0 6 = if w = 1 then σ 0 6 + 1 else σ 0 6) (k7 : σ' 0 7 = σ 0 7) : RepS (aMnd A t c w src X) σ' := by
  obtain ⟨hA, hL, hC, hM, hV, hq, hQ, hLd, hK⟩ := h
  have hn := hA.1.nc
  have hpl := (List.getElem?_eq_some_iff.mp hp).1
  refine ⟨aMnd_ok hA ht hc hX, hL.of0 e0, fun c' hc' => ?_, fun t' ht' => ?_, fun t' ht' c' hc' hb' => ?_, ?_, fun i x hx => ?_, fun j hj => ?_, fun k hk => ?_⟩
  · rw [e5]
    exact hC c' hc'
  · rw [e3]
    show _ = nI (if t' = t then clr (aM A t) c else aM A t')
    by_cases e : t' = t
    · rw [if_pos e, e, pk_us]
    · rw [if_neg e, pk_un e]
      exact hM t' ht'
  · have hc2 : c' < nc (aG A) (aS A) := hc'
    rw [e2]
    show _ = nI (put2 (aV A) t c X t' c')
    unfold put2
    by_cases e : t' = t ∧ c' = c
    · rw [if_pos e, e.1, e.2, pk_us]
    · rw [if_neg e, pk_un (fun q => e (at20 (by omega) (by omega) q))]
      refine hV t' ht' c' hc' (fun q => hb' ?_)
      show bit (if t' = t then clr (aM A t) c else aM A t') c'
      by_cases e2 : t' = t
      · rw [if_pos e2, bit_clr (by omega), ← e2]
        exact ⟨q, fun e3 => e ⟨e2, e3⟩⟩
      · rw [if_neg e2]
        exact q
  · rw [e8]
    show _ = nI ((aQ A).erase (20 * t + c)).length
    rw [List.length_erase_of_mem (List.mem_of_getElem? hp)]
  · have hx2 : ((aQ A).erase (20 * t + c))[i]? = some x := hx
    rw [erase_at hp hne] at hx2
    rw [e1]
    by_cases q : i < p
    · rw [if_pos q] at hx2
      rw [shf_lo q]
      exact hQ i x hx2
    · rw [if_neg q] at hx2
      have h1 := (List.getElem?_eq_some_iff.mp hx2).1
      rw [shf_hi (by omega) h1]
      exact hQ (i + 1) x hx2
  · rw [e4]
    exact rdl_congr hLd (fun c => Nat.lt_of_lt_of_le (Nat.mod_lt _ (by omega)) hn.2) _ j hj
  · show σ' 0 (4 + k) = upd (upd (upd (aK A) 0 (rdc (aK A 0) src (nc (aG A) (aS A)))) 1 (aK A 1 + 1)) 2 (if w = 1 then aK A 2 + 1 else aK A 2) k
    rcases (show k = 0 ∨ k = 1 ∨ k = 2 ∨ k = 3 by omega) with rfl | rfl | rfl | rfl
    · rw [pk_un (by decide), pk_un (by decide), pk_us, ← hK 0 (by decide)]
      exact k4
    · rw [pk_un (by decide), pk_us, ← hK 1 (by decide)]
      exact k5
    · rw [pk_us, ← hK 2 (by decide)]
      exact k6
    · rw [pk_un (by decide), pk_un (by decide), pk_un (by decide), ← hK 3 (by decide)]
      exact k7
/-- the first of the queue goes to its end -/
def aRot (A : Ab) : Ab := (A.1, aV A, aM A, (aQ A).tail ++ [(aQ A).headD 0], aL A, aK A)
theorem aRot_ok (h : AOK A) (hne : aQ A ≠ []) : AOK (aRot A) := by
  obtain ⟨h1, h2, h3, h4, h5⟩ := h
  refine ⟨h1, h2, h3, ?_, fun x => ?_⟩
  · show ((aQ A).tail ++ [(aQ A).headD 0]).Nodup
    cases hq : aQ A with
    | nil => exact absurd hq hne
    | cons y l =>
      rw [hq] at h4
      have h6 := List.nodup_cons.mp h4
      refine List.nodup_append.mpr ⟨h6.2, List.nodup_cons.mpr ⟨List.not_mem_nil, List.nodup_nil⟩, fun a ha b hb' => ?_⟩
      rcases List.mem_cons.mp hb' with rfl | hb'
      · intro e
        subst e
        exact h6.1 ha
      · exact absurd hb' List.not_mem_nil
  · show x ∈ (aQ A).tail ++ [(aQ A).headD 0] ↔ _
    refine Iff.trans ?_ (h5 x)
    cases hq : aQ A with
    | nil => exact absurd hq hne
    | cons y l =>
      show x ∈ l ++ [y] ↔ x ∈ y :: l
      rw [List.mem_append, List.mem_singleton, List.mem_cons]
      exact Or.comm
theorem RepS.rot {x : Nat} {l : List Nat} (h : RepS A σ) (hq : aQ A = x :: l) (e1 : σ' 1 = upd (shf (σ 1) 0 (l.length + 1)) l.length (nI (100 * (x / 20) + x % 20))) (en : ∀ a, 2 ≤ a → σ' a = σ a) (e0 : ∀ k, k < 9 → σ' 0 k = σ 0 k) : RepS (aRot A) σ' := by
  obtain ⟨hA, hL, hC, hM, hV, hql, hQ, hLd, hK⟩ := h
  have hne : aQ A ≠ [] := by rw [hq]; exact List.cons_ne_nil _ _
  have er : aQ (aRot A) = l ++ [x] := by show (aQ A).tail ++ [(aQ A).headD 0] = _; rw [hq]; rfl
  refine ⟨aRot_ok hA hne, hL.of0 (fun k hk => e0 k (by omega)), fun c' hc' => ?_, fun t' ht' => ?_, fun t' ht' c' hc' hb' => ?_, ?_, fun i y hy => ?_, fun j hj => ?_, fun k hk => ?_⟩
  · rw [en 5 (by decide)]
    exact hC c' hc'
  · rw [en 3 (by decide)]
    exact hM t' ht'
  · rw [en 2 (by decide)]
    exact hV t' ht' c' hc' hb'
  · rw [e0 8 (by decide), hql, er, hq, List.length_append]
    rfl
  · rw [er] at hy
    rw [e1]
    by_cases q : i < l.length
    · rw [List.getElem?_append_left q] at hy
      rw [pk_un (by omega), shf_hi (by omega) (by omega)]
      exact hQ (i + 1) y (by rw [hq, List.getElem?_cons_succ]; exact hy)
    · rw [List.getElem?_append_right (by omega)] at hy
      have h1 := (List.getElem?_eq_some_iff.mp hy).1
      have h2 : i = l.length := by
        simp only [List.length_cons, List.length_nil] at h1
        omega
      rw [h2, Nat.sub_self, List.getElem?_cons_zero] at hy
      cases hy
      rw [h2, pk_us]
  · rw [en 4 (by decide)]
    exact hLd j hj
  · rw [e0 (4 + k) (by omega)]
    exact hK k hk
end AB
/-! the way that is taken, as a function -/
theorem WayX.uniq {C : Nat → Nat → Nat} {V : Nat → Nat} {g s M c w src X w' src' X' : Nat} (h1 : WayX C V g s M c w src X) (h2 : WayX C V g s M c w' src' X') : w = w' ∧ src = src' ∧ X = X' := by
  rcases h1 with ⟨a1, a2, a3, a4⟩ | ⟨a1, a2, a3, a4, a5, a6⟩
  · rcases h2 with ⟨b1, b2, b3, b4⟩ | ⟨b1, -⟩
    · exact ⟨a2.trans b2.symm, a3.trans b3.symm, a4.trans b4.symm⟩
    · exact absurd a1 b1
  · rcases h2 with ⟨b1, -⟩ | ⟨b1, b2, b3, b4, b5, b6⟩
    · exact absurd b1 a1
    · obtain ⟨l, hl⟩ := a2.1
      exact ⟨a3.trans b3.symm, a4.trans b4.symm, (a6 l hl).symm.trans (b6 l hl)⟩
theorem WayX.no {C : Nat → Nat → Nat} {V : Nat → Nat} {g s M c w src X : Nat} (h1 : WayX C V g s M c w src X) (h2 : NoWay C V g s M c) : False := by
  rcases h1 with ⟨a1, -⟩ | ⟨-, a2, -⟩
  · exact h2.1 a1
  · exact h2.2 a2
abbrev WyX (A : Ab) (t c w src X : Nat) : Prop := WayX (colv (aG A) (aS A)) (aV A t) (aG A) (aS A) (aM A t) c w src X
abbrev NoX (A : Ab) (t c : Nat) : Prop := NoWay (colv (aG A) (aS A)) (aV A t) (aG A) (aS A) (aM A t) c
noncomputable def wyF (A : Ab) (t c : Nat) : Option (Nat × Nat × Nat) := @dite _ (∃ p : Nat × Nat × Nat, WyX A t c p.1 p.2.1 p.2.2) (Classical.propDecidable _) (fun h => some (Classical.choose h)) (fun _ => none)
theorem wyF_s {A : Ab} {t c w src X : Nat} (h : WyX A t c w src X) : wyF A t c = some (w, src, X) := by
  have hx : ∃ p : Nat × Nat × Nat, WyX A t c p.1 p.2.1 p.2.2 := ⟨(w, src, X), h⟩
  unfold wyF
  rw [dif_pos hx]
  have h2 := Classical.choose_spec hx
  obtain ⟨e1, e2, e3⟩ := h.uniq h2
  generalize Classical.choose hx = p at e1 e2 e3 ⊢
  obtain ⟨a, b, c⟩ := p
  rw [e1, e2, e3]
theorem wyF_n {A : Ab} {t c : Nat} (h : NoX A t c) : wyF A t c = none := by
  unfold wyF
  exact dif_neg (fun ⟨p, q⟩ => q.no h)
theorem WyX.lt {A : Ab} {t c w src X : Nat} (hA : AOK A) (hc : c < nc (aG A) (aS A)) (h : WyX A t c w src X) : X < 16 := by
  rcases h with ⟨-, -, -, e⟩ | ⟨-, -, -, -, e, -⟩
  · rw [e]
    exact vsum_lt (fun c _ i _ => colv_lt i) (fun c _ _ => hA.2.2.1 t c) _ (Nat.le_refl _) _ (by have h1 := hcv_lt hA.1 hc; have h2 : aG A ≤ 4 := hA.1.2.1; omega)
  · exact e
/-- mending: what it answers, what the store becomes -/
noncomputable def mdA (A : Ab) (t c : Nat) : Int32 × Ab := match wyF A t c with
  | none => (-4, A)
  | some p => (nI (pcn p.2.1 20), aMnd A t c p.1 p.2.1 p.2.2)
noncomputable def mdF (A : Ab) (x y : Int32) : Int32 × Ab := cI (inR x (aT A) ∧ inR y (nc (aG A) (aS A))) (cI (bit (aM A x.toNatClampNeg) y.toNatClampNeg) (mdA A x.toNatClampNeg y.toNatClampNeg) (-5, A)) (-1, A)
theorem mdA_s {A : Ab} {t c w src X : Nat} (h : WyX A t c w src X) : mdA A t c = (nI (pcn src 20), aMnd A t c w src X) := by
  unfold mdA
  rw [wyF_s h]
theorem mdA_n {A : Ab} {t c : Nat} (h : NoX A t c) : mdA A t c = (-4, A) := by
  unfold mdA
  rw [wyF_n h]
theorem mdF_out {A : Ab} {x y : Int32} (h : ¬ (inR x (aT A) ∧ inR y (nc (aG A) (aS A)))) : mdF A x y = (-1, A) := cI_f h
theorem cell_in {A : Ab} {t c : Nat} (hA : AOK A) (ht : t < aT A) (hc : c < nc (aG A) (aS A)) : inR (nI t) (aT A) ∧ inR (nI c) (nc (aG A) (aS A)) := by
  have hn := hA.1.nc
  have h8 : aT A ≤ 8 := hA.1.2.2.2.2.2.2.1
  exact ⟨(inR_nI (by omega) (by omega)).mpr ht, (inR_nI (by omega) (by omega)).mpr hc⟩
theorem mdF_in {A : Ab} {t c : Nat} (hA : AOK A) (ht : t < aT A) (hc : c < nc (aG A) (aS A)) : mdF A (nI t) (nI c) = cI (bit (aM A t) c) (mdA A t c) (-5, A) := by
  have hn := hA.1.nc
  have h8 : aT A ≤ 8 := hA.1.2.2.2.2.2.2.1
  unfold mdF
  rw [cI_t (cell_in hA ht hc), nI_cl (by omega), nI_cl (by omega)]
end
section
/-! THE CLASS: what is done to one cell -/
theorem inR_mono {x : Int32} {a b : Nat} (h : a ≤ b) (hb : b < 2 ^ 31) (q : inR x a) : inR x b := ⟨q.1, Int32.lt_of_lt_of_le q.2 (nI_le h hb)⟩
theorem wi_in {z : Int32} {k : Nat} (hk : k + 1 < 2 ^ 31) : (nI 0 ≤ z ∧ z ≤ nI k) ↔ inR z (k + 1) := by
  constructor
  · intro q
    refine ⟨q.1, ?_⟩
    obtain ⟨j, hj, rfl⟩ := nI_of (Int32.not_lt.mpr q.1)
    have h2 := (nI_leI hj (by omega)).mp q.2
    exact (nI_ltI hj hk).mpr (by omega)
  · intro q
    obtain ⟨j, hj, rfl⟩ := inR_ex hk q
    exact ⟨nI_le (Nat.zero_le j) (by omega), nI_le (by omega) (by omega)⟩
noncomputable def wrF (A : Ab) (x y z : Int32) : Int32 × Ab := cI (inR x (aT A) ∧ inR y (aG A * aS A)) (cI (inR z 16) (cI (aM A x.toNatClampNeg = 0) (cI (aV A x.toNatClampNeg y.toNatClampNeg = z.toNatClampNeg) (-5, A) (nI (aV A x.toNatClampNeg y.toNatClampNeg), aWrt A x.toNatClampNeg y.toNatClampNeg z.toNatClampNeg)) (-4, A)) (-2, A)) (-1, A)
theorem wrF_in {A : Ab} {t c : Nat} {z : Int32} (hA : AOK A) (ht : t < aT A) (hc : c < aG A * aS A) : wrF A (nI t) (nI c) z = cI (inR z 16) (cI (aM A t = 0) (cI (aV A t c = z.toNatClampNeg) (-5, A) (nI (aV A t c), aWrt A t c z.toNatClampNeg)) (-4, A)) (-2, A) := by
  have hn := hA.1.nc
  have h8 : aT A ≤ 8 := hA.1.2.2.2.2.2.2.1
  have en : nc (aG A) (aS A) = aG A * aS A + aG A + 2 := rfl
  unfold wrF
  rw [cI_t ⟨(inR_nI (by omega) (by omega)).mpr ht, (inR_nI (by omega) (by omega)).mpr hc⟩, nI_cl (by omega), nI_cl (by omega)]
noncomputable def alF (A : Ab) (x y z : Int32) : Int32 × Ab := cI (inR x (aT A) ∧ inR y (nc (aG A) (aS A))) (cI (inR z 16) (cI (bit (aM A x.toNatClampNeg) y.toNatClampNeg) (-4, A) (cI (aV A x.toNatClampNeg y.toNatClampNeg = z.toNatClampNeg) (-5, A) (nI (aV A x.toNatClampNeg y.toNatClampNeg), aPut A x.toNatClampNeg y.toNatClampNeg z.toNatClampNeg))) (-2, A)) (-1, A)
theorem alF_in {A : Ab} {t c : Nat} {z : Int32} (hA : AOK A) (ht : t < aT A) (hc : c < nc (aG A) (aS A)) : alF A (nI t) (nI c) z = cI (inR z 16) (cI (bit (aM A t) c) (-4, A) (cI (aV A t c = z.toNatClampNeg) (-5, A) (nI (aV A t c), aPut A t c z.toNatClampNeg))) (-2, A) := by
  have hn := hA.1.nc
  have h8 : aT A ≤ 8 := hA.1.2.2.2.2.2.2.1
  unfold alF
  rw [cI_t (cell_in hA ht hc), nI_cl (by omega), nI_cl (by omega)]
noncomputable def loF (A : Ab) (x y : Int32) : Int32 × Ab := cI (inR x (aT A) ∧ inR y (nc (aG A) (aS A))) (cI (bit (aM A x.toNatClampNeg) y.toNatClampNeg) (-5, A) (nI ((aQ A).length + 1), aLos A x.toNatClampNeg y.toNatClampNeg)) (-1, A)
theorem loF_in {A : Ab} {t c : Nat} (hA : AOK A) (ht : t < aT A) (hc : c < nc (aG A) (aS A)) : loF A (nI t) (nI c) = cI (bit (aM A t) c) (-5, A) (nI ((aQ A).length + 1), aLos A t c) := by
  have hn := hA.1.nc
  have h8 : aT A ≤ 8 := hA.1.2.2.2.2.2.2.1
  unfold loF
  rw [cI_t (cell_in hA ht hc), nI_cl (by omega), nI_cl (by omega)]
section CL
variable {E : AEnv} {d : Nat} {h h' : List va_E} {b : Nat} {A : Ab} {B S : RP} {n : Nat} {Hs : Nat → RP} {tk : Nat} {o X : Nat → Int32} {G : Nat → Option va_E}
theorem c_writeCell {x y z : Int32} (hC : ClAt G h b (RepS A) B S n Hs tk o X) (hd : 3 ≤ d) : Calls E mX5_writeCell d 0 0 [.ref b, .int x, .int y, .int z] h (RI (fun r h' => r = (wrF A x y z).1 ∧ ClAt G h' b (RepS (wrF A x y z).2) B S n Hs tk o X)) := by
  refine Calls.of (ls := [some (.ref b), some (.int x), some (.int y), some (.int z), none]) (by decide +kernel) rfl (Nat.le_of_ble_eq_true rfl) (cat_ok rfl) ?_
  obtain ⟨σ, hS, hR⟩ := hC.2.2.1
  have hA := hR.1
  have hL := hR.2.1
  have hX := hR.2.2.1
  have hM := hR.2.2.2.1
  have hV := hR.2.2.2.2.1
  have hn20 := hA.1.nc
  have en : nc (aG A) (aS A) = aG A * aS A + aG A + 2 := rfl
  have hT8 : aT A ≤ 8 := hA.1.2.2.2.2.2.2.1
  refine go_aload_0 (DX5_writeCell.at 0 rfl) ?_
  refine go_getfield (DX5_writeCell.at 1 rfl) fX5_10 hC.1 rfl ?_
  refine go_iload_1 (DX5_writeCell.at 2 rfl) ?_
  refine go_iload_2 (DX5_writeCell.at 3 rfl) ?_
  refine go_cVx2 (DX5_writeCell.at 4 rfl) nX5_134 vX4_hasCell (by omega) (c_hasCell hS hL (by omega)) hS.1 rfl (Nat.le_of_ble_eq_true rfl) ?_
  refine go_if_eq 23 (DX5_writeCell.at 5 rfl) (by decide) (fun c9 => ?_) (fun c9 => ?_)
  · rw [bP_eq0] at c9
    have e1 : wrF A x y z = (-1, A) := cI_f (fun q => c9 ⟨q.1, inR_mono (by omega) (by omega) q.2⟩)
    refine go_iconst (v := (-1)) (DX5_writeCell.at 11 rfl) (by decide) ?_
    exact go_iret (DX5_writeCell.at 12 rfl) rfl rfl (RI.mk (by rw [e1]; exact ⟨rfl, hC⟩))
  · rw [bP_eq0, Classical.not_not] at c9
    obtain ⟨⟨t, ht, rfl⟩, ⟨c, hc, rfl⟩⟩ := And.intro (inR_ex (by omega) c9.1) (inR_ex (by omega) c9.2)
    have hM20 := hA.m20 ht
    refine go_iload_2 (DX5_writeCell.at 6 rfl) ?_
    refine go_aload_0 (DX5_writeCell.at 7 rfl) ?_
    refine go_getfield (DX5_writeCell.at 8 rfl) fX5_10 hC.1 rfl ?_
    refine go_cVx0 (DX5_writeCell.at 9 rfl) nX5_239 vX4_dataCount (by omega) (c_dataCount hS hL) hS.1 rfl (Nat.le_of_ble_eq_true rfl) ?_
    refine go_icmp_lt 25 (DX5_writeCell.at 10 rfl) (by decide) (fun c20 => ?_) (fun c20 => ?_)
    · rw [nI_ltI (by omega) (by omega)] at c20
      refine go_iload_3 (DX5_writeCell.at 13 rfl) ?_
      refine go_iconst (v := nI 0) (DX5_writeCell.at 14 rfl) (by decide) ?_
      refine go_bipush (v := nI 15) (DX5_writeCell.at 15 rfl) (by decide) ?_
      refine go_cSx3 (DX5_writeCell.at 16 rfl) nX5_55 vX5_isWithin (by omega) c_isWithin (Nat.le_of_ble_eq_true rfl) ?_
      refine go_if_ne 38 (DX5_writeCell.at 17 rfl) (by decide) (fun c32 => ?_) (fun c32 => ?_)
      · rw [bI_eq0, Classical.not_not, wi_in (by decide)] at c32
        obtain ⟨v, hv, rfl⟩ := inR_ex (by decide) c32
        refine go_aload_0 (DX5_writeCell.at 20 rfl) ?_
        refine go_getfield (DX5_writeCell.at 21 rfl) fX5_10 hC.1 rfl ?_
        refine go_iload_1 (DX5_writeCell.at 22 rfl) ?_
        refine go_cVx1 (DX5_writeCell.at 23 rfl) nX5_162 vX4_missingIn (by omega) (c_missingIn hS (by omega) (by omega)) hS.1 rfl (Nat.le_of_ble_eq_true rfl) ?_
        rw [hM t ht]
        refine go_if_eq 52 (DX5_writeCell.at 24 rfl) (by decide) (fun c46 => ?_) (fun c46 => ?_)
        · rw [nI_eq0 (by omega)] at c46
          refine go_aload_0 (DX5_writeCell.at 27 rfl) ?_
          refine go_getfield (DX5_writeCell.at 28 rfl) fX5_10 hC.1 rfl ?_
          refine go_iload_1 (DX5_writeCell.at 29 rfl) ?_
          refine go_iload_2 (DX5_writeCell.at 30 rfl) ?_
          refine go_cVx2 (DX5_writeCell.at 31 rfl) nX5_141 vX4_valueOf (by omega) (c_valueOf hS (by omega) (by omega) (by omega)) hS.1 rfl (Nat.le_of_ble_eq_true rfl) ?_
          rw [hV t ht c hc (by rw [c46]; exact nbit0 c)]
          refine go_istore_4 (DX5_writeCell.at 32 rfl) ?_
          refine go_iload_4 (DX5_writeCell.at 33 rfl) ?_
          refine go_iload_3 (DX5_writeCell.at 34 rfl) ?_
          refine go_icmp_ne 72 (DX5_writeCell.at 35 rfl) (by decide) (fun c66 => ?_) (fun c66 => ?_)
          · rw [nI_eq (by have := hA.2.2.1 t c; omega) (by omega)] at c66
            refine go_aload_0 (DX5_writeCell.at 38 rfl) ?_
            refine go_getfield (DX5_writeCell.at 39 rfl) fX5_10 hC.1 rfl ?_
            refine go_iload_1 (DX5_writeCell.at 40 rfl) ?_
            refine go_iload_2 (DX5_writeCell.at 41 rfl) ?_
            refine go_iload_3 (DX5_writeCell.at 42 rfl) ?_
            refine go_cVv3 (DX5_writeCell.at 43 rfl) nX5_242 vX4_setValue (by omega) (c_setValue hS (by omega) (show c < 20 by omega) (by omega)) hS.1 rfl (Nat.le_of_ble_eq_true rfl) (fun h79 q79 => ?_)
            have hC1 := hC.toNow q79 (hR.put hc hv)
            refine go_aload_0 (DX5_writeCell.at 44 rfl) ?_
            refine go_getfield (DX5_writeCell.at 45 rfl) fX5_10 hC1.1 rfl ?_
            refine go_iload_1 (DX5_writeCell.at 46 rfl) ?_
            refine go_aload_0 (DX5_writeCell.at 47 rfl) ?_
            refine go_getfield (DX5_writeCell.at 48 rfl) fX5_10 hC1.1 rfl ?_
            refine go_iload_2 (DX5_writeCell.at 49 rfl) ?_
            refine go_cVx1 (DX5_writeCell.at 50 rfl) nX5_246 vX4_columnOf (by omega) (c_columnOf q79.1 (show c < 20 by omega) (by omega)) q79.1.1 rfl (Nat.le_of_ble_eq_true rfl) ?_
            rw [rset_n (by decide), (hX c hc).1]
            refine go_iload_4 (DX5_writeCell.at 51 rfl) ?_
            refine go_iload_3 (DX5_writeCell.at 52 rfl) ?_
            refine go_ixor (DX5_writeCell.at 53 rfl) ?_
            rw [nx_xor]
            refine go_cSx2 (DX5_writeCell.at 54 rfl) nX5_249 vX5_scaled (by omega) (c_scaled (fun i _ => colv_lt i) (xor_lt (hA.2.2.1 t c) hv)) (Nat.le_of_ble_eq_true rfl) ?_
            refine go_cVv2 (DX5_writeCell.at 55 rfl) nX5_252 vX4_addToParities (by omega) (c_addToParities q79.1 (hL.of0 (fun _ _ => rfl)) (fun i _ => gm_lt (colv_lt i) (xor_lt (hA.2.2.1 t c) hv)) (by omega) (by omega)) q79.1.1 rfl (Nat.le_of_ble_eq_true rfl) (fun h102 q102 => ?_)
            rw [rset_s] at q102
            refine go_iload_4 (DX5_writeCell.at 56 rfl) ?_
            exact go_iret (DX5_writeCell.at 57 rfl) rfl rfl (RI.mk (by rw [wrF_in hA ht c20, cI_t c32, cI_t c46, nI_cl (by omega), cI_f c66]; exact ⟨rfl, hC1.toNow q102 (hR.wrt ht c20 hv c46)⟩))
          · rw [nI_eq (by have := hA.2.2.1 t c; omega) (by omega)] at c66
            have e5 : wrF A (nI t) (nI c) (nI v) = (-5, A) := by rw [wrF_in hA ht c20, cI_t c32, cI_t c46, nI_cl (by omega), cI_t c66]
            refine go_bipush (v := (-5)) (DX5_writeCell.at 36 rfl) (by decide) ?_
            exact go_iret (DX5_writeCell.at 37 rfl) rfl rfl (RI.mk (by rw [e5]; exact ⟨rfl, hC⟩))
        · rw [nI_eq0 (by omega)] at c46
          have e4 : wrF A (nI t) (nI c) (nI v) = (-4, A) := by rw [wrF_in hA ht c20, cI_t c32, cI_f c46]
          refine go_bipush (v := (-4)) (DX5_writeCell.at 25 rfl) (by decide) ?_
          exact go_iret (DX5_writeCell.at 26 rfl) rfl rfl (RI.mk (by rw [e4]; exact ⟨rfl, hC⟩))
      · rw [bI_eq0, wi_in (by decide)] at c32
        have e2 : wrF A (nI t) (nI c) z = (-2, A) := by rw [wrF_in hA ht c20, cI_f c32]
        refine go_bipush (v := (-2)) (DX5_writeCell.at 18 rfl) (by decide) ?_
        exact go_iret (DX5_writeCell.at 19 rfl) rfl rfl (RI.mk (by rw [e2]; exact ⟨rfl, hC⟩))
    · have e1 : wrF A (nI t) (nI c) z = (-1, A) := cI_f (fun q => c20 q.2.2)
      refine go_iconst (v := (-1)) (DX5_writeCell.at 11 rfl) (by decide) ?_
      exact go_iret (DX5_writeCell.at 12 rfl) rfl rfl (RI.mk (by rw [e1]; exact ⟨rfl, hC⟩))

theorem c_loseCell {x y : Int32} (hC : ClAt G h b (RepS A) B S n Hs tk o X) (hd : 3 ≤ d) : Calls E mX5_loseCell d 0 0 [.ref b, .int x, .int y] h (RI (fun r h' => r = (loF A x y).1 ∧ ClAt G h' b (RepS (loF A x y).2) B S n Hs tk o X)) := by
  refine Calls.of (ls := [some (.ref b), some (.int x), some (.int y)]) (by decide +kernel) rfl (Nat.le_of_ble_eq_true rfl) (cat_ok rfl) ?_
  obtain ⟨σ, hS, hR⟩ := hC.2.2.1
  have hA := hR.1
  have hL := hR.2.1
  have hX := hR.2.2.1
  have hM := hR.2.2.2.1
  have hV := hR.2.2.2.2.1
  have hn20 := hA.1.nc
  have en : nc (aG A) (aS A) = aG A * aS A + aG A + 2 := rfl
  have hT8 : aT A ≤ 8 := hA.1.2.2.2.2.2.2.1
  refine go_aload_0 (DX5_loseCell.at 0 rfl) ?_
  refine go_getfield (DX5_loseCell.at 1 rfl) fX5_10 hC.1 rfl ?_
  refine go_iload_1 (DX5_loseCell.at 2 rfl) ?_
  refine go_iload_2 (DX5_loseCell.at 3 rfl) ?_
  refine go_cVx2 (DX5_loseCell.at 4 rfl) nX5_134 vX4_hasCell (by omega) (c_hasCell hS hL (by omega)) hS.1 rfl (Nat.le_of_ble_eq_true rfl) ?_
  refine go_if_ne 14 (DX5_loseCell.at 5 rfl) (by decide) (fun c9 => ?_) (fun c9 => ?_)
  · rw [bP_eq0, Classical.not_not] at c9
    obtain ⟨⟨t, ht, rfl⟩, ⟨c, hc, rfl⟩⟩ := And.intro (inR_ex (by omega) c9.1) (inR_ex (by omega) c9.2)
    have hM20 := hA.m20 ht
    refine go_aload_0 (DX5_loseCell.at 8 rfl) ?_
    refine go_getfield (DX5_loseCell.at 9 rfl) fX5_10 hC.1 rfl ?_
    refine go_iload_1 (DX5_loseCell.at 10 rfl) ?_
    refine go_iload_2 (DX5_loseCell.at 11 rfl) ?_
    refine go_cVx2 (DX5_loseCell.at 12 rfl) nX5_138 vX4_isMissing (by omega) (c_isMissing hS (by omega) (by omega) (hM t ht) (by omega) (by omega)) hS.1 rfl (Nat.le_of_ble_eq_true rfl) ?_
    refine go_if_eq 29 (DX5_loseCell.at 13 rfl) (by decide) (fun c23 => ?_) (fun c23 => ?_)
    · rw [bP_eq0] at c23
      refine go_aload_0 (DX5_loseCell.at 16 rfl) ?_
      refine go_getfield (DX5_loseCell.at 17 rfl) fX5_10 hC.1 rfl ?_
      refine go_iload_1 (DX5_loseCell.at 18 rfl) ?_
      refine go_iload_2 (DX5_loseCell.at 19 rfl) ?_
      refine go_cVv2 (DX5_loseCell.at 20 rfl) nX5_256 vX4_takeAway (by omega) (c_takeAway hS (by omega) (show c < 20 by omega) (hM t ht) hR.2.2.2.2.2.1 (hA.qroom ht hc c23) (by omega)) hS.1 rfl (Nat.le_of_ble_eq_true rfl) (fun h35 q35 => ?_)
      have hC1 := hC.toNow q35 (hR.los ht hc c23)
      refine go_aload_0 (DX5_loseCell.at 21 rfl) ?_
      refine go_getfield (DX5_loseCell.at 22 rfl) fX5_10 hC1.1 rfl ?_
      refine go_getfield (DX5_loseCell.at 23 rfl) fX5_131 q35.1.1 rfl ?_
      exact go_iret (DX5_loseCell.at 24 rfl) rfl rfl (RI.mk (by rw [loF_in hA ht hc, cI_f c23]; exact ⟨rfl, hC1⟩))
    · rw [bP_eq0, Classical.not_not] at c23
      have e5 : loF A (nI t) (nI c) = (-5, A) := by rw [loF_in hA ht hc, cI_t c23]
      refine go_bipush (v := (-5)) (DX5_loseCell.at 14 rfl) (by decide) ?_
      exact go_iret (DX5_loseCell.at 15 rfl) rfl rfl (RI.mk (by rw [e5]; exact ⟨rfl, hC⟩))
  · rw [bP_eq0] at c9
    have e1 : loF A x y = (-1, A) := cI_f c9
    refine go_iconst (v := (-1)) (DX5_loseCell.at 6 rfl) (by decide) ?_
    exact go_iret (DX5_loseCell.at 7 rfl) rfl rfl (RI.mk (by rw [e1]; exact ⟨rfl, hC⟩))

theorem c_mendCell {x y : Int32} (hC : ClAt G h b (RepS A) B S n Hs tk o X) (hd : 5 ≤ d) : Calls E mX5_mendCell d 0 0 [.ref b, .int x, .int y] h (RI (fun r h' => r = (mdF A x y).1 ∧ ClAt G h' b (RepS (mdF A x y).2) B S n Hs tk o X)) := by
  refine Calls.of (ls := [some (.ref b), some (.int x), some (.int y), none]) (by decide +kernel) rfl (Nat.le_of_ble_eq_true rfl) (cat_ok rfl) ?_
  obtain ⟨σ, hS, hR⟩ := hC.2.2.1
  have hA := hR.1
  have hL := hR.2.1
  have hX := hR.2.2.1
  have hM := hR.2.2.2.1
  have hV := hR.2.2.2.2.1
  have hn20 := hA.1.nc
  have en : nc (aG A) (aS A) = aG A * aS A + aG A + 2 := rfl
  have hT8 : aT A ≤ 8 := hA.1.2.2.2.2.2.2.1
  obtain ⟨s0, t0, hp, r0, cf0, lf0, hB0⟩ := hC.2.2.2.2.2.2.2.1
  refine go_aload_0 (DX5_mendCell.at 0 rfl) ?_
  refine go_getfield (DX5_mendCell.at 1 rfl) fX5_36 hC.1 rfl ?_
  refine go_aload_0 (DX5_mendCell.at 2 rfl) ?_
  refine go_getfield (DX5_mendCell.at 3 rfl) fX5_10 hC.1 rfl ?_
  refine go_iload_1 (DX5_mendCell.at 4 rfl) ?_
  refine go_iload_2 (DX5_mendCell.at 5 rfl) ?_
  refine go_cVi3 (DX5_mendCell.at 6 rfl) nX5_201 vX2_make (by omega) (c_make hp hB0 hS hL hX (fun t ht => ⟨hM t ht, hA.m20 ht⟩) (fun t ht c hc hb => ⟨hV t ht c hc hb, hA.2.2.1 t c⟩) (by omega) (by omega)) hp rfl (Nat.le_of_ble_eq_true rfl) (fun x10 h10 q10 => ?_)
  obtain ⟨u, src, out, q1, q⟩ := q10
  have hC2 := hC.toPlan ⟨q1, u⟩
  have hS2 := hS.keep u (by omega)
  rcases q with ⟨a1, rfl⟩ | ⟨t, c, ht, hc, rfl, rfl, ⟨a1, rfl⟩ | ⟨a1, ⟨w, sc, X', hW, rfl, rfl, rfl⟩ | ⟨hW, rfl⟩⟩⟩
  · refine go_istore_3 (DX5_mendCell.at 7 rfl) ?_
    refine go_iload_3 (DX5_mendCell.at 8 rfl) ?_
    refine go_if_ge 20 (DX5_mendCell.at 9 rfl) (by decide) (fun c15 => absurd c15 (by decide)) (fun c15 => ?_)
    refine go_iload_3 (DX5_mendCell.at 10 rfl) ?_
    exact go_iret (DX5_mendCell.at 11 rfl) rfl rfl (RI.mk (by rw [mdF_out a1]; exact ⟨rfl, hC2⟩))
  · refine go_istore_3 (DX5_mendCell.at 7 rfl) ?_
    refine go_iload_3 (DX5_mendCell.at 8 rfl) ?_
    refine go_if_ge 20 (DX5_mendCell.at 9 rfl) (by decide) (fun c15 => absurd c15 (by decide)) (fun c15 => ?_)
    refine go_iload_3 (DX5_mendCell.at 10 rfl) ?_
    exact go_iret (DX5_mendCell.at 11 rfl) rfl rfl (RI.mk (by rw [mdF_in hA ht hc, cI_f a1]; exact ⟨rfl, hC2⟩))
  · obtain ⟨p, hp1, hp2⟩ := first_at ((hA.qin ht hc).mpr a1)
    have hpl := (List.getElem?_eq_some_iff.mp hp1).1
    have hsc := hW.src hA.1
    have hX16 := WyX.lt hA hc hW
    have hx0 : ∀ i x, (aQ A)[i]? = some x → x ≠ 20 * t + c → ¬ σ 1 i = nI (100 * t + c) := fun i x hx hne e => by
      have h1 := hA.lt160 (List.mem_of_getElem? hx)
      rw [hR.2.2.2.2.2.2.1 i x hx, nI_eq (by omega) (by omega)] at e
      omega
    have hb1 : σ 1 p = nI (100 * t + c) := by
      rw [hR.2.2.2.2.2.2.1 p _ hp1, show (20 * t + c) / 20 = t by omega, show (20 * t + c) % 20 = c by omega]
    have hb2 : ∀ j, j < p → ¬ σ 1 j = nI (100 * t + c) := fun j hj => by
      have h1 : (aQ A)[j]? = some (aQ A)[j] := List.getElem?_eq_getElem (by omega)
      exact hx0 j _ h1 (fun e => hp2 j hj (by rw [h1, e]))
    rcases hW.w with rfl | rfl | rfl
    · refine go_istore_3 (DX5_mendCell.at 7 rfl) ?_
      refine go_iload_3 (DX5_mendCell.at 8 rfl) ?_
      refine go_if_ge 20 (DX5_mendCell.at 9 rfl) (by decide) (fun c15 => ?_) (fun c15 => absurd (by decide) c15)
      refine go_aload_0 (DX5_mendCell.at 12 rfl) ?_
      refine go_getfield (DX5_mendCell.at 13 rfl) fX5_10 hC2.1 rfl ?_
      refine go_iload_1 (DX5_mendCell.at 14 rfl) ?_
      refine go_aload_0 (DX5_mendCell.at 15 rfl) ?_
      refine go_getfield (DX5_mendCell.at 16 rfl) fX5_36 hC2.1 rfl ?_
      refine go_getfield (DX5_mendCell.at 17 rfl) fX5_205 q1.1 rfl ?_
      refine go_cVv2 (DX5_mendCell.at 18 rfl) nX5_262 vX4_countReads (by omega) (c_countReads hS2 hL (by omega) (by omega) (by omega)) hS2.1 rfl (Nat.le_of_ble_eq_true rfl) (fun h32 q32 => ?_)
      have hC3 := hC2.toNow (M := fun _ => True) q32 trivial
      have pl3 := q1.keep q32.2 (by omega)
      refine go_aload_0 (DX5_mendCell.at 19 rfl) ?_
      refine go_getfield (DX5_mendCell.at 20 rfl) fX5_10 hC3.1 rfl ?_
      refine go_iload_1 (DX5_mendCell.at 21 rfl) ?_
      refine go_iload_2 (DX5_mendCell.at 22 rfl) ?_
      refine go_aload_0 (DX5_mendCell.at 23 rfl) ?_
      refine go_getfield (DX5_mendCell.at 24 rfl) fX5_36 hC3.1 rfl ?_
      refine go_getfield (DX5_mendCell.at 25 rfl) fX5_213 pl3.1 rfl ?_
      refine go_cVv3 (DX5_mendCell.at 26 rfl) nX5_265 vX4_bringBack (by omega) (c_bringBack q32.1 (by omega) (show c < 20 by omega) (hM t ht) hR.2.2.2.2.2.1 hA.q160 hpl hb1 hb2 (by omega)) q32.1.1 rfl (Nat.le_of_ble_eq_true rfl) (fun h48 q48 => ?_)
      have hC4 := hC3.toNow (M := fun _ => True) q48 trivial
      have pl4 := pl3.keep q48.2 (by omega)
      refine go_aload_0 (DX5_mendCell.at 27 rfl) ?_
      refine go_getfield (DX5_mendCell.at 28 rfl) fX5_10 hC4.1 rfl ?_
      refine go_dup (DX5_mendCell.at 29 rfl) rfl ?_
      refine go_getfield (DX5_mendCell.at 30 rfl) fX5_192 q48.1.1 rfl ?_
      refine go_iconst (v := nI 1) (DX5_mendCell.at 31 rfl) (by decide) ?_
      refine go_iadd (DX5_mendCell.at 32 rfl) ?_
      refine go_putSt (DX5_mendCell.at 33 rfl) fX5_192 (by decide) q48.1 (fun h61 q61 => ?_)
      have hC5 := hC4.toNow (M := fun _ => True) q61 trivial
      have pl5 := pl4.keep q61.2 (by omega)
      refine go_iload_3 (DX5_mendCell.at 34 rfl) ?_
      refine go_iconst (v := nI 1) (DX5_mendCell.at 35 rfl) (by decide) ?_
      refine go_icmp_ne 82 (DX5_mendCell.at 36 rfl) (by decide) (fun c66 => absurd rfl c66) (fun c66 => ?_)
      refine go_aload_0 (DX5_mendCell.at 37 rfl) ?_
      refine go_getfield (DX5_mendCell.at 38 rfl) fX5_10 hC5.1 rfl ?_
      refine go_dup (DX5_mendCell.at 39 rfl) rfl ?_
      refine go_getfield (DX5_mendCell.at 40 rfl) fX5_195 q61.1.1 rfl ?_
      refine go_iconst (v := nI 1) (DX5_mendCell.at 41 rfl) (by decide) ?_
      refine go_iadd (DX5_mendCell.at 42 rfl) ?_
      refine go_putSt (DX5_mendCell.at 43 rfl) fX5_195 (by decide) q61.1 (fun h79 q79 => ?_)
      have hC6 := hC2.toNow (q32.then (q48.then (q61.then q79))) (hR.mnd (w := 1) ht hc hX16 hp1 hp2 rfl rfl rfl rfl rfl rfl (fun k hk => by rcases (show k = 0 ∨ k = 1 ∨ k = 2 ∨ k = 3 by omega) with rfl | rfl | rfl | rfl <;> rfl) rfl rfl rfl rfl)
      have pl6 := pl5.keep q79.2 (by omega)
      refine go_aload_0 (DX5_mendCell.at 44 rfl) ?_
      refine go_getfield (DX5_mendCell.at 45 rfl) fX5_36 hC6.1 rfl ?_
      refine go_getfield (DX5_mendCell.at 46 rfl) fX5_205 pl6.1 rfl ?_
      refine go_cSx1 (DX5_mendCell.at 47 rfl) nX5_208 vJ6_bitCount_0f7a4 (by omega) (c_bitCount hsc) (Nat.le_of_ble_eq_true rfl) ?_
      exact go_iret (DX5_mendCell.at 48 rfl) rfl rfl (RI.mk (by rw [mdF_in hA ht hc, cI_t a1, mdA_s hW]; exact ⟨rfl, hC6⟩))
    · refine go_istore_3 (DX5_mendCell.at 7 rfl) ?_
      refine go_iload_3 (DX5_mendCell.at 8 rfl) ?_
      refine go_if_ge 20 (DX5_mendCell.at 9 rfl) (by decide) (fun c15 => ?_) (fun c15 => absurd (by decide) c15)
      refine go_aload_0 (DX5_mendCell.at 12 rfl) ?_
      refine go_getfield (DX5_mendCell.at 13 rfl) fX5_10 hC2.1 rfl ?_
      refine go_iload_1 (DX5_mendCell.at 14 rfl) ?_
      refine go_aload_0 (DX5_mendCell.at 15 rfl) ?_
      refine go_getfield (DX5_mendCell.at 16 rfl) fX5_36 hC2.1 rfl ?_
      refine go_getfield (DX5_mendCell.at 17 rfl) fX5_205 q1.1 rfl ?_
      refine go_cVv2 (DX5_mendCell.at 18 rfl) nX5_262 vX4_countReads (by omega) (c_countReads hS2 hL (by omega) (by omega) (by omega)) hS2.1 rfl (Nat.le_of_ble_eq_true rfl) (fun h32 q32 => ?_)
      have hC3 := hC2.toNow (M := fun _ => True) q32 trivial
      have pl3 := q1.keep q32.2 (by omega)
      refine go_aload_0 (DX5_mendCell.at 19 rfl) ?_
      refine go_getfield (DX5_mendCell.at 20 rfl) fX5_10 hC3.1 rfl ?_
      refine go_iload_1 (DX5_mendCell.at 21 rfl) ?_
      refine go_iload_2 (DX5_mendCell.at 22 rfl) ?_
      refine go_aload_0 (DX5_mendCell.at 23 rfl) ?_
      refine go_getfield (DX5_mendCell.at 24 rfl) fX5_36 hC3.1 rfl ?_
      refine go_getfield (DX5_mendCell.at 25 rfl) fX5_213 pl3.1 rfl ?_
      refine go_cVv3 (DX5_mendCell.at 26 rfl) nX5_265 vX4_bringBack (by omega) (c_bringBack q32.1 (by omega) (show c < 20 by omega) (hM t ht) hR.2.2.2.2.2.1 hA.q160 hpl hb1 hb2 (by omega)) q32.1.1 rfl (Nat.le_of_ble_eq_true rfl) (fun h48 q48 => ?_)
      have hC4 := hC3.toNow (M := fun _ => True) q48 trivial
      have pl4 := pl3.keep q48.2 (by omega)
      refine go_aload_0 (DX5_mendCell.at 27 rfl) ?_
      refine go_getfield (DX5_mendCell.at 28 rfl) fX5_10 hC4.1 rfl ?_
      refine go_dup (DX5_mendCell.at 29 rfl) rfl ?_
      refine go_getfield (DX5_mendCell.at 30 rfl) fX5_192 q48.1.1 rfl ?_
      refine go_iconst (v := nI 1) (DX5_mendCell.at 31 rfl) (by decide) ?_
      refine go_iadd (DX5_mendCell.at 32 rfl) ?_
      refine go_putSt (DX5_mendCell.at 33 rfl) fX5_192 (by decide) q48.1 (fun h61 q61 => ?_)
      have hC5 := hC4.toNow (M := fun _ => True) q61 trivial
      have pl5 := pl4.keep q61.2 (by omega)
      refine go_iload_3 (DX5_mendCell.at 34 rfl) ?_
      refine go_iconst (v := nI 1) (DX5_mendCell.at 35 rfl) (by decide) ?_
      refine go_icmp_ne 82 (DX5_mendCell.at 36 rfl) (by decide) (fun c66 => ?_) (fun c66 => absurd c66 (by decide))
      have hC6 := hC2.toNow (q32.then (q48.then q61)) (hR.mnd (w := 2) ht hc hX16 hp1 hp2 rfl rfl rfl rfl rfl rfl (fun k hk => by rcases (show k = 0 ∨ k = 1 ∨ k = 2 ∨ k = 3 by omega) with rfl | rfl | rfl | rfl <;> rfl) rfl rfl rfl rfl)
      have pl6 := pl5
      refine go_aload_0 (DX5_mendCell.at 44 rfl) ?_
      refine go_getfield (DX5_mendCell.at 45 rfl) fX5_36 hC6.1 rfl ?_
      refine go_getfield (DX5_mendCell.at 46 rfl) fX5_205 pl6.1 rfl ?_
      refine go_cSx1 (DX5_mendCell.at 47 rfl) nX5_208 vJ6_bitCount_0f7a4 (by omega) (c_bitCount hsc) (Nat.le_of_ble_eq_true rfl) ?_
      exact go_iret (DX5_mendCell.at 48 rfl) rfl rfl (RI.mk (by rw [mdF_in hA ht hc, cI_t a1, mdA_s hW]; exact ⟨rfl, hC6⟩))
    · refine go_istore_3 (DX5_mendCell.at 7 rfl) ?_
      refine go_iload_3 (DX5_mendCell.at 8 rfl) ?_
      refine go_if_ge 20 (DX5_mendCell.at 9 rfl) (by decide) (fun c15 => ?_) (fun c15 => absurd (by decide) c15)
      refine go_aload_0 (DX5_mendCell.at 12 rfl) ?_
      refine go_getfield (DX5_mendCell.at 13 rfl) fX5_10 hC2.1 rfl ?_
      refine go_iload_1 (DX5_mendCell.at 14 rfl) ?_
      refine go_aload_0 (DX5_mendCell.at 15 rfl) ?_
      refine go_getfield (DX5_mendCell.at 16 rfl) fX5_36 hC2.1 rfl ?_
      refine go_getfield (DX5_mendCell.at 17 rfl) fX5_205 q1.1 rfl ?_
      refine go_cVv2 (DX5_mendCell.at 18 rfl) nX5_262 vX4_countReads (by omega) (c_countReads hS2 hL (by omega) (by omega) (by omega)) hS2.1 rfl (Nat.le_of_ble_eq_true rfl) (fun h32 q32 => ?_)
      have hC3 := hC2.toNow (M := fun _ => True) q32 trivial
      have pl3 := q1.keep q32.2 (by omega)
      refine go_aload_0 (DX5_mendCell.at 19 rfl) ?_
      refine go_getfield (DX5_mendCell.at 20 rfl) fX5_10 hC3.1 rfl ?_
      refine go_iload_1 (DX5_mendCell.at 21 rfl) ?_
      refine go_iload_2 (DX5_mendCell.at 22 rfl) ?_
      refine go_aload_0 (DX5_mendCell.at 23 rfl) ?_
      refine go_getfield (DX5_mendCell.at 24 rfl) fX5_36 hC3.1 rfl ?_
      refine go_getfield (DX5_mendCell.at 25 rfl) fX5_213 pl3.1 rfl ?_
      refine go_cVv3 (DX5_mendCell.at 26 rfl) nX5_265 vX4_bringBack (by omega) (c_bringBack q32.1 (by omega) (show c < 20 by omega) (hM t ht) hR.2.2.2.2.2.1 hA.q160 hpl hb1 hb2 (by omega)) q32.1.1 rfl (Nat.le_of_ble_eq_true rfl) (fun h48 q48 => ?_)
      have hC4 := hC3.toNow (M := fun _ => True) q48 trivial
      have pl4 := pl3.keep q48.2 (by omega)
      refine go_aload_0 (DX5_mendCell.at 27 rfl) ?_
      refine go_getfield (DX5_mendCell.at 28 rfl) fX5_10 hC4.1 rfl ?_
      refine go_dup (DX5_mendCell.at 29 rfl) rfl ?_
      refine go_getfield (DX5_mendCell.at 30 rfl) fX5_192 q48.1.1 rfl ?_
      refine go_iconst (v := nI 1) (DX5_mendCell.at 31 rfl) (by decide) ?_
      refine go_iadd (DX5_mendCell.at 32 rfl) ?_
      refine go_putSt (DX5_mendCell.at 33 rfl) fX5_192 (by decide) q48.1 (fun h61 q61 => ?_)
      have hC5 := hC4.toNow (M := fun _ => True) q61 trivial
      have pl5 := pl4.keep q61.2 (by omega)
      refine go_iload_3 (DX5_mendCell.at 34 rfl) ?_
      refine go_iconst (v := nI 1) (DX5_mendCell.at 35 rfl) (by decide) ?_
      refine go_icmp_ne 82 (DX5_mendCell.at 36 rfl) (by decide) (fun c66 => ?_) (fun c66 => absurd c66 (by decide))
      have hC6 := hC2.toNow (q32.then (q48.then q61)) (hR.mnd (w := 3) ht hc hX16 hp1 hp2 rfl rfl rfl rfl rfl rfl (fun k hk => by rcases (show k = 0 ∨ k = 1 ∨ k = 2 ∨ k = 3 by omega) with rfl | rfl | rfl | rfl <;> rfl) rfl rfl rfl rfl)
      have pl6 := pl5
      refine go_aload_0 (DX5_mendCell.at 44 rfl) ?_
      refine go_getfield (DX5_mendCell.at 45 rfl) fX5_36 hC6.1 rfl ?_
      refine go_getfield (DX5_mendCell.at 46 rfl) fX5_205 pl6.1 rfl ?_
      refine go_cSx1 (DX5_mendCell.at 47 rfl) nX5_208 vJ6_bitCount_0f7a4 (by omega) (c_bitCount hsc) (Nat.le_of_ble_eq_true rfl) ?_
      exact go_iret (DX5_mendCell.at 48 rfl) rfl rfl (RI.mk (by rw [mdF_in hA ht hc, cI_t a1, mdA_s hW]; exact ⟨rfl, hC6⟩))
  · refine go_istore_3 (DX5_mendCell.at 7 rfl) ?_
    refine go_iload_3 (DX5_mendCell.at 8 rfl) ?_
    refine go_if_ge 20 (DX5_mendCell.at 9 rfl) (by decide) (fun c15 => absurd c15 (by decide)) (fun c15 => ?_)
    refine go_iload_3 (DX5_mendCell.at 10 rfl) ?_
    exact go_iret (DX5_mendCell.at 11 rfl) rfl rfl (RI.mk (by rw [mdF_in hA ht hc, cI_t a1, mdA_n hW]; exact ⟨rfl, hC2⟩))

end CL
end
section
/-! THE CLASS: what is done to a node -/
theorem Go.weaken {E : AEnv} {Y : MI} {d k n pc : Nat} {ls : List (Option Value)} {st : List Value} {h : List va_E} {Ψ Φ : Pst} (hG : Go E Y d k n pc ls st h Ψ) (hw : ∀ r h', Ψ r h' → Φ r h') : Go E Y d k n pc ls st h Φ := by
  intro p l e R s m args below meth c Q C ret
  exact hG p l e R s m args below meth c Q C (fun r h' H locs cells slots lsA pc hΨ => ret r h' H locs cells slots lsA pc (hw r h' hΨ))
noncomputable def lnG (nd : Nat) : Nat → Nat → Ab → Nat × Ab
  | 0, _, A => (0, A)
  | m + 1, t, A => cI (bit (aM A t) (con (nc (aG A) (aS A)) nd (t * aH A))) (lnG nd m (t + 1) A) ((lnG nd m (t + 1) (aLos A t (con (nc (aG A) (aS A)) nd (t * aH A)))).1 + 1, (lnG nd m (t + 1) (aLos A t (con (nc (aG A) (aS A)) nd (t * aH A)))).2)
theorem lnG_t {nd m t : Nat} {A : Ab} (h : bit (aM A t) (con (nc (aG A) (aS A)) nd (t * aH A))) : lnG nd (m + 1) t A = lnG nd m (t + 1) A := cI_t h
theorem lnG_f {nd m t : Nat} {A : Ab} (h : ¬ bit (aM A t) (con (nc (aG A) (aS A)) nd (t * aH A))) : lnG nd (m + 1) t A = ((lnG nd m (t + 1) (aLos A t (con (nc (aG A) (aS A)) nd (t * aH A)))).1 + 1, (lnG nd m (t + 1) (aLos A t (con (nc (aG A) (aS A)) nd (t * aH A)))).2) := cI_f h
/-- a count; none is NONE -/
def cnI (k : Nat) : Int32 := if k = 0 then -5 else nI k
noncomputable def lsF (A : Ab) (x : Int32) : Int32 × Ab := cI (inR x (nc (aG A) (aS A))) (cnI (lnG x.toNatClampNeg (aT A) 0 A).1, (lnG x.toNatClampNeg (aT A) 0 A).2) (-1, A)
noncomputable def mnG (nd : Nat) : Nat → Nat → Ab → Option (Nat × Ab)
  | 0, _, A => some (0, A)
  | m + 1, t, A => cI (bit (aM A t) (con (nc (aG A) (aS A)) nd (t * aH A)))
    (match wyF A t (con (nc (aG A) (aS A)) nd (t * aH A)) with
      | none => none
      | some p => match mnG nd m (t + 1) (aMnd A t (con (nc (aG A) (aS A)) nd (t * aH A)) p.1 p.2.1 p.2.2) with
        | none => none
        | some r => some (pcn p.2.1 20 + r.1, r.2)) (mnG nd m (t + 1) A)
theorem mnG_f {nd m t : Nat} {A : Ab} (h : ¬ bit (aM A t) (con (nc (aG A) (aS A)) nd (t * aH A))) : mnG nd (m + 1) t A = mnG nd m (t + 1) A := cI_f h
theorem mnG_n {nd m t : Nat} {A : Ab} (h : bit (aM A t) (con (nc (aG A) (aS A)) nd (t * aH A))) (hw : NoX A t (con (nc (aG A) (aS A)) nd (t * aH A))) : mnG nd (m + 1) t A = none := (cI_t h).trans (by rw [wyF_n hw])
theorem mnG_s {nd m t w src X : Nat} {A : Ab} (h : bit (aM A t) (con (nc (aG A) (aS A)) nd (t * aH A))) (hw : WyX A t (con (nc (aG A) (aS A)) nd (t * aH A)) w src X) : mnG nd (m + 1) t A = (match mnG nd m (t + 1) (aMnd A t (con (nc (aG A) (aS A)) nd (t * aH A)) w src X) with
        | none => none
        | some r => some (pcn src 20 + r.1, r.2)) := (cI_t h).trans (by rw [wyF_s hw])
noncomputable def mnF (A : Ab) (x : Int32) : Int32 × Ab := cI (inR x (nc (aG A) (aS A))) (match mnG x.toNatClampNeg (aT A) 0 A with
  | none => (-4, A)
  | some r => (cnI r.1, r.2)) (-1, A)
theorem way_cases (A : Ab) (t c : Nat) : (∃ w src X, WyX A t c w src X) ∨ wyF A t c = none := by
  by_cases q : ∃ p : Nat × Nat × Nat, WyX A t c p.1 p.2.1 p.2.2
  · obtain ⟨p, q⟩ := q
    exact Or.inl ⟨_, _, _, q⟩
  · exact Or.inr (dif_neg q)
theorem mdA_0 {A : Ab} {t c : Nat} (h : wyF A t c = none) : mdA A t c = (-4, A) := by
  unfold mdA
  rw [h]
theorem nI_m4 {k : Nat} (h : k < 2 ^ 31) : ¬ nI k = -4 := fun e => absurd (show nI k < 0 by rw [e]; decide) (nI_pos h)
theorem mnG_0 {nd m t : Nat} {A : Ab} (h : bit (aM A t) (con (nc (aG A) (aS A)) nd (t * aH A))) (hw : wyF A t (con (nc (aG A) (aS A)) nd (t * aH A)) = none) : mnG nd (m + 1) t A = none := (cI_t h).trans (by rw [hw])
section CL
variable {E : AEnv} {d : Nat} {h h' : List va_E} {b : Nat} {A : Ab} {B S : RP} {n : Nat} {Hs : Nat → RP} {tk : Nat} {o X : Nat → Int32} {G : Nat → Option va_E}
theorem c_loseCellsOn {x : Int32} (hC : ClAt G h b (RepS A) B S n Hs tk o X) (hd : 4 ≤ d) : Calls E mX5_loseCellsOn d 0 0 [.ref b, .int x] h (RI (fun r h' => r = (lsF A x).1 ∧ ClAt G h' b (RepS (lsF A x).2) B S n Hs tk o X)) := by
  refine Calls.of (ls := [some (.ref b), some (.int x), none, none]) (by decide +kernel) rfl (Nat.le_of_ble_eq_true rfl) (cat_ok rfl) ?_
  obtain ⟨σ, hS, hR⟩ := hC.2.2.1
  have hA := hR.1
  have hL := hR.2.1
  have hn20 := hA.1.nc
  have hT8 : aT A ≤ 8 := hA.1.2.2.2.2.2.2.1
  refine go_aload_0 (DX5_loseCellsOn.at 0 rfl) ?_
  refine go_getfield (DX5_loseCellsOn.at 1 rfl) fX5_10 hC.1 rfl ?_
  refine go_iload_1 (DX5_loseCellsOn.at 2 rfl) ?_
  refine go_cVx1 (DX5_loseCellsOn.at 3 rfl) nX5_147 vX4_hasNode (by omega) (c_hasNode hS hL (by omega)) hS.1 rfl (Nat.le_of_ble_eq_true rfl) ?_
  refine go_if_ne 13 (DX5_loseCellsOn.at 4 rfl) (by decide) (fun c8 => ?_) (fun c8 => ?_)
  · rw [bP_eq0, Classical.not_not] at c8
    obtain ⟨nd, hnd, rfl⟩ := inR_ex (by omega) c8
    have e : lsF A (nI nd) = (cnI (lnG nd (aT A) 0 A).1, (lnG nd (aT A) 0 A).2) := by
      unfold lsF
      rw [cI_t c8, nI_cl (by omega)]
    rw [e]
    generalize hRR : lnG nd (aT A) 0 A = R
    refine go_iconst (v := nI 0) (DX5_loseCellsOn.at 7 rfl) (by decide) ?_
    refine go_istore_2 (DX5_loseCellsOn.at 8 rfl) ?_
    refine go_iconst (v := nI 0) (DX5_loseCellsOn.at 9 rfl) (by decide) ?_
    refine go_istore_3 (DX5_loseCellsOn.at 10 rfl) ?_
    have loop : ∀ (m t k : Nat) (A : Ab) (h : List va_E), t + m = aT A → nd < nc (aG A) (aS A) → k ≤ t → ClAt G h b (RepS A) B S n Hs tk o X → (k + (lnG nd m t A).1, (lnG nd m t A).2) = R → Go E mX5_loseCellsOn d 0 0 17 [some (.ref b), some (.int (nI nd)), some (.int (nI k)), some (.int (nI t))] [] h (RI (fun r h' => r = cnI R.1 ∧ ClAt G h' b (RepS R.2) B S n Hs tk o X)) := by
      intro m
      induction m with
      | zero =>
        intro t k A h htm hnd hk hC hRR
        obtain ⟨σ, hS, hR⟩ := hC.2.2.1
        have hA := hR.1
        have hL := hR.2.1
        have hn20 := hA.1.nc
        have hT8 : aT A ≤ 8 := hA.1.2.2.2.2.2.2.1
        obtain rfl : t = aT A := by omega
        subst hRR
        show Go E mX5_loseCellsOn d 0 0 17 _ [] h (RI (fun r h' => r = cnI k ∧ ClAt G h' b (RepS A) B S n Hs tk o X))
        refine go_iload_3 (DX5_loseCellsOn.at 11 rfl) ?_
        refine go_aload_0 (DX5_loseCellsOn.at 12 rfl) ?_
        refine go_getfield (DX5_loseCellsOn.at 13 rfl) fX5_10 hC.1 rfl ?_
        refine go_getfield (DX5_loseCellsOn.at 14 rfl) fX5_183 hS.1 rfl ?_
        rw [show σ 0 2 = nI (aT A) from hL.2.2.1]
        refine go_icmp_ge 54 (DX5_loseCellsOn.at 15 rfl) (by decide) (fun c25 => ?_) (fun c25 => absurd (Int32.le_refl _) c25)
        refine go_iload_2 (DX5_loseCellsOn.at 28 rfl) ?_
        refine go_if_ne 63 (DX5_loseCellsOn.at 29 rfl) (by decide) (fun c55 => ?_) (fun c55 => ?_)
        · refine go_iload_2 (DX5_loseCellsOn.at 32 rfl) ?_
          exact go_iret (DX5_loseCellsOn.at 33 rfl) rfl rfl (RI.mk (by first | exact ⟨(if_neg (fun e => c55 (by rw [e]; rfl))).symm, hC⟩ | exact ⟨(if_pos ((nI_eq0 (by omega)).mp c55)).symm, hC⟩))
        · refine go_bipush (v := (-5)) (DX5_loseCellsOn.at 30 rfl) (by decide) ?_
          refine go_goto 64 (DX5_loseCellsOn.at 31 rfl) (by decide) ?_
          exact go_iret (DX5_loseCellsOn.at 33 rfl) rfl rfl (RI.mk (by first | exact ⟨(if_neg (fun e => c55 (by rw [e]; rfl))).symm, hC⟩ | exact ⟨(if_pos ((nI_eq0 (by omega)).mp c55)).symm, hC⟩))
      | succ m ih =>
        intro t k A h htm hnd hk hC hRR
        obtain ⟨σ, hS, hR⟩ := hC.2.2.1
        have hA := hR.1
        have hL := hR.2.1
        have hn20 := hA.1.nc
        have hT8 : aT A ≤ 8 := hA.1.2.2.2.2.2.2.1
        refine go_iload_3 (DX5_loseCellsOn.at 11 rfl) ?_
        refine go_aload_0 (DX5_loseCellsOn.at 12 rfl) ?_
        refine go_getfield (DX5_loseCellsOn.at 13 rfl) fX5_10 hC.1 rfl ?_
        refine go_getfield (DX5_loseCellsOn.at 14 rfl) fX5_183 hS.1 rfl ?_
        rw [show σ 0 2 = nI (aT A) from hL.2.2.1]
        refine go_icmp_ge 54 (DX5_loseCellsOn.at 15 rfl) (by decide) (fun c25 => absurd ((nI_leI (by omega) (by omega)).mp c25) (by omega)) (fun c25 => ?_)
        refine go_aload_0 (DX5_loseCellsOn.at 16 rfl) ?_
        refine go_iload_3 (DX5_loseCellsOn.at 17 rfl) ?_
        refine go_aload_0 (DX5_loseCellsOn.at 18 rfl) ?_
        refine go_getfield (DX5_loseCellsOn.at 19 rfl) fX5_10 hC.1 rfl ?_
        refine go_iload_3 (DX5_loseCellsOn.at 20 rfl) ?_
        refine go_iload_1 (DX5_loseCellsOn.at 21 rfl) ?_
        refine go_cVx2 (DX5_loseCellsOn.at 22 rfl) nX5_259 vX4_cellOn (by omega) (c_cellOn hS hL (by omega) (show nd < 20 by omega) (by omega)) hS.1 rfl (Nat.le_of_ble_eq_true rfl) ?_
        refine go_cVi2 (DX5_loseCellsOn.at 23 rfl) nX5_81 vX5_loseCell (by omega) (c_loseCell hC (by omega)) hC.1 rfl (Nat.le_of_ble_eq_true rfl) (fun x39 h39 q39 => ?_)
        rw [loF_in hA (by omega) (con_lt (by omega))] at q39
        by_cases hb : bit (aM A t) (con (nc (aG A) (aS A)) nd (t * aH A))
        · rw [cI_t hb] at q39
          dsimp only at q39
          obtain ⟨rfl, hC1⟩ := q39
          refine go_if_lt 48 (DX5_loseCellsOn.at 24 rfl) (by decide) (fun c42 => ?_) (fun c42 => absurd (by decide) c42)
          refine go_iincN_3 (DX5_loseCellsOn.at 26 rfl) ?_
          refine go_goto 17 (DX5_loseCellsOn.at 27 rfl) (by decide) ?_
          exact ih (t + 1) k A _ (by omega) hnd (by omega) hC1 (by rw [← hRR, lnG_t hb])
        · rw [cI_f hb] at q39
          dsimp only at q39
          obtain ⟨rfl, hC1⟩ := q39
          have hroom := hA.qroom (show t < aT A by omega) (con_lt (by omega)) hb
          refine go_if_lt 48 (DX5_loseCellsOn.at 24 rfl) (by decide) (fun c42 => absurd c42 (nI_pos (by omega))) (fun c42 => ?_)
          refine go_iincN_2 (DX5_loseCellsOn.at 25 rfl) ?_
          refine go_iincN_3 (DX5_loseCellsOn.at 26 rfl) ?_
          refine go_goto 17 (DX5_loseCellsOn.at 27 rfl) (by decide) ?_
          exact ih (t + 1) (k + 1) (aLos A t (con (nc (aG A) (aS A)) nd (t * aH A))) _ (by show t + 1 + m = aT A; omega) hnd (by omega) hC1 (by rw [← hRR, lnG_f hb, Nat.add_assoc, Nat.add_comm 1])
    exact loop (aT A) 0 0 A h (Nat.zero_add _) hnd (Nat.le_refl 0) hC (by rw [hRR, Nat.zero_add])
  · rw [bP_eq0] at c8
    have e : lsF A x = (-1, A) := cI_f c8
    refine go_iconst (v := (-1)) (DX5_loseCellsOn.at 5 rfl) (by decide) ?_
    exact go_iret (DX5_loseCellsOn.at 6 rfl) rfl rfl (RI.mk (by rw [e]; exact ⟨rfl, hC⟩))

theorem c_mendCellsOn {x : Int32} (hC : ClAt G h b (RepS A) B S n Hs tk o X) (hd : 6 ≤ d) : Calls E mX5_mendCellsOn d 0 0 [.ref b, .int x] h (RI (fun r h' => r = (mnF A x).1 ∧ ∃ N', ClAt G h' b N' B S n Hs tk o X ∧ (0 ≤ r → N' = RepS (mnF A x).2))) := by
  refine Calls.of (ls := [some (.ref b), some (.int x), none, none, none]) (by decide +kernel) rfl (Nat.le_of_ble_eq_true rfl) (cat_ok rfl) ?_
  obtain ⟨σ, hS, hR⟩ := hC.2.2.1
  have hA := hR.1
  have hL := hR.2.1
  have hn20 := hA.1.nc
  have hT8 : aT A ≤ 8 := hA.1.2.2.2.2.2.2.1
  refine go_aload_0 (DX5_mendCellsOn.at 0 rfl) ?_
  refine go_getfield (DX5_mendCellsOn.at 1 rfl) fX5_10 hC.1 rfl ?_
  refine go_iload_1 (DX5_mendCellsOn.at 2 rfl) ?_
  refine go_cVx1 (DX5_mendCellsOn.at 3 rfl) nX5_147 vX4_hasNode (by omega) (c_hasNode hS hL (by omega)) hS.1 rfl (Nat.le_of_ble_eq_true rfl) ?_
  refine go_if_ne 13 (DX5_mendCellsOn.at 4 rfl) (by decide) (fun c8 => ?_) (fun c8 => ?_)
  · rw [bP_eq0, Classical.not_not] at c8
    obtain ⟨nd, hnd, rfl⟩ := inR_ex (by omega) c8
    refine go_iconst (v := nI 0) (DX5_mendCellsOn.at 7 rfl) (by decide) ?_
    refine go_istore_2 (DX5_mendCellsOn.at 8 rfl) ?_
    refine go_iconst (v := nI 0) (DX5_mendCellsOn.at 9 rfl) (by decide) ?_
    refine go_istore_3 (DX5_mendCellsOn.at 10 rfl) ?_
    have e : mnF A (nI nd) = (match mnG nd (aT A) 0 A with
      | none => (-4, A)
      | some r => (cnI r.1, r.2)) := by
      unfold mnF
      rw [cI_t c8, nI_cl (by omega)]
    rw [e]
    generalize hRR : mnG nd (aT A) 0 A = R
    have loop : ∀ (m t k : Nat) (A : Ab) (h : List va_E) (x4 : Option Value), t + m = aT A → nd < nc (aG A) (aS A) → k ≤ 20 * t → ClAt G h b (RepS A) B S n Hs tk o X → R = (match mnG nd m t A with | none => none | some r => some (k + r.1, r.2)) → Go E mX5_mendCellsOn d 0 0 17 [some (.ref b), some (.int (nI nd)), some (.int (nI k)), some (.int (nI t)), x4] [] h (RI (fun r h' => (R = none → r = (-4)) ∧ (∀ p, R = some p → r = cnI p.1) ∧ ∃ N', ClAt G h' b N' B S n Hs tk o X ∧ ∀ p, R = some p → N' = RepS p.2)) := by
      intro m
      induction m with
      | zero =>
        intro t k A h x4 htm hnd hk hC hRR
        obtain ⟨σ, hS, hR⟩ := hC.2.2.1
        have hA := hR.1
        have hL := hR.2.1
        have hn20 := hA.1.nc
        have hT8 : aT A ≤ 8 := hA.1.2.2.2.2.2.2.1
        obtain rfl : t = aT A := by omega
        replace hRR : R = some (k, A) := hRR
        refine go_iload_3 (DX5_mendCellsOn.at 11 rfl) ?_
        refine go_aload_0 (DX5_mendCellsOn.at 12 rfl) ?_
        refine go_getfield (DX5_mendCellsOn.at 13 rfl) fX5_10 hC.1 rfl ?_
        refine go_getfield (DX5_mendCellsOn.at 14 rfl) fX5_183 hS.1 rfl ?_
        rw [show σ 0 2 = nI (aT A) from hL.2.2.1]
        refine go_icmp_ge 69 (DX5_mendCellsOn.at 15 rfl) (by decide) (fun c25 => ?_) (fun c25 => absurd (Int32.le_refl _) c25)
        refine go_iload_2 (DX5_mendCellsOn.at 38 rfl) ?_
        refine go_if_ne 78 (DX5_mendCellsOn.at 39 rfl) (by decide) (fun c70 => ?_) (fun c70 => ?_)
        · have ek : cnI k = nI k := if_neg (fun e => c70 (by rw [e]; rfl))
          refine go_iload_2 (DX5_mendCellsOn.at 42 rfl) ?_
          exact go_iret (DX5_mendCellsOn.at 43 rfl) rfl rfl (RI.mk ⟨fun e => (by rw [hRR] at e; cases e), fun p e => (by rw [hRR] at e; cases e; exact ek.symm), _, hC, fun p e => (by rw [hRR] at e; cases e; rfl)⟩)
        · have ek : cnI k = -5 := if_pos ((nI_eq0 (by omega)).mp c70)
          refine go_bipush (v := (-5)) (DX5_mendCellsOn.at 40 rfl) (by decide) ?_
          refine go_goto 79 (DX5_mendCellsOn.at 41 rfl) (by decide) ?_
          exact go_iret (DX5_mendCellsOn.at 43 rfl) rfl rfl (RI.mk ⟨fun e => (by rw [hRR] at e; cases e), fun p e => (by rw [hRR] at e; cases e; exact ek.symm), _, hC, fun p e => (by rw [hRR] at e; cases e; rfl)⟩)
      | succ m ih =>
        intro t k A h x4 htm hnd hk hC hRR
        obtain ⟨σ, hS, hR⟩ := hC.2.2.1
        have hA := hR.1
        have hL := hR.2.1
        have hn20 := hA.1.nc
        have hT8 : aT A ≤ 8 := hA.1.2.2.2.2.2.2.1
        refine go_iload_3 (DX5_mendCellsOn.at 11 rfl) ?_
        refine go_aload_0 (DX5_mendCellsOn.at 12 rfl) ?_
        refine go_getfield (DX5_mendCellsOn.at 13 rfl) fX5_10 hC.1 rfl ?_
        refine go_getfield (DX5_mendCellsOn.at 14 rfl) fX5_183 hS.1 rfl ?_
        rw [show σ 0 2 = nI (aT A) from hL.2.2.1]
        refine go_icmp_ge 69 (DX5_mendCellsOn.at 15 rfl) (by decide) (fun c25 => absurd ((nI_leI (by omega) (by omega)).mp c25) (by omega)) (fun c25 => ?_)
        refine go_aload_0 (DX5_mendCellsOn.at 16 rfl) ?_
        refine go_iload_3 (DX5_mendCellsOn.at 17 rfl) ?_
        refine go_aload_0 (DX5_mendCellsOn.at 18 rfl) ?_
        refine go_getfield (DX5_mendCellsOn.at 19 rfl) fX5_10 hC.1 rfl ?_
        refine go_iload_3 (DX5_mendCellsOn.at 20 rfl) ?_
        refine go_iload_1 (DX5_mendCellsOn.at 21 rfl) ?_
        refine go_cVx2 (DX5_mendCellsOn.at 22 rfl) nX5_259 vX4_cellOn (by omega) (c_cellOn hS hL (by omega) (show nd < 20 by omega) (by omega)) hS.1 rfl (Nat.le_of_ble_eq_true rfl) ?_
        refine go_cVi2 (DX5_mendCellsOn.at 23 rfl) nX5_88 vX5_mendCell (by omega) (c_mendCell hC (by omega)) hC.1 rfl (Nat.le_of_ble_eq_true rfl) (fun x39 h39 q39 => ?_)
        rw [mdF_in hA (by omega) (con_lt (by omega))] at q39
        by_cases hb : bit (aM A t) (con (nc (aG A) (aS A)) nd (t * aH A))
        · rcases way_cases A t (con (nc (aG A) (aS A)) nd (t * aH A)) with ⟨w, src, X', hW⟩ | hW
          · rw [cI_t hb, mdA_s hW] at q39
            dsimp only at q39
            obtain ⟨rfl, hC1⟩ := q39
            have hp20 := pcn_le src 20
            refine go_istore_4 (DX5_mendCellsOn.at 24 rfl) ?_
            refine go_iload_4 (DX5_mendCellsOn.at 25 rfl) ?_
            refine go_bipush (v := (-4)) (DX5_mendCellsOn.at 26 rfl) (by decide) ?_
            refine go_icmp_ne 54 (DX5_mendCellsOn.at 27 rfl) (by decide) (fun c48 => ?_) (fun c48 => absurd c48 (nI_m4 (by omega)))
            refine go_iload_2 (DX5_mendCellsOn.at 30 rfl) ?_
            refine go_iload_4 (DX5_mendCellsOn.at 31 rfl) ?_
            refine go_iconst (v := nI 0) (DX5_mendCellsOn.at 32 rfl) (by decide) ?_
            refine go_cSx2 (DX5_mendCellsOn.at 33 rfl) nX5_268 vJ9_max_7cf53 (by omega) c_max (Nat.le_of_ble_eq_true rfl) ?_
            rw [show (if nI (pcn src 20) < nI 0 then nI 0 else nI (pcn src 20)) = nI (pcn src 20) from if_neg (nI_pos (by omega))]
            refine go_iadd (DX5_mendCellsOn.at 34 rfl) ?_
            rw [nI_add]
            refine go_istore_2 (DX5_mendCellsOn.at 35 rfl) ?_
            refine go_iincN_3 (DX5_mendCellsOn.at 36 rfl) ?_
            refine go_goto 17 (DX5_mendCellsOn.at 37 rfl) (by decide) ?_
            refine ih (t + 1) (k + pcn src 20) (aMnd A t (con (nc (aG A) (aS A)) nd (t * aH A)) w src X') _ _ (by show t + 1 + m = aT A; omega) hnd (by omega) hC1 ?_
            rw [hRR, mnG_s hb hW]
            cases mnG nd m (t + 1) (aMnd A t (con (nc (aG A) (aS A)) nd (t * aH A)) w src X') with
            | none => rfl
            | some r => show some (k + (pcn src 20 + r.1), r.2) = some (k + pcn src 20 + r.1, r.2); rw [Nat.add_assoc]
          · rw [cI_t hb, mdA_0 hW] at q39
            dsimp only at q39
            obtain ⟨rfl, hC1⟩ := q39
            have hR0 : R = none := by rw [hRR, mnG_0 hb hW]
            refine go_istore_4 (DX5_mendCellsOn.at 24 rfl) ?_
            refine go_iload_4 (DX5_mendCellsOn.at 25 rfl) ?_
            refine go_bipush (v := (-4)) (DX5_mendCellsOn.at 26 rfl) (by decide) ?_
            refine go_icmp_ne 54 (DX5_mendCellsOn.at 27 rfl) (by decide) (fun c48 => absurd rfl c48) (fun c48 => ?_)
            refine go_bipush (v := (-4)) (DX5_mendCellsOn.at 28 rfl) (by decide) ?_
            exact go_iret (DX5_mendCellsOn.at 29 rfl) rfl rfl (RI.mk ⟨fun _ => rfl, fun p e => (by rw [hR0] at e; cases e), _, hC1, fun p e => (by rw [hR0] at e; cases e)⟩)
        · rw [cI_f hb] at q39
          dsimp only at q39
          obtain ⟨rfl, hC1⟩ := q39
          refine go_istore_4 (DX5_mendCellsOn.at 24 rfl) ?_
          refine go_iload_4 (DX5_mendCellsOn.at 25 rfl) ?_
          refine go_bipush (v := (-4)) (DX5_mendCellsOn.at 26 rfl) (by decide) ?_
          refine go_icmp_ne 54 (DX5_mendCellsOn.at 27 rfl) (by decide) (fun c48 => ?_) (fun c48 => absurd c48 (by decide))
          refine go_iload_2 (DX5_mendCellsOn.at 30 rfl) ?_
          refine go_iload_4 (DX5_mendCellsOn.at 31 rfl) ?_
          refine go_iconst (v := nI 0) (DX5_mendCellsOn.at 32 rfl) (by decide) ?_
          refine go_cSx2 (DX5_mendCellsOn.at 33 rfl) nX5_268 vJ9_max_7cf53 (by omega) c_max (Nat.le_of_ble_eq_true rfl) ?_
          rw [if_pos (by decide)]
          refine go_iadd (DX5_mendCellsOn.at 34 rfl) ?_
          rw [show nI k + nI 0 = nI k from by rw [nI_add]; rfl]
          refine go_istore_2 (DX5_mendCellsOn.at 35 rfl) ?_
          refine go_iincN_3 (DX5_mendCellsOn.at 36 rfl) ?_
          refine go_goto 17 (DX5_mendCellsOn.at 37 rfl) (by decide) ?_
          exact ih (t + 1) k A _ _ (by omega) hnd (by omega) hC1 (by rw [hRR, mnG_f hb])
    refine Go.weaken (loop (aT A) 0 0 A h _ (Nat.zero_add _) hnd (Nat.zero_le _) hC ?_) ?_
    · rw [hRR]
      cases R with
      | none => rfl
      | some r => show some r = some (0 + r.1, r.2); rw [Nat.zero_add]
    · rintro r h1 ⟨y, rfl, h2, h3, N', h4, h5⟩
      refine RI.mk ?_
      cases R with
      | none => exact ⟨h2 rfl, N', h4, fun q => absurd q (by rw [h2 rfl]; decide)⟩
      | some p => exact ⟨h3 p rfl, N', h4, fun _ => h5 p rfl⟩
  · rw [bP_eq0] at c8
    have e : mnF A x = (-1, A) := cI_f c8
    refine go_iconst (v := (-1)) (DX5_mendCellsOn.at 5 rfl) (by decide) ?_
    exact go_iret (DX5_mendCellsOn.at 6 rfl) rfl rfl (RI.mk (by rw [e]; exact ⟨rfl, _, hC, fun _ => rfl⟩))

end CL
end
section
/-! THE CLASS: the queue is worked on, the stripes are scrubbed -/
noncomputable def wkG : Nat → Ab → Nat × Ab
  | 0, A => (0, A)
  | m + 1, A => match aQ A with
    | [] => (0, A)
    | x :: _ => match wyF A (x / 20) (x % 20) with
      | none => wkG m (aRot A)
      | some p => ((wkG m (aMnd A (x / 20) (x % 20) p.1 p.2.1 p.2.2)).1 + 1, (wkG m (aMnd A (x / 20) (x % 20) p.1 p.2.1 p.2.2)).2)
theorem wkG_e {m : Nat} {A : Ab} (h : aQ A = []) : wkG m A = (0, A) := by
  cases m with
  | zero => rfl
  | succ m =>
    unfold wkG
    rw [h]
theorem wkG_n {m x : Nat} {l : List Nat} {A : Ab} (h : aQ A = x :: l) (hw : wyF A (x / 20) (x % 20) = none) : wkG (m + 1) A = wkG m (aRot A) := by
  rw [wkG.eq_2, h]
  dsimp only
  rw [hw]
theorem wkG_s {m x w src X : Nat} {l : List Nat} {A : Ab} (h : aQ A = x :: l) (hw : WyX A (x / 20) (x % 20) w src X) : wkG (m + 1) A = ((wkG m (aMnd A (x / 20) (x % 20) w src X)).1 + 1, (wkG m (aMnd A (x / 20) (x % 20) w src X)).2) := by
  rw [wkG.eq_2, h]
  dsimp only
  rw [wyF_s hw]
noncomputable def wkF (A : Ab) (x : Int32) : Int32 × Ab := cI (nI 1 ≤ x ∧ x ≤ nI 50) (cI (aQ A = []) (-5, A) (nI (wkG x.toNatClampNeg A).1, (wkG x.toNatClampNeg A).2)) (-2, A)
/-- the sums of the checks of a stripe -/
def aSum (A : Ab) (t : Nat) : Nat → Nat := vsum (colv (aG A) (aS A)) (aV A t) (2 ^ nc (aG A) (aS A) - 1) (nc (aG A) (aS A))
/-- the first cell up to j that is the culprit -/
noncomputable def cpG (A : Ab) (t : Nat) : Nat → Option Nat
  | 0 => none
  | j + 1 => match cpG A t j with
    | some c => some c
    | none => cI (CU (colv (aG A) (aS A)) (aSum A t) (hcv (aG A) (aS A) j) j) (some j) none
noncomputable def cpF (A : Ab) (t : Nat) : Option Nat := cpG A t (nc (aG A) (aS A))
theorem cpG_n {A : Ab} {t : Nat} : ∀ k, (∀ j, j < k → ¬ CU (colv (aG A) (aS A)) (aSum A t) (hcv (aG A) (aS A) j) j) → cpG A t k = none
  | 0, _ => rfl
  | k + 1, h => by
    show (match cpG A t k with | some c => some c | none => cI (CU (colv (aG A) (aS A)) (aSum A t) (hcv (aG A) (aS A) k) k) (some k) none) = none
    rw [cpG_n k (fun j hj => h j (by omega))]
    exact cI_f (h k (by omega))
theorem cpG_s {A : Ab} {t c : Nat} (hc : CU (colv (aG A) (aS A)) (aSum A t) (hcv (aG A) (aS A) c) c) (h : ∀ j, j < c → ¬ CU (colv (aG A) (aS A)) (aSum A t) (hcv (aG A) (aS A) j) j) : ∀ k, cpG A t (c + 1 + k) = some c
  | 0 => by
    show (match cpG A t c with | some c => some c | none => cI (CU (colv (aG A) (aS A)) (aSum A t) (hcv (aG A) (aS A) c) c) (some c) none) = some c
    rw [cpG_n c h]
    exact cI_t hc
  | k + 1 => by
    show (match cpG A t (c + 1 + k) with | some c => some c | none => cI (CU (colv (aG A) (aS A)) (aSum A t) (hcv (aG A) (aS A) (c + 1 + k)) (c + 1 + k)) (some (c + 1 + k)) none) = some c
    rw [cpG_s hc h k]
theorem cpF_s {A : Ab} {t c : Nat} (hn : c < nc (aG A) (aS A)) (hc : CU (colv (aG A) (aS A)) (aSum A t) (hcv (aG A) (aS A) c) c) (h : ∀ j, j < c → ¬ CU (colv (aG A) (aS A)) (aSum A t) (hcv (aG A) (aS A) j) j) : cpF A t = some c := by
  have q := cpG_s hc h (nc (aG A) (aS A) - (c + 1))
  rw [show c + 1 + (nc (aG A) (aS A) - (c + 1)) = nc (aG A) (aS A) by omega] at q
  exact q
theorem aSum_lt {A : Ab} {t : Nat} (hA : AOK A) : B6 (aSum A t) := vsum_lt (fun c _ i _ => colv_lt i) (fun c _ _ => hA.2.2.1 t c) _ (Nat.le_refl _)
noncomputable def scG : Nat → Nat → Ab → Nat × Ab
  | 0, _, A => (0, A)
  | m + 1, t, A => match cI (aM A t = 0) (cpF A t) none with
    | none => scG m (t + 1) A
    | some c => ((scG m (t + 1) (aPut A t c (aV A t c ^^^ aSum A t (hcv (aG A) (aS A) c)))).1 + 1, (scG m (t + 1) (aPut A t c (aV A t c ^^^ aSum A t (hcv (aG A) (aS A) c)))).2)
theorem scG_n {m t : Nat} {A : Ab} (h : cI (aM A t = 0) (cpF A t) none = none) : scG (m + 1) t A = scG m (t + 1) A := by
  rw [scG.eq_2, h]
theorem scG_s {m t c : Nat} {A : Ab} (h : cI (aM A t = 0) (cpF A t) none = some c) : scG (m + 1) t A = ((scG m (t + 1) (aPut A t c (aV A t c ^^^ aSum A t (hcv (aG A) (aS A) c)))).1 + 1, (scG m (t + 1) (aPut A t c (aV A t c ^^^ aSum A t (hcv (aG A) (aS A) c)))).2) := by
  rw [scG.eq_2, h]
noncomputable def scF (A : Ab) : Int32 × Ab := (cnI (scG (aT A) 0 A).1, (scG (aT A) 0 A).2)
section CL
variable {E : AEnv} {d : Nat} {h h' : List va_E} {b : Nat} {A : Ab} {B S : RP} {n : Nat} {Hs : Nat → RP} {tk : Nat} {o X : Nat → Int32} {G : Nat → Option va_E}
theorem c_workOnQueue {x : Int32} (hC : ClAt G h b (RepS A) B S n Hs tk o X) (hd : 6 ≤ d) : Calls E mX5_workOnQueue d 0 0 [.ref b, .int x] h (RI (fun r h' => r = (wkF A x).1 ∧ ClAt G h' b (RepS (wkF A x).2) B S n Hs tk o X)) := by
  refine Calls.of (ls := [some (.ref b), some (.int x), none, none, none]) (by decide +kernel) rfl (Nat.le_of_ble_eq_true rfl) (cat_ok rfl) ?_
  obtain ⟨σ, hS, hR⟩ := hC.2.2.1
  have hA := hR.1
  have hL := hR.2.1
  have hX := hR.2.2.1
  have hM := hR.2.2.2.1
  have hV := hR.2.2.2.2.1
  have hql := hR.2.2.2.2.2.1
  have hQ := hR.2.2.2.2.2.2.1
  have hn20 := hA.1.nc
  have hT8 : aT A ≤ 8 := hA.1.2.2.2.2.2.2.1
  refine go_iload_1 (DX5_workOnQueue.at 0 rfl) ?_
  refine go_iconst (v := nI 1) (DX5_workOnQueue.at 1 rfl) (by decide) ?_
  refine go_bipush (v := nI 50) (DX5_workOnQueue.at 2 rfl) (by decide) ?_
  refine go_cSx3 (DX5_workOnQueue.at 3 rfl) nX5_55 vX5_isWithin (by omega) c_isWithin (Nat.le_of_ble_eq_true rfl) ?_
  refine go_if_ne 13 (DX5_workOnQueue.at 4 rfl) (by decide) (fun c7 => ?_) (fun c7 => ?_)
  · rw [bI_eq0, Classical.not_not] at c7
    refine go_aload_0 (DX5_workOnQueue.at 7 rfl) ?_
    refine go_getfield (DX5_workOnQueue.at 8 rfl) fX5_10 hC.1 rfl ?_
    refine go_getfield (DX5_workOnQueue.at 9 rfl) fX5_131 hS.1 rfl ?_
    rw [hql]
    refine go_if_ne 26 (DX5_workOnQueue.at 10 rfl) (by decide) (fun c20 => ?_) (fun c20 => ?_)
    · refine go_iconst (v := nI 0) (DX5_workOnQueue.at 13 rfl) (by decide) ?_
      refine go_istore_2 (DX5_workOnQueue.at 14 rfl) ?_
      refine go_iconst (v := nI 0) (DX5_workOnQueue.at 15 rfl) (by decide) ?_
      refine go_istore_3 (DX5_workOnQueue.at 16 rfl) ?_
      obtain ⟨st, hst, rfl⟩ := inR_ex (n := 51) (by decide) (show inR x 51 from ⟨Int32.le_trans (by decide) c7.1, Int32.lt_of_le_of_lt c7.2 (by decide)⟩)
      have h5 : ¬ aQ A = [] := fun q => c20 (by rw [q]; rfl)
      have e : wkF A (nI st) = (nI (wkG st A).1, (wkG st A).2) := by
        unfold wkF
        rw [cI_t c7, cI_f h5, nI_cl (by omega)]
      rw [e]
      generalize hR0 : wkG st A = R
      have loop : ∀ (m s k : Nat) (A : Ab) (h : List va_E) (x4 : Option Value), s + m = st → k ≤ s → ClAt G h b (RepS A) B S n Hs tk o X → (k + (wkG m A).1, (wkG m A).2) = R → Go E mX5_workOnQueue d 0 0 30 [some (.ref b), some (.int (nI st)), some (.int (nI k)), some (.int (nI s)), x4] [] h (RI (fun r h' => r = nI R.1 ∧ ClAt G h' b (RepS R.2) B S n Hs tk o X)) := by
        intro m
        induction m with
        | zero =>
          intro s k A h x4 hsm hk hC hRR
          obtain rfl : s = st := by omega
          subst hRR
          refine go_iload_3 (DX5_workOnQueue.at 17 rfl) ?_
          refine go_iload_1 (DX5_workOnQueue.at 18 rfl) ?_
          refine go_icmp_ge 105 (DX5_workOnQueue.at 19 rfl) (by decide) (fun c32 => ?_) (fun c32 => absurd (Int32.le_refl _) c32)
          refine go_iload_2 (DX5_workOnQueue.at 51 rfl) ?_
          exact go_iret (DX5_workOnQueue.at 52 rfl) rfl rfl (RI.mk ⟨rfl, hC⟩)
        | succ m ih =>
          intro s k A h x4 hsm hk hC hRR
          obtain ⟨σ, hS, hR⟩ := hC.2.2.1
          have hA := hR.1
          have hL := hR.2.1
          have hX := hR.2.2.1
          have hM := hR.2.2.2.1
          have hV := hR.2.2.2.2.1
          have hql := hR.2.2.2.2.2.1
          have hQ := hR.2.2.2.2.2.2.1
          have hn20 := hA.1.nc
          have hT8 : aT A ≤ 8 := hA.1.2.2.2.2.2.2.1
          cases hq : aQ A with
          | nil =>
            refine go_iload_3 (DX5_workOnQueue.at 17 rfl) ?_
            refine go_iload_1 (DX5_workOnQueue.at 18 rfl) ?_
            refine go_icmp_ge 105 (DX5_workOnQueue.at 19 rfl) (by decide) (fun c32 => absurd ((nI_leI (by omega) (by omega)).mp c32) (by omega)) (fun c32 => ?_)
            refine go_aload_0 (DX5_workOnQueue.at 20 rfl) ?_
            refine go_getfield (DX5_workOnQueue.at 21 rfl) fX5_10 hC.1 rfl ?_
            refine go_getfield (DX5_workOnQueue.at 22 rfl) fX5_131 hS.1 rfl ?_
            rw [hql, hq]
            refine go_if_le 105 (DX5_workOnQueue.at 23 rfl) (by decide) (fun c42 => ?_) (fun c42 => absurd (by decide) c42)
            refine go_iload_2 (DX5_workOnQueue.at 51 rfl) ?_
            exact go_iret (DX5_workOnQueue.at 52 rfl) rfl rfl (RI.mk ⟨by rw [← hRR, wkG_e hq]; rfl, by rw [← hRR, wkG_e hq]; exact hC⟩)
          | cons x l =>
            have hxm : x ∈ aQ A := by rw [hq]; exact List.mem_cons_self
            have hx0 := hA.lt160 hxm
            obtain ⟨ht, hc, hb⟩ := (hA.2.2.2.2 x).mp hxm
            have hlen : (aQ A).length = l.length + 1 := by rw [hq]; rfl
            have hq160 := hA.q160
            refine go_iload_3 (DX5_workOnQueue.at 17 rfl) ?_
            refine go_iload_1 (DX5_workOnQueue.at 18 rfl) ?_
            refine go_icmp_ge 105 (DX5_workOnQueue.at 19 rfl) (by decide) (fun c32 => absurd ((nI_leI (by omega) (by omega)).mp c32) (by omega)) (fun c32 => ?_)
            refine go_aload_0 (DX5_workOnQueue.at 20 rfl) ?_
            refine go_getfield (DX5_workOnQueue.at 21 rfl) fX5_10 hC.1 rfl ?_
            refine go_getfield (DX5_workOnQueue.at 22 rfl) fX5_131 hS.1 rfl ?_
            rw [hql, hlen]
            refine go_if_le 105 (DX5_workOnQueue.at 23 rfl) (by decide) (fun c42 => absurd c42 (by rw [show (0 : Int32) = nI 0 from rfl, nI_leI (by omega) (by decide)]; omega)) (fun c42 => ?_)
            refine go_aload_0 (DX5_workOnQueue.at 24 rfl) ?_
            refine go_getfield (DX5_workOnQueue.at 25 rfl) fX5_10 hC.1 rfl ?_
            refine go_getfield (DX5_workOnQueue.at 26 rfl) fX5_165 hS.1 rfl ?_
            refine go_iconst (v := nI 0) (DX5_workOnQueue.at 27 rfl) (by decide) ?_
            refine go_cSx2 (DX5_workOnQueue.at 28 rfl) nX5_155 vX5_at (by omega) (c_at (Or.inl hS.2.1) (show 0 < 160 by decide) (by decide)) (Nat.le_of_ble_eq_true rfl) ?_
            rw [hQ 0 x (by rw [hq]; rfl)]
            refine go_istore_4 (DX5_workOnQueue.at 29 rfl) ?_
            refine go_aload_0 (DX5_workOnQueue.at 30 rfl) ?_
            refine go_iload_4 (DX5_workOnQueue.at 31 rfl) ?_
            refine go_bipush (v := nI 100) (DX5_workOnQueue.at 32 rfl) (by decide) ?_
            refine go_idiv (DX5_workOnQueue.at 33 rfl) (by decide) ?_
            rw [pk_div (by omega) (by decide) (by decide), show (100 * (x / 20) + x % 20) / 100 = x / 20 by omega]
            refine go_iload_4 (DX5_workOnQueue.at 34 rfl) ?_
            refine go_bipush (v := nI 100) (DX5_workOnQueue.at 35 rfl) (by decide) ?_
            refine go_irem (DX5_workOnQueue.at 36 rfl) (by decide) ?_
            rw [pk_rem (by omega) (by decide) (by decide), show (100 * (x / 20) + x % 20) % 100 = x % 20 by omega]
            refine go_cVi2 (DX5_workOnQueue.at 37 rfl) nX5_88 vX5_mendCell (by omega) (c_mendCell hC (by omega)) hC.1 rfl (Nat.le_of_ble_eq_true rfl) (fun x69 h69 q69 => ?_)
            rw [mdF_in hA ht hc, cI_t hb] at q69
            rcases way_cases A (x / 20) (x % 20) with ⟨w, src, X', hW⟩ | hW
            · rw [mdA_s hW] at q69
              dsimp only at q69
              obtain ⟨rfl, hC1⟩ := q69
              refine go_if_lt 81 (DX5_workOnQueue.at 38 rfl) (by decide) (fun c72 => absurd c72 (nI_pos (by have := pcn_le src 20; omega))) (fun c72 => ?_)
              refine go_iincN_2 (DX5_workOnQueue.at 39 rfl) ?_
              refine go_goto 99 (DX5_workOnQueue.at 40 rfl) (by decide) ?_
              refine go_iincN_3 (DX5_workOnQueue.at 49 rfl) ?_
              refine go_goto 30 (DX5_workOnQueue.at 50 rfl) (by decide) ?_
              exact ih (s + 1) (k + 1) _ _ _ (by omega) (by omega) hC1 (by rw [← hRR, wkG_s hq hW, Nat.add_assoc, Nat.add_comm 1])
            · rw [mdA_0 hW] at q69
              dsimp only at q69
              obtain ⟨rfl, hC1⟩ := q69
              obtain ⟨σ2, hS2, hR2⟩ := hC1.2.2.1
              have hql2 := hR2.2.2.2.2.2.1
              rw [hlen] at hql2
              refine go_if_lt 81 (DX5_workOnQueue.at 38 rfl) (by decide) (fun c72 => ?_) (fun c72 => absurd (by decide) c72)
              refine go_aload_0 (DX5_workOnQueue.at 41 rfl) ?_
              refine go_getfield (DX5_workOnQueue.at 42 rfl) fX5_10 hC1.1 rfl ?_
              refine go_iload_4 (DX5_workOnQueue.at 43 rfl) ?_
              refine go_cVv1 (DX5_workOnQueue.at 44 rfl) nX5_273 vX4_leaveQueue (by omega) (c_leaveQueue hS2 (p := 0) hql2 (by omega) (by omega) (hR2.2.2.2.2.2.2.1 0 x (by rw [hq]; rfl)) (fun j hj => absurd hj (Nat.not_lt_zero j)) (by omega)) hS2.1 rfl (Nat.le_of_ble_eq_true rfl) (fun h87 q87 => ?_)
              have hC2 := hC1.toNow (M := fun _ => True) q87 trivial
              refine go_aload_0 (DX5_workOnQueue.at 45 rfl) ?_
              refine go_getfield (DX5_workOnQueue.at 46 rfl) fX5_10 hC2.1 rfl ?_
              refine go_iload_4 (DX5_workOnQueue.at 47 rfl) ?_
              refine go_cVv1 (DX5_workOnQueue.at 48 rfl) nX5_277 vX4_joinQueue (by omega) (c_joinQueue q87.1 (q := l.length) rfl (by omega) (by omega)) q87.1.1 rfl (Nat.le_of_ble_eq_true rfl) (fun h96 q96 => ?_)
              have hC3 := hC1.toNow (q87.then q96) (hR2.rot hq rfl (fun a ha => by
                rw [rset_n (by omega), rset_n (by omega), rset_n (by omega), rset_n (by omega)]) (fun k hk => by
                show upd (upd (σ2 0) 8 (nI l.length)) 8 (nI (l.length + 1)) k = σ2 0 k
                by_cases e : k = 8
                · rw [e, pk_us, hql2]
                · rw [pk_un e, pk_un e]))
              refine go_iincN_3 (DX5_workOnQueue.at 49 rfl) ?_
              refine go_goto 30 (DX5_workOnQueue.at 50 rfl) (by decide) ?_
              exact ih (s + 1) k _ _ _ (by omega) (by omega) hC3 (by rw [← hRR, wkG_n hq hW])
      exact loop st 0 0 A h _ (Nat.zero_add _) (Nat.le_refl 0) hC (by rw [hR0, Nat.zero_add])
    · have h5 : aQ A = [] := List.length_eq_zero_iff.mp ((nI_eq0 (by have := hA.q160; omega)).mp c20)
      have e : wkF A x = (-5, A) := by
        unfold wkF
        rw [cI_t c7, cI_t h5]
      refine go_bipush (v := (-5)) (DX5_workOnQueue.at 11 rfl) (by decide) ?_
      exact go_iret (DX5_workOnQueue.at 12 rfl) rfl rfl (RI.mk (by rw [e]; exact ⟨rfl, hC⟩))
  · rw [bI_eq0] at c7
    have e : wkF A x = (-2, A) := cI_f c7
    refine go_bipush (v := (-2)) (DX5_workOnQueue.at 5 rfl) (by decide) ?_
    exact go_iret (DX5_workOnQueue.at 6 rfl) rfl rfl (RI.mk (by rw [e]; exact ⟨rfl, hC⟩))

end CL
end
section
/-! THE CLASS: orders are carried out -/
/-- the order at p -/
noncomputable def exO (Y : Nat → Nat) (N p : Nat) (A : Ab) : Int32 × Ab :=
  if Y p = 110 then lsF A (nI (nmv Y N (p + 1)))
  else if Y p = 119 then wrF A (nI (Y (p + 1) - 48)) (nI (nmv Y N (p + 3))) (nI (nmv Y N (nme Y N (p + 3) + 1)))
  else if Y p = 120 then loF A (nI (Y (p + 1) - 48)) (nI (nmv Y N (p + 3)))
  else mdF A (nI (Y (p + 1) - 48)) (nI (nmv Y N (p + 3)))
/-- an error, that is not NONE -/
def errI (x : Int32) : Prop := x < 0 ∧ x ≠ -5
/-- the orders from p on, so many -/
noncomputable def prG (Y : Nat → Nat) (N : Nat) : Nat → Nat → Ab → Int32 × Ab
  | 0, _, A => (0, A)
  | m + 1, p, A => cI (errI (exO Y N p A).1) (exO Y N p A) (prG Y N m ((ordR Y N p).2 + 1) (exO Y N p A).2)
noncomputable def pfF (Y : Nat → Nat) (N : Nat) (A : Ab) : Int32 × Ab := match (ffS Y N (N + 1) 0).1 with
  | some f => (-100 - nI f, A)
  | none => cI ((prG Y N (ffS Y N (N + 1) 0).2 0 A).1 < 0) (prG Y N (ffS Y N (N + 1) 0).2 0 A) (nI (ffS Y N (N + 1) 0).2, (prG Y N (ffS Y N (N + 1) 0).2 0 A).2)
theorem ordR_kind {Y : Nat → Nat} {N p : Nat} (h : (ordR Y N p).1 = true) : p < N ∧ (Y p = 110 ∨ Y p = 119 ∨ Y p = 120 ∨ Y p = 109) := by
  unfold ordR at h
  by_cases q : p < N ∧ Y p = 110
  · exact ⟨q.1, Or.inl q.2⟩
  · rw [if_neg q] at h
    by_cases q2 : p < N ∧ (Y p = 119 ∨ Y p = 120 ∨ Y p = 109)
    · exact ⟨q2.1, Or.inr q2.2⟩
    · rw [if_neg q2] at h
      cases h
theorem ffS_cnt {Y : Nat → Nat} {N : Nat} : ∀ m p, p ≤ N → (ffS Y N m p).2 ≤ N - p + 1
  | 0, p, _ => Nat.zero_le _
  | m + 1, p, hp => by
    unfold ffS
    by_cases q : (ordR Y N p).1 = false
    · rw [if_pos q]
      exact Nat.zero_le _
    · have ho : (ordR Y N p).1 = true := by
        cases e : (ordR Y N p).1 with
        | true => rfl
        | false => exact absurd e q
      have h1 := ordR_ok ho
      rw [if_neg q]
      by_cases q2 : (ordR Y N p).2 < N ∧ Y (ordR Y N p).2 = 59
      · rw [if_pos q2]
        have ih := ffS_cnt (Y := Y) (N := N) m ((ordR Y N p).2 + 1) (by omega)
        show (ffS Y N m ((ordR Y N p).2 + 1)).2 + 1 ≤ N - p + 1
        omega
      · rw [if_neg q2]
        by_cases q3 : (ordR Y N p).2 < N
        · rw [if_pos q3]
          show 1 ≤ N - p + 1
          omega
        · rw [if_neg q3]
          show 1 ≤ N - p + 1
          omega
theorem prG_no {Y : Nat → Nat} {N m p : Nat} {A : Ab} (h : ¬ errI (exO Y N p A).1) : prG Y N (m + 1) p A = prG Y N m ((ordR Y N p).2 + 1) (exO Y N p A).2 := cI_f h
theorem prG_yes {Y : Nat → Nat} {N m p : Nat} {A : Ab} (h : errI (exO Y N p A).1) : prG Y N (m + 1) p A = exO Y N p A := cI_t h
theorem nI_0x {x : Int32} : nI 0 ≤ x ↔ ¬ x < 0 := Int32.not_lt.symm
section CL
variable {E : AEnv} {d : Nat} {h h' : List va_E} {b : Nat} {A : Ab} {B S : RP} {n : Nat} {Hs : Nat → RP} {tk : Nat} {o X : Nat → Int32} {G : Nat → Option va_E} {Y : Nat → Nat} {N p : Nat}
theorem ffS_le {Y : Nat → Nat} {N f : Nat} (hN : N ≤ 60) (h : (ffS Y N (N + 1) 0).1 = some f) : f ≤ 100 := by
  have key : ∀ m p, p ≤ N → N < p + m → ∀ f, (ffS Y N m p).1 = some f → f ≤ N := by
    intro m
    induction m with
    | zero => intro p h1 h2; omega
    | succ m ih =>
      intro p hp hm f hf
      have hle := ordR_le (Y := Y) hp
      unfold ffS at hf
      by_cases q : (ordR Y N p).1 = false
      · rw [if_pos q] at hf
        cases hf
        exact hle
      · rw [if_neg q] at hf
        have ho : (ordR Y N p).1 = true := by
          cases e : (ordR Y N p).1 with
          | true => rfl
          | false => exact absurd e q
        have h1 := ordR_ok ho
        by_cases q2 : (ordR Y N p).2 < N ∧ Y (ordR Y N p).2 = 59
        · rw [if_pos q2] at hf
          exact ih ((ordR Y N p).2 + 1) (by omega) (by omega) f hf
        · rw [if_neg q2] at hf
          by_cases q3 : (ordR Y N p).2 < N
          · rw [if_pos q3] at hf
            cases hf
            exact hle
          · rw [if_neg q3] at hf
            cases hf
  have := key (N + 1) 0 (Nat.zero_le _) (by omega) f h
  omega
theorem m100 {f : Nat} (h : f ≤ 100) : -100 - nI f < 0 := by
  have hd : (List.range 101).all (fun f => decide (-100 - nI f < 0)) = true := by decide +kernel
  exact of_decide_eq_true (List.all_eq_true.mp hd f (List.mem_range.mpr (by omega)))
end CL
end
section
/-! WHAT EACH CALL ANSWERS, AND WHAT BECOMES OF THE STORE: (now, (how many, history), (taken, snapshot), (length, text)) -/
abbrev Zt : Type := Ab × (Nat × (Nat → Ab)) × (Nat × Ab) × (Nat × (Nat → Nat))
def zA (Z : Zt) : Ab := Z.1
def zn (Z : Zt) : Nat := Z.2.1.1
def zH (Z : Zt) : Nat → Ab := Z.2.1.2
def zk (Z : Zt) : Nat := Z.2.2.1.1
def zS (Z : Zt) : Ab := Z.2.2.1.2
def zN (Z : Zt) : Nat := Z.2.2.2.1
def zY (Z : Zt) : Nat → Nat := Z.2.2.2.2
def recA (n : Nat) (Hs : Nat → Ab) (B : Ab) : Nat → Ab := fun i => if i = (if n < 4 then n else 3) then B else if n < 4 then Hs i else Hs (i + 1)
theorem recH_rep {n : Nat} {Hs : Nat → Ab} {B : Ab} : recH n (fun i => RepS (Hs i)) (RepS B) = fun i => RepS (recA n Hs B i) := by
  funext i
  unfold recH recA
  by_cases q : i = (if n < 4 then n else 3)
  · rw [if_pos q, if_pos q]
  · rw [if_neg q, if_neg q]
    by_cases q2 : n < 4
    · rw [if_pos q2, if_pos q2]
    · rw [if_neg q2, if_neg q2]
/-- a change: recorded, if it answers neither an error nor NONE -/
noncomputable def chZ (Z : Zt) (R : Int32 × Ab) : Int32 × Zt := cI (R.1 < 0) (R.1, Z) (R.1, (R.2, (recN (zn Z), recA (zn Z) (zH Z) (zA Z)), Z.2.2))
theorem chZ_no {Z : Zt} {R : Int32 × Ab} (h : R.1 < 0) : chZ Z R = (R.1, Z) := cI_t h
theorem chZ_yes {Z : Zt} {R : Int32 × Ab} (h : ¬ R.1 < 0) : chZ Z R = (R.1, (R.2, (recN (zn Z), recA (zn Z) (zH Z) (zA Z)), Z.2.2)) := cI_f h
noncomputable def ceQ (A : Ab) (x y : Int32) (f : Nat → Nat → Int32) : Int32 := cI (inR x (aT A) ∧ inR y (nc (aG A) (aS A))) (f x.toNatClampNeg y.toNatClampNeg) (-1)
theorem ceQ_out {A : Ab} {x y : Int32} {f : Nat → Nat → Int32} (h : ¬ (inR x (aT A) ∧ inR y (nc (aG A) (aS A)))) : ceQ A x y f = -1 := cI_f h
theorem ceQ_in {A : Ab} {t c : Nat} {f : Nat → Nat → Int32} (hA : AOK A) (ht : t < aT A) (hc : c < nc (aG A) (aS A)) : ceQ A (nI t) (nI c) f = f t c := by
  have hn := hA.1.nc
  have h8 : aT A ≤ 8 := hA.1.2.2.2.2.2.2.1
  unfold ceQ
  rw [cI_t (cell_in hA ht hc), nI_cl (by omega), nI_cl (by omega)]
noncomputable def stQ (A : Ab) (x : Int32) (f : Nat → Int32) : Int32 := cI (inR x (aT A)) (f x.toNatClampNeg) (-1)
theorem stQ_out {A : Ab} {x : Int32} {f : Nat → Int32} (h : ¬ inR x (aT A)) : stQ A x f = -1 := cI_f h
theorem stQ_in {A : Ab} {t : Nat} {f : Nat → Int32} (hA : AOK A) (ht : t < aT A) : stQ A (nI t) f = f t := by
  have h8 : aT A ≤ 8 := hA.1.2.2.2.2.2.2.1
  unfold stQ
  rw [cI_t ((inR_nI (by omega) (by omega)).mpr ht), nI_cl (by omega)]
noncomputable def ndQ (A : Ab) (x : Int32) (f : Nat → Int32) : Int32 := cI (inR x (nc (aG A) (aS A))) (f x.toNatClampNeg) (-1)
theorem ndQ_out {A : Ab} {x : Int32} {f : Nat → Int32} (h : ¬ inR x (nc (aG A) (aS A))) : ndQ A x f = -1 := cI_f h
theorem ndQ_in {A : Ab} {c : Nat} {f : Nat → Int32} (hA : AOK A) (hc : c < nc (aG A) (aS A)) : ndQ A (nI c) f = f c := by
  have hn := hA.1.nc
  unfold ndQ
  rw [cI_t ((inR_nI (by omega) (by omega)).mpr hc), nI_cl (by omega)]
noncomputable def vaF (A : Ab) (x y : Int32) : Int32 := ceQ A x y (fun t c => cI (bit (aM A t) c) (-5) (nI (aV A t c)))
noncomputable def noF (A : Ab) (x y : Int32) : Int32 := ceQ A x y (fun t c => nI ((c + t * aH A) % nc (aG A) (aS A)))
noncomputable def ldF (A : Ab) (x : Int32) : Int32 := ndQ A x (aL A)
noncomputable def ltF (A : Ab) (x : Int32) : Int32 := stQ A x (fun t => nI (aM A t))
noncomputable def waF (A : Ab) (x : Int32) : Int32 := cI (x < 0) (-2) (match (aQ A)[x.toNatClampNeg]? with
  | none => -5
  | some y => nI (100 * (y / 20) + y % 20))
noncomputable def faF (A : Ab) (x : Int32) : Int32 := stQ A x (fun t => cI (aM A t = 0) (nI (flg (aSum A t) 6)) (-4))
noncomputable def asF (A : Ab) (x y : Int32) (f : Nat → Nat → Nat → Int32) (z : Int32) : Int32 := ceQ A x y (fun t c => cI (bit (aM A t) c) (match wyF A t c with
  | none => z
  | some p => f p.1 p.2.1 p.2.2) (-5))
noncomputable def cuF (A : Ab) (x : Int32) : Int32 := stQ A x (fun t => cI (aM A t = 0) (match cpF A t with
  | none => -5
  | some c => nI c) (-4))
noncomputable def svF (A : Ab) (x : Int32) : Int32 := cI (inR x (2 ^ nc (aG A) (aS A))) (bP (IndP (colv (aG A) (aS A)) x.toNatClampNeg (nc (aG A) (aS A)))) (-2)
noncomputable def aRun (A : Ab) (w : Nat) : Nat × Nat := frun (colv (aG A) (aS A)) (aG A) (aS A) (aH A) (aT A) w
noncomputable def fsF (A : Ab) (x : Int32) : Int32 := cI (nI 1 ≤ x ∧ x ≤ nI 4) (nI (aRun A x.toNatClampNeg).1) (-2)
noncomputable def fnG (A : Ab) : Nat → Nat → Int32
  | 0, _ => -5
  | m + 1, w => if (aRun A w).1 = 0 then fnG A m (w + 1) else nI (aRun A w).2
noncomputable def fnF (A : Ab) : Int32 := fnG A 4 1
def bzG (L : Nat → Int32) : Nat → Int32 × Int32
  | 0 => (-5, 0)
  | j + 1 => if (bzG L j).2 < L j then (nI j, L j) else bzG L j
def bzF (A : Ab) : Int32 := (bzG (aL A) (nc (aG A) (aS A))).1
def totZ (Z : Zt) (j : Nat) : Int32 := if j = 0 then nI (aG (zA Z)) else if j = 1 then nI (aS (zA Z)) else if j = 2 then nI (aT (zA Z)) else if j = 3 then nI (aH (zA Z)) else if j = 4 then nI (nc (aG (zA Z)) (aS (zA Z))) else if j = 5 then nI (aQ (zA Z)).length
  else if j < 10 then aK (zA Z) (j - 6) else if j = 10 then nI (zn Z) else nI (zN Z)
noncomputable def toF (Z : Zt) (x : Int32) : Int32 := cI (inR x 12) (totZ Z x.toNatClampNeg) (-2)
def SlC (x y z w : Int32) : Prop := ∃ g s T sh, x = nI g ∧ y = nI s ∧ z = nI T ∧ w = nI sh ∧ LayOK g s T sh
noncomputable def slF (A : Ab) (x y z w : Int32) : Int32 × Ab := cI (SlC x y z w) (nI (nc x.toNatClampNeg y.toNatClampNeg), aNew A x.toNatClampNeg y.toNatClampNeg z.toNatClampNeg w.toNatClampNeg) (-2, A)
theorem slF_out {A : Ab} {x y z w : Int32} (h : ¬ SlC x y z w) : slF A x y z w = (-2, A) := cI_f h
theorem slF_in {A : Ab} {g s T sh : Nat} (h : LayOK g s T sh) : slF A (nI g) (nI s) (nI T) (nI sh) = (nI (nc g s), aNew A g s T sh) := by
  obtain ⟨h1, h2, h3, h4, h5, h6, h7, h8⟩ := h
  unfold slF
  rw [cI_t ⟨g, s, T, sh, rfl, rfl, rfl, rfl, h1, h2, h3, h4, h5, h6, h7, h8⟩, nI_cl (by omega), nI_cl (by omega), nI_cl (by omega), nI_cl (by omega)]
def unZ (Z : Zt) : Int32 × Zt := if zn Z = 0 then (-5, Z) else (nI (zn Z - 1), (zH Z (zn Z - 1), (zn Z - 1, zH Z), Z.2.2))
def keZ (Z : Zt) : Int32 × Zt := (nI (aQ (zA Z)).length, (zA Z, Z.2.1, (1, zA Z), Z.2.2.2))
def reZ (Z : Zt) : Int32 × Zt := if zk Z = 0 then (-5, Z) else (nI (aQ (zS Z)).length, (zS Z, (recN (zn Z), recA (zn Z) (zH Z) (zA Z)), Z.2.2))
def tyZ (Z : Zt) (v : Nat) : Int32 × Zt := if zN Z < 60 then (nI (zN Z + 1), (zA Z, Z.2.1, Z.2.2.1, (zN Z + 1, fun j => if j = zN Z then v else zY Z j))) else (-3, Z)
def clZ (Z : Zt) : Int32 × Zt := (nI (zN Z), (zA Z, Z.2.1, Z.2.2.1, (0, zY Z)))
/-- what holds of every store that calls reach -/
def ZOK (Z : Zt) : Prop := AOK (zA Z) ∧ zn Z ≤ 4 ∧ (∀ i, i < zn Z → AOK (zH Z i)) ∧ zk Z ≤ 1 ∧ (zk Z = 1 → AOK (zS Z)) ∧ zN Z ≤ 60 ∧ ∀ j, j < zN Z → zY Z j < 65536
/-- the class's object at b holds the store Z -/
def CZ (G : Nat → Option va_E) (Z : Zt) (h : List va_E) (b : Nat) : Prop := ∃ B S o X, ClAt G h b (RepS (zA Z)) B S (zn Z) (fun i => RepS (zH Z i)) (zk Z) o X ∧ o 1 = nI (zN Z) ∧ TxtIs X (zY Z) (zN Z) ∧ zk Z ≤ 1 ∧ (zk Z = 1 → S = RepS (zS Z))
def z0 : Zt := (ab0, (0, fun _ => ab0), (0, ab0), (0, fun _ => 0))
theorem HsP.mono {h : List va_E} {b n : Nat} {H1 H2 : Nat → RP} (q : HsP h b n H1) (hm : ∀ i, i < n → ∀ σ, H1 i σ → H2 i σ) : HsP h b n H2 := by
  obtain ⟨F, p, h1, h2, h3, h4, h5⟩ := q
  exact ⟨F, p, h1, h2, h3, h4, fun i hi => by
    obtain ⟨σ, s, w⟩ := h5 i hi
    exact ⟨σ, s, hm i hi σ w⟩⟩
theorem ClNew.cz {G : Nat → Option va_E} {h : List va_E} {b : Nat} (q : ClNew h b) (fr : Frm G b h) : CZ G z0 h b := by
  obtain ⟨q0, qn, ⟨σ, s1, w1⟩, q2, q3, q4, q5, q6⟩ := q.cl (Hs := fun i => RepS (zH z0 i)) fr
  exact ⟨_, _, _, _, ⟨q0, qn, ⟨σ, s1, w1.rep⟩, q2, q3, q4, q5, q6⟩, rfl, ⟨Nat.zero_le _, fun j hj => absurd hj (Nat.not_lt_zero j)⟩, Nat.zero_le _, fun e => absurd e (by decide)⟩
theorem CZ.no {G : Nat → Option va_E} {Z : Zt} {R : Int32 × Ab} {h' : List va_E} {b : Nat} {B S : RP} {o X : Nat → Int32} (q : ClAt G h' b (RepS (zA Z)) B S (zn Z) (fun i => RepS (zH Z i)) (zk Z) o X) (h1 : o 1 = nI (zN Z)) (h2 : TxtIs X (zY Z) (zN Z)) (h3 : zk Z ≤ 1) (h4 : zk Z = 1 → S = RepS (zS Z)) (hneg : R.1 < 0) : CZ G (chZ Z R).2 h' b := by
  rw [chZ_no hneg]
  exact ⟨B, S, o, X, q, h1, h2, h3, h4⟩
theorem CZ.yes {G : Nat → Option va_E} {Z : Zt} {R : Int32 × Ab} {h' : List va_E} {b : Nat} {B S : RP} {o X : Nat → Int32} (q : ClAt G h' b (RepS R.2) B S (recN (zn Z)) (recH (zn Z) (fun i => RepS (zH Z i)) (RepS (zA Z))) (zk Z) o X) (h1 : o 1 = nI (zN Z)) (h2 : TxtIs X (zY Z) (zN Z)) (h3 : zk Z ≤ 1) (h4 : zk Z = 1 → S = RepS (zS Z)) (hneg : ¬ R.1 < 0) : CZ G (chZ Z R).2 h' b := by
  rw [chZ_yes hneg]
  rw [recH_rep] at q
  exact ⟨B, S, o, X, q, h1, h2, h3, h4⟩
theorem chZ_1 {Z : Zt} {R : Int32 × Ab} : (chZ Z R).1 = R.1 := by
  by_cases h : R.1 < 0
  · rw [chZ_no h]
  · rw [chZ_yes h]
end
section
/-! THE CLASS: every call, told by the store -/
section CL
variable {E : AEnv} {d : Nat} {h h' : List va_E} {b : Nat} {Z : Zt} {G : Nat → Option va_E}
theorem z_write {x y z : Int32} (hZ : CZ G Z h b) (hd : 6 ≤ d) : Calls E mX5_write d 0 0 [.ref b, .int x, .int y, .int z] h (RI (fun r h' => r = (chZ Z (wrF (zA Z) x y z)).1 ∧ CZ G (chZ Z (wrF (zA Z) x y z)).2 h' b)) := by
  refine Calls.of (ls := [some (.ref b), some (.int x), some (.int y), some (.int z)]) (by decide +kernel) rfl (Nat.le_of_ble_eq_true rfl) (cat_ok rfl) ?_
  obtain ⟨B, S, o, X, hC, hN, hT, hk, hs⟩ := hZ
  refine go_aload_0 (DX5_write.at 0 rfl) ?_
  refine go_cVv0 (DX5_write.at 1 rfl) nX5_59 vX5_begin (by omega) (c_begin hC RepS.rc (by omega)) hC.1 rfl (Nat.le_of_ble_eq_true rfl) (fun h1 q1 => ?_)
  refine go_aload_0 (DX5_write.at 2 rfl) ?_
  refine go_aload_0 (DX5_write.at 3 rfl) ?_
  refine go_iload_1 (DX5_write.at 4 rfl) ?_
  refine go_iload_2 (DX5_write.at 5 rfl) ?_
  refine go_iload_3 (DX5_write.at 6 rfl) ?_
  refine go_cVi3 (DX5_write.at 7 rfl) nX5_74 vX5_writeCell (by omega) (c_writeCell q1 (by omega)) q1.1 rfl (Nat.le_of_ble_eq_true rfl) (fun x9 h9 q9 => ?_)
  obtain ⟨e9, hC1⟩ := q9
  subst e9
  by_cases hneg : (wrF (zA Z) x y z).1 < 0
  · refine go_cVi1 (DX5_write.at 8 rfl) nX5_70 vX5_finish (by omega) (c_finishNo hC1 RepS.rc hneg (by omega)) hC1.1 rfl (Nat.le_of_ble_eq_true rfl) (fun x12 h12 q12 => ?_)
    exact go_iret (DX5_write.at 9 rfl) rfl rfl (RI.mk ⟨by rw [chZ_1, q12.1], CZ.no q12.2 hN hT hk hs hneg⟩)
  · refine go_cVi1 (DX5_write.at 8 rfl) nX5_70 vX5_finish (by omega) (c_finishYes hC1 RepS.rc (Int32.not_lt.mp hneg) (by omega)) hC1.1 rfl (Nat.le_of_ble_eq_true rfl) (fun x12 h12 q12 => ?_)
    exact go_iret (DX5_write.at 9 rfl) rfl rfl (RI.mk ⟨by rw [chZ_1, q12.1], CZ.yes q12.2 hN hT hk hs hneg⟩)

theorem z_lose {x y : Int32} (hZ : CZ G Z h b) (hd : 6 ≤ d) : Calls E mX5_lose d 0 0 [.ref b, .int x, .int y] h (RI (fun r h' => r = (chZ Z (loF (zA Z) x y)).1 ∧ CZ G (chZ Z (loF (zA Z) x y)).2 h' b)) := by
  refine Calls.of (ls := [some (.ref b), some (.int x), some (.int y)]) (by decide +kernel) rfl (Nat.le_of_ble_eq_true rfl) (cat_ok rfl) ?_
  obtain ⟨B, S, o, X, hC, hN, hT, hk, hs⟩ := hZ
  refine go_aload_0 (DX5_lose.at 0 rfl) ?_
  refine go_cVv0 (DX5_lose.at 1 rfl) nX5_59 vX5_begin (by omega) (c_begin hC RepS.rc (by omega)) hC.1 rfl (Nat.le_of_ble_eq_true rfl) (fun h1 q1 => ?_)
  refine go_aload_0 (DX5_lose.at 2 rfl) ?_
  refine go_aload_0 (DX5_lose.at 3 rfl) ?_
  refine go_iload_1 (DX5_lose.at 4 rfl) ?_
  refine go_iload_2 (DX5_lose.at 5 rfl) ?_
  refine go_cVi2 (DX5_lose.at 6 rfl) nX5_81 vX5_loseCell (by omega) (c_loseCell q1 (by omega)) q1.1 rfl (Nat.le_of_ble_eq_true rfl) (fun x8 h8 q8 => ?_)
  obtain ⟨e8, hC1⟩ := q8
  subst e8
  by_cases hneg : (loF (zA Z) x y).1 < 0
  · refine go_cVi1 (DX5_lose.at 7 rfl) nX5_70 vX5_finish (by omega) (c_finishNo hC1 RepS.rc hneg (by omega)) hC1.1 rfl (Nat.le_of_ble_eq_true rfl) (fun x11 h11 q11 => ?_)
    exact go_iret (DX5_lose.at 8 rfl) rfl rfl (RI.mk ⟨by rw [chZ_1, q11.1], CZ.no q11.2 hN hT hk hs hneg⟩)
  · refine go_cVi1 (DX5_lose.at 7 rfl) nX5_70 vX5_finish (by omega) (c_finishYes hC1 RepS.rc (Int32.not_lt.mp hneg) (by omega)) hC1.1 rfl (Nat.le_of_ble_eq_true rfl) (fun x11 h11 q11 => ?_)
    exact go_iret (DX5_lose.at 8 rfl) rfl rfl (RI.mk ⟨by rw [chZ_1, q11.1], CZ.yes q11.2 hN hT hk hs hneg⟩)

theorem z_loseNode {x : Int32} (hZ : CZ G Z h b) (hd : 6 ≤ d) : Calls E mX5_loseNode d 0 0 [.ref b, .int x] h (RI (fun r h' => r = (chZ Z (lsF (zA Z) x)).1 ∧ CZ G (chZ Z (lsF (zA Z) x)).2 h' b)) := by
  refine Calls.of (ls := [some (.ref b), some (.int x)]) (by decide +kernel) rfl (Nat.le_of_ble_eq_true rfl) (cat_ok rfl) ?_
  obtain ⟨B, S, o, X, hC, hN, hT, hk, hs⟩ := hZ
  refine go_aload_0 (DX5_loseNode.at 0 rfl) ?_
  refine go_cVv0 (DX5_loseNode.at 1 rfl) nX5_59 vX5_begin (by omega) (c_begin hC RepS.rc (by omega)) hC.1 rfl (Nat.le_of_ble_eq_true rfl) (fun h1 q1 => ?_)
  refine go_aload_0 (DX5_loseNode.at 2 rfl) ?_
  refine go_aload_0 (DX5_loseNode.at 3 rfl) ?_
  refine go_iload_1 (DX5_loseNode.at 4 rfl) ?_
  refine go_cVi1 (DX5_loseNode.at 5 rfl) nX5_85 vX5_loseCellsOn (by omega) (c_loseCellsOn q1 (by omega)) q1.1 rfl (Nat.le_of_ble_eq_true rfl) (fun x7 h7 q7 => ?_)
  obtain ⟨e7, hC1⟩ := q7
  subst e7
  by_cases hneg : (lsF (zA Z) x).1 < 0
  · refine go_cVi1 (DX5_loseNode.at 6 rfl) nX5_70 vX5_finish (by omega) (c_finishNo hC1 RepS.rc hneg (by omega)) hC1.1 rfl (Nat.le_of_ble_eq_true rfl) (fun x10 h10 q10 => ?_)
    exact go_iret (DX5_loseNode.at 7 rfl) rfl rfl (RI.mk ⟨by rw [chZ_1, q10.1], CZ.no q10.2 hN hT hk hs hneg⟩)
  · refine go_cVi1 (DX5_loseNode.at 6 rfl) nX5_70 vX5_finish (by omega) (c_finishYes hC1 RepS.rc (Int32.not_lt.mp hneg) (by omega)) hC1.1 rfl (Nat.le_of_ble_eq_true rfl) (fun x10 h10 q10 => ?_)
    exact go_iret (DX5_loseNode.at 7 rfl) rfl rfl (RI.mk ⟨by rw [chZ_1, q10.1], CZ.yes q10.2 hN hT hk hs hneg⟩)

theorem z_mend {x y : Int32} (hZ : CZ G Z h b) (hd : 7 ≤ d) : Calls E mX5_mend d 0 0 [.ref b, .int x, .int y] h (RI (fun r h' => r = (chZ Z (mdF (zA Z) x y)).1 ∧ CZ G (chZ Z (mdF (zA Z) x y)).2 h' b)) := by
  refine Calls.of (ls := [some (.ref b), some (.int x), some (.int y)]) (by decide +kernel) rfl (Nat.le_of_ble_eq_true rfl) (cat_ok rfl) ?_
  obtain ⟨B, S, o, X, hC, hN, hT, hk, hs⟩ := hZ
  refine go_aload_0 (DX5_mend.at 0 rfl) ?_
  refine go_cVv0 (DX5_mend.at 1 rfl) nX5_59 vX5_begin (by omega) (c_begin hC RepS.rc (by omega)) hC.1 rfl (Nat.le_of_ble_eq_true rfl) (fun h1 q1 => ?_)
  refine go_aload_0 (DX5_mend.at 2 rfl) ?_
  refine go_aload_0 (DX5_mend.at 3 rfl) ?_
  refine go_iload_1 (DX5_mend.at 4 rfl) ?_
  refine go_iload_2 (DX5_mend.at 5 rfl) ?_
  refine go_cVi2 (DX5_mend.at 6 rfl) nX5_88 vX5_mendCell (by omega) (c_mendCell q1 (by omega)) q1.1 rfl (Nat.le_of_ble_eq_true rfl) (fun x8 h8 q8 => ?_)
  obtain ⟨e8, hC1⟩ := q8
  subst e8
  by_cases hneg : (mdF (zA Z) x y).1 < 0
  · refine go_cVi1 (DX5_mend.at 7 rfl) nX5_70 vX5_finish (by omega) (c_finishNo hC1 RepS.rc hneg (by omega)) hC1.1 rfl (Nat.le_of_ble_eq_true rfl) (fun x11 h11 q11 => ?_)
    exact go_iret (DX5_mend.at 8 rfl) rfl rfl (RI.mk ⟨by rw [chZ_1, q11.1], CZ.no q11.2 hN hT hk hs hneg⟩)
  · refine go_cVi1 (DX5_mend.at 7 rfl) nX5_70 vX5_finish (by omega) (c_finishYes hC1 RepS.rc (Int32.not_lt.mp hneg) (by omega)) hC1.1 rfl (Nat.le_of_ble_eq_true rfl) (fun x11 h11 q11 => ?_)
    exact go_iret (DX5_mend.at 8 rfl) rfl rfl (RI.mk ⟨by rw [chZ_1, q11.1], CZ.yes q11.2 hN hT hk hs hneg⟩)

theorem z_mendNode {x : Int32} (hZ : CZ G Z h b) (hd : 8 ≤ d) : Calls E mX5_mendNode d 0 0 [.ref b, .int x] h (RI (fun r h' => r = (chZ Z (mnF (zA Z) x)).1 ∧ CZ G (chZ Z (mnF (zA Z) x)).2 h' b)) := by
  refine Calls.of (ls := [some (.ref b), some (.int x)]) (by decide +kernel) rfl (Nat.le_of_ble_eq_true rfl) (cat_ok rfl) ?_
  obtain ⟨B, S, o, X, hC, hN, hT, hk, hs⟩ := hZ
  refine go_aload_0 (DX5_mendNode.at 0 rfl) ?_
  refine go_cVv0 (DX5_mendNode.at 1 rfl) nX5_59 vX5_begin (by omega) (c_begin hC RepS.rc (by omega)) hC.1 rfl (Nat.le_of_ble_eq_true rfl) (fun h1 q1 => ?_)
  refine go_aload_0 (DX5_mendNode.at 2 rfl) ?_
  refine go_aload_0 (DX5_mendNode.at 3 rfl) ?_
  refine go_iload_1 (DX5_mendNode.at 4 rfl) ?_
  refine go_cVi1 (DX5_mendNode.at 5 rfl) nX5_91 vX5_mendCellsOn (by omega) (c_mendCellsOn q1 (by omega)) q1.1 rfl (Nat.le_of_ble_eq_true rfl) (fun x7 h7 q7 => ?_)
  obtain ⟨e7, N1, hC1, hN1⟩ := q7
  subst e7
  by_cases hneg : (mnF (zA Z) x).1 < 0
  · refine go_cVi1 (DX5_mendNode.at 6 rfl) nX5_70 vX5_finish (by omega) (c_finishNo hC1 RepS.rc hneg (by omega)) hC1.1 rfl (Nat.le_of_ble_eq_true rfl) (fun x10 h10 q10 => ?_)
    exact go_iret (DX5_mendNode.at 7 rfl) rfl rfl (RI.mk ⟨by rw [chZ_1, q10.1], CZ.no q10.2 hN hT hk hs hneg⟩)
  · rw [hN1 (Int32.not_lt.mp hneg)] at hC1
    refine go_cVi1 (DX5_mendNode.at 6 rfl) nX5_70 vX5_finish (by omega) (c_finishYes hC1 RepS.rc (Int32.not_lt.mp hneg) (by omega)) hC1.1 rfl (Nat.le_of_ble_eq_true rfl) (fun x10 h10 q10 => ?_)
    exact go_iret (DX5_mendNode.at 7 rfl) rfl rfl (RI.mk ⟨by rw [chZ_1, q10.1], CZ.yes q10.2 hN hT hk hs hneg⟩)

theorem z_work {x : Int32} (hZ : CZ G Z h b) (hd : 8 ≤ d) : Calls E mX5_work d 0 0 [.ref b, .int x] h (RI (fun r h' => r = (chZ Z (wkF (zA Z) x)).1 ∧ CZ G (chZ Z (wkF (zA Z) x)).2 h' b)) := by
  refine Calls.of (ls := [some (.ref b), some (.int x)]) (by decide +kernel) rfl (Nat.le_of_ble_eq_true rfl) (cat_ok rfl) ?_
  obtain ⟨B, S, o, X, hC, hN, hT, hk, hs⟩ := hZ
  refine go_aload_0 (DX5_work.at 0 rfl) ?_
  refine go_cVv0 (DX5_work.at 1 rfl) nX5_59 vX5_begin (by omega) (c_begin hC RepS.rc (by omega)) hC.1 rfl (Nat.le_of_ble_eq_true rfl) (fun h1 q1 => ?_)
  refine go_aload_0 (DX5_work.at 2 rfl) ?_
  refine go_aload_0 (DX5_work.at 3 rfl) ?_
  refine go_iload_1 (DX5_work.at 4 rfl) ?_
  refine go_cVi1 (DX5_work.at 5 rfl) nX5_94 vX5_workOnQueue (by omega) (c_workOnQueue q1 (by omega)) q1.1 rfl (Nat.le_of_ble_eq_true rfl) (fun x7 h7 q7 => ?_)
  obtain ⟨e7, hC1⟩ := q7
  subst e7
  by_cases hneg : (wkF (zA Z) x).1 < 0
  · refine go_cVi1 (DX5_work.at 6 rfl) nX5_70 vX5_finish (by omega) (c_finishNo hC1 RepS.rc hneg (by omega)) hC1.1 rfl (Nat.le_of_ble_eq_true rfl) (fun x10 h10 q10 => ?_)
    exact go_iret (DX5_work.at 7 rfl) rfl rfl (RI.mk ⟨by rw [chZ_1, q10.1], CZ.no q10.2 hN hT hk hs hneg⟩)
  · refine go_cVi1 (DX5_work.at 6 rfl) nX5_70 vX5_finish (by omega) (c_finishYes hC1 RepS.rc (Int32.not_lt.mp hneg) (by omega)) hC1.1 rfl (Nat.le_of_ble_eq_true rfl) (fun x10 h10 q10 => ?_)
    exact go_iret (DX5_work.at 7 rfl) rfl rfl (RI.mk ⟨by rw [chZ_1, q10.1], CZ.yes q10.2 hN hT hk hs hneg⟩)

theorem z_busiest (hZ : CZ G Z h b) (hd : 2 ≤ d) : Calls E mX5_busiest d 0 0 [.ref b] h (RI (fun r h' => r = bzF (zA Z) ∧ CZ G Z h' b)) := by
  refine Calls.of (ls := [some (.ref b), none, none, none]) (by decide +kernel) rfl (Nat.le_of_ble_eq_true rfl) (cat_ok rfl) ?_
  have key : Go E mX5_busiest d 0 0 0 [some (.ref b), none, none, none] [] h (RX (bzF (zA Z)) h) := by
    obtain ⟨B, S, o, X, hC, -⟩ := hZ
    generalize zA Z = A at hC ⊢
    obtain ⟨σ, hS, hR⟩ := hC.2.2.1
    have hL := hR.2.1
    have hLd := hR.2.2.2.2.2.2.2.1
    have hn20 := hR.1.1.nc
    have loop : ∀ (m j : Nat), j + m = nc (aG A) (aS A) → Go E mX5_busiest d 0 0 7 [some (.ref b), some (.int (bzG (aL A) j).1), some (.int (bzG (aL A) j).2), some (.int (nI j))] [] h (RX (bzF A) h) := by
      intro m
      induction m with
      | zero =>
        intro j hj
        obtain rfl : j = nc (aG A) (aS A) := by omega
        refine go_iload_3 (DX5_busiest.at 6 rfl) ?_
        refine go_aload_0 (DX5_busiest.at 7 rfl) ?_
        refine go_getfield (DX5_busiest.at 8 rfl) fX5_10 hC.1 rfl ?_
        refine go_cVx0 (DX5_busiest.at 9 rfl) nX5_66 vX4_cellCount (by omega) (c_cellCount hS hL) hS.1 rfl (Nat.le_of_ble_eq_true rfl) ?_
        refine go_icmp_ge 53 (DX5_busiest.at 10 rfl) (by decide) (fun c15 => ?_) (fun c15 => absurd (Int32.le_refl _) c15)
        refine go_iload_1 (DX5_busiest.at 28 rfl) ?_
        exact go_iret (DX5_busiest.at 29 rfl) rfl rfl (RX.mk rfl rfl)
      | succ m ih =>
        intro j hj
        refine go_iload_3 (DX5_busiest.at 6 rfl) ?_
        refine go_aload_0 (DX5_busiest.at 7 rfl) ?_
        refine go_getfield (DX5_busiest.at 8 rfl) fX5_10 hC.1 rfl ?_
        refine go_cVx0 (DX5_busiest.at 9 rfl) nX5_66 vX4_cellCount (by omega) (c_cellCount hS hL) hS.1 rfl (Nat.le_of_ble_eq_true rfl) ?_
        refine go_icmp_ge 53 (DX5_busiest.at 10 rfl) (by decide) (fun c15 => absurd ((nI_leI (by omega) (by omega)).mp c15) (by omega)) (fun c15 => ?_)
        refine go_aload_0 (DX5_busiest.at 11 rfl) ?_
        refine go_getfield (DX5_busiest.at 12 rfl) fX5_10 hC.1 rfl ?_
        refine go_getfield (DX5_busiest.at 13 rfl) fX5_151 hS.1 rfl ?_
        refine go_iload_3 (DX5_busiest.at 14 rfl) ?_
        refine go_cSx2 (DX5_busiest.at 15 rfl) nX5_155 vX5_at (by omega) (c_at (Or.inl hS.2.2.2.2.1) (show j < 20 by omega) (by decide)) (Nat.le_of_ble_eq_true rfl) ?_
        rw [hLd j (by omega)]
        refine go_iload_2 (DX5_busiest.at 16 rfl) ?_
        refine go_icmp_le 47 (DX5_busiest.at 17 rfl) (by decide) (fun c30 => ?_) (fun c30 => ?_)
        · refine go_iincN_3 (DX5_busiest.at 26 rfl) ?_
          refine go_goto 7 (DX5_busiest.at 27 rfl) (by decide) ?_
          have K := ih (j + 1) (by omega)
          first | (rw [show bzG (aL A) (j + 1) = (nI j, aL A j) from if_pos (Int32.not_le.mp c30)] at K; exact K) | (rw [show bzG (aL A) (j + 1) = bzG (aL A) j from if_neg (Int32.not_lt.mpr c30)] at K; exact K)
        · refine go_aload_0 (DX5_busiest.at 18 rfl) ?_
          refine go_getfield (DX5_busiest.at 19 rfl) fX5_10 hC.1 rfl ?_
          refine go_getfield (DX5_busiest.at 20 rfl) fX5_151 hS.1 rfl ?_
          refine go_iload_3 (DX5_busiest.at 21 rfl) ?_
          refine go_cSx2 (DX5_busiest.at 22 rfl) nX5_155 vX5_at (by omega) (c_at (Or.inl hS.2.2.2.2.1) (show j < 20 by omega) (by decide)) (Nat.le_of_ble_eq_true rfl) ?_
          rw [hLd j (by omega)]
          refine go_istore_2 (DX5_busiest.at 23 rfl) ?_
          refine go_iload_3 (DX5_busiest.at 24 rfl) ?_
          refine go_istore_1 (DX5_busiest.at 25 rfl) ?_
          refine go_iincN_3 (DX5_busiest.at 26 rfl) ?_
          refine go_goto 7 (DX5_busiest.at 27 rfl) (by decide) ?_
          have K := ih (j + 1) (by omega)
          first | (rw [show bzG (aL A) (j + 1) = (nI j, aL A j) from if_pos (Int32.not_le.mp c30)] at K; exact K) | (rw [show bzG (aL A) (j + 1) = bzG (aL A) j from if_neg (Int32.not_lt.mpr c30)] at K; exact K)
    refine go_bipush (v := (-5)) (DX5_busiest.at 0 rfl) (by decide) ?_
    refine go_istore_1 (DX5_busiest.at 1 rfl) ?_
    refine go_iconst (v := nI 0) (DX5_busiest.at 2 rfl) (by decide) ?_
    refine go_istore_2 (DX5_busiest.at 3 rfl) ?_
    refine go_iconst (v := nI 0) (DX5_busiest.at 4 rfl) (by decide) ?_
    refine go_istore_3 (DX5_busiest.at 5 rfl) ?_
    exact loop _ 0 (Nat.zero_add _)
  refine key.weaken ?_
  rintro r h1 ⟨rfl, rfl⟩
  exact RI.mk ⟨rfl, hZ⟩

end CL
section CQ
variable {E : AEnv} {d : Nat} {h h' : List va_E} {b : Nat} {Z : Zt} {G : Nat → Option va_E} {x y z w : Int32}
theorem RepS.hM {A : Ab} {σ : Rows} (hR : RepS A σ) : ∀ t, t < aT A → σ 3 t = nI (aM A t) ∧ aM A t < 2 ^ 20 := fun t ht => ⟨hR.2.2.2.1 t ht, hR.1.m20 ht⟩
theorem RepS.hV {A : Ab} {σ : Rows} (hR : RepS A σ) : ∀ t, t < aT A → ∀ c, c < nc (aG A) (aS A) → ¬ bit (aM A t) c → σ 2 (t * 20 + c) = nI (aV A t c) ∧ aV A t c < 16 := fun t ht c hc hb => ⟨hR.2.2.2.2.1 t ht c hc hb, hR.1.2.2.1 t c⟩
theorem RepS.hV0 {A : Ab} {σ : Rows} (hR : RepS A σ) : ∀ t, t < aT A → aM A t = 0 → ∀ c, c < nc (aG A) (aS A) → σ 2 (t * 20 + c) = nI (aV A t c) ∧ aV A t c < 16 := fun t ht h0 c hc => hR.hV t ht c hc (by rw [h0]; exact nbit0 c)
theorem z_value (hZ : CZ G Z h b) (hd : 3 ≤ d) : Calls E mX5_value d 0 0 [.ref b, .int x, .int y] h (RI (fun r h' => r = vaF (zA Z) x y ∧ CZ G Z h' b)) := by
  have hZ2 := hZ
  obtain ⟨B, S, o, X, hC, hN, hT, hk, hs⟩ := hZ
  obtain ⟨σ, hS, hR⟩ := hC.2.2.1
  refine (c_value hC hS hR.2.1 hR.hM hd).weaken ?_
  rintro r h1 ⟨v, rfl, rfl, q⟩
  refine RI.mk ⟨?_, hZ2⟩
  rcases q with ⟨q, rfl⟩ | ⟨t, c, ht, hc, rfl, rfl, ⟨q, rfl⟩ | ⟨q, rfl⟩⟩
  · exact (ceQ_out q).symm
  · unfold vaF
    rw [ceQ_in hR.1 ht hc, cI_t q]
  · unfold vaF
    rw [ceQ_in hR.1 ht hc, cI_f q]
    exact (hR.hV t ht c hc q).1
theorem z_node (hZ : CZ G Z h b) (hd : 3 ≤ d) : Calls E mX5_node d 0 0 [.ref b, .int x, .int y] h (RI (fun r h' => r = noF (zA Z) x y ∧ CZ G Z h' b)) := by
  have hZ2 := hZ
  obtain ⟨B, S, o, X, hC, hN, hT, hk, hs⟩ := hZ
  obtain ⟨σ, hS, hR⟩ := hC.2.2.1
  refine (c_node hC hS hR.2.1 hd).weaken ?_
  rintro r h1 ⟨v, rfl, rfl, q⟩
  refine RI.mk ⟨?_, hZ2⟩
  rcases q with ⟨q, rfl⟩ | ⟨t, c, ht, hc, rfl, rfl, rfl⟩
  · exact (ceQ_out q).symm
  · unfold noF
    rw [ceQ_in hR.1 ht hc]
theorem z_load (hZ : CZ G Z h b) (hd : 3 ≤ d) : Calls E mX5_load d 0 0 [.ref b, .int x] h (RI (fun r h' => r = ldF (zA Z) x ∧ CZ G Z h' b)) := by
  have hZ2 := hZ
  obtain ⟨B, S, o, X, hC, hN, hT, hk, hs⟩ := hZ
  obtain ⟨σ, hS, hR⟩ := hC.2.2.1
  refine (c_load hC hS hR.2.1 hd).weaken ?_
  rintro r h1 ⟨v, rfl, rfl, q⟩
  refine RI.mk ⟨?_, hZ2⟩
  rcases q with ⟨q, rfl⟩ | ⟨c, hc, rfl, rfl⟩
  · exact (ndQ_out q).symm
  · unfold ldF
    rw [ndQ_in hR.1 hc]
    exact hR.2.2.2.2.2.2.2.1 c (Nat.lt_of_lt_of_le hc hR.1.1.nc.2)
theorem z_lost (hZ : CZ G Z h b) (hd : 3 ≤ d) : Calls E mX5_lost d 0 0 [.ref b, .int x] h (RI (fun r h' => r = ltF (zA Z) x ∧ CZ G Z h' b)) := by
  have hZ2 := hZ
  obtain ⟨B, S, o, X, hC, hN, hT, hk, hs⟩ := hZ
  obtain ⟨σ, hS, hR⟩ := hC.2.2.1
  refine (c_lost hC hS hR.2.1 hd).weaken ?_
  rintro r h1 ⟨v, rfl, rfl, q⟩
  refine RI.mk ⟨?_, hZ2⟩
  rcases q with ⟨q, rfl⟩ | ⟨t, ht, rfl, rfl⟩
  · exact (stQ_out q).symm
  · unfold ltF
    rw [stQ_in hR.1 ht]
    exact (hR.hM t ht).1
theorem z_waiting (hZ : CZ G Z h b) (hd : 1 ≤ d) : Calls E mX5_waiting d 0 0 [.ref b, .int x] h (RI (fun r h' => r = waF (zA Z) x ∧ CZ G Z h' b)) := by
  have hZ2 := hZ
  obtain ⟨B, S, o, X, hC, hN, hT, hk, hs⟩ := hZ
  obtain ⟨σ, hS, hR⟩ := hC.2.2.1
  refine (c_waiting hC hS hR.2.2.2.2.2.1 hR.1.q160 hd).weaken ?_
  rintro r h1 ⟨v, rfl, rfl, q⟩
  refine RI.mk ⟨?_, hZ2⟩
  have h160 := hR.1.q160
  unfold waF
  rcases q with ⟨q, rfl⟩ | ⟨j, hj, rfl, rfl⟩ | ⟨q, q2, rfl⟩
  · exact (cI_t q).symm
  · rw [cI_f (nI_pos (by omega)), nI_cl (by omega), List.getElem?_eq_getElem hj]
    exact hR.2.2.2.2.2.2.1 j _ (List.getElem?_eq_getElem hj)
  · rw [cI_f (Int32.not_lt.mpr q)]
    obtain ⟨k, hk, rfl⟩ := nI_of (Int32.not_lt.mpr q)
    rw [inR_nI hk (by omega)] at q2
    rw [nI_cl hk, List.getElem?_eq_none (Nat.le_of_not_lt q2)]
theorem z_failing (hZ : CZ G Z h b) (hd : 4 ≤ d) : Calls E mX5_failing d 0 0 [.ref b, .int x] h (RI (fun r h' => r = faF (zA Z) x ∧ CZ G Z h' b)) := by
  have hZ2 := hZ
  obtain ⟨B, S, o, X, hC, hN, hT, hk, hs⟩ := hZ
  obtain ⟨σ, hS, hR⟩ := hC.2.2.1
  refine (c_failing hC hS hR.2.1 hR.2.2.1 hR.hM hR.hV0 hd).weaken ?_
  rintro r h1 ⟨v, rfl, rfl, q⟩
  refine RI.mk ⟨?_, hZ2⟩
  rcases q with ⟨q, rfl⟩ | ⟨t, ht, rfl, ⟨q, rfl⟩ | ⟨q, rfl⟩⟩
  · exact (stQ_out q).symm
  · unfold faF
    rw [stQ_in hR.1 ht, cI_f q]
  · unfold faF
    rw [stQ_in hR.1 ht, cI_t q]
    rfl
theorem Asked.as {A : Ab} (hA : AOK A) {f : Nat → Nat → Nat → Int32} {u r : Int32} (q : Asked (colv (aG A) (aS A)) (aV A) (aM A) (aG A) (aS A) (aT A) x y f u r) : r = asF A x y f u := by
  unfold asF
  rcases q with ⟨q, rfl⟩ | ⟨t, c, ht, hc, rfl, rfl, ⟨q, rfl⟩ | ⟨q, ⟨w, sc, X, hW, rfl⟩ | ⟨hW, rfl⟩⟩⟩
  · exact (ceQ_out q).symm
  · rw [ceQ_in hA ht hc, cI_f q]
  · rw [ceQ_in hA ht hc, cI_t q, wyF_s hW]
  · rw [ceQ_in hA ht hc, cI_t q, wyF_n hW]
theorem z_way (hZ : CZ G Z h b) (hd : 5 ≤ d) : Calls E mX5_way d 0 0 [.ref b, .int x, .int y] h (RI (fun r h' => r = asF (zA Z) x y (fun w _ _ => nI w) 0 ∧ CZ G Z h' b)) := by
  obtain ⟨B, S, o, X, hC, hN, hT, hk, hs⟩ := hZ
  obtain ⟨σ, hS, hR⟩ := hC.2.2.1
  refine (c_way hC hS hR.2.1 hR.2.2.1 hR.hM hR.hV hd).weaken ?_
  rintro r h1 ⟨v, rfl, hC2, q⟩
  exact RI.mk ⟨Asked.as hR.1 q, B, S, o, X, hC2, hN, hT, hk, hs⟩
theorem z_reads (hZ : CZ G Z h b) (hd : 5 ≤ d) : Calls E mX5_reads d 0 0 [.ref b, .int x, .int y] h (RI (fun r h' => r = asF (zA Z) x y (fun _ s _ => nI (pcn s 20)) (-4) ∧ CZ G Z h' b)) := by
  obtain ⟨B, S, o, X, hC, hN, hT, hk, hs⟩ := hZ
  obtain ⟨σ, hS, hR⟩ := hC.2.2.1
  refine (c_reads hC hS hR.2.1 hR.2.2.1 hR.hM hR.hV hd).weaken ?_
  rintro r h1 ⟨v, rfl, hC2, q⟩
  exact RI.mk ⟨Asked.as hR.1 q, B, S, o, X, hC2, hN, hT, hk, hs⟩
theorem z_mended (hZ : CZ G Z h b) (hd : 5 ≤ d) : Calls E mX5_mended d 0 0 [.ref b, .int x, .int y] h (RI (fun r h' => r = asF (zA Z) x y (fun _ _ v => nI v) (-4) ∧ CZ G Z h' b)) := by
  obtain ⟨B, S, o, X, hC, hN, hT, hk, hs⟩ := hZ
  obtain ⟨σ, hS, hR⟩ := hC.2.2.1
  refine (c_mended hC hS hR.2.1 hR.2.2.1 hR.hM hR.hV hd).weaken ?_
  rintro r h1 ⟨v, rfl, hC2, q⟩
  exact RI.mk ⟨Asked.as hR.1 q, B, S, o, X, hC2, hN, hT, hk, hs⟩
theorem z_culprit (hZ : CZ G Z h b) (hd : 4 ≤ d) : Calls E mX5_culprit d 0 0 [.ref b, .int x] h (RI (fun r h' => r = cuF (zA Z) x ∧ CZ G Z h' b)) := by
  have hZ2 := hZ
  obtain ⟨B, S, o, X, hC, hN, hT, hk, hs⟩ := hZ
  obtain ⟨σ, hS, hR⟩ := hC.2.2.1
  refine (c_culprit hC hS hR.2.1 hR.2.2.1 hR.hM hR.hV0 hd).weaken ?_
  rintro r h1 ⟨v, rfl, rfl, q⟩
  refine RI.mk ⟨?_, hZ2⟩
  rcases q with ⟨q, rfl⟩ | ⟨t, ht, rfl, ⟨q, rfl⟩ | ⟨q, ⟨c, hc, rfl, hcu, hcm⟩ | ⟨rfl, hno⟩⟩⟩
  · exact (stQ_out q).symm
  · unfold cuF
    rw [stQ_in hR.1 ht, cI_f q]
  · unfold cuF
    rw [stQ_in hR.1 ht, cI_t q, cpF_s hc hcu hcm]
  · unfold cuF cpF
    rw [stQ_in hR.1 ht, cI_t q, cpG_n _ hno]
theorem z_survives (hZ : CZ G Z h b) (hd : 4 ≤ d) : Calls E mX5_survives d 0 0 [.ref b, .int x] h (RI (fun r h' => r = svF (zA Z) x ∧ CZ G Z h' b)) := by
  have hZ2 := hZ
  obtain ⟨B, S, o, X, hC, hN, hT, hk, hs⟩ := hZ
  obtain ⟨σ, hS, hR⟩ := hC.2.2.1
  refine (c_survives hC hS hR.2.1 hR.2.2.1 hd).weaken ?_
  rintro r h1 ⟨v, rfl, q⟩
  have hp := p20 hR.1.1.nc.2
  rcases q with ⟨q, rfl, rfl⟩ | ⟨M, hM, rfl, rfl, hC2⟩
  · exact RI.mk ⟨(cI_f q).symm, hZ2⟩
  · refine RI.mk ⟨?_, B, S, o, X, hC2, hN, hT, hk, hs⟩
    unfold svF
    rw [cI_t ((inR_nI (by omega) (by omega)).mpr hM), nI_cl (by omega)]
theorem z_total (hZ : CZ G Z h b) (hd : 2 ≤ d) : Calls E mX5_total d 0 0 [.ref b, .int x] h (RI (fun r h' => r = toF Z x ∧ CZ G Z h' b)) := by
  have hZ2 := hZ
  obtain ⟨B, S, o, X, hC, hN, hT, hk, hs⟩ := hZ
  obtain ⟨σ, hS, hR⟩ := hC.2.2.1
  by_cases q : inR x 12
  · obtain ⟨j, hj, rfl⟩ := inR_ex (by decide) q
    refine (c_total hj hC hS hR.2.1 hd).weaken ?_
    rintro r h1 ⟨rfl, rfl⟩
    refine RI.mk ⟨?_, hZ2⟩
    unfold toF
    rw [cI_t q, nI_cl (by omega)]
    obtain ⟨hA, hL, hX, hM, hV, hql, hQ, hLd, hK⟩ := hR
    rcases (show j = 0 ∨ j = 1 ∨ j = 2 ∨ j = 3 ∨ j = 4 ∨ j = 5 ∨ j = 6 ∨ j = 7 ∨ j = 8 ∨ j = 9 ∨ j = 10 ∨ j = 11 by omega) with rfl | rfl | rfl | rfl | rfl | rfl | rfl | rfl | rfl | rfl | rfl | rfl
    · exact hL.1
    · exact hL.2.1
    · exact hL.2.2.1
    · exact hL.2.2.2.1
    · rfl
    · exact hql
    · exact hK 0 (by decide)
    · exact hK 1 (by decide)
    · exact hK 2 (by decide)
    · exact hK 3 (by decide)
    · rfl
    · exact hN
  · refine (c_totalOut q).weaken ?_
    rintro r h1 ⟨rfl, rfl⟩
    exact RI.mk ⟨(cI_f q).symm, hZ2⟩
theorem z_setLayout (hZ : CZ G Z h b) (hd : 6 ≤ d) : Calls E mX5_setLayout d 0 0 [.ref b, .int x, .int y, .int z, .int w] h (RI (fun r h' => r = (chZ Z (slF (zA Z) x y z w)).1 ∧ CZ G (chZ Z (slF (zA Z) x y z w)).2 h' b)) := by
  have hZ2 := hZ
  obtain ⟨B, S, o, X, hC, hN, hT, hk, hs⟩ := hZ
  refine (c_setLayout hC RepS.rc hd).weaken ?_
  rintro r h1 ⟨v, rfl, ⟨q, rfl, rfl⟩ | ⟨g, s, T, sh, rfl, rfl, rfl, rfl, hL, rfl, hC2⟩⟩
  · have e : slF (zA Z) x y z w = (-2, zA Z) := slF_out (fun ⟨g, s, T, sh, e1, e2, e3, e4, l1, l2, l3, l4, l5, l6, l7, l8⟩ => q (by
      rw [e1, e2, e3, e4]
      refine ⟨⟨nI_le l1 (by omega), nI_le l2 (by omega)⟩, ⟨nI_le l3 (by omega), nI_le l4 (by omega)⟩, ?_, ⟨nI_le l6 (by omega), nI_le l7 (by omega)⟩, nI_le (Nat.zero_le _) (by omega), nI_le l8 (by omega)⟩
      rw [pk_mul, nI_ltI (by omega) (by omega)]
      omega))
    rw [e, chZ_no (R := (-2, zA Z)) (show (-2 : Int32) < 0 by decide)]
    exact RI.mk ⟨rfl, hZ2⟩
  · have hn := hL.nc
    rw [slF_in hL]
    obtain ⟨q0, qn, ⟨σ, s1, w1⟩, q2⟩ := hC2
    exact RI.mk ⟨by rw [chZ_1], CZ.yes (R := (nI (nc g s), aNew (zA Z) g s T sh)) ⟨q0, qn, ⟨σ, s1, w1.rep⟩, q2⟩ hN hT hk hs (nI_pos (by omega))⟩
theorem z_undo (hZ : CZ G Z h b) (hd : 3 ≤ d) : Calls E mX5_undo d 0 0 [.ref b] h (RI (fun r h' => r = (unZ Z).1 ∧ CZ G (unZ Z).2 h' b)) := by
  have hZ2 := hZ
  obtain ⟨B, S, o, X, hC, hN, hT, hk, hs⟩ := hZ
  unfold unZ
  by_cases q : zn Z = 0
  · rw [if_pos q]
    rw [q] at hC
    refine (c_undoNone hC).weaken ?_
    rintro r h1 ⟨rfl, rfl⟩
    exact RI.mk ⟨rfl, hZ2⟩
  · rw [if_neg q]
    obtain ⟨n, hn⟩ : ∃ n, zn Z = n + 1 := ⟨zn Z - 1, by omega⟩
    rw [hn] at hC ⊢
    refine (c_undo hC RepS.rc hd).weaken ?_
    rintro r h1 ⟨v, rfl, rfl, hC2⟩
    exact RI.mk ⟨rfl, B, S, o, X, hC2, hN, hT, hk, hs⟩
end CQ
end
section
/-! MATHEMATICS: sums over checks, ways, sets that come back (first written for the whole check) -/
section MG
variable {E : AEnv} {Y : MI} {d k n pc pc' idx : Nat} {ls : List (Option Value)} {st : List Value} {h : List va_E} {Ψ : Pst} {b : Nat} {i : Nat → Int32} {ρ : Nat → Nat → Int32} {G : Nat → Option va_E}
theorem go_ialdM {a N j : Nat} {f : Nat → Int32} (hd : Dc Y pc .iaload pc') (hg : h[a]? = some (ar N f)) (hk : j < N) (hN : N < 2 ^ 31) (K : Go E Y d k n pc' ls (.int (f j) :: st) h Ψ) : Go E Y d k n pc ls (.int (nI j) :: .ref a :: st) h Ψ := by
  refine go_iaload hd (Or.inl hg) (vp_in_nI hk hN) ?_
  rw [nI_cl (by omega)]
  exact K
end MG
theorem bP_wi {x : Int32} {n : Nat} (h1 : 1 ≤ n) (h2 : n < 2 ^ 31) : bI (nI 0 ≤ x ∧ x ≤ nI (n - 1)) = bP (inR x n) := by
  have e : (nI 0 ≤ x ∧ x ≤ nI (n - 1)) ↔ inR x n := by
    have q := wi_in (z := x) (k := n - 1) (by omega)
    rw [show n - 1 + 1 = n by omega] at q
    exact q
  by_cases q : inR x n
  · rw [bP_t q, bI_t (e.mpr q)]
  · rw [bP_f q, bI_f (fun w => q (e.mp w))]
theorem mod_or (M j : Nat) : M % 2 ^ (j + 1) = (if bit M j then M % 2 ^ j ||| 1 * 2 ^ j else M % 2 ^ j ||| 0) := by
  have q : bit M j ↔ M.testBit j = true := bit_tb
  by_cases e : bit M j
  · rw [if_pos e]
    apply Nat.eq_of_testBit_eq
    intro k
    rw [Nat.one_mul, Nat.testBit_or, Nat.testBit_mod_two_pow, Nat.testBit_mod_two_pow, Nat.testBit_two_pow]
    by_cases e1 : k = j
    · subst e1
      rw [q.mp e]
      simp
    · by_cases e2 : k < j
      · simp [e2, show k < j + 1 by omega, show ¬ j = k by omega]
      · simp [e2, show ¬ k < j + 1 by omega, show ¬ j = k by omega]
  · rw [if_neg e, Nat.or_zero]
    apply Nat.eq_of_testBit_eq
    intro k
    rw [Nat.testBit_mod_two_pow, Nat.testBit_mod_two_pow]
    have e0 : M.testBit j = false := by
      cases hq : M.testBit j with
      | true => exact absurd (q.mpr hq) e
      | false => rfl
    by_cases e1 : k = j
    · subst e1
      rw [e0]
      simp
    · by_cases e2 : k < j
      · simp [e2, show k < j + 1 by omega]
      · simp [e2, show ¬ k < j + 1 by omega]
def xs (F : Nat → Nat) : Nat → Nat
  | 0 => 0
  | j + 1 => xs F j ^^^ F j
theorem xs_congr {F F' : Nat → Nat} : ∀ n, (∀ j, j < n → F j = F' j) → xs F n = xs F' n
  | 0, _ => rfl
  | n + 1, h => by
    show xs F n ^^^ F n = xs F' n ^^^ F' n
    rw [xs_congr n (fun j hj => h j (by omega)), h n (by omega)]
theorem xs_0 {F : Nat → Nat} : ∀ n, (∀ j, j < n → F j = 0) → xs F n = 0
  | 0, _ => rfl
  | n + 1, h => by
    show xs F n ^^^ F n = 0
    rw [xs_0 n (fun j hj => h j (by omega)), h n (by omega)]
    rfl
theorem xs_add (F : Nat → Nat) (a : Nat) : ∀ b, xs F (a + b) = xs F a ^^^ xs (fun i => F (a + i)) b
  | 0 => (Nat.xor_zero _).symm
  | b + 1 => by
    show xs F (a + b) ^^^ F (a + b) = xs F a ^^^ (xs (fun i => F (a + i)) b ^^^ F (a + b))
    rw [xs_add F a b, Nat.xor_assoc]
theorem xs_lt {F : Nat → Nat} : ∀ n, (∀ j, j < n → F j < 16) → xs F n < 16
  | 0, _ => by show 0 < 16; decide
  | n + 1, h => xor_lt (xs_lt n (fun j hj => h j (by omega))) (h n (by omega))
theorem vsum_xs {C : Nat → Nat → Nat} {V : Nat → Nat} {M i : Nat} : ∀ n, vsum C V M n i = xs (fun c => if M / 2 ^ c % 2 = 1 then gm (C c i) (V c) else 0) n
  | 0 => rfl
  | n + 1 => by
    show vsum C V M n i ^^^ (if M / 2 ^ n % 2 = 1 then gm (C n i) (V n) else 0) = xs _ n ^^^ (if M / 2 ^ n % 2 = 1 then gm (C n i) (V n) else 0)
    rw [vsum_xs n]
theorem colv_dk {g s c k : Nat} (hc : c < g * s) (hk : k < g) : colv g s c k = if k = c / s then 1 else 0 := by
  unfold colv
  rw [if_pos hc]
  by_cases q : k = c / s
  · rw [if_pos q, if_pos q]
  · rw [if_neg q, if_neg q, if_neg (by omega), if_neg (by omega)]
theorem colv_pk {g s c k : Nat} (hc : ¬ c < g * s) : colv g s c k = if k = c - g * s then 1 else 0 := by
  unfold colv
  rw [if_neg hc]
theorem colv_dg {g s c : Nat} (hc : c < g * s) : colv g s c g = pw c := by
  have h : c / s < g := by have := hcv_ltg hc; unfold hcv at this; rwa [if_pos hc] at this
  unfold colv
  rw [if_pos hc, if_neg (by omega), if_pos rfl]
theorem colv_dg1 {g s c : Nat} (hc : c < g * s) : colv g s c (g + 1) = pw (2 * c) := by
  have h : c / s < g := by have := hcv_ltg hc; unfold hcv at this; rwa [if_pos hc] at this
  unfold colv
  rw [if_pos hc, if_neg (by omega), if_neg (by omega), if_pos rfl]
theorem colv_hi {g s c k : Nat} (hc : c < nc g s) (hk : g + 2 ≤ k) : colv g s c k = 0 := by
  unfold nc at hc
  by_cases q : c < g * s
  · have h : c / s < g := by have := hcv_ltg q; unfold hcv at this; rwa [if_pos q] at this
    unfold colv
    rw [if_pos q, if_neg (by omega), if_neg (by omega), if_neg (by omega)]
  · rw [colv_pk q, if_neg (by omega)]
theorem ite_gm0 {P : Prop} [Decidable P] {x : Nat} (hx : x < 16) : (if P then gm 0 x else 0) = 0 := by
  split
  · exact gm_0l hx
  · rfl
theorem mul_le_grp {g s k : Nat} (hk : k < g) : k * s + s ≤ g * s := by
  have h := Nat.mul_le_mul_right s (show k + 1 ≤ g by omega)
  rwa [Nat.add_mul, Nat.one_mul] at h
theorem div_grp {s k i : Nat} (hi : i < s) : (k * s + i) / s = k := by
  rw [Nat.mul_comm, Nat.mul_add_div (by omega), Nat.div_eq_of_lt hi, Nat.add_zero]
theorem div_lt_grp {s k c : Nat} (h : c < k * s) : c / s < k := Nat.div_lt_of_lt_mul (by rw [Nat.mul_comm]; exact h)
theorem div_gt_grp {s k c : Nat} (hs : 0 < s) (h : k * s + s ≤ c) : k < c / s := by
  have h2 : (k + 1) * s ≤ c := by rw [Nat.add_mul, Nat.one_mul]; exact h
  exact (Nat.le_div_iff_mul_le hs).mpr h2
/-- the sum of a local check -/
theorem vsum_grp {g s T sh k M : Nat} {V : Nat → Nat} (hL : LayOK g s T sh) (hk : k < g) (hV : ∀ c, V c < 16) (hM : ∀ j, j < s → bit M (k * s + j)) (hP : bit M (g * s + k)) : vsum (colv g s) V M (nc g s) k = V (g * s + k) ^^^ xs (fun j => V (k * s + j)) s := by
  have hs : 2 ≤ s := hL.2.2.1
  have hgs := mul_le_grp (s := s) hk
  have e : nc g s = k * s + (s + ((g * s - (k * s + s)) + (k + (1 + (g - k + 1))))) := by unfold nc; omega
  rw [vsum_xs, e, xs_add, xs_add, xs_add, xs_add, xs_add]
  have p1 : xs (fun c => if M / 2 ^ c % 2 = 1 then gm (colv g s c k) (V c) else 0) (k * s) = 0 := xs_0 _ (fun j hj => by
    show (if M / 2 ^ j % 2 = 1 then gm (colv g s j k) (V j) else 0) = 0
    rw [colv_dk (by omega) hk, if_neg (show ¬ k = j / s by have := div_lt_grp hj; omega)]
    exact ite_gm0 (hV _))
  rw [p1, Nat.zero_xor]
  have p2 : xs (fun i => (fun c => if M / 2 ^ c % 2 = 1 then gm (colv g s c k) (V c) else 0) (k * s + i)) s = xs (fun j => V (k * s + j)) s := xs_congr _ (fun j hj => by
    show (if M / 2 ^ (k * s + j) % 2 = 1 then gm (colv g s (k * s + j) k) (V (k * s + j)) else 0) = V (k * s + j)
    rw [if_pos (hM j hj), colv_dk (by omega) hk, if_pos (div_grp hj).symm, gm_1l (hV _)])
  rw [p2]
  have p3 : xs (fun i => (fun i => (fun c => if M / 2 ^ c % 2 = 1 then gm (colv g s c k) (V c) else 0) (k * s + i)) (s + i)) (g * s - (k * s + s)) = 0 := xs_0 _ (fun j hj => by
    show (if M / 2 ^ (k * s + (s + j)) % 2 = 1 then gm (colv g s (k * s + (s + j)) k) (V (k * s + (s + j))) else 0) = 0
    rw [colv_dk (by omega) hk, if_neg (show ¬ k = (k * s + (s + j)) / s by have := div_gt_grp (s := s) (k := k) (c := k * s + (s + j)) (by omega) (by omega); omega)]
    exact ite_gm0 (hV _))
  rw [p3, Nat.zero_xor]
  have par : ∀ c, ¬ c < g * s → c ≠ g * s + k → (if M / 2 ^ c % 2 = 1 then gm (colv g s c k) (V c) else 0) = 0 := fun c h1 h2 => by
    rw [colv_pk h1, if_neg (show ¬ k = c - g * s by omega)]
    exact ite_gm0 (hV _)
  have p4 : xs (fun i => (fun i => (fun i => (fun c => if M / 2 ^ c % 2 = 1 then gm (colv g s c k) (V c) else 0) (k * s + i)) (s + i)) (g * s - (k * s + s) + i)) k = 0 := xs_0 _ (fun j hj => par (k * s + (s + (g * s - (k * s + s) + j))) (by omega) (by omega))
  rw [p4, Nat.zero_xor]
  have p6 : xs (fun i => (fun i => (fun i => (fun i => (fun i => (fun c => if M / 2 ^ c % 2 = 1 then gm (colv g s c k) (V c) else 0) (k * s + i)) (s + i)) (g * s - (k * s + s) + i)) (k + i)) (1 + i)) (g - k + 1) = 0 := xs_0 _ (fun j hj => par (k * s + (s + (g * s - (k * s + s) + (k + (1 + j))))) (by omega) (by omega))
  rw [p6, Nat.xor_zero]
  have p5 : xs (fun i => (fun i => (fun i => (fun i => (fun c => if M / 2 ^ c % 2 = 1 then gm (colv g s c k) (V c) else 0) (k * s + i)) (s + i)) (g * s - (k * s + s) + i)) (k + i)) 1 = V (g * s + k) := by
    show 0 ^^^ (if M / 2 ^ (k * s + (s + (g * s - (k * s + s) + (k + 0)))) % 2 = 1 then gm (colv g s (k * s + (s + (g * s - (k * s + s) + (k + 0)))) k) (V (k * s + (s + (g * s - (k * s + s) + (k + 0))))) else 0) = V (g * s + k)
    rw [show k * s + (s + (g * s - (k * s + s) + (k + 0))) = g * s + k by omega, if_pos hP, colv_pk (by omega), if_pos (by omega), gm_1l (hV _), Nat.zero_xor]
  rw [p5, Nat.xor_comm]
/-- the sum of a global check, e = 0 or 1 -/
theorem vsum_glo {g s T sh e M : Nat} {V : Nat → Nat} (hL : LayOK g s T sh) (he : e < 2) (hV : ∀ c, V c < 16) (hM : ∀ c, c < g * s → bit M c) : vsum (colv g s) V M (nc g s) (g + e) = xs (fun c => gm (pw ((e + 1) * c)) (V c)) (g * s) ^^^ (if M / 2 ^ (g * s + (g + e)) % 2 = 1 then V (g * s + (g + e)) else 0) := by
  generalize hq : g + e = q
  have en : nc g s = g * s + (q + (1 + (1 - e))) := by unfold nc; omega
  rw [vsum_xs, en, xs_add, xs_add, xs_add]
  have p1 : xs (fun c => if M / 2 ^ c % 2 = 1 then gm (colv g s c q) (V c) else 0) (g * s) = xs (fun c => gm (pw ((e + 1) * c)) (V c)) (g * s) := xs_congr _ (fun j hj => by
    show (if M / 2 ^ j % 2 = 1 then gm (colv g s j q) (V j) else 0) = gm (pw ((e + 1) * j)) (V j)
    rw [if_pos (hM j hj), ← hq]
    rcases (show e = 0 ∨ e = 1 by omega) with rfl | rfl
    · rw [Nat.add_zero, colv_dg hj, Nat.zero_add, Nat.one_mul]
    · rw [colv_dg1 hj])
  rw [p1]
  have par : ∀ c, ¬ c < g * s → c ≠ g * s + q → (if M / 2 ^ c % 2 = 1 then gm (colv g s c q) (V c) else 0) = 0 := fun c h1 h2 => by
    rw [colv_pk h1, if_neg (show ¬ q = c - g * s by omega)]
    exact ite_gm0 (hV _)
  have p2 : xs (fun i => (fun c => if M / 2 ^ c % 2 = 1 then gm (colv g s c q) (V c) else 0) (g * s + i)) q = 0 := xs_0 _ (fun j hj => par (g * s + j) (by omega) (by omega))
  have p4 : xs (fun i => (fun i => (fun i => (fun c => if M / 2 ^ c % 2 = 1 then gm (colv g s c q) (V c) else 0) (g * s + i)) (q + i)) (1 + i)) (1 - e) = 0 := xs_0 _ (fun j hj => par (g * s + (q + (1 + j))) (by omega) (by omega))
  rw [p2, Nat.zero_xor, p4, Nat.xor_zero]
  congr 1
  show 0 ^^^ (if M / 2 ^ (g * s + (q + 0)) % 2 = 1 then gm (colv g s (g * s + (q + 0)) q) (V (g * s + (q + 0))) else 0) = _
  rw [Nat.add_zero, colv_pk (by omega), if_pos (show q = g * s + q - g * s by omega), gm_1l (hV _), Nat.zero_xor]
theorem vsum_hi {g s k M : Nat} {V : Nat → Nat} (hV : ∀ c, V c < 16) (hk : g + 2 ≤ k) : vsum (colv g s) V M (nc g s) k = 0 := by
  rw [vsum_xs]
  exact xs_0 _ (fun j hj => by rw [colv_hi hj hk]; exact ite_gm0 (hV _))
theorem flg_top {v : Nat → Nat} {g : Nat} (hg : g ≤ 4) (h : ∀ k, g + 2 ≤ k → v k = 0) : flg v 6 = flg v (g + 2) := by
  have step : ∀ j, flg v (g + 2 + j) = flg v (g + 2) := by
    intro j
    induction j with
    | zero => rfl
    | succ j ih =>
      show (if v (g + 2 + j) = 0 then flg v (g + 2 + j) else flg v (g + 2 + j) ||| 1 * 2 ^ (g + 2 + j)) = _
      rw [if_pos (h _ (by omega)), ih]
  have q := step (6 - (g + 2))
  rwa [show g + 2 + (6 - (g + 2)) = 6 by omega] at q
theorem ev_sglx {l : Nat → Nat} {x k : Nat} (hl : B6 l) (hx : x < 16) (hk : k < 6) : ev l (sgl x k) = gm (l k) x := by
  have e : ev l (sgl x k) = ev l (fun i => gm (sgl 1 k i) x) := ev_congr (fun _ _ => rfl) (fun i _ => by
    unfold sgl
    split
    · exact (gm_1l hx).symm
    · exact (gm_0l hx).symm)
  rw [e, ev_gm_r hl (B6.sgl (by decide)) hx, ev_comm hl (B6.sgl (by decide)), ev_sgl hl hk]
theorem ev_dat {g s c : Nat} {l : Nat → Nat} (hl : B6 l) (hg : g ≤ 4) (hc : c < g * s) : ev l (colv g s c) = l (c / s) ^^^ (gm (l g) (pw c) ^^^ gm (l (g + 1)) (pw (2 * c))) := by
  have h : c / s < g := by have := hcv_ltg hc; unfold hcv at this; rwa [if_pos hc] at this
  have e : ev l (colv g s c) = ev l (fun i => sgl 1 (c / s) i ^^^ (sgl (pw c) g i ^^^ sgl (pw (2 * c)) (g + 1) i)) := ev_congr (fun _ _ => rfl) (fun i _ => by
    unfold colv sgl
    rw [if_pos hc]
    by_cases q1 : i = c / s
    · rw [if_pos q1, if_pos q1, if_neg (by omega), if_neg (by omega)]
      rfl
    · rw [if_neg q1, if_neg q1]
      by_cases q2 : i = g
      · rw [if_pos q2, if_pos q2, if_neg (by omega), Nat.zero_xor, Nat.xor_zero]
      · rw [if_neg q2, if_neg q2, Nat.zero_xor, Nat.zero_xor])
  rw [e, ev_xor_r hl (B6.sgl (by decide)) ((B6.sgl (pw_lt _)).xor (B6.sgl (pw_lt _))), ev_xor_r hl (B6.sgl (pw_lt _)) (B6.sgl (pw_lt _)), ev_sglx hl (by decide) (by omega), ev_sglx hl (pw_lt _) (by omega), ev_sglx hl (pw_lt _) (by omega), gm_1 (hl _ (by omega))]
theorem ev_par {g s c : Nat} {l : Nat → Nat} (hl : B6 l) (hg : g ≤ 4) (hn : c < nc g s) (hc : ¬ c < g * s) : ev l (colv g s c) = l (c - g * s) := by
  have h : hcv g s c = c - g * s := if_neg hc
  unfold nc at hn
  rw [colv_par hc, h, ev_sglx hl (by decide) (by omega), gm_1 (hl _ (by omega))]
def gcv (g s k : Nat) : Nat := ((2 ^ s - 1) * 2 ^ (k * s)) ||| 2 ^ (g * s + k)
theorem gtb {g s k x : Nat} : bit (gcv g s k) x ↔ (k * s ≤ x ∧ x < k * s + s) ∨ x = g * s + k := by
  rw [bit_tb]
  unfold gcv
  rw [Nat.testBit_or, Nat.testBit_mul_two_pow, Nat.testBit_two_pow_sub_one, Nat.testBit_two_pow]
  simp
  omega
theorem grp_iff {g s k x : Nat} (hs : 0 < s) (hk : k < g) : bit (gcv g s k) x ↔ hcv g s x = k := by
  have hgs := mul_le_grp (s := s) hk
  rw [gtb]
  unfold hcv
  by_cases q : x < g * s
  · rw [if_pos q]
    constructor
    · rintro (h | h)
      · have e := div_grp (s := s) (k := k) (i := x - k * s) (by omega)
        rwa [show k * s + (x - k * s) = x by omega] at e
      · omega
    · intro h
      left
      subst h
      have h1 := Nat.div_mul_le_self x s
      have h2 := Nat.lt_div_mul_add (a := x) hs
      exact ⟨h1, h2⟩
  · rw [if_neg q]
    constructor
    · rintro (h | h)
      · omega
      · omega
    · intro h
      right
      omega
theorem pmv_g {g s c : Nat} (h : hcv g s c < g) : pmv g s c = clr (gcv g s (hcv g s c)) c := if_pos h
theorem pmv_d {g s c : Nat} (h : ¬ hcv g s c < g) : pmv g s c = 2 ^ (g * s) - 1 := if_neg h
theorem bit_m1 {n x : Nat} : bit (2 ^ n - 1) x ↔ x < n := by
  rw [bit_tb, Nat.testBit_two_pow_sub_one]
  simp
theorem bit_and {P M x : Nat} : bit (P &&& M) x ↔ bit P x ∧ bit M x := by
  rw [bit_tb, bit_tb, bit_tb, Nat.testBit_and]
  simp
theorem eq_bits {P M : Nat} (h : ∀ x, bit P x ↔ bit M x) : P = M := by
  apply Nat.eq_of_testBit_eq
  intro x
  have q := h x
  rw [bit_tb, bit_tb] at q
  cases e1 : P.testBit x <;> cases e2 : M.testBit x <;> simp_all
theorem bit_2 {c x : Nat} : bit (2 ^ c) x ↔ x = c := by
  rw [bit_tb, Nat.testBit_two_pow]
  simp [eq_comm]
theorem bit_big {M n x : Nat} (hM : M < 2 ^ n) (hb : bit M x) : x < n := by
  apply Classical.byContradiction
  intro q
  rw [bit_tb, Nat.testBit_lt_two_pow (Nat.lt_of_lt_of_le hM (Nat.pow_le_pow_right (by decide) (Nat.le_of_not_lt q)))] at hb
  cases hb
theorem pmv_bit {g s c x : Nat} (hs : 0 < s) (h : hcv g s c < g) (hx : x < 32) : bit (pmv g s c) x ↔ hcv g s x = hcv g s c ∧ x ≠ c := by
  rw [pmv_g h, bit_clr hx, grp_iff hs h]
theorem gcv_n {g s k x : Nat} (hk : k < g) (h : bit (gcv g s k) x) : x < nc g s := by
  have h2 := mul_le_grp (s := s) hk
  rw [gtb] at h
  unfold nc
  omega
theorem Dual.same {C : Nat → Nat → Nat} {M n c : Nat} {S l l' : Nat → Nat} (hC : ∀ c, c < n → B6 (C c)) (hcn : c < n) (hS : B6 S) (h : Dual C M n c l) (h' : Dual C M n c l') (hv : ∀ l, Van C M n l → ev l S = 0) : ev l S = ev l' S := by
  have q := hv (fun i => l i ^^^ l' i) ⟨h.1.xor h'.1, fun c' hc' hb' => by
    rw [ev_xor_l h.1 h'.1 (hC c' hc')]
    by_cases e : c' = c
    · rw [e, h.2.1, h'.2.1]
      rfl
    · rw [h.2.2 c' hc' hb' e, h'.2.2 c' hc' hb' e]
      rfl⟩
  rw [ev_xor_l h.1 h'.1 hS] at q
  exact xor_eq0 q
theorem src3_lt {n M : Nat} : Src3 n M < 2 ^ n := Nat.lt_of_le_of_lt Nat.and_le_left (Nat.sub_lt (Nat.two_pow_pos n) (by decide))
theorem colv_home {g s T sh c : Nat} (hL : LayOK g s T sh) (hc : c < nc g s) : colv g s c (hcv g s c) = 1 := by
  unfold hcv
  by_cases q : c < g * s
  · rw [if_pos q]
    unfold colv
    rw [if_pos q, if_pos rfl]
  · rw [if_neg q, colv_pk q, if_pos rfl]
theorem src_n {g s T sh M c w src X : Nat} {C : Nat → Nat → Nat} {V : Nat → Nat} (hL : LayOK g s T sh) (h : WayX C V g s M c w src X) : src < 2 ^ nc g s := by
  have hn := hL.nc
  have hs : 2 ≤ s := hL.2.2.1
  rcases h with ⟨-, -, e, -⟩ | ⟨-, -, -, e, -⟩
  · rw [e]
    refine Nat.lt_pow_two_of_testBit _ (fun x hx => ?_)
    cases q : (pmv g s c).testBit x with
    | false => rfl
    | true =>
      have q2 := bit_tb.mpr q
      have h20 := bit_big (pmv_lt20 hL) q2
      by_cases hh : hcv g s c < g
      · have q3 := (pmv_bit (by omega) hh (by omega)).mp q2
        have q4 := gcv_n hh ((grp_iff (by omega) hh).mpr q3.1)
        omega
      · rw [pmv_d hh, bit_m1] at q2
        unfold nc at hx
        omega
  · rw [e]
    exact src3_lt
theorem pcn_n {M n : Nat} (hM : M < 2 ^ n) (hn : n ≤ 20) : pcn M 20 = pcn M n := by
  have q := pcn_hi hM (20 - n)
  rwa [show n + (20 - n) = 20 by omega] at q
theorem bP_iff {P Q : Prop} (h : P ↔ Q) : bP P = bP Q := by
  by_cases q : Q
  · rw [bP_t q, bP_t (h.mpr q)]
  · rw [bP_f q, bP_f (fun w => q (h.mp w))]
theorem pcn_pos {M x : Nat} (hb : bit M x) : ∀ n, x < n → 1 ≤ pcn M n
  | 0, h => absurd h (Nat.not_lt_zero x)
  | n + 1, h => by
    show 1 ≤ pcn M n + M / 2 ^ n % 2
    by_cases e : x = n
    · subst e
      have hb2 : M / 2 ^ x % 2 = 1 := hb
      omega
    · have := pcn_pos hb n (by omega)
      omega
/-- a mend reads at least one cell -/
theorem WyX.pos {A : Ab} {t c w src X : Nat} (hA : AOK A) (hc : c < nc (aG A) (aS A)) (h : WyX A t c w src X) : 1 ≤ pcn src 20 := by
  have hn := hA.1.nc
  have hg1 : 1 ≤ aG A := hA.1.1
  have hg4 : aG A ≤ 4 := hA.1.2.1
  have hs2 : 2 ≤ aS A := hA.1.2.2.1
  have en : nc (aG A) (aS A) = aG A * aS A + aG A + 2 := rfl
  have hgs2 : 2 ≤ aG A * aS A := Nat.le_trans hs2 (by have := Nat.mul_le_mul_right (aS A) hg1; rwa [Nat.one_mul] at this)
  have key : ∀ x, x < 20 → bit src x → 1 ≤ pcn src 20 := fun x hx hb => pcn_pos hb 20 hx
  rcases h with ⟨-, -, e, -⟩ | ⟨-, ⟨⟨l, hl⟩, -⟩, -, e, -⟩
  · rw [e] at key ⊢
    by_cases hh : hcv (aG A) (aS A) c < aG A
    · have hgk := mul_le_grp (s := aS A) hh
      by_cases q : c = aG A * aS A + hcv (aG A) (aS A) c
      · refine key (hcv (aG A) (aS A) c * aS A) (by omega) ((pmv_bit (by omega) hh (by omega)).mpr ⟨(grp_iff (by omega) hh).mp (gtb.mpr (Or.inl ⟨Nat.le_refl _, by omega⟩)), by omega⟩)
      · exact key (aG A * aS A + hcv (aG A) (aS A) c) (by omega) ((pmv_bit (by omega) hh (by omega)).mpr ⟨(grp_iff (by omega) hh).mp (gtb.mpr (Or.inr rfl)), fun w => q w.symm⟩)
    · rw [pmv_d hh] at key ⊢
      exact key 0 (by omega) (bit_m1.mpr (by omega))
  · rw [e] at key ⊢
    apply Classical.byContradiction
    intro hno
    have hall : ∀ x, x < nc (aG A) (aS A) → bit (aM A t) x := fun x hx => Classical.byContradiction fun q => hno (key x (by omega) ((src_bit (by omega)).mpr ⟨hx, q⟩))
    have hz : ∀ k, k < aG A + 2 → aG A * aS A + k ≠ c → l k = 0 := fun k hk hne => by
      have e := hl.2.2 (aG A * aS A + k) (by omega) (hall _ (by omega)) hne
      rwa [ev_par hl.1 hg4 (by omega) (by omega), show aG A * aS A + k - aG A * aS A = k by omega] at e
    have h1 := hl.2.1
    by_cases q : c < aG A * aS A
    · have hh := hcv_ltg q
      have eh : hcv (aG A) (aS A) c = c / aS A := if_pos q
      rw [ev_dat hl.1 hg4 q, hz (c / aS A) (by omega) (by omega), hz (aG A) (by omega) (by omega), hz (aG A + 1) (by omega) (by omega), gm_0l (pw_lt _), gm_0l (pw_lt _)] at h1
      cases h1
    · rw [ev_par hl.1 hg4 hc q] at h1
      -- a data cell of the same check
      by_cases q2 : c - aG A * aS A < aG A
      · have hgk := mul_le_grp (s := aS A) q2
        have hd : (c - aG A * aS A) * aS A < aG A * aS A := by omega
        have e2 := hl.2.2 ((c - aG A * aS A) * aS A) (by omega) (hall _ (by omega)) (by omega)
        have e3 : (c - aG A * aS A) * aS A / aS A = c - aG A * aS A := Nat.mul_div_cancel _ (by omega)
        rw [ev_dat hl.1 hg4 hd, e3, h1, hz (aG A) (by omega) (by omega), hz (aG A + 1) (by omega) (by omega), gm_0l (pw_lt _), gm_0l (pw_lt _)] at e2
        cases e2
      · have e2 := hl.2.2 0 (by omega) (hall _ (by omega)) (by omega)
        rw [ev_dat hl.1 hg4 (by omega), Nat.zero_div, hz 0 (by omega) (by omega)] at e2
        rcases (show c - aG A * aS A = aG A ∨ c - aG A * aS A = aG A + 1 by omega) with q3 | q3
        · rw [q3] at h1
          rw [h1, hz (aG A + 1) (by omega) (by omega)] at e2
          revert e2
          decide
        · rw [q3] at h1
          rw [h1, hz (aG A) (by omega) (by omega)] at e2
          revert e2
          decide
theorem vsum_put {C : Nat → Nat → Nat} {V : Nat → Nat} {M c v : Nat} (hV : ∀ k, V k < 16) (hC : ∀ k i, C k i < 16) (hv : v < 16) (i : Nat) : ∀ n, vsum C (fun k => if k = c then v else V k) M n i = vsum C V M n i ^^^ (if c < n ∧ bit M c then gm (C c i) (V c ^^^ v) else 0)
  | 0 => by
    rw [if_neg (by omega), Nat.xor_zero]
    rfl
  | n + 1 => by
    show vsum C (fun k => if k = c then v else V k) M n i ^^^ (if M / 2 ^ n % 2 = 1 then gm (C n i) (if n = c then v else V n) else 0) = (vsum C V M n i ^^^ (if M / 2 ^ n % 2 = 1 then gm (C n i) (V n) else 0)) ^^^ _
    rw [vsum_put hV hC hv i n]
    by_cases e : n = c
    · subst e
      rw [if_neg (show ¬ (n < n ∧ bit M n) by omega), if_pos rfl, Nat.xor_zero]
      by_cases q : M / 2 ^ n % 2 = 1
      · rw [if_pos q, if_pos q, if_pos (show n < n + 1 ∧ bit M n from ⟨by omega, q⟩), gm_xor (hC n i) (hV n) hv, Nat.xor_assoc, ← Nat.xor_assoc (gm (C n i) (V n)), Nat.xor_self, Nat.zero_xor]
      · rw [if_neg q, if_neg q, if_neg (show ¬ (n < n + 1 ∧ bit M n) from fun w => q w.2), Nat.xor_zero, Nat.xor_zero]
    · rw [if_neg e]
      by_cases q : c < n ∧ bit M c
      · rw [if_pos q, if_pos (show c < n + 1 ∧ bit M c from ⟨by omega, q.2⟩), Nat.xor_assoc, Nat.xor_comm (gm (C c i) (V c ^^^ v)), ← Nat.xor_assoc]
      · rw [if_neg q, if_neg (show ¬ (c < n + 1 ∧ bit M c) from fun w => q ⟨by omega, w.2⟩), Nat.xor_zero, Nat.xor_zero]
theorem aSum_put {A : Ab} {t c v : Nat} (hA : AOK A) (hc : c < nc (aG A) (aS A)) (hv : v < 16) (i : Nat) : aSum (aPut A t c v) t i = aSum A t i ^^^ gm (colv (aG A) (aS A) c i) (aV A t c ^^^ v) := by
  have e := vsum_put (C := colv (aG A) (aS A)) (V := aV A t) (M := 2 ^ nc (aG A) (aS A) - 1) (c := c) (v := v) (hA.2.2.1 t) (fun k i => colv_lt i) hv i (nc (aG A) (aS A))
  rw [if_pos ⟨hc, bit_m1.mpr hc⟩] at e
  have e2 : (fun k => if k = c then v else aV A t k) = aV (aPut A t c v) t := by
    funext k
    show _ = put2 (aV A) t c v t k
    unfold put2
    by_cases q : k = c
    · rw [if_pos q, if_pos ⟨rfl, q⟩]
    · rw [if_neg q, if_neg (fun w => q w.2)]
  rw [e2] at e
  exact e
theorem flg_0 {v : Nat → Nat} : ∀ n, flg v n = 0 ↔ ∀ j, j < n → v j = 0
  | 0 => ⟨fun _ j hj => absurd hj (Nat.not_lt_zero j), fun _ => rfl⟩
  | n + 1 => by
    have ih := flg_0 (v := v) n
    show (if v n = 0 then flg v n else flg v n ||| 1 * 2 ^ n) = 0 ↔ _
    by_cases q : v n = 0
    · rw [if_pos q, ih]
      constructor
      · intro h j hj
        by_cases e : j = n
        · rw [e]; exact q
        · exact h j (by omega)
      · exact fun h j hj => h j (by omega)
    · rw [if_neg q]
      constructor
      · intro h
        have h2 : 1 * 2 ^ n ≤ flg v n ||| 1 * 2 ^ n := Nat.right_le_or
        have h3 := Nat.two_pow_pos n
        omega
      · exact fun h => absurd (h n (by omega)) q
theorem flg_lt {v : Nat → Nat} : ∀ n, flg v n < 2 ^ n
  | 0 => by show 0 < 2 ^ 0; decide
  | n + 1 => by
    have ih := flg_lt (v := v) n
    show (if v n = 0 then flg v n else flg v n ||| 1 * 2 ^ n) < 2 ^ (n + 1)
    have h2 : 2 ^ (n + 1) = 2 * 2 ^ n := by rw [Nat.pow_succ, Nat.mul_comm]
    split
    · omega
    · rw [Nat.one_mul]
      exact Nat.or_lt_two_pow (by omega) (Nat.pow_lt_pow_right (by decide) (by omega))
theorem upd_self {f : Nat → Int32} {k : Nat} : upd f k (f k) = f := by
  funext j
  unfold upd
  split
  · rename_i e; rw [e]
  · rfl
theorem upd_upd {f : Nat → Int32} {k : Nat} {x y : Int32} : upd (upd f k x) k y = upd f k y := by
  funext j
  unfold upd
  split <;> rfl
theorem cpG_le {A : Ab} {t c : Nat} : ∀ j, cpG A t j = some c → c < j ∧ CU (colv (aG A) (aS A)) (aSum A t) (hcv (aG A) (aS A) c) c
  | 0, h => by cases h
  | j + 1, h => by
    have h2 : (match cpG A t j with | some c => some c | none => cI (CU (colv (aG A) (aS A)) (aSum A t) (hcv (aG A) (aS A) j) j) (some j) none) = some c := h
    cases e : cpG A t j with
    | some d =>
      rw [e] at h2
      cases h2
      have := cpG_le j e
      exact ⟨by omega, this.2⟩
    | none =>
      rw [e] at h2
      by_cases q : CU (colv (aG A) (aS A)) (aSum A t) (hcv (aG A) (aS A) j) j
      · have h3 := (cI_t q).symm.trans h2
        cases h3
        exact ⟨by omega, q⟩
      · have h3 := (cI_f q).symm.trans h2
        cases h3
theorem cpG_none {A : Ab} {t : Nat} : ∀ j, cpG A t j = none → ∀ c, c < j → ¬ CU (colv (aG A) (aS A)) (aSum A t) (hcv (aG A) (aS A) c) c
  | 0, _, c, hc => absurd hc (Nat.not_lt_zero c)
  | j + 1, h, c, hc => by
    have h2 : (match cpG A t j with | some c => some c | none => cI (CU (colv (aG A) (aS A)) (aSum A t) (hcv (aG A) (aS A) j) j) (some j) none) = none := h
    cases e : cpG A t j with
    | some d =>
      rw [e] at h2
      cases h2
    | none =>
      rw [e] at h2
      by_cases q : CU (colv (aG A) (aS A)) (aSum A t) (hcv (aG A) (aS A) j) j
      · have h3 := (cI_t q).symm.trans h2
        cases h3
      · by_cases e2 : c = j
        · rw [e2]; exact q
        · exact cpG_none j e c (by omega)
/-- a negative answer has changed nothing -/
def NG (R : Int32 × Ab) (A : Ab) : Prop := R.1 < 0 → R.2 = A
theorem NG.cI {P : Prop} {a b : Int32 × Ab} {A : Ab} (h1 : NG a A) (h2 : NG b A) : NG (cI P a b) A := by
  by_cases q : P
  · rw [cI_t q]; exact h1
  · rw [cI_f q]; exact h2
theorem NG.same {x : Int32} {A : Ab} : NG (x, A) A := fun _ => rfl
theorem NG.pos {k : Nat} {A A' : Ab} (h : k < 2 ^ 31) : NG (nI k, A') A := fun q => absurd q (nI_pos h)
theorem NG.cn {k : Nat} {A A' : Ab} (h : k < 2 ^ 31) (h0 : k = 0 → A' = A) : NG (cnI k, A') A := fun q => by
  by_cases e : k = 0
  · exact h0 e
  · have e2 : cnI k = nI k := if_neg e
    exact absurd (show nI k < 0 by rw [← e2]; exact q) (nI_pos h)
theorem wrF_ng {A : Ab} {x y z : Int32} (hA : AOK A) : NG (wrF A x y z) A := NG.cI (NG.cI (NG.cI (NG.cI NG.same (NG.pos (by have := hA.2.2.1 x.toNatClampNeg y.toNatClampNeg; omega))) NG.same) NG.same) NG.same
theorem loF_ng {A : Ab} {x y : Int32} (hA : AOK A) : NG (loF A x y) A := NG.cI (NG.cI NG.same (NG.pos (by have := hA.q160; omega))) NG.same
theorem mdF_ng {A : Ab} {x y : Int32} : NG (mdF A x y) A := by
  refine NG.cI (NG.cI ?_ NG.same) NG.same
  unfold mdA
  cases wyF A x.toNatClampNeg y.toNatClampNeg with
  | none => exact NG.same
  | some p => exact NG.pos (by have := pcn_le p.2.1 20; omega)
theorem lnG_0 {nd : Nat} : ∀ m t A, (lnG nd m t A).1 ≤ m ∧ ((lnG nd m t A).1 = 0 → (lnG nd m t A).2 = A)
  | 0, _, _ => ⟨Nat.le_refl 0, fun _ => rfl⟩
  | m + 1, t, A => by
    by_cases h : bit (aM A t) (con (nc (aG A) (aS A)) nd (t * aH A))
    · rw [lnG_t h]
      have ih := lnG_0 (nd := nd) m (t + 1) A
      exact ⟨by omega, ih.2⟩
    · rw [lnG_f h]
      have ih := lnG_0 (nd := nd) m (t + 1) (aLos A t (con (nc (aG A) (aS A)) nd (t * aH A)))
      exact ⟨by dsimp only; omega, fun q => absurd q (by dsimp only; omega)⟩
theorem lsF_ng {A : Ab} {x : Int32} (hA : AOK A) : NG (lsF A x) A := by
  have h8 : aT A ≤ 8 := hA.1.2.2.2.2.2.2.1
  have q := lnG_0 (nd := x.toNatClampNeg) (aT A) 0 A
  exact NG.cI (NG.cn (by omega) q.2) NG.same
theorem mnG_0r {nd : Nat} : ∀ m t A r, AOK A → t + m = aT A → mnG nd m t A = some r → r.1 ≤ 20 * m ∧ (r.1 = 0 → r.2 = A)
  | 0, _, _, r, _, _, h => by
    cases h
    exact ⟨Nat.le_refl 0, fun _ => rfl⟩
  | m + 1, t, A, r, hA, htm, h => by
    have hn := hA.1.nc
    by_cases hb : bit (aM A t) (con (nc (aG A) (aS A)) nd (t * aH A))
    · rcases way_cases A t (con (nc (aG A) (aS A)) nd (t * aH A)) with ⟨w, src, X, hW⟩ | hW
      · rw [mnG_s hb hW] at h
        have hc : con (nc (aG A) (aS A)) nd (t * aH A) < nc (aG A) (aS A) := con_lt (by omega)
        have hp := WyX.pos hA hc hW
        have hp2 := pcn_le src 20
        have ih := mnG_0r (nd := nd) m (t + 1) (aMnd A t (con (nc (aG A) (aS A)) nd (t * aH A)) w src X)
        cases e : mnG nd m (t + 1) (aMnd A t (con (nc (aG A) (aS A)) nd (t * aH A)) w src X) with
        | none =>
          rw [e] at h
          cases h
        | some r2 =>
          rw [e] at h
          cases h
          have ih2 := ih r2 (aMnd_ok hA (by omega) hc (WyX.lt hA hc hW)) (by show t + 1 + m = aT A; omega) e
          exact ⟨by show pcn src 20 + r2.1 ≤ 20 * (m + 1); omega, fun q => absurd (show pcn src 20 + r2.1 = 0 from q) (by omega)⟩
      · rw [mnG_0 hb hW] at h
        cases h
    · rw [mnG_f hb] at h
      have ih := mnG_0r (nd := nd) m (t + 1) A r hA (by omega) h
      exact ⟨by omega, ih.2⟩
theorem wkG_le : ∀ m A, (wkG m A).1 ≤ m
  | 0, _ => Nat.le_refl 0
  | m + 1, A => by
    cases hq : aQ A with
    | nil =>
      rw [wkG_e hq]
      exact Nat.zero_le _
    | cons x l =>
      rcases way_cases A (x / 20) (x % 20) with ⟨w, src, X, hW⟩ | hW
      · rw [wkG_s hq hW]
        have := wkG_le m (aMnd A (x / 20) (x % 20) w src X)
        dsimp only
        omega
      · rw [wkG_n hq hW]
        have := wkG_le m (aRot A)
        omega
theorem chZ_m {Z : Zt} {A : Ab} {v : Int32} (h : v < 0) : chZ Z (v, A) = (v, Z) := cI_t h
theorem mnF_ng {A : Ab} {x : Int32} (hA : AOK A) (h : (mnF A x).1 ≠ -4) : NG (mnF A x) A := by
  have h8 : aT A ≤ 8 := hA.1.2.2.2.2.2.2.1
  unfold mnF at h ⊢
  by_cases q : inR x (nc (aG A) (aS A))
  · rw [cI_t q] at h ⊢
    cases e : mnG x.toNatClampNeg (aT A) 0 A with
    | none =>
      rw [e] at h
      exact absurd rfl h
    | some r =>
      have q2 := mnG_0r (aT A) 0 A r hA (Nat.zero_add _) e
      exact NG.cn (by omega) q2.2
  · rw [cI_f q]
    exact NG.same
theorem pcn_0 {z : Nat} : ∀ j, z < 2 ^ j → pcn z j = 0 → z = 0
  | 0, h, _ => by
    have : z < 1 := h
    omega
  | j + 1, h, e => by
    have e2 : pcn z j + z / 2 ^ j % 2 = 0 := e
    have hp := Nat.two_pow_pos j
    have h2 : z < 2 ^ j * 2 := by rw [← Nat.pow_succ]; exact h
    have h3 : z / 2 ^ j < 2 := (Nat.div_lt_iff_lt_mul hp).mpr (by rw [Nat.mul_comm]; exact h2)
    have h4 : z / 2 ^ j = 0 := by
      revert e2 h3
      generalize z / 2 ^ j = q
      intro e2 h3
      omega
    have h5 : z < 2 ^ j := by
      rcases Nat.lt_or_ge z (2 ^ j) with q | q
      · exact q
      · have := Nat.div_pos q hp
        omega
    exact pcn_0 j h5 (by omega)
theorem pcn_m {z : Nat} : ∀ j k, j ≤ k → pcn (z % 2 ^ k) j = pcn z j
  | 0, _, _ => rfl
  | j + 1, k, h => by
    show pcn (z % 2 ^ k) j + z % 2 ^ k / 2 ^ j % 2 = pcn z j + z / 2 ^ j % 2
    rw [pcn_m j k (by omega)]
    have e : (bit (z % 2 ^ k) j ↔ bit z j) := by
      rw [bit_tb, bit_tb, Nat.testBit_mod_two_pow]
      simp [show j < k by omega]
    have e2 : (z % 2 ^ k / 2 ^ j % 2 = 1 ↔ z / 2 ^ j % 2 = 1) := e
    omega
theorem mod_pow1 (x p : Nat) : x % 2 ^ (p + 1) = x % 2 ^ p + x / 2 ^ p % 2 * 2 ^ p := by
  rw [Nat.pow_succ, Nat.mod_mul]
  rw [Nat.mul_comm (2 ^ p)]
theorem or_add {M p : Nat} (h : M < 2 ^ p) : M ||| 2 ^ p = M + 2 ^ p := by
  have q := Nat.two_pow_add_eq_or_of_lt h 1
  rw [Nat.mul_one] at q
  rw [Nat.or_comm, ← q, Nat.add_comm]
theorem pcn_or {M p : Nat} (h : M < 2 ^ p) : pcn (M ||| 2 ^ p) (p + 1) = pcn M p + 1 := by
  have e1 : pcn (M ||| 2 ^ p) p = pcn M p := pcn_congr p (fun c hc => by
    rw [bit_or]
    exact ⟨fun q => q.elim id (fun e => by omega), Or.inl⟩)
  have e2 : (M ||| 2 ^ p) / 2 ^ p % 2 = 1 := (show bit (M ||| 2 ^ p) p from bit_or.mpr (Or.inr rfl))
  show pcn (M ||| 2 ^ p) p + (M ||| 2 ^ p) / 2 ^ p % 2 = _
  rw [e1, e2]
theorem pcn_no {M p : Nat} (h : M < 2 ^ p) : pcn M (p + 1) = pcn M p := by
  show pcn M p + M / 2 ^ p % 2 = _
  rw [Nat.div_eq_of_lt h]
  rfl
theorem bit_xc {L c x : Nat} (hb : bit L c) : bit (L ^^^ 1 * 2 ^ c) x ↔ bit L x ∧ x ≠ c := by
  rw [Nat.one_mul, bit_tb, bit_tb, Nat.testBit_xor, Nat.testBit_two_pow]
  rw [bit_tb] at hb
  by_cases e : c = x
  · subst e
    simp [hb]
  · simp [e, Ne.symm e]
theorem xc_lt {L c : Nat} (hL : L < 2 ^ 20) (hb : bit L c) : L ^^^ 1 * 2 ^ c < L := by
  have e : L ^^^ 1 * 2 ^ c = clr L c := eq_bits (fun x => by
    rw [bit_xc hb]
    by_cases hx : x < 32
    · rw [bit_clr hx]
    · constructor
      · intro q
        have := bit_big hL q.1
        omega
      · intro q
        have := bit_big (Nat.lt_of_le_of_lt clr_le hL) q
        omega)
  have h1 : L ^^^ 1 * 2 ^ c ≤ L := by rw [e]; exact clr_le
  have h2 : L ^^^ 1 * 2 ^ c ≠ L := fun q => by
    have q2 : bit (L ^^^ 1 * 2 ^ c) c := by rw [q]; exact hb
    exact ((bit_xc hb).mp q2).2 rfl
  omega
theorem IndP.step {C : Nat → Nat → Nat} {L c n : Nat} (hC : ∀ c, c < n → B6 (C c)) (hc : c < n) (hb : bit L c) {l : Nat → Nat} (hl : Dual C L n c l) : IndP C (L ^^^ 1 * 2 ^ c) n ↔ IndP C L n := by
  constructor
  · intro h c' hc' hb'
    by_cases e : c' = c
    · subst e
      exact ⟨l, hl⟩
    · obtain ⟨l', h1, h2, h3⟩ := h c' hc' ((bit_xc hb).mpr ⟨hb', e⟩)
      have hy := ev_lt h1 (hC c hc)
      refine ⟨fun k => l' k ^^^ gm (l k) (ev l' (C c)), h1.xor (hl.1.gm hy), ?_, fun c2 hc2 hb2 hne => ?_⟩
      · rw [ev_xor_l h1 (hl.1.gm hy) (hC c' hc'), ev_gm_l hl.1 (hC c' hc') hy, hl.2.2 c' hc' hb' e, gm_0l hy, h2]
        rfl
      · by_cases e2 : c2 = c
        · subst e2
          rw [ev_xor_l h1 (hl.1.gm hy) (hC c2 hc2), ev_gm_l hl.1 (hC c2 hc2) hy, hl.2.1, gm_1l hy, Nat.xor_self]
        · rw [ev_xor_l h1 (hl.1.gm hy) (hC c2 hc2), ev_gm_l hl.1 (hC c2 hc2) hy, hl.2.2 c2 hc2 hb2 e2, gm_0l hy, h3 c2 hc2 ((bit_xc hb).mpr ⟨hb2, e2⟩) hne]
          rfl
  · intro h
    exact h.less (Nat.le_refl n) (fun c' _ hb' => ((bit_xc hb).mp hb').1)
/-- a cell that is mended within its group or from the data has a functional of its own -/
theorem dual12 {g s T sh M c : Nat} (hL : LayOK g s T sh) (hM : M < 2 ^ 20) (hc : c < nc g s) (hb : bit M c) (h0 : pmv g s c &&& M = 0) : ∃ l, Dual (colv g s) M (nc g s) c l := by
  have hh := hcv_lt hL hc
  have hg : g ≤ 4 := hL.2.1
  have hs : 2 ≤ s := hL.2.2.1
  refine ⟨sgl 1 (hcv g s c), B6.sgl (by decide), ?_, fun c' hc' hb' hne => ?_⟩
  · rw [ev_sgl (fun i _ => colv_lt i) (by omega), colv_home hL hc]
  · rw [ev_sgl (fun i _ => colv_lt i) (by omega)]
    have hx := bit_big hM hb'
    by_cases q : hcv g s c < g
    · have h1 : hcv g s c' ≠ hcv g s c := fun e => and_bit h0 ((pmv_bit (by omega) q (by omega)).mpr ⟨e, hne⟩) hb'
      by_cases q2 : c' < g * s
      · have eh : hcv g s c' = c' / s := if_pos q2
        rw [colv_dk q2 q, if_neg (by omega)]
      · have eh : hcv g s c' = c' - g * s := if_neg q2
        rw [colv_pk q2, if_neg (by omega)]
    · have hd : ¬ c < g * s := fun w => q (hcv_ltg w)
      have eh : hcv g s c = c - g * s := if_neg hd
      have q2 : ¬ c' < g * s := fun w => and_bit h0 (by rw [pmv_d q]; exact bit_m1.mpr w) hb'
      rw [colv_pk q2, if_neg (by omega)]
theorem IndP.zero {C : Nat → Nat → Nat} {n : Nat} : IndP C 0 n := fun c _ hb => absurd hb (nbit0 c)
section LW
variable {E : AEnv} {d : Nat} {h h1 h' l : List va_E} {b lo hi : Nat} {G G' : Nat → Option va_E} {Z : Zt} {Ψ : Pst}
theorem CZ.obj (q : CZ G Z h b) : ∃ n t, h[b]? = some (clO b (nI n) (nI t)) := by
  obtain ⟨B, S, o, X, q, -⟩ := q
  exact ⟨_, _, q.1⟩
theorem CZ.len (q : CZ G Z h b) : b + 52 ≤ h.length := by
  obtain ⟨B, S, o, X, q, -⟩ := q
  obtain ⟨F, p, h1, h2, h3, h4, h5⟩ := q.2.2.2.2.2.1
  obtain ⟨σ, s⟩ := h4 3 (by decide)
  have := (List.getElem?_eq_some_iff.mp s.2.2.2.2.2).1
  omega
theorem CZ.re (q : CZ G Z h b) (f : ∀ j, (j < b ∨ b + 52 ≤ j) → h[j]? = G' j) : CZ G' Z h b := by
  obtain ⟨B, S, o, X, ⟨q0, qn, q1, q2, q3, q4, q5, q6, fr, q7⟩, r⟩ := q
  exact ⟨B, S, o, X, ⟨q0, qn, q1, q2, q3, q4, q5, q6, f, q7⟩, r⟩
theorem CZ.keep (q : CZ G Z h b) (hO : Only lo hi h h1) (hd : b + 52 ≤ lo ∨ hi ≤ b) : CZ (fun j => h1[j]?) Z h1 b := by
  obtain ⟨B, S, o, X, ⟨q0, qn, q1, q2, q3, q4, q5, ⟨s, t, q6⟩, fr, w, fd, l, rf, q7⟩, r⟩ := q
  refine ⟨B, S, o, X, ⟨hO.at (by omega) q0, qn, q1.keep hO (by omega), q2.keep hO (by omega), q3.keep hO (by omega), ?_, q5.keep hO (by omega), ⟨s, t, q6.keep hO (by omega)⟩, fun _ _ => rfl, w, fd, l, rf, q7.keep hO (by omega)⟩, r⟩
  obtain ⟨F, p, h1, h2, h3, h4, h5⟩ := q4
  refine ⟨F, p, hO.at (by omega) h1, h2, h3, fun q hq => ?_, fun i hi => (h5 i hi).keep hO (by have := (h2 i (by omega)).1; omega)⟩
  obtain ⟨σ, s⟩ := h4 q hq
  exact ⟨σ, s.keep hO (by omega)⟩
theorem CZ.frm (q : CZ G Z h b) : ∀ j, (j < b ∨ b + 52 ≤ j) → h[j]? = G j := by
  obtain ⟨B, S, o, X, q, -⟩ := q
  exact q.2.2.2.2.2.2.2.2.1
theorem and31 (x : Int32) : ∃ k, k < 32 ∧ x &&& nI 31 = nI k := by
  refine ⟨x.toBitVec.toNat % 32, Nat.mod_lt _ (by decide), ?_⟩
  apply Int32.toBitVec_inj.1
  show x.toBitVec &&& BitVec.ofNat 32 31 = BitVec.ofNat 32 (x.toBitVec.toNat % 32)
  apply BitVec.eq_of_toNat_eq
  have h1 := Nat.and_two_pow_sub_one_eq_mod x.toBitVec.toNat 5
  have h2 := x.toBitVec.isLt
  rw [BitVec.toNat_and, BitVec.toNat_ofNat, BitVec.toNat_ofNat, show 31 % 2 ^ 32 = 2 ^ 5 - 1 by decide, h1, Nat.mod_eq_of_lt (show x.toBitVec.toNat % 2 ^ 5 < 2 ^ 32 by omega)]
end LW
end
section
/-! LONGS, MORE LOCALS, MORE ARGUMENTS -/
section GL
variable {E : AEnv} {Y : MI} {d k n pc pc' : Nat} {ls : List (Option Value)} {st : List Value} {h : List va_E} {Ψ : Pst}
theorem go_ldc2 {i : Nat} {v : Int64} (hd : Dc Y pc (.ldc2_w i) pc') (hv : Jvm.Cond.constantLong Y.1.cls i v ∈ BW) (K : Go E Y d k n pc' ls (.long v :: st) h Ψ) : Go E Y d k n pc ls st h Ψ := by
  intro p l e R s m args below meth c Q C ret H locs cells slots lsA hI hS hc hs hL
  obtain ⟨rfl, dd⟩ := hd.is (n := 2) rfl
  exact lv_ldc2 C.1 C.2.1 C.2.2.2.1 (C.2.2.2.2.1 _ hv) dd (K p l e R s m args below meth c Q C ret H locs cells slots lsA hI hS hc hs hL)
theorem go_lmul {x y : Int64} (hd : Dc Y pc (.lmul) pc') (K : Go E Y d k n pc' ls (.long (x * y) :: st) h Ψ) : Go E Y d k n pc ls (.long y :: .long x :: st) h Ψ := by
  intro p l e R s m args below meth c Q C ret H locs cells slots lsA hI hS hc hs hL
  obtain ⟨rfl, dd⟩ := hd.is (n := 0) rfl
  exact lv_lmul C.1 C.2.1 dd (K p l e R s m args below meth c Q C ret H locs cells slots lsA hI hS hc hs hL)
theorem go_ladd {x y : Int64} (hd : Dc Y pc (.ladd) pc') (K : Go E Y d k n pc' ls (.long (x + y) :: st) h Ψ) : Go E Y d k n pc ls (.long y :: .long x :: st) h Ψ := by
  intro p l e R s m args below meth c Q C ret H locs cells slots lsA hI hS hc hs hL
  obtain ⟨rfl, dd⟩ := hd.is (n := 0) rfl
  exact lv_ladd C.1 C.2.1 dd (K p l e R s m args below meth c Q C ret H locs cells slots lsA hI hS hc hs hL)
theorem go_i2l {x : Int32} (hd : Dc Y pc (.i2l) pc') (K : Go E Y d k n pc' ls (.long x.toInt64 :: st) h Ψ) : Go E Y d k n pc ls (.int x :: st) h Ψ := by
  intro p l e R s m args below meth c Q C ret H locs cells slots lsA hI hS hc hs hL
  obtain ⟨rfl, dd⟩ := hd.is (n := 0) rfl
  exact lv_i2l C.1 C.2.1 dd rfl (K p l e R s m args below meth c Q C ret H locs cells slots lsA hI hS hc hs hL)
theorem go_lcmp {x y : Int64} (hd : Dc Y pc (.lcmp) pc') (K : Go E Y d k n pc' ls (.int (lg_cmp x y) :: st) h Ψ) : Go E Y d k n pc ls (.long y :: .long x :: st) h Ψ := by
  intro p l e R s m args below meth c Q C ret H locs cells slots lsA hI hS hc hs hL
  obtain ⟨rfl, dd⟩ := hd.is (n := 0) rfl
  exact W.lcmp C.1 C.2.1 dd (K p l e R s m args below meth c Q C ret H locs cells slots lsA hI hS hc hs hL)
theorem go_lloadn {i : Fin 4} {x : Int64} (hd : Dc Y pc (.lload_n i) pc') (hi : ls[(i : Nat)]? = some (some (.long x))) (hj : ls[(i : Nat) + 1]? = some none) (K : Go E Y d k n pc' ls (.long x :: st) h Ψ) : Go E Y d k n pc ls st h Ψ := by
  intro p l e R s m args below meth c Q C ret H locs cells slots lsA hI hS hc hs hL
  obtain ⟨rfl, dd⟩ := hd.is (n := 0) rfl
  exact lv_lload_n C.1 C.2.1 dd rfl (hL.2.2.2 _ _ hi (Or.inr hj)) (K p l e R s m args below meth c Q C ret H locs cells slots lsA hI hS hc hs hL)
theorem go_lload {i : Nat} {x : Int64} (hd : Dc Y pc (.lload i) pc') (hi : ls[i]? = some (some (.long x))) (hj : ls[i + 1]? = some none) (K : Go E Y d k n pc' ls (.long x :: st) h Ψ) : Go E Y d k n pc ls st h Ψ := by
  intro p l e R s m args below meth c Q C ret H locs cells slots lsA hI hS hc hs hL
  obtain ⟨rfl, dd⟩ := hd.is (n := 1) rfl
  exact lv_lload C.1 C.2.1 dd (hL.2.2.2 _ _ hi (Or.inr hj)) (K p l e R s m args below meth c Q C ret H locs cells slots lsA hI hS hc hs hL)
theorem go_lstoren {i : Fin 4} {x : Int64} (hd : Dc Y pc (.lstore_n i) pc') (hi : (i : Nat) + 1 < ls.length) (K : Go E Y d k n pc' ((ls.set i (some (.long x))).set (i + 1) none) st h Ψ) : Go E Y d k n pc ls (.long x :: st) h Ψ := by
  intro p l e R s m args below meth c Q C ret H locs cells slots lsA hI hS hc hs hL
  obtain ⟨rfl, dd⟩ := hd.is (n := 0) rfl
  exact lv_lstore_n C.1 C.2.1 dd rfl hL.has (Nat.lt_of_lt_of_le hi hL.2.2.1) rfl (fun lsB hB => K p l e R s m args below meth c Q C ret H locs cells slots lsB hI hS hc hs (hL.put2 hB))
theorem go_lstore {i : Nat} {x : Int64} (hd : Dc Y pc (.lstore i) pc') (hi : i + 1 < ls.length) (K : Go E Y d k n pc' ((ls.set i (some (.long x))).set (i + 1) none) st h Ψ) : Go E Y d k n pc ls (.long x :: st) h Ψ := by
  intro p l e R s m args below meth c Q C ret H locs cells slots lsA hI hS hc hs hL
  obtain ⟨rfl, dd⟩ := hd.is (n := 1) rfl
  exact lv_lstore C.1 C.2.1 dd hL.has (Nat.lt_of_lt_of_le hi hL.2.2.1) rfl (fun lsB hB => K p l e R s m args below meth c Q C ret H locs cells slots lsB hI hS hc hs (hL.put2 hB))
theorem go_lret {x : Int64} (hd : Dc Y pc .lreturn pc') (hty : Y.2.2.2 = some .long) (hΨ : Ψ (some (.long x)) h) : Go E Y d k n pc ls [.long x] h Ψ := by
  intro p l e R s m args below meth c Q C ret H locs cells slots lsA hI hS hc hs hL
  obtain ⟨rfl, dd⟩ := hd.is (n := 0) rfl
  exact ret (some (.long x)) h H locs cells slots lsA pc hΨ (Or.inr (Or.inr ⟨x, rfl, hty⟩)) hI hS (by omega) (by omega) dd
theorem go_lload_1 {b0 : Option Value} {x : Int64} (hd : Dc Y pc (.lload_n 1) pc') (K : Go E Y d k n pc' (b0 :: some (.long x) :: none :: ls) (.long x :: st) h Ψ) : Go E Y d k n pc (b0 :: some (.long x) :: none :: ls) st h Ψ := go_lloadn hd rfl rfl K
theorem go_lstore_1 {b0 b1 b2 : Option Value} {x : Int64} (hd : Dc Y pc (.lstore_n 1) pc') (K : Go E Y d k n pc' (b0 :: some (.long x) :: none :: ls) st h Ψ) : Go E Y d k n pc (b0 :: b1 :: b2 :: ls) (.long x :: st) h Ψ := go_lstoren hd (by simp only [List.length_cons]; show 1 + 1 < _; omega) K
theorem go_lload_14 {b0 b1 b2 b3 b4 b5 b6 b7 b8 b9 b10 b11 b12 b13 : Option Value} {x : Int64} (hd : Dc Y pc (.lload 14) pc') (K : Go E Y d k n pc' (b0 :: b1 :: b2 :: b3 :: b4 :: b5 :: b6 :: b7 :: b8 :: b9 :: b10 :: b11 :: b12 :: b13 :: some (.long x) :: none :: ls) (.long x :: st) h Ψ) : Go E Y d k n pc (b0 :: b1 :: b2 :: b3 :: b4 :: b5 :: b6 :: b7 :: b8 :: b9 :: b10 :: b11 :: b12 :: b13 :: some (.long x) :: none :: ls) st h Ψ := go_lload hd rfl rfl K
theorem go_lstore_14 {b0 b1 b2 b3 b4 b5 b6 b7 b8 b9 b10 b11 b12 b13 b14 b15 : Option Value} {x : Int64} (hd : Dc Y pc (.lstore 14) pc') (K : Go E Y d k n pc' (b0 :: b1 :: b2 :: b3 :: b4 :: b5 :: b6 :: b7 :: b8 :: b9 :: b10 :: b11 :: b12 :: b13 :: some (.long x) :: none :: ls) st h Ψ) : Go E Y d k n pc (b0 :: b1 :: b2 :: b3 :: b4 :: b5 :: b6 :: b7 :: b8 :: b9 :: b10 :: b11 :: b12 :: b13 :: b14 :: b15 :: ls) (.long x :: st) h Ψ := go_lstore hd (by simp only [List.length_cons]; show 14 + 1 < _; omega) K
theorem go_iload_14 {b0 b1 b2 b3 b4 b5 b6 b7 b8 b9 b10 b11 b12 b13 : Option Value} {x : Int32} (hd : Dc Y pc (.iload 14) pc') (K : Go E Y d k n pc' (b0 :: b1 :: b2 :: b3 :: b4 :: b5 :: b6 :: b7 :: b8 :: b9 :: b10 :: b11 :: b12 :: b13 :: some (.int x) :: ls) (.int x :: st) h Ψ) : Go E Y d k n pc (b0 :: b1 :: b2 :: b3 :: b4 :: b5 :: b6 :: b7 :: b8 :: b9 :: b10 :: b11 :: b12 :: b13 :: some (.int x) :: ls) st h Ψ := go_iload hd rfl K
theorem go_istore_14 {b0 b1 b2 b3 b4 b5 b6 b7 b8 b9 b10 b11 b12 b13 b14 : Option Value} {x : Int32} (hd : Dc Y pc (.istore 14) pc') (K : Go E Y d k n pc' (b0 :: b1 :: b2 :: b3 :: b4 :: b5 :: b6 :: b7 :: b8 :: b9 :: b10 :: b11 :: b12 :: b13 :: some (.int x) :: ls) st h Ψ) : Go E Y d k n pc (b0 :: b1 :: b2 :: b3 :: b4 :: b5 :: b6 :: b7 :: b8 :: b9 :: b10 :: b11 :: b12 :: b13 :: b14 :: ls) (.int x :: st) h Ψ := go_istore hd (by simp only [List.length_cons]; show 14 < _; omega) K
theorem go_aload_14 {b0 b1 b2 b3 b4 b5 b6 b7 b8 b9 b10 b11 b12 b13 : Option Value} {x : Nat} (hd : Dc Y pc (.aload 14) pc') (K : Go E Y d k n pc' (b0 :: b1 :: b2 :: b3 :: b4 :: b5 :: b6 :: b7 :: b8 :: b9 :: b10 :: b11 :: b12 :: b13 :: some (.ref x) :: ls) (.ref x :: st) h Ψ) : Go E Y d k n pc (b0 :: b1 :: b2 :: b3 :: b4 :: b5 :: b6 :: b7 :: b8 :: b9 :: b10 :: b11 :: b12 :: b13 :: some (.ref x) :: ls) st h Ψ := go_aload hd rfl K
theorem go_astore_14 {b0 b1 b2 b3 b4 b5 b6 b7 b8 b9 b10 b11 b12 b13 b14 : Option Value} {x : Nat} (hd : Dc Y pc (.astore 14) pc') (K : Go E Y d k n pc' (b0 :: b1 :: b2 :: b3 :: b4 :: b5 :: b6 :: b7 :: b8 :: b9 :: b10 :: b11 :: b12 :: b13 :: some (.ref x) :: ls) st h Ψ) : Go E Y d k n pc (b0 :: b1 :: b2 :: b3 :: b4 :: b5 :: b6 :: b7 :: b8 :: b9 :: b10 :: b11 :: b12 :: b13 :: b14 :: ls) (.ref x :: st) h Ψ := go_astore hd (by simp only [List.length_cons]; show 14 < _; omega) K
theorem go_iincN_14 {b0 b1 b2 b3 b4 b5 b6 b7 b8 b9 b10 b11 b12 b13 : Option Value} {j : Nat} {st : List Value} (hd : Dc Y pc (.iinc 14 1) pc') (K : Go E Y d k n pc' (b0 :: b1 :: b2 :: b3 :: b4 :: b5 :: b6 :: b7 :: b8 :: b9 :: b10 :: b11 :: b12 :: b13 :: some (.int (nI (j + 1))) :: ls) st h Ψ) : Go E Y d k n pc (b0 :: b1 :: b2 :: b3 :: b4 :: b5 :: b6 :: b7 :: b8 :: b9 :: b10 :: b11 :: b12 :: b13 :: some (.int (nI j)) :: ls) st h Ψ := go_iinc hd rfl (nI_1 j) K
theorem go_iload_15 {b0 b1 b2 b3 b4 b5 b6 b7 b8 b9 b10 b11 b12 b13 b14 : Option Value} {x : Int32} (hd : Dc Y pc (.iload 15) pc') (K : Go E Y d k n pc' (b0 :: b1 :: b2 :: b3 :: b4 :: b5 :: b6 :: b7 :: b8 :: b9 :: b10 :: b11 :: b12 :: b13 :: b14 :: some (.int x) :: ls) (.int x :: st) h Ψ) : Go E Y d k n pc (b0 :: b1 :: b2 :: b3 :: b4 :: b5 :: b6 :: b7 :: b8 :: b9 :: b10 :: b11 :: b12 :: b13 :: b14 :: some (.int x) :: ls) st h Ψ := go_iload hd rfl K
theorem go_istore_15 {b0 b1 b2 b3 b4 b5 b6 b7 b8 b9 b10 b11 b12 b13 b14 b15 : Option Value} {x : Int32} (hd : Dc Y pc (.istore 15) pc') (K : Go E Y d k n pc' (b0 :: b1 :: b2 :: b3 :: b4 :: b5 :: b6 :: b7 :: b8 :: b9 :: b10 :: b11 :: b12 :: b13 :: b14 :: some (.int x) :: ls) st h Ψ) : Go E Y d k n pc (b0 :: b1 :: b2 :: b3 :: b4 :: b5 :: b6 :: b7 :: b8 :: b9 :: b10 :: b11 :: b12 :: b13 :: b14 :: b15 :: ls) (.int x :: st) h Ψ := go_istore hd (by simp only [List.length_cons]; show 15 < _; omega) K
theorem go_aload_15 {b0 b1 b2 b3 b4 b5 b6 b7 b8 b9 b10 b11 b12 b13 b14 : Option Value} {x : Nat} (hd : Dc Y pc (.aload 15) pc') (K : Go E Y d k n pc' (b0 :: b1 :: b2 :: b3 :: b4 :: b5 :: b6 :: b7 :: b8 :: b9 :: b10 :: b11 :: b12 :: b13 :: b14 :: some (.ref x) :: ls) (.ref x :: st) h Ψ) : Go E Y d k n pc (b0 :: b1 :: b2 :: b3 :: b4 :: b5 :: b6 :: b7 :: b8 :: b9 :: b10 :: b11 :: b12 :: b13 :: b14 :: some (.ref x) :: ls) st h Ψ := go_aload hd rfl K
theorem go_astore_15 {b0 b1 b2 b3 b4 b5 b6 b7 b8 b9 b10 b11 b12 b13 b14 b15 : Option Value} {x : Nat} (hd : Dc Y pc (.astore 15) pc') (K : Go E Y d k n pc' (b0 :: b1 :: b2 :: b3 :: b4 :: b5 :: b6 :: b7 :: b8 :: b9 :: b10 :: b11 :: b12 :: b13 :: b14 :: some (.ref x) :: ls) st h Ψ) : Go E Y d k n pc (b0 :: b1 :: b2 :: b3 :: b4 :: b5 :: b6 :: b7 :: b8 :: b9 :: b10 :: b11 :: b12 :: b13 :: b14 :: b15 :: ls) (.ref x :: st) h Ψ := go_astore hd (by simp only [List.length_cons]; show 15 < _; omega) K
theorem go_iincN_15 {b0 b1 b2 b3 b4 b5 b6 b7 b8 b9 b10 b11 b12 b13 b14 : Option Value} {j : Nat} {st : List Value} (hd : Dc Y pc (.iinc 15 1) pc') (K : Go E Y d k n pc' (b0 :: b1 :: b2 :: b3 :: b4 :: b5 :: b6 :: b7 :: b8 :: b9 :: b10 :: b11 :: b12 :: b13 :: b14 :: some (.int (nI (j + 1))) :: ls) st h Ψ) : Go E Y d k n pc (b0 :: b1 :: b2 :: b3 :: b4 :: b5 :: b6 :: b7 :: b8 :: b9 :: b10 :: b11 :: b12 :: b13 :: b14 :: some (.int (nI j)) :: ls) st h Ψ := go_iinc hd rfl (nI_1 j) K
theorem go_iload_16 {b0 b1 b2 b3 b4 b5 b6 b7 b8 b9 b10 b11 b12 b13 b14 b15 : Option Value} {x : Int32} (hd : Dc Y pc (.iload 16) pc') (K : Go E Y d k n pc' (b0 :: b1 :: b2 :: b3 :: b4 :: b5 :: b6 :: b7 :: b8 :: b9 :: b10 :: b11 :: b12 :: b13 :: b14 :: b15 :: some (.int x) :: ls) (.int x :: st) h Ψ) : Go E Y d k n pc (b0 :: b1 :: b2 :: b3 :: b4 :: b5 :: b6 :: b7 :: b8 :: b9 :: b10 :: b11 :: b12 :: b13 :: b14 :: b15 :: some (.int x) :: ls) st h Ψ := go_iload hd rfl K
theorem go_istore_16 {b0 b1 b2 b3 b4 b5 b6 b7 b8 b9 b10 b11 b12 b13 b14 b15 b16 : Option Value} {x : Int32} (hd : Dc Y pc (.istore 16) pc') (K : Go E Y d k n pc' (b0 :: b1 :: b2 :: b3 :: b4 :: b5 :: b6 :: b7 :: b8 :: b9 :: b10 :: b11 :: b12 :: b13 :: b14 :: b15 :: some (.int x) :: ls) st h Ψ) : Go E Y d k n pc (b0 :: b1 :: b2 :: b3 :: b4 :: b5 :: b6 :: b7 :: b8 :: b9 :: b10 :: b11 :: b12 :: b13 :: b14 :: b15 :: b16 :: ls) (.int x :: st) h Ψ := go_istore hd (by simp only [List.length_cons]; show 16 < _; omega) K
theorem go_aload_16 {b0 b1 b2 b3 b4 b5 b6 b7 b8 b9 b10 b11 b12 b13 b14 b15 : Option Value} {x : Nat} (hd : Dc Y pc (.aload 16) pc') (K : Go E Y d k n pc' (b0 :: b1 :: b2 :: b3 :: b4 :: b5 :: b6 :: b7 :: b8 :: b9 :: b10 :: b11 :: b12 :: b13 :: b14 :: b15 :: some (.ref x) :: ls) (.ref x :: st) h Ψ) : Go E Y d k n pc (b0 :: b1 :: b2 :: b3 :: b4 :: b5 :: b6 :: b7 :: b8 :: b9 :: b10 :: b11 :: b12 :: b13 :: b14 :: b15 :: some (.ref x) :: ls) st h Ψ := go_aload hd rfl K
theorem go_astore_16 {b0 b1 b2 b3 b4 b5 b6 b7 b8 b9 b10 b11 b12 b13 b14 b15 b16 : Option Value} {x : Nat} (hd : Dc Y pc (.astore 16) pc') (K : Go E Y d k n pc' (b0 :: b1 :: b2 :: b3 :: b4 :: b5 :: b6 :: b7 :: b8 :: b9 :: b10 :: b11 :: b12 :: b13 :: b14 :: b15 :: some (.ref x) :: ls) st h Ψ) : Go E Y d k n pc (b0 :: b1 :: b2 :: b3 :: b4 :: b5 :: b6 :: b7 :: b8 :: b9 :: b10 :: b11 :: b12 :: b13 :: b14 :: b15 :: b16 :: ls) (.ref x :: st) h Ψ := go_astore hd (by simp only [List.length_cons]; show 16 < _; omega) K
theorem go_iincN_16 {b0 b1 b2 b3 b4 b5 b6 b7 b8 b9 b10 b11 b12 b13 b14 b15 : Option Value} {j : Nat} {st : List Value} (hd : Dc Y pc (.iinc 16 1) pc') (K : Go E Y d k n pc' (b0 :: b1 :: b2 :: b3 :: b4 :: b5 :: b6 :: b7 :: b8 :: b9 :: b10 :: b11 :: b12 :: b13 :: b14 :: b15 :: some (.int (nI (j + 1))) :: ls) st h Ψ) : Go E Y d k n pc (b0 :: b1 :: b2 :: b3 :: b4 :: b5 :: b6 :: b7 :: b8 :: b9 :: b10 :: b11 :: b12 :: b13 :: b14 :: b15 :: some (.int (nI j)) :: ls) st h Ψ := go_iinc hd rfl (nI_1 j) K
def RLg (P : Int64 → List va_E → Prop) : Pst := fun r h => ∃ x, r = some (.long x) ∧ P x h
theorem RLg.mk {P : Int64 → List va_E → Prop} {x : Int64} {h : List va_E} (e : P x h) : RLg P (some (.long x)) h := ⟨x, rfl, e⟩
theorem go_cSl1 {idx : Nat} {Y' : MI} {rest : List Value} {P : Int64 → List va_E → Prop} {a0 : Value} (hd : Dc Y pc (.invokestatic idx) pc') (hM : MLk Y.1.cls idx Y' 1) (hst : Cond.static Y'.1 ∈ BW) (hd1 : 1 ≤ d) (hC : Calls E Y' (d - 1) 0 0 [a0] h (RLg P)) (hcat : (rest.map fun v => v.category).sum ≤ 8) (K : ∀ x h1, P x h1 → Go E Y d k n pc' ls (.long x :: rest) h1 Ψ) : Go E Y d k n pc ls (a0 :: rest) h Ψ := by
  have q := go_callS (k := k) (n := n) (ls := ls) (rest := rest) (Ψ := Ψ) (As := [a0]) hd hM hst hd1 hC rfl hcat (fun r1 h1 q => by obtain ⟨x, rfl, q⟩ := q; exact K x h1 q)
  rw [Nat.zero_add, Nat.zero_add] at q
  exact q
theorem go_cSi6 {idx : Nat} {Y' : MI} {rest : List Value} {P : Int32 → List va_E → Prop} {a0 a1 a2 a3 a4 a5 : Value} (hd : Dc Y pc (.invokestatic idx) pc') (hM : MLk Y.1.cls idx Y' 6) (hst : Cond.static Y'.1 ∈ BW) (hd1 : 1 ≤ d) (hC : Calls E Y' (d - 1) 0 0 [a0, a1, a2, a3, a4, a5] h (RI P)) (hcat : (rest.map fun v => v.category).sum ≤ 8) (K : ∀ x h1, P x h1 → Go E Y d k n pc' ls (.int x :: rest) h1 Ψ) : Go E Y d k n pc ls (a5 :: a4 :: a3 :: a2 :: a1 :: a0 :: rest) h Ψ := by
  have q := go_callS (k := k) (n := n) (ls := ls) (rest := rest) (Ψ := Ψ) (As := [a0, a1, a2, a3, a4, a5]) hd hM hst hd1 hC rfl hcat (fun r1 h1 q => by obtain ⟨x, rfl, q⟩ := q; exact K x h1 q)
  rw [Nat.zero_add, Nat.zero_add] at q
  exact q
theorem go_cSv6 {idx : Nat} {Y' : MI} {rest : List Value} {PV : List va_E → Prop} {a0 a1 a2 a3 a4 a5 : Value} (hd : Dc Y pc (.invokestatic idx) pc') (hM : MLk Y.1.cls idx Y' 6) (hst : Cond.static Y'.1 ∈ BW) (hd1 : 1 ≤ d) (hC : Calls E Y' (d - 1) 0 0 [a0, a1, a2, a3, a4, a5] h (RV PV)) (hcat : (rest.map fun v => v.category).sum ≤ 8) (K : ∀ h1, PV h1 → Go E Y d k n pc' ls rest h1 Ψ) : Go E Y d k n pc ls (a5 :: a4 :: a3 :: a2 :: a1 :: a0 :: rest) h Ψ := by
  have q := go_callS (k := k) (n := n) (ls := ls) (rest := rest) (Ψ := Ψ) (As := [a0, a1, a2, a3, a4, a5]) hd hM hst hd1 hC rfl hcat (fun r1 h1 q => by obtain ⟨rfl, q⟩ := q; exact K h1 q)
  rw [Nat.zero_add, Nat.zero_add] at q
  exact q
theorem go_cSi7 {idx : Nat} {Y' : MI} {rest : List Value} {P : Int32 → List va_E → Prop} {a0 a1 a2 a3 a4 a5 a6 : Value} (hd : Dc Y pc (.invokestatic idx) pc') (hM : MLk Y.1.cls idx Y' 7) (hst : Cond.static Y'.1 ∈ BW) (hd1 : 1 ≤ d) (hC : Calls E Y' (d - 1) 0 0 [a0, a1, a2, a3, a4, a5, a6] h (RI P)) (hcat : (rest.map fun v => v.category).sum ≤ 8) (K : ∀ x h1, P x h1 → Go E Y d k n pc' ls (.int x :: rest) h1 Ψ) : Go E Y d k n pc ls (a6 :: a5 :: a4 :: a3 :: a2 :: a1 :: a0 :: rest) h Ψ := by
  have q := go_callS (k := k) (n := n) (ls := ls) (rest := rest) (Ψ := Ψ) (As := [a0, a1, a2, a3, a4, a5, a6]) hd hM hst hd1 hC rfl hcat (fun r1 h1 q => by obtain ⟨x, rfl, q⟩ := q; exact K x h1 q)
  rw [Nat.zero_add, Nat.zero_add] at q
  exact q
theorem go_cSv7 {idx : Nat} {Y' : MI} {rest : List Value} {PV : List va_E → Prop} {a0 a1 a2 a3 a4 a5 a6 : Value} (hd : Dc Y pc (.invokestatic idx) pc') (hM : MLk Y.1.cls idx Y' 7) (hst : Cond.static Y'.1 ∈ BW) (hd1 : 1 ≤ d) (hC : Calls E Y' (d - 1) 0 0 [a0, a1, a2, a3, a4, a5, a6] h (RV PV)) (hcat : (rest.map fun v => v.category).sum ≤ 8) (K : ∀ h1, PV h1 → Go E Y d k n pc' ls rest h1 Ψ) : Go E Y d k n pc ls (a6 :: a5 :: a4 :: a3 :: a2 :: a1 :: a0 :: rest) h Ψ := by
  have q := go_callS (k := k) (n := n) (ls := ls) (rest := rest) (Ψ := Ψ) (As := [a0, a1, a2, a3, a4, a5, a6]) hd hM hst hd1 hC rfl hcat (fun r1 h1 q => by obtain ⟨rfl, q⟩ := q; exact K h1 q)
  rw [Nat.zero_add, Nat.zero_add] at q
  exact q
theorem go_cSi8 {idx : Nat} {Y' : MI} {rest : List Value} {P : Int32 → List va_E → Prop} {a0 a1 a2 a3 a4 a5 a6 a7 : Value} (hd : Dc Y pc (.invokestatic idx) pc') (hM : MLk Y.1.cls idx Y' 8) (hst : Cond.static Y'.1 ∈ BW) (hd1 : 1 ≤ d) (hC : Calls E Y' (d - 1) 0 0 [a0, a1, a2, a3, a4, a5, a6, a7] h (RI P)) (hcat : (rest.map fun v => v.category).sum ≤ 8) (K : ∀ x h1, P x h1 → Go E Y d k n pc' ls (.int x :: rest) h1 Ψ) : Go E Y d k n pc ls (a7 :: a6 :: a5 :: a4 :: a3 :: a2 :: a1 :: a0 :: rest) h Ψ := by
  have q := go_callS (k := k) (n := n) (ls := ls) (rest := rest) (Ψ := Ψ) (As := [a0, a1, a2, a3, a4, a5, a6, a7]) hd hM hst hd1 hC rfl hcat (fun r1 h1 q => by obtain ⟨x, rfl, q⟩ := q; exact K x h1 q)
  rw [Nat.zero_add, Nat.zero_add] at q
  exact q
theorem go_cSv8 {idx : Nat} {Y' : MI} {rest : List Value} {PV : List va_E → Prop} {a0 a1 a2 a3 a4 a5 a6 a7 : Value} (hd : Dc Y pc (.invokestatic idx) pc') (hM : MLk Y.1.cls idx Y' 8) (hst : Cond.static Y'.1 ∈ BW) (hd1 : 1 ≤ d) (hC : Calls E Y' (d - 1) 0 0 [a0, a1, a2, a3, a4, a5, a6, a7] h (RV PV)) (hcat : (rest.map fun v => v.category).sum ≤ 8) (K : ∀ h1, PV h1 → Go E Y d k n pc' ls rest h1 Ψ) : Go E Y d k n pc ls (a7 :: a6 :: a5 :: a4 :: a3 :: a2 :: a1 :: a0 :: rest) h Ψ := by
  have q := go_callS (k := k) (n := n) (ls := ls) (rest := rest) (Ψ := Ψ) (As := [a0, a1, a2, a3, a4, a5, a6, a7]) hd hM hst hd1 hC rfl hcat (fun r1 h1 q => by obtain ⟨rfl, q⟩ := q; exact K h1 q)
  rw [Nat.zero_add, Nat.zero_add] at q
  exact q
end GL
theorem lL_59 : Jvm.Cond.constantLong RL 59 11 ∈ BW := BW_mem (by decide +kernel) rfl
theorem lL_61 : Jvm.Cond.constantLong RL 61 31 ∈ BW := BW_mem (by decide +kernel) rfl
theorem lL_69 : Jvm.Cond.constantLong RL 69 37 ∈ BW := BW_mem (by decide +kernel) rfl
theorem lL_74 : Jvm.Cond.constantLong RL 74 41 ∈ BW := BW_mem (by decide +kernel) rfl
theorem kL_7 : Jvm.Cond.constant RL 7 40503 ∈ BW := BW_mem (by decide +kernel) rfl
theorem kL_8 : Jvm.Cond.constant RL 8 2890553 ∈ BW := BW_mem (by decide +kernel) rfl
theorem kL_9 : Jvm.Cond.constant RL 9 2147483647 ∈ BW := BW_mem (by decide +kernel) rfl
end
section
/-! STRIPES WHOSE CHECKS ALL HOLD: what is mended is what was there -/
def CwS (g s : Nat) (V : Nat → Nat) : Prop := ∀ i, i < 6 → vsum (colv g s) V (2 ^ nc g s - 1) (nc g s) i = 0
def Cw (A : Ab) : Prop := ∀ t, t < aT A → CwS (aG A) (aS A) (aV A t)
theorem vsum_z {C : Nat → Nat → Nat} {M i : Nat} (hC : ∀ c, C c i < 16) : ∀ n, vsum C (fun _ => 0) M n i = 0
  | 0 => rfl
  | n + 1 => by
    show vsum C (fun _ => 0) M n i ^^^ (if M / 2 ^ n % 2 = 1 then gm (C n i) 0 else 0) = 0
    rw [vsum_z hC n, gm_0 (hC n), ite_self, Nat.xor_self]
theorem CwS.zero {g s : Nat} : CwS g s (fun _ => 0) := fun i _ => vsum_z (fun c => colv_lt i) _
theorem vsum_part {C : Nat → Nat → Nat} {V : Nat → Nat} {n M i : Nat} (hn : n ≤ 32) : ∀ j, j ≤ n → vsum C V (2 ^ n - 1) j i = vsum C V M j i ^^^ vsum C V (Src3 n M) j i
  | 0, _ => (Nat.xor_self 0).symm
  | j + 1, hj => by
    have ih := vsum_part (C := C) (V := V) (M := M) (i := i) hn j (by omega)
    show vsum C V (2 ^ n - 1) j i ^^^ (if (2 ^ n - 1) / 2 ^ j % 2 = 1 then gm (C j i) (V j) else 0) = (vsum C V M j i ^^^ (if M / 2 ^ j % 2 = 1 then gm (C j i) (V j) else 0)) ^^^ (vsum C V (Src3 n M) j i ^^^ (if Src3 n M / 2 ^ j % 2 = 1 then gm (C j i) (V j) else 0))
    have h1 : (2 ^ n - 1) / 2 ^ j % 2 = 1 := bit_m1.mpr (by omega)
    rw [if_pos h1, ih, xor4 (vsum C V M j i)]
    congr 1
    by_cases q : M / 2 ^ j % 2 = 1
    · rw [if_pos q, if_neg (fun w => ((src_bit (by omega)).mp w).2 q), Nat.xor_zero]
    · rw [if_neg q, if_pos (show Src3 n M / 2 ^ j % 2 = 1 from (src_bit (by omega)).mpr ⟨by omega, q⟩), Nat.zero_xor]
theorem CwS.src {g s M : Nat} {V : Nat → Nat} (hn : nc g s ≤ 20) (h : CwS g s V) : ∀ i, i < 6 → vsum (colv g s) V (Src3 (nc g s) M) (nc g s) i = vsum (colv g s) V M (nc g s) i := fun i hi => by
  have e := h i hi
  rw [vsum_part (M := M) (by omega) _ (Nat.le_refl _)] at e
  exact (xor_eq0 e).symm
theorem xsum_pick {F : Nat → Nat} {M c n : Nat} (hb : bit M c) (h0 : ∀ c', c' < n → bit M c' → c' ≠ c → F c' = 0) : ∀ j, j ≤ n → xsum F M j = if c < j then F c else 0
  | 0, _ => (if_neg (Nat.not_lt_zero c)).symm
  | j + 1, hj => by
    have ih := xsum_pick hb h0 j (by omega)
    show xsum F M j ^^^ (if M / 2 ^ j % 2 = 1 then F j else 0) = _
    rw [ih]
    by_cases e : j = c
    · subst e
      have hb2 : M / 2 ^ j % 2 = 1 := hb
      rw [if_neg (Nat.lt_irrefl j), if_pos hb2, if_pos (Nat.lt_succ_self j), Nat.zero_xor]
    · have hz : (if M / 2 ^ j % 2 = 1 then F j else 0) = 0 := by
        by_cases q : M / 2 ^ j % 2 = 1
        · rw [if_pos q]
          exact h0 j (by omega) q e
        · exact if_neg q
      rw [hz, Nat.xor_zero]
      by_cases q : c < j
      · rw [if_pos q, if_pos (by omega)]
      · rw [if_neg q, if_neg (by omega)]
theorem xsum_0 {F : Nat → Nat} {M n : Nat} (h0 : ∀ c', c' < n → bit M c' → F c' = 0) : ∀ j, j ≤ n → xsum F M j = 0
  | 0, _ => rfl
  | j + 1, hj => by
    have ih := xsum_0 h0 j (by omega)
    show xsum F M j ^^^ (if M / 2 ^ j % 2 = 1 then F j else 0) = 0
    rw [ih, Nat.zero_xor]
    by_cases q : M / 2 ^ j % 2 = 1
    · rw [if_pos q]
      exact h0 j (by omega) q
    · exact if_neg q
theorem CwS.dual {g s M c : Nat} {V l : Nat → Nat} (hn : nc g s ≤ 20) (h : CwS g s V) (hV : ∀ c, V c < 16) (hc : c < nc g s) (hb : bit M c) (hl : Dual (colv g s) M (nc g s) c l) : ev l (vsum (colv g s) V (Src3 (nc g s) M) (nc g s)) = V c := by
  have hC : ∀ c, c < nc g s → B6 (colv g s c) := fun c _ i _ => colv_lt i
  have e : xsum (fun c' => gm (ev l (colv g s c')) (V c')) M (nc g s) = V c := by
    rw [xsum_pick (F := fun c' => gm (ev l (colv g s c')) (V c')) (n := nc g s) hb (fun c' h1 h2 h3 => by
      show gm (ev l (colv g s c')) (V c') = 0
      rw [hl.2.2 c' h1 h2 h3, gm_0l (hV c')]) _ (Nat.le_refl _), if_pos hc]
    show gm (ev l (colv g s c)) (V c) = V c
    rw [hl.2.1, gm_1l (hV c)]
  rw [ev_congr (l' := l) (fun _ _ => rfl) (h.src (M := M) hn), ev_vsum hl.1 hC (fun c _ _ => hV c) _ (Nat.le_refl _)]
  exact e
theorem CwS.van {g s M : Nat} {V l : Nat → Nat} (hn : nc g s ≤ 20) (h : CwS g s V) (hV : ∀ c, V c < 16) (hl : Van (colv g s) M (nc g s) l) : ev l (vsum (colv g s) V (Src3 (nc g s) M) (nc g s)) = 0 := by
  have hC : ∀ c, c < nc g s → B6 (colv g s c) := fun c _ i _ => colv_lt i
  rw [ev_congr (l' := l) (fun _ _ => rfl) (h.src (M := M) hn), ev_vsum hl.1 hC (fun c _ _ => hV c) _ (Nat.le_refl _)]
  exact xsum_0 (n := nc g s) (fun c' h1 h2 => by
    show gm (ev l (colv g s c')) (V c') = 0
    rw [hl.2 c' h1 h2, gm_0l (hV c')]) _ (Nat.le_refl _)
theorem pmv_key {g s T sh c : Nat} (hL : LayOK g s T sh) (hc : c < nc g s) : (∀ x, x < nc g s → x ≠ c → bit (pmv g s c) x ∨ colv g s x (hcv g s c) = 0) ∧ ¬ bit (pmv g s c) c := by
  have hn := hL.nc
  have hs : 0 < s := by have := hL.2.2.1; omega
  refine ⟨fun x hx hne => ?_, ?_⟩
  · by_cases hh : hcv g s c < g
    · by_cases e : hcv g s x = hcv g s c
      · exact Or.inl ((pmv_bit hs hh (by omega)).mpr ⟨e, hne⟩)
      · refine Or.inr ?_
        by_cases q : x < g * s
        · have ex : hcv g s x = x / s := if_pos q
          rw [colv_dk q hh, if_neg (fun w => e (ex.trans w.symm))]
        · have ex : hcv g s x = x - g * s := if_neg q
          rw [colv_pk q, if_neg (fun w => e (ex.trans w.symm))]
    · rw [pmv_d hh, bit_m1]
      have hcg : ¬ c < g * s := fun q => hh (hcv_ltg q)
      by_cases q : x < g * s
      · exact Or.inl q
      · refine Or.inr ?_
        have eh : hcv g s c = c - g * s := if_neg hcg
        rw [colv_pk q, eh, if_neg (by omega)]
  · by_cases hh : hcv g s c < g
    · exact fun q => ((pmv_bit hs hh (by omega)).mp q).2 rfl
    · rw [pmv_d hh, bit_m1]
      exact fun q => hh (hcv_ltg q)
theorem CwS.near {g s T sh c : Nat} {V : Nat → Nat} (hL : LayOK g s T sh) (h : CwS g s V) (hV : ∀ c, V c < 16) (hc : c < nc g s) : vsum (colv g s) V (pmv g s c) (nc g s) (hcv g s c) = V c := by
  have hn := hL.nc
  obtain ⟨key, keyc⟩ := pmv_key hL hc
  have go : ∀ j, j ≤ nc g s → vsum (colv g s) V (2 ^ nc g s - 1) j (hcv g s c) = vsum (colv g s) V (pmv g s c) j (hcv g s c) ^^^ (if c < j then V c else 0) := by
    intro j
    induction j with
    | zero => intro _; exact (Nat.xor_self 0).symm
    | succ j ih =>
      intro hj
      have ih := ih (by omega)
      show vsum (colv g s) V (2 ^ nc g s - 1) j (hcv g s c) ^^^ (if (2 ^ nc g s - 1) / 2 ^ j % 2 = 1 then gm (colv g s j (hcv g s c)) (V j) else 0) = (vsum (colv g s) V (pmv g s c) j (hcv g s c) ^^^ (if pmv g s c / 2 ^ j % 2 = 1 then gm (colv g s j (hcv g s c)) (V j) else 0)) ^^^ (if c < j + 1 then V c else 0)
      rw [if_pos (show (2 ^ nc g s - 1) / 2 ^ j % 2 = 1 from bit_m1.mpr (by omega)), ih]
      by_cases e : j = c
      · rw [e, if_neg (Nat.lt_irrefl c), if_neg keyc, colv_home hL hc, gm_1l (hV c), if_pos (Nat.lt_succ_self c), Nat.xor_zero]
      · have e2 : (if c < j + 1 then V c else 0) = (if c < j then V c else 0) := by
          by_cases q : c < j
          · rw [if_pos q, if_pos (by omega)]
          · rw [if_neg q, if_neg (by omega)]
        have e3 : (if pmv g s c / 2 ^ j % 2 = 1 then gm (colv g s j (hcv g s c)) (V j) else 0) = gm (colv g s j (hcv g s c)) (V j) := by
          rcases key j (by omega) e with q | q
          · exact if_pos q
          · rw [q, gm_0l (hV j), ite_self]
        rw [e2, e3, Nat.xor_assoc, Nat.xor_assoc, Nat.xor_comm (if c < j then V c else 0)]
  have e := h (hcv g s c) (by have h1 := hcv_lt hL hc; have h2 : g ≤ 4 := hL.2.1; omega)
  rw [go _ (Nat.le_refl _), if_pos hc] at e
  exact xor_eq0 e
section WW
variable {A : Ab} {t c w src X : Nat}
theorem WyX.val (hA : AOK A) (hK : Cw A) (ht : t < aT A) (hc : c < nc (aG A) (aS A)) (hb : bit (aM A t) c) (h : WyX A t c w src X) : X = aV A t c := by
  rcases h with ⟨-, -, -, e⟩ | ⟨-, ⟨⟨l, hl⟩, -⟩, -, -, -, e⟩
  · rw [e]
    exact (hK t ht).near hA.1 (hA.2.2.1 t) hc
  · rw [← e l hl]
    exact (hK t ht).dual hA.1.nc.2 (hA.2.2.1 t) hc hb hl
theorem way_of (hA : AOK A) (hK : Cw A) (ht : t < aT A) (hc : c < nc (aG A) (aS A)) (hb : bit (aM A t) c) (hd : ∃ l, Dual (colv (aG A) (aS A)) (aM A t) (nc (aG A) (aS A)) c l) : ∃ w src, WyX A t c w src (aV A t c) := by
  by_cases q : pmv (aG A) (aS A) c &&& aM A t = 0
  · exact ⟨_, _, Or.inl ⟨q, rfl, rfl, ((hK t ht).near hA.1 (hA.2.2.1 t) hc).symm⟩⟩
  · exact ⟨_, _, Or.inr ⟨q, ⟨hd, fun l hl => (hK t ht).van hA.1.nc.2 (hA.2.2.1 t) hl⟩, rfl, rfl, hA.2.2.1 t c, fun l hl => (hK t ht).dual hA.1.nc.2 (hA.2.2.1 t) hc hb hl⟩⟩
theorem WyX.has (hA : AOK A) (ht : t < aT A) (hc : c < nc (aG A) (aS A)) (hb : bit (aM A t) c) (h : WyX A t c w src X) : ∃ l, Dual (colv (aG A) (aS A)) (aM A t) (nc (aG A) (aS A)) c l := by
  rcases h with ⟨q, -⟩ | ⟨-, a, -⟩
  · exact dual12 hA.1 (hA.m20 ht) hc hb q
  · exact a.1
theorem put2_same {V : Nat → Nat → Nat} : put2 V t c (V t c) = V := by
  funext t' c'
  unfold put2
  by_cases e : t' = t ∧ c' = c
  · rw [if_pos e, e.1, e.2]
  · rw [if_neg e]
/-- a set of lost cells, one of them mended -/
theorem IndP.cleared {C : Nat → Nat → Nat} {M n : Nat} (hn : n ≤ 20) (hC : ∀ c, c < n → B6 (C c)) (hc : c < n) (hb : bit M c) {l : Nat → Nat} (hl : Dual C M n c l) : IndP C (clr M c) n ↔ IndP C M n := by
  have e : ∀ x, x < n → (bit (clr M c) x ↔ bit (M ^^^ 1 * 2 ^ c) x) := fun x hx => by rw [bit_clr (by omega), bit_xc hb]
  exact ⟨fun h => (IndP.step hC hc hb hl).mp (h.congr e), fun h => ((IndP.step hC hc hb hl).mpr h).congr (fun x hx => (e x hx).symm)⟩
/-- what the queue's work leaves as it was -/
def Wk (A A' : Ab) : Prop := A'.1 = A.1 ∧ aV A' = aV A ∧ ∀ t, t < aT A → (IndP (colv (aG A) (aS A)) (aM A' t) (nc (aG A) (aS A)) ↔ IndP (colv (aG A) (aS A)) (aM A t) (nc (aG A) (aS A)))
theorem Wk.rf : Wk A A := ⟨rfl, rfl, fun _ _ => Iff.rfl⟩
theorem Wk.g {A' : Ab} (h : Wk A A') : aG A' = aG A ∧ aS A' = aS A ∧ aT A' = aT A ∧ aH A' = aH A := by
  have e := h.1
  unfold aG aS aT aH
  rw [e]
  exact ⟨rfl, rfl, rfl, rfl⟩
theorem Wk.trans {A' A2 : Ab} (h : Wk A A') (h2 : Wk A' A2) : Wk A A2 := by
  obtain ⟨g1, g2, g3, g4⟩ := h.g
  refine ⟨h2.1.trans h.1, h2.2.1.trans h.2.1, fun t ht => ?_⟩
  have q := h2.2.2 t (by rw [g3]; exact ht)
  rw [g1, g2] at q
  exact q.trans (h.2.2 t ht)
theorem Wk.cw {A' : Ab} (h : Wk A A') (hK : Cw A) : Cw A' := by
  obtain ⟨g1, g2, g3, g4⟩ := h.g
  intro t ht
  rw [g3] at ht
  rw [g1, g2, h.2.1]
  exact hK t ht
theorem wk_mnd (hA : AOK A) (hK : Cw A) (ht : t < aT A) (hc : c < nc (aG A) (aS A)) (hb : bit (aM A t) c) (h : WyX A t c w src X) : Wk A (aMnd A t c w src X) := by
  obtain ⟨l, hl⟩ := h.has hA ht hc hb
  have eX := h.val hA hK ht hc hb
  refine ⟨rfl, ?_, fun t' ht' => ?_⟩
  · show put2 (aV A) t c X = aV A
    rw [eX]
    exact put2_same
  · show IndP _ (if t' = t then clr (aM A t) c else aM A t') _ ↔ _
    by_cases e : t' = t
    · subst e
      rw [if_pos rfl]
      exact IndP.cleared hA.1.nc.2 (fun c _ i _ => colv_lt i) hc hb hl
    · rw [if_neg e]
theorem wk_rot : Wk A (aRot A) := ⟨rfl, rfl, fun _ _ => Iff.rfl⟩
end WW
/-- after as many tries as the queue was long, what still waits belongs to stripes that don't survive -/
theorem work_all : ∀ (m : Nat) (A : Ab) (pre post : List Nat), AOK A → Cw A → aQ A = pre ++ post → (∀ x, x ∈ post → ¬ IndP (colv (aG A) (aS A)) (aM A (x / 20)) (nc (aG A) (aS A))) → pre.length ≤ m →
    AOK (wkG m A).2 ∧ Wk A (wkG m A).2 ∧ ∀ x, x ∈ aQ (wkG m A).2 → ¬ IndP (colv (aG A) (aS A)) (aM A (x / 20)) (nc (aG A) (aS A))
  | 0, A, pre, post, hA, hK, hq, hp, hl => by
    have e0 : pre = [] := List.length_eq_zero_iff.mp (by omega)
    refine ⟨hA, Wk.rf, fun x hx => hp x ?_⟩
    have hx : x ∈ aQ A := hx
    rw [hq, e0] at hx
    exact hx
  | m + 1, A, pre, post, hA, hK, hq, hp, hl => by
    cases hQ : aQ A with
    | nil =>
      rw [wkG_e hQ]
      refine ⟨hA, Wk.rf, fun x hx => ?_⟩
      have hx : x ∈ aQ A := hx
      rw [hQ] at hx
      cases hx
    | cons y l =>
      have hy := (hA.2.2.2.2 y).mp (by rw [hQ]; exact List.mem_cons_self)
      have hnd : (y :: l).Nodup := hQ ▸ hA.2.2.2.1
      have hyl := List.nodup_cons.mp hnd
      rcases way_cases A (y / 20) (y % 20) with ⟨w, src, X, hw⟩ | hw
      · rw [wkG_s hQ hw]
        have hX := hw.lt hA hy.2.1
        have h1 := wk_mnd hA hK hy.1 hy.2.1 hy.2.2 hw
        have hA1 : AOK (aMnd A (y / 20) (y % 20) w src X) := aMnd_ok hA hy.1 hy.2.1 hX
        obtain ⟨g1, g2, g3, g4⟩ := h1.g
        have e1 : aQ (aMnd A (y / 20) (y % 20) w src X) = l := by
          show (aQ A).erase (20 * (y / 20) + y % 20) = l
          rw [show 20 * (y / 20) + y % 20 = y by omega, hQ, List.erase_cons_head]
        have hin : ∀ x, x ∈ l → (IndP (colv (aG A) (aS A)) (aM (aMnd A (y / 20) (y % 20) w src X) (x / 20)) (nc (aG A) (aS A)) ↔ IndP (colv (aG A) (aS A)) (aM A (x / 20)) (nc (aG A) (aS A))) := fun x hx => h1.2.2 _ ((hA.2.2.2.2 x).mp (by rw [hQ]; exact List.mem_cons_of_mem _ hx)).1
        have fin : ∀ pre' post' : List Nat, l = pre' ++ post' → (∀ x, x ∈ post' → ¬ IndP (colv (aG A) (aS A)) (aM A (x / 20)) (nc (aG A) (aS A))) → pre'.length ≤ m → AOK (wkG m (aMnd A (y / 20) (y % 20) w src X)).2 ∧ Wk A (wkG m (aMnd A (y / 20) (y % 20) w src X)).2 ∧ ∀ x, x ∈ aQ (wkG m (aMnd A (y / 20) (y % 20) w src X)).2 → ¬ IndP (colv (aG A) (aS A)) (aM A (x / 20)) (nc (aG A) (aS A)) := by
          intro pre' post' f1 f2 f3
          obtain ⟨i1, i2, i3⟩ := work_all m _ pre' post' hA1 (h1.cw hK) (e1.trans f1) (fun x hx => by
            rw [g1, g2]
            exact fun q => f2 x hx ((hin x (by rw [f1]; exact List.mem_append_right _ hx)).mp q)) f3
          refine ⟨i1, h1.trans i2, fun x hx q => i3 x hx ?_⟩
          rw [g1, g2]
          have hx1 := (i1.2.2.2.2 x).mp hx
          have gt := i2.g.2.2.1
          rw [gt, g3] at hx1
          exact (h1.2.2 _ hx1.1).mpr q
        cases pre with
        | nil =>
          have hq2 : y :: l = post := hQ.symm.trans hq
          exact fin [] l rfl (fun x hx => hp x (by rw [← hq2]; exact List.mem_cons_of_mem _ hx)) (Nat.zero_le _)
        | cons z pre =>
          have hq2 : y :: l = z :: (pre ++ post) := hQ.symm.trans hq
          have e3 : l = pre ++ post := (List.cons.inj hq2).2
          exact fin pre post e3 hp (by have : (z :: pre).length = pre.length + 1 := rfl; omega)
      · rw [wkG_n hQ hw]
        have hA1 : AOK (aRot A) := aRot_ok hA (by rw [hQ]; exact List.cons_ne_nil _ _)
        have e1 : aQ (aRot A) = l ++ [y] := by
          show (aQ A).tail ++ [(aQ A).headD 0] = _
          rw [hQ]
          rfl
        have hno : ¬ IndP (colv (aG A) (aS A)) (aM A (y / 20)) (nc (aG A) (aS A)) := fun q => by
          obtain ⟨w, src, hw2⟩ := way_of hA hK hy.1 hy.2.1 hy.2.2 (q _ hy.2.1 hy.2.2)
          rw [wyF_s hw2] at hw
          cases hw
        have fin : ∀ pre' post' : List Nat, l ++ [y] = pre' ++ post' → (∀ x, x ∈ post' → ¬ IndP (colv (aG A) (aS A)) (aM A (x / 20)) (nc (aG A) (aS A))) → pre'.length ≤ m → AOK (wkG m (aRot A)).2 ∧ Wk A (wkG m (aRot A)).2 ∧ ∀ x, x ∈ aQ (wkG m (aRot A)).2 → ¬ IndP (colv (aG A) (aS A)) (aM A (x / 20)) (nc (aG A) (aS A)) := by
          intro pre' post' f1 f2 f3
          obtain ⟨i1, i2, i3⟩ := work_all m (aRot A) pre' post' hA1 (wk_rot.cw hK) (e1.trans f1) f2 f3
          exact ⟨i1, wk_rot.trans i2, i3⟩
        cases pre with
        | nil =>
          have hq2 : y :: l = post := hQ.symm.trans hq
          refine fin [] (l ++ [y]) rfl (fun x hx => ?_) (Nat.zero_le _)
          rcases List.mem_append.mp hx with hx | hx
          · exact hp x (by rw [← hq2]; exact List.mem_cons_of_mem _ hx)
          · rw [List.mem_singleton.mp hx]
            exact hno
        | cons z pre =>
          have hq2 : y :: l = z :: (pre ++ post) := hQ.symm.trans hq
          have e3 : l = pre ++ post := (List.cons.inj hq2).2
          refine fin pre (post ++ [y]) (by rw [e3, List.append_assoc]) (fun x hx => ?_) (by have : (z :: pre).length = pre.length + 1 := rfl; omega)
          rcases List.mem_append.mp hx with hx | hx
          · exact hp x hx
          · rw [List.mem_singleton.mp hx]
            exact hno
end
section
/-! WHAT THE CALLS LEAVE: the checks hold behind each of them; counts; nodes -/
theorem vsum_cg {C : Nat → Nat → Nat} {V V' : Nat → Nat} {M n i : Nat} (h : ∀ k, k < n → V k = V' k) : ∀ j, j ≤ n → vsum C V M j i = vsum C V' M j i
  | 0, _ => rfl
  | j + 1, hj => by
    show vsum C V M j i ^^^ (if M / 2 ^ j % 2 = 1 then gm (C j i) (V j) else 0) = vsum C V' M j i ^^^ (if M / 2 ^ j % 2 = 1 then gm (C j i) (V' j) else 0)
    rw [vsum_cg h j (by omega), h j (by omega)]
def wpt (g s c : Nat) (V : Nat → Nat) (v : Nat) : Nat → Nat → Nat
  | 0 => fun k => if k = c then v else V k
  | j + 1 => fun k => if k = g * s + j then wpt g s c V v j (g * s + j) ^^^ gm (colv g s c j) (V c ^^^ v) else wpt g s c V v j k
theorem wpt_at {g s c v : Nat} {V : Nat → Nat} (hc : c < g * s) : ∀ j k, wpt g s c V v j k = if k = c then v else if g * s ≤ k ∧ k < g * s + j then V k ^^^ gm (colv g s c (k - g * s)) (V c ^^^ v) else V k
  | 0, k => by
    show (if k = c then v else V k) = _
    rw [if_neg (show ¬ (g * s ≤ k ∧ k < g * s + 0) by omega)]
  | j + 1, k => by
    show (if k = g * s + j then wpt g s c V v j (g * s + j) ^^^ gm (colv g s c j) (V c ^^^ v) else wpt g s c V v j k) = _
    by_cases e : k = g * s + j
    · rw [if_pos e, wpt_at hc j, e, if_neg (by omega), if_neg (by omega), if_neg (by omega), if_pos (by omega), show g * s + j - g * s = j by omega]
    · rw [if_neg e, wpt_at hc j k]
      by_cases q : k = c
      · rw [if_pos q, if_pos q]
      · rw [if_neg q, if_neg q]
        by_cases q2 : g * s ≤ k ∧ k < g * s + j
        · rw [if_pos q2, if_pos (by omega)]
        · rw [if_neg q2, if_neg (by omega)]
theorem wpt_lt {g s c v : Nat} {V : Nat → Nat} (hc : c < g * s) (hV : ∀ k, V k < 16) (hv : v < 16) (j k : Nat) : wpt g s c V v j k < 16 := by
  rw [wpt_at hc]
  split
  · exact hv
  · split
    · exact xor_lt (hV _) (gm_lt (colv_lt _) (xor_lt (hV _) hv))
    · exact hV _
theorem wpt_sum {g s c v i : Nat} {V : Nat → Nat} (hc : c < g * s) (hV : ∀ k, V k < 16) (hv : v < 16) : ∀ j, j ≤ g + 2 → vsum (colv g s) (wpt g s c V v j) (2 ^ nc g s - 1) (nc g s) i = (vsum (colv g s) V (2 ^ nc g s - 1) (nc g s) i ^^^ gm (colv g s c i) (V c ^^^ v)) ^^^ (if i < j then gm (colv g s c i) (V c ^^^ v) else 0)
  | 0, _ => by
    have en : nc g s = g * s + g + 2 := rfl
    show vsum (colv g s) (fun k => if k = c then v else V k) _ _ i = _
    rw [vsum_put hV (fun k i => colv_lt i) hv, if_pos ⟨by omega, bit_m1.mpr (by omega)⟩, if_neg (Nat.not_lt_zero i), Nat.xor_zero]
  | j + 1, hj => by
    have en : nc g s = g * s + g + 2 := rfl
    have hx := xor_lt (hV c) hv
    have ih := wpt_sum (i := i) hc hV hv j (by omega)
    show vsum (colv g s) (fun k => if k = g * s + j then wpt g s c V v j (g * s + j) ^^^ gm (colv g s c j) (V c ^^^ v) else wpt g s c V v j k) _ _ i = _
    rw [vsum_put (wpt_lt hc hV hv j) (fun k i => colv_lt i) (xor_lt (wpt_lt hc hV hv j _) (gm_lt (colv_lt _) hx)), if_pos ⟨by omega, bit_m1.mpr (by omega)⟩, ih, ← Nat.xor_assoc, Nat.xor_self, Nat.zero_xor, colv_pk (show ¬ g * s + j < g * s by omega), show g * s + j - g * s = j by omega]
    by_cases e : i = j
    · rw [e, if_neg (Nat.lt_irrefl j), if_pos rfl, if_pos (Nat.lt_succ_self j), gm_1l (gm_lt (colv_lt _) hx), Nat.xor_zero]
    · rw [if_neg e, gm_0l (gm_lt (colv_lt _) hx), Nat.xor_zero]
      by_cases q : i < j
      · rw [if_pos q, if_pos (by omega)]
      · rw [if_neg q, if_neg (by omega)]
theorem CwS.wrt {g s c v : Nat} {V : Nat → Nat} (hc : c < g * s) (hV : ∀ k, V k < 16) (hv : v < 16) (h : CwS g s V) : CwS g s (fun c' => if c' = c then v else if c' < g * s then V c' else V c' ^^^ gm (colv g s c (c' - g * s)) (V c ^^^ v)) := by
  have en : nc g s = g * s + g + 2 := rfl
  intro i hi
  by_cases q : i < g + 2
  · rw [vsum_cg (V' := wpt g s c V v (g + 2)) (n := nc g s) (fun k hk => ?_) _ (Nat.le_refl _), wpt_sum hc hV hv _ (Nat.le_refl _), if_pos q, h i hi, Nat.zero_xor, Nat.xor_self]
    rw [wpt_at hc]
    by_cases e : k = c
    · rw [if_pos e, if_pos e]
    · rw [if_neg e, if_neg e]
      by_cases q2 : k < g * s
      · rw [if_pos q2, if_neg (by omega)]
      · rw [if_neg q2, if_pos (by omega)]
  · refine vsum_hi (fun k => ?_) (by omega)
    split
    · exact hv
    · split
      · exact hV _
      · exact xor_lt (hV _) (gm_lt (colv_lt _) (xor_lt (hV _) hv))
theorem Cw.wrt {A : Ab} {t c v : Nat} (hA : AOK A) (hK : Cw A) (hc : c < aG A * aS A) (hv : v < 16) : Cw (aWrt A t c v) := by
  intro t' ht'
  have h0 := hK t' ht'
  show CwS (aG A) (aS A) (fun c' => if t' = t then (if c' = c then v else if c' < aG A * aS A then aV A t c' else aV A t c' ^^^ gm (colv (aG A) (aS A) c (c' - aG A * aS A)) (aV A t c ^^^ v)) else aV A t' c')
  by_cases e : t' = t
  · subst e
    have h1 := CwS.wrt hc (hA.2.2.1 t') hv h0
    have e2 : (fun c' => if t' = t' then (if c' = c then v else if c' < aG A * aS A then aV A t' c' else aV A t' c' ^^^ gm (colv (aG A) (aS A) c (c' - aG A * aS A)) (aV A t' c ^^^ v)) else aV A t' c') = (fun c' => if c' = c then v else if c' < aG A * aS A then aV A t' c' else aV A t' c' ^^^ gm (colv (aG A) (aS A) c (c' - aG A * aS A)) (aV A t' c ^^^ v)) := by
      funext c'
      rw [if_pos rfl]
    rw [e2]
    exact h1
  · have e2 : (fun c' => if t' = t then (if c' = c then v else if c' < aG A * aS A then aV A t c' else aV A t c' ^^^ gm (colv (aG A) (aS A) c (c' - aG A * aS A)) (aV A t c ^^^ v)) else aV A t' c') = aV A t' := by
      funext c'
      rw [if_neg e]
    rw [e2]
    exact h0
theorem Cw.los {A : Ab} {t c : Nat} (hK : Cw A) : Cw (aLos A t c) := fun t' ht' => hK t' ht'
theorem Cw.new {A : Ab} {g s T sh : Nat} : Cw (aNew A g s T sh) := fun t' ht' => CwS.zero
/-! counts -/
theorem pmv_tab : (List.range 5).all (fun g => (List.range 7).all (fun s => (List.range 20).all (fun c => decide (1 ≤ g → 2 ≤ s → g * s ≤ 15 → c < nc g s → pcn (pmv g s c) 20 = if hcv g s c < g then s else g * s)))) = true := by decide +kernel
theorem pmv_cnt {g s T sh c : Nat} (hL : LayOK g s T sh) (hc : c < nc g s) : pcn (pmv g s c) 20 = if hcv g s c < g then s else g * s := by
  have hn := hL.nc
  obtain ⟨h1, h2, h3, h4, h5, -⟩ := hL
  have q1 := List.all_eq_true.mp pmv_tab g (List.mem_range.mpr (by omega))
  have q2 := List.all_eq_true.mp q1 s (List.mem_range.mpr (by omega))
  have q3 := List.all_eq_true.mp q2 c (List.mem_range.mpr (by omega))
  exact of_decide_eq_true q3 h1 h3 h5 hc
theorem pcn_part {n M : Nat} (hn : n ≤ 32) : ∀ j, j ≤ n → pcn M j + pcn (Src3 n M) j = j
  | 0, _ => rfl
  | j + 1, hj => by
    have ih := pcn_part (M := M) hn j (by omega)
    show (pcn M j + M / 2 ^ j % 2) + (pcn (Src3 n M) j + Src3 n M / 2 ^ j % 2) = j + 1
    by_cases q : M / 2 ^ j % 2 = 1
    · have h2 : ¬ Src3 n M / 2 ^ j % 2 = 1 := fun w => ((src_bit (by omega)).mp w).2 q
      omega
    · have h2 : Src3 n M / 2 ^ j % 2 = 1 := (src_bit (by omega)).mpr ⟨by omega, q⟩
      omega
/-- how many cells are read, by the way -/
def rdN (A : Ab) (t w : Nat) : Nat := if w = 1 then aS A else if w = 2 then aG A * aS A else nc (aG A) (aS A) - pcn (aM A t) 20
theorem WyX.w {A : Ab} {t c w src X : Nat} (h : WyX A t c w src X) : 1 ≤ w ∧ w ≤ 3 := by
  rcases h with ⟨-, e, -⟩ | ⟨-, -, e, -⟩
  · rw [e]
    split <;> decide
  · rw [e]
    decide
theorem WyX.cnt {A : Ab} {t c w src X : Nat} (hA : AOK A) (ht : t < aT A) (hc : c < nc (aG A) (aS A)) (h : WyX A t c w src X) : pcn src 20 = rdN A t w := by
  have hn := hA.1.nc
  unfold rdN
  rcases h with ⟨-, e, es, -⟩ | ⟨-, -, e, es, -⟩
  · rw [es, e, pmv_cnt hA.1 hc]
    by_cases q : hcv (aG A) (aS A) c < aG A
    · rw [if_pos q, if_pos q, if_pos rfl]
    · rw [if_neg q, if_neg q, if_neg (by decide), if_pos rfl]
  · have h1 := pcn_part (n := nc (aG A) (aS A)) (M := aM A t) (by omega) _ (Nat.le_refl _)
    rw [es, e, if_neg (by decide), if_neg (by decide), pcn_n (src3_lt) hn.2, pcn_n (hA.2.1 t ht) hn.2]
    omega
theorem pcn_all {A : Ab} {t : Nat} (hA : AOK A) (ht : t < aT A) : pcn (aM A t) 20 ≤ nc (aG A) (aS A) := by
  rw [pcn_n (hA.2.1 t ht) hA.1.nc.2]
  exact pcn_le _ _
theorem rdN_le {A : Ab} {t w : Nat} (hA : AOK A) : rdN A t w ≤ 20 := by
  have hn := hA.1.nc
  have en : nc (aG A) (aS A) = aG A * aS A + aG A + 2 := rfl
  have h6 : aS A ≤ 6 := hA.1.2.2.2.1
  unfold rdN
  split
  · omega
  · split <;> omega
/-- the group of a cell, 9 for the global ones -/
def grf (g s c : Nat) : Nat := if hcv g s c < g then hcv g s c else 9
theorem grf_eq {g s a c : Nat} (hg : g ≤ 4) (hc : hcv g s c < g) : grf g s a = grf g s c ↔ hcv g s a = hcv g s c := by
  unfold grf
  rw [if_pos hc]
  by_cases q : hcv g s a < g
  · rw [if_pos q]
  · rw [if_neg q]
    omega
theorem grf_9 {g s c : Nat} (hg : g ≤ 4) : grf g s c < 9 ↔ hcv g s c < g := by
  unfold grf
  by_cases q : hcv g s c < g
  · rw [if_pos q]
    omega
  · rw [if_neg q]
    omega
theorem grf_lt {g s c : Nat} (hg : g ≤ 4) : grf g s c < 10 := by
  unfold grf
  split <;> omega
/-- which cells the law reads -/
def rdB (A : Ab) (t c w e : Nat) : Prop := if w = 1 then e ≠ c ∧ grf (aG A) (aS A) e = grf (aG A) (aS A) c else if w = 2 then e < aG A * aS A else ¬ bit (aM A t) e
theorem WyX.src_iff {A : Ab} {t c w src X e : Nat} (hA : AOK A) (hc : c < nc (aG A) (aS A)) (he : e < nc (aG A) (aS A)) (h : WyX A t c w src X) : bit src e ↔ rdB A t c w e := by
  have hn := hA.1.nc
  have hs : 0 < aS A := by have h2 : 2 ≤ aS A := hA.1.2.2.1; omega
  unfold rdB
  rcases h with ⟨-, ew, es, -⟩ | ⟨-, -, ew, es, -⟩
  · rw [es, ew]
    by_cases q : hcv (aG A) (aS A) c < aG A
    · rw [if_pos q, if_pos rfl, pmv_bit hs q (by omega), grf_eq hA.1.2.1 q]
      exact And.comm
    · rw [if_neg q, if_neg (by decide), if_pos rfl, pmv_d q, bit_m1]
  · rw [es, ew, if_neg (by decide), if_neg (by decide), src_bit (by omega)]
    exact ⟨fun q => q.2, fun q => ⟨he, q⟩⟩
/-! the way as a function of the stripe alone -/
noncomputable def wyK (g s : Nat) (V : Nat → Nat) (M c : Nat) : Option (Nat × Nat × Nat) := @dite _ (∃ p : Nat × Nat × Nat, WayX (colv g s) V g s M c p.1 p.2.1 p.2.2) (Classical.propDecidable _) (fun h => some (Classical.choose h)) (fun _ => none)
theorem wyF_k {A : Ab} {t c : Nat} : wyF A t c = wyK (aG A) (aS A) (aV A t) (aM A t) c := rfl
theorem wyF_cg {A A' : Ab} {t c : Nat} (h1 : A'.1 = A.1) (h2 : aV A' t = aV A t) (h3 : aM A' t = aM A t) : wyF A' t c = wyF A t c := by
  have e1 : aG A' = aG A := by unfold aG; rw [h1]
  have e2 : aS A' = aS A := by unfold aS; rw [h1]
  rw [wyF_k (A := A'), wyF_k (A := A), e1, e2, h2, h3]
/-- what the law notes of a cell -/
noncomputable def wnF (A : Ab) (t c : Nat) : Int32 := cI (bit (aM A t) c) (match wyF A t c with
  | none => 0
  | some p => nI p.1) (-1)
theorem wnF_s {A : Ab} {t c w src X : Nat} (hb : bit (aM A t) c) (h : WyX A t c w src X) : wnF A t c = nI w := by
  unfold wnF
  rw [cI_t hb, wyF_s h]
theorem wnF_0 {A : Ab} {t c : Nat} (hb : bit (aM A t) c) (h : wyF A t c = none) : wnF A t c = 0 := by
  unfold wnF
  rw [cI_t hb, h]
theorem wnF_n {A : Ab} {t c : Nat} (hb : ¬ bit (aM A t) c) : wnF A t c = -1 := cI_f hb
/-! nodes -/
def Ag (A A' : Ab) (t : Nat) : Prop := A'.1 = A.1 ∧ aV A' = aV A ∧ ∀ t', t ≤ t' → aM A' t' = aM A t'
theorem Ag.rf {A : Ab} {t : Nat} : Ag A A t := ⟨rfl, rfl, fun _ _ => rfl⟩
theorem Ag.g {A A' : Ab} {t : Nat} (h : Ag A A' t) : aG A' = aG A ∧ aS A' = aS A ∧ aT A' = aT A ∧ aH A' = aH A := by
  have e := h.1
  unfold aG aS aT aH
  rw [e]
  exact ⟨rfl, rfl, rfl, rfl⟩
theorem Ag.cw {A A' : Ab} {t : Nat} (h : Ag A A' t) (hK : Cw A) : Cw A' := by
  obtain ⟨g1, g2, g3, g4⟩ := h.g
  intro t ht
  rw [g3] at ht
  rw [g1, g2, h.2.1]
  exact hK t ht
theorem Ag.mono {A A' : Ab} {t : Nat} (h : Ag A A' t) : Ag A A' (t + 1) := ⟨h.1, h.2.1, fun t' ht => h.2.2 t' (by omega)⟩
theorem Ag.los {A A' : Ab} {t c : Nat} (h : Ag A A' t) : Ag A (aLos A' t c) (t + 1) := ⟨h.1, h.2.1, fun t' ht => by
  show (if t' = t then aM A' t ||| 2 ^ c else aM A' t') = _
  rw [if_neg (by omega)]
  exact h.2.2 t' (by omega)⟩
theorem Ag.mnd {A A' : Ab} {t c w src : Nat} (h : Ag A A' t) : Ag A (aMnd A' t c w src (aV A' t c)) (t + 1) := ⟨h.1, (show put2 (aV A') t c (aV A' t c) = aV A by rw [put2_same]; exact h.2.1), fun t' ht => by
  show (if t' = t then clr (aM A' t) c else aM A' t') = _
  rw [if_neg (by omega)]
  exact h.2.2 t' (by omega)⟩
theorem Ag.wy {A A' : Ab} {t c : Nat} (h : Ag A A' t) : wyF A' t c = wyF A t c := wyF_cg h.1 (by rw [h.2.1]) (h.2.2 t (Nat.le_refl t))
theorem Ag.wn {A A' : Ab} {t c : Nat} (h : Ag A A' t) : wnF A' t c = wnF A t c := by
  unfold wnF
  rw [h.wy, h.2.2 t (Nat.le_refl t)]
/-- the cell of the stripe t that lies on the node nd -/
abbrev cnA (A : Ab) (nd t : Nat) : Nat := con (nc (aG A) (aS A)) nd (t * aH A)
theorem Ag.con {A A' : Ab} {t nd : Nat} (h : Ag A A' t) (t' : Nat) : cnA A' nd t' = cnA A nd t' := by
  obtain ⟨g1, g2, g3, g4⟩ := h.g
  show Jvm.Pilot.CLocalMendersLaw_law_r9733_bb337c.con (nc (aG A') (aS A')) nd (t' * aH A') = _
  rw [g1, g2, g4]
def lnC (A : Ab) (nd : Nat) : Nat → Nat → Nat
  | 0, _ => 0
  | m + 1, t => (if bit (aM A t) (cnA A nd t) then 0 else 1) + lnC A nd m (t + 1)
theorem lnC_le {A : Ab} {nd : Nat} : ∀ m t, lnC A nd m t ≤ m
  | 0, _ => Nat.le_refl 0
  | m + 1, t => by
    have := lnC_le (A := A) (nd := nd) m (t + 1)
    show (if bit (aM A t) (cnA A nd t) then 0 else 1) + lnC A nd m (t + 1) ≤ m + 1
    split <;> omega
theorem lnG_c {A : Ab} {nd : Nat} : ∀ m t A', Ag A A' t → (lnG nd m t A').1 = lnC A nd m t
  | 0, _, _, _ => rfl
  | m + 1, t, A', h => by
    show _ = (if bit (aM A t) (cnA A nd t) then 0 else 1) + lnC A nd m (t + 1)
    by_cases q : bit (aM A' t) (cnA A' nd t)
    · have q2 : bit (aM A t) (cnA A nd t) := by rw [← h.con t, ← h.2.2 t (Nat.le_refl t)]; exact q
      rw [lnG_t q, if_pos q2, Nat.zero_add]
      exact lnG_c m (t + 1) A' h.mono
    · have q2 : ¬ bit (aM A t) (cnA A nd t) := by rw [← h.con t, ← h.2.2 t (Nat.le_refl t)]; exact q
      rw [lnG_f q, if_neg q2, Nat.add_comm 1]
      show (lnG nd m (t + 1) _).1 + 1 = _
      rw [lnG_c m (t + 1) _ h.los]
noncomputable def mnC (A : Ab) (nd : Nat) : Nat → Nat → Option Nat
  | 0, _ => some 0
  | m + 1, t => cI (bit (aM A t) (cnA A nd t)) (match wyF A t (cnA A nd t) with
    | none => none
    | some p => (mnC A nd m (t + 1)).map (fun x => pcn p.2.1 20 + x)) (mnC A nd m (t + 1))
theorem mnC_f {A : Ab} {nd m t : Nat} (h : ¬ bit (aM A t) (cnA A nd t)) : mnC A nd (m + 1) t = mnC A nd m (t + 1) := cI_f h
theorem mnC_0 {A : Ab} {nd m t : Nat} (h : bit (aM A t) (cnA A nd t)) (hw : wyF A t (cnA A nd t) = none) : mnC A nd (m + 1) t = none := (cI_t h).trans (by rw [hw])
theorem mnC_s {A : Ab} {nd m t w src X : Nat} (h : bit (aM A t) (cnA A nd t)) (hw : WyX A t (cnA A nd t) w src X) : mnC A nd (m + 1) t = (mnC A nd m (t + 1)).map (fun x => pcn src 20 + x) := (cI_t h).trans (by rw [wyF_s hw])
theorem mnG_c {A : Ab} {nd : Nat} : ∀ m t A', AOK A' → Cw A' → Ag A A' t → t + m ≤ aT A → (mnG nd m t A').map (fun r => r.1) = mnC A nd m t
  | 0, _, _, _, _, _, _ => rfl
  | m + 1, t, A', hA, hK, h, hm => by
    have hn := hA.1.nc
    have ht : t < aT A' := by rw [h.g.2.2.1]; omega
    have hcn : cnA A' nd t < nc (aG A') (aS A') := con_lt (by omega)
    by_cases q : bit (aM A' t) (cnA A' nd t)
    · have q2 : bit (aM A t) (cnA A nd t) := by rw [← h.con t, ← h.2.2 t (Nat.le_refl t)]; exact q
      rcases way_cases A' t (cnA A' nd t) with ⟨w, src, X, hw⟩ | hw
      · have eX := hw.val hA hK ht hcn q
        subst eX
        have hw2 : wyF A t (cnA A nd t) = some (w, src, aV A' t (cnA A' nd t)) := by rw [← h.con t, ← h.wy]; exact wyF_s hw
        rw [mnG_s q hw]
        show Option.map _ _ = cI (bit (aM A t) (cnA A nd t)) (match wyF A t (cnA A nd t) with
          | none => none
          | some p => (mnC A nd m (t + 1)).map (fun x => pcn p.2.1 20 + x)) (mnC A nd m (t + 1))
        rw [cI_t q2, hw2]
        dsimp only
        rw [← mnG_c m (t + 1) (aMnd A' t (cnA A' nd t) w src (aV A' t (cnA A' nd t))) (aMnd_ok hA ht hcn (hw.lt hA hcn)) ((wk_mnd hA hK ht hcn q hw).cw hK) h.mnd (by omega)]
        generalize mnG nd m (t + 1) _ = r
        cases r <;> rfl
      · have hw2 : wyF A t (cnA A nd t) = none := by rw [← h.con t, ← h.wy]; exact hw
        rw [mnG_0 q hw, mnC_0 q2 hw2]
        rfl
    · have q2 : ¬ bit (aM A t) (cnA A nd t) := by rw [← h.con t, ← h.2.2 t (Nat.le_refl t)]; exact q
      rw [mnG_f q, mnC_f q2]
      exact mnG_c m (t + 1) A' hA hK h.mono (by omega)
theorem mnC_le {A : Ab} {nd : Nat} (hA : AOK A) : ∀ m t x, t + m ≤ aT A → mnC A nd m t = some x → x ≤ 20 * m
  | 0, _, x, _, h => by
    cases h
    exact Nat.le_refl 0
  | m + 1, t, x, hm, h => by
    have hn := hA.1.nc
    have hcn : cnA A nd t < nc (aG A) (aS A) := con_lt (by omega)
    by_cases q : bit (aM A t) (cnA A nd t)
    · rcases way_cases A t (cnA A nd t) with ⟨w, src, X, hw⟩ | hw
      · rw [mnC_s q hw] at h
        cases e : mnC A nd m (t + 1) with
        | none => rw [e] at h; cases h
        | some y =>
          rw [e] at h
          cases h
          have := mnC_le hA m (t + 1) y (by omega) e
          have := pcn_le src 20
          show pcn src 20 + y ≤ 20 * (m + 1)
          omega
      · rw [mnC_0 q hw] at h
        cases h
    · rw [mnC_f q] at h
      have := mnC_le hA m (t + 1) x (by omega) h
      omega
theorem and_low (a b : Nat) : (2 * a) &&& (2 * b + 1) = 2 * (a &&& b) := by
  apply Nat.eq_of_testBit_eq
  intro i
  cases i with
  | zero => simp
  | succ i =>
    rw [Nat.testBit_and, Nat.testBit_succ, Nat.testBit_succ, Nat.testBit_succ, show 2 * a / 2 = a by omega, show (2 * b + 1) / 2 = b by omega, show 2 * (a &&& b) / 2 = a &&& b by omega, Nat.testBit_and]
theorem and_odd (a : Nat) : (2 * a + 1) &&& (2 * a) = 2 * a := by
  apply Nat.eq_of_testBit_eq
  intro i
  cases i with
  | zero => simp
  | succ i =>
    rw [Nat.testBit_and, Nat.testBit_succ, Nat.testBit_succ, show 2 * a / 2 = a by omega, show (2 * a + 1) / 2 = a by omega, Bool.and_self]
theorem pcn_low : ∀ (n M : Nat), M ≠ 0 → M < 2 ^ n → M &&& (M - 1) < M ∧ pcn (M &&& (M - 1)) n + 1 = pcn M n
  | 0, M, h0, h1 => absurd h1 (by omega)
  | n + 1, M, h0, h1 => by
    have e1 : ∀ x : Nat, pcn x (n + 1) = x % 2 + pcn (x / 2) n := fun x => by
      rw [Nat.add_comm n 1, pcn_add x n 1]
      show 0 + x / 2 ^ 0 % 2 + pcn (x / 2 ^ 1) n = _
      rw [Nat.pow_zero, Nat.div_one, Nat.pow_one, Nat.zero_add]
    rcases (show M % 2 = 0 ∨ M % 2 = 1 by omega) with q | q
    · have eM : M = 2 * (M / 2) := by omega
      have e2 : M - 1 = 2 * (M / 2 - 1) + 1 := by omega
      have ih := pcn_low n (M / 2) (by omega) (by rw [Nat.pow_succ] at h1; omega)
      have e3 : M &&& (M - 1) = 2 * (M / 2 &&& (M / 2 - 1)) := by
        rw [e2]
        have := and_low (M / 2) (M / 2 - 1)
        rwa [← eM] at this
      rw [e3]
      refine ⟨by omega, ?_⟩
      rw [e1, e1 M, show 2 * (M / 2 &&& (M / 2 - 1)) / 2 = M / 2 &&& (M / 2 - 1) by omega]
      omega
    · have eM : M = 2 * (M / 2) + 1 := by omega
      have e2 : M - 1 = 2 * (M / 2) := by omega
      have e3 : M &&& (M - 1) = 2 * (M / 2) := by
        rw [e2]
        have := and_odd (M / 2)
        rwa [← eM] at this
      rw [e3]
      refine ⟨by omega, ?_⟩
      rw [e1, e1 M, show 2 * (M / 2) / 2 = M / 2 by omega]
      omega
end
section
/-! THE LAW'S ROWS: 52 q, 53 v, 54 l, 55 w, 56 d, 57 ways, 58 call; what it counts on them -/
def lZ (a : Nat) : Nat := if a = 0 then 9 else if a = 1 then 60 else if a = 2 then 3 else if a = 3 then 60 else if a = 4 then 20 else if a = 5 then 3 else 4
def LA (h : List va_E) (ρ : Nat → Nat → Int32) : Prop := ∀ a, a < 7 → h[52 + a]? = some (ar (lZ a) (ρ a))
/-- the layout, as q has it -/
def LY (A : Ab) (ρ : Nat → Nat → Int32) : Prop := LayOK (aG A) (aS A) (aT A) (aH A) ∧ aT A ≤ 3 ∧ ρ 0 0 = nI (aG A) ∧ ρ 0 1 = nI (aS A) ∧ ρ 0 2 = nI (aT A) ∧ ρ 0 3 = nI (aH A)
/-- the law's rows hold the store A -/
def LR (A : Ab) (ρ : Nat → Nat → Int32) : Prop := AOK A ∧ LY A ρ ∧ ρ 0 4 = nI (aQ A).length ∧ (∀ k, k < 4 → ρ 0 (5 + k) = aK A k) ∧ (∀ t, t < aT A → ∀ c, c < nc (aG A) (aS A) → ρ 1 (20 * t + c) = nI (aV A t c)) ∧
  (∀ t, t < aT A → ρ 2 t = nI (aM A t)) ∧ (∀ i x, (aQ A)[i]? = some x → ρ 3 i = nI x) ∧ ∀ j, j < 20 → ρ 4 j = aL A j
theorem LA.set {h : List va_E} {ρ : Nat → Nat → Int32} {a : Nat} (hL : LA h ρ) (ha : a < 7) (f : Nat → Int32) : LA (h.set (52 + a) (ar (lZ a) f)) (rset ρ a f) := by
  intro a' ha'
  by_cases e : a' = a
  · subst e
    rw [rset_s]
    exact get_set (hL a' ha')
  · rw [rset_n e, List.getElem?_set_ne (by omega)]
    exact hL a' ha'
theorem LA.cz {h h' : List va_E} {ρ : Nat → Nat → Int32} {Z : Zt} (hL : LA h ρ) (q : CZ (fun j => h[j]?) Z h' 0) : LA h' ρ := fun a ha => (q.frm (52 + a) (Or.inr (by omega))).trans (hL a ha)
theorem LY.up {A : Ab} {ρ ρ' : Nat → Nat → Int32} (hY : LY A ρ) (e : ∀ k, k < 4 → ρ' 0 k = ρ 0 k) : LY A ρ' := ⟨hY.1, hY.2.1, (e 0 (by decide)).trans hY.2.2.1, (e 1 (by decide)).trans hY.2.2.2.1, (e 2 (by decide)).trans hY.2.2.2.2.1, (e 3 (by decide)).trans hY.2.2.2.2.2⟩
section LR
variable {E : AEnv} {Y : MI} {d k n pc pc' : Nat} {ls : List (Option Value)} {st : List Value} {h : List va_E} {Ψ : Pst} {ρ : Nat → Nat → Int32}
theorem go_ialdL (a : Nat) {j : Nat} (hd : Dc Y pc .iaload pc') (hL : LA h ρ) (ha : a < 7) (hj : j < lZ a) (K : Go E Y d k n pc' ls (.int (ρ a j) :: st) h Ψ) : Go E Y d k n pc ls (.int (nI j) :: .ref (52 + a) :: st) h Ψ := by
  refine go_ialdM hd (hL a ha) hj ?_ K
  unfold lZ
  repeat' split
  all_goals decide
theorem go_iastL (a : Nat) {j : Nat} {x : Int32} (hd : Dc Y pc .iastore pc') (hL : LA h ρ) (ha : a < 7) (hj : j < lZ a) (K : ∀ h1, LA h1 (rset ρ a (upd (ρ a) j x)) → Only 52 59 h h1 → Go E Y d k n pc' ls st h1 Ψ) : Go E Y d k n pc ls (.int x :: .int (nI j) :: .ref (52 + a) :: st) h Ψ := by
  have hz : lZ a < 2 ^ 31 := by
    unfold lZ
    repeat' split
    all_goals decide
  refine go_iastore hd (hL a ha) (vp_in_nI hj hz) ?_
  rw [nI_cl (by omega)]
  exact K _ (hL.set ha _) (Only.set (by omega) (by omega))
end LR
section LM
variable {E : AEnv} {d : Nat} {h h' h0 : List va_E} {ρ ρ' : Nat → Nat → Int32} {A : Ab} {Z : Zt} {G : Nat → Option va_E}
theorem c_cell {k : Nat} (hk : k ≤ 60) (hS1 : (ESc E).1 ≤ 260) : Calls E mL_cell d 0 0 [.ref (BIGN + 2), .int (nI k)] h (RI (fun r h1 => h1 = h)) := by
  refine Calls.of (ls := [some (.ref (BIGN + 2)), some (.int (nI k))]) (by decide +kernel) rfl (Nat.le_of_ble_eq_true rfl) (cat_ok rfl) ?_
  have hS : ArrR E h (BIGN + 2) (ESc E).1 (ESc E).2 := Or.inr (Or.inr (Or.inr ⟨rfl, rfl, rfl⟩))
  refine go_iload_1 (DL_cell.at 0 rfl) ?_
  refine go_aload_0 (DL_cell.at 1 rfl) ?_
  refine go_alen (DL_cell.at 2 rfl) hS (v := nI (ESc E).1) rfl ?_
  refine go_icmp_ge 12 (DL_cell.at 3 rfl) (by decide) (fun c3 => ?_) (fun c3 => ?_)
  · refine go_ldc (DL_cell.at 8 rfl) kL_7 ?_
    refine go_iload_1 (DL_cell.at 9 rfl) ?_
    refine go_bipush (v := nI 7) (DL_cell.at 10 rfl) (by decide) ?_
    refine go_iadd (DL_cell.at 11 rfl) ?_
    refine go_imul (DL_cell.at 12 rfl) ?_
    refine go_ldc (DL_cell.at 13 rfl) kL_8 ?_
    refine go_iadd (DL_cell.at 14 rfl) ?_
    exact go_iret (DL_cell.at 15 rfl) rfl rfl (RI.mk rfl)
  · rw [nI_leI (by omega) (by omega)] at c3
    replace c3 : k < (ESc E).1 := by omega
    refine go_aload_0 (DL_cell.at 4 rfl) ?_
    refine go_iload_1 (DL_cell.at 5 rfl) ?_
    refine go_iaload (DL_cell.at 6 rfl) hS (vp_in_nI c3 (by omega)) ?_
    refine go_goto 22 (DL_cell.at 7 rfl) (by decide) ?_
    exact go_iret (DL_cell.at 15 rfl) rfl rfl (RI.mk rfl)

theorem c_low {v : Int32} {n : Nat} (h0 : 0 < n) (h31 : n < 2 ^ 31) : Calls E mL_low d 0 0 [.int v, .int (nI n)] h (RI (fun r h1 => h1 = h ∧ ∃ j, j < n ∧ r = nI j)) := by
  refine Calls.of (ls := [some (.int v), some (.int (nI n))]) (by decide +kernel) rfl (Nat.le_of_ble_eq_true rfl) (cat_ok rfl) ?_
  refine go_iload_0 (DL_low.at 0 rfl) ?_
  refine go_ldc (DL_low.at 1 rfl) kL_9 ?_
  refine go_iand (DL_low.at 2 rfl) ?_
  obtain ⟨j, hj, ej⟩ := pk_andE v (m := 2147483647) 31 (by decide)
  rw [ej]
  refine go_iload_1 (DL_low.at 3 rfl) ?_
  refine go_irem (DL_low.at 4 rfl) (nI_ne0 h0 h31) ?_
  rw [pk_rem (by omega) h0 h31]
  exact go_iret (DL_low.at 5 rfl) rfl rfl (RI.mk ⟨rfl, _, Nat.mod_lt _ h0, rfl⟩)

theorem c_data (hL : LA h ρ) (hY : LY A ρ) : Calls E mL_data d 0 0 [.ref 52] h (RX (nI (aG A * aS A)) h) := by
  refine Calls.of (ls := [some (.ref 52)]) (by decide +kernel) rfl (Nat.le_of_ble_eq_true rfl) (cat_ok rfl) ?_
  have hLO := hY.1
  have hT3 : aT A ≤ 3 := hY.2.1
  have hn := hLO.nc
  have hg4 : aG A ≤ 4 := hLO.2.1
  have hg1 : 1 ≤ aG A := hLO.1
  have hs6 : aS A ≤ 6 := hLO.2.2.2.1
  have hs2 : 2 ≤ aS A := hLO.2.2.1
  have hgs : aG A * aS A ≤ 15 := hLO.2.2.2.2.1
  have hH5 : aH A ≤ 5 := hLO.2.2.2.2.2.2.2
  have hT1 : 1 ≤ aT A := hLO.2.2.2.2.2.1
  have en : nc (aG A) (aS A) = aG A * aS A + aG A + 2 := rfl
  refine go_aload_0 (DL_data.at 0 rfl) ?_
  refine go_iconst (v := nI 0) (DL_data.at 1 rfl) (by decide) ?_
  refine go_ialdL 0 (DL_data.at 2 rfl) hL (by decide) (show 0 < 9 by decide) ?_
  rw [hY.2.2.1]
  refine go_aload_0 (DL_data.at 3 rfl) ?_
  refine go_iconst (v := nI 1) (DL_data.at 4 rfl) (by decide) ?_
  refine go_ialdL 0 (DL_data.at 5 rfl) hL (by decide) (show 1 < 9 by decide) ?_
  rw [hY.2.2.2.1]
  refine go_imul (DL_data.at 6 rfl) ?_
  rw [pk_mul]
  exact go_iret (DL_data.at 7 rfl) rfl rfl (RX.mk rfl rfl)

theorem c_all (hL : LA h ρ) (hY : LY A ρ) : Calls E mL_all d 0 0 [.ref 52] h (RX (nI (nc (aG A) (aS A))) h) := by
  refine Calls.of (ls := [some (.ref 52)]) (by decide +kernel) rfl (Nat.le_of_ble_eq_true rfl) (cat_ok rfl) ?_
  have hLO := hY.1
  have hT3 : aT A ≤ 3 := hY.2.1
  have hn := hLO.nc
  have hg4 : aG A ≤ 4 := hLO.2.1
  have hg1 : 1 ≤ aG A := hLO.1
  have hs6 : aS A ≤ 6 := hLO.2.2.2.1
  have hs2 : 2 ≤ aS A := hLO.2.2.1
  have hgs : aG A * aS A ≤ 15 := hLO.2.2.2.2.1
  have hH5 : aH A ≤ 5 := hLO.2.2.2.2.2.2.2
  have hT1 : 1 ≤ aT A := hLO.2.2.2.2.2.1
  have en : nc (aG A) (aS A) = aG A * aS A + aG A + 2 := rfl
  refine go_aload_0 (DL_all.at 0 rfl) ?_
  refine go_iconst (v := nI 0) (DL_all.at 1 rfl) (by decide) ?_
  refine go_ialdL 0 (DL_all.at 2 rfl) hL (by decide) (show 0 < 9 by decide) ?_
  rw [hY.2.2.1]
  refine go_aload_0 (DL_all.at 3 rfl) ?_
  refine go_iconst (v := nI 1) (DL_all.at 4 rfl) (by decide) ?_
  refine go_ialdL 0 (DL_all.at 5 rfl) hL (by decide) (show 1 < 9 by decide) ?_
  rw [hY.2.2.2.1]
  refine go_imul (DL_all.at 6 rfl) ?_
  rw [pk_mul]
  refine go_aload_0 (DL_all.at 7 rfl) ?_
  refine go_iconst (v := nI 0) (DL_all.at 8 rfl) (by decide) ?_
  refine go_ialdL 0 (DL_all.at 9 rfl) hL (by decide) (show 0 < 9 by decide) ?_
  rw [hY.2.2.1]
  refine go_iadd (DL_all.at 10 rfl) ?_
  rw [nI_add]
  refine go_iconst (v := nI 2) (DL_all.at 11 rfl) (by decide) ?_
  refine go_iadd (DL_all.at 12 rfl) ?_
  rw [nI_add]
  exact go_iret (DL_all.at 13 rfl) rfl rfl (RX.mk rfl rfl)

theorem c_group {c : Nat} (hc : c < nc (aG A) (aS A)) (hL : LA h ρ) (hY : LY A ρ) (hd : 1 ≤ d) : Calls E mL_group d 0 0 [.int (nI c), .ref 52] h (RX (nI (grf (aG A) (aS A) c)) h) := by
  refine Calls.of (ls := [some (.int (nI c)), some (.ref 52)]) (by decide +kernel) rfl (Nat.le_of_ble_eq_true rfl) (cat_ok rfl) ?_
  have hLO := hY.1
  have hT3 : aT A ≤ 3 := hY.2.1
  have hn := hLO.nc
  have hg4 : aG A ≤ 4 := hLO.2.1
  have hg1 : 1 ≤ aG A := hLO.1
  have hs6 : aS A ≤ 6 := hLO.2.2.2.1
  have hs2 : 2 ≤ aS A := hLO.2.2.1
  have hgs : aG A * aS A ≤ 15 := hLO.2.2.2.2.1
  have hH5 : aH A ≤ 5 := hLO.2.2.2.2.2.2.2
  have hT1 : 1 ≤ aT A := hLO.2.2.2.2.2.1
  have en : nc (aG A) (aS A) = aG A * aS A + aG A + 2 := rfl
  refine go_iload_0 (DL_group.at 0 rfl) ?_
  refine go_aload_1 (DL_group.at 1 rfl) ?_
  refine go_cSx1 (DL_group.at 2 rfl) nL_10 vL_data (by omega) (c_data hL hY) (Nat.le_of_ble_eq_true rfl) ?_
  refine go_icmp_ge 16 (DL_group.at 3 rfl) (by decide) (fun c5 => ?_) (fun c5 => ?_)
  · rw [nI_leI (by omega) (by omega)] at c5
    have eh : hcv (aG A) (aS A) c = c - aG A * aS A := if_neg (by omega)
    refine go_iload_0 (DL_group.at 10 rfl) ?_
    refine go_aload_1 (DL_group.at 11 rfl) ?_
    refine go_cSx1 (DL_group.at 12 rfl) nL_10 vL_data (by omega) (c_data hL hY) (Nat.le_of_ble_eq_true rfl) ?_
    refine go_aload_1 (DL_group.at 13 rfl) ?_
    refine go_iconst (v := nI 0) (DL_group.at 14 rfl) (by decide) ?_
    refine go_ialdL 0 (DL_group.at 15 rfl) hL (by decide) (show 0 < 9 by decide) ?_
    rw [hY.2.2.1]
    refine go_iadd (DL_group.at 16 rfl) ?_
    refine go_icmp_ge 37 (DL_group.at 17 rfl) (by decide) (fun c25 => ?_) (fun c25 => ?_)
    · rw [nI_add, nI_leI (by omega) (by omega)] at c25
      refine go_bipush (v := nI 9) (DL_group.at 23 rfl) (by decide) ?_
      exact go_iret (DL_group.at 24 rfl) rfl rfl (RX.mk (by unfold grf; rw [eh, if_neg (by omega)]) rfl)
    · rw [nI_add, nI_leI (by omega) (by omega)] at c25
      refine go_iload_0 (DL_group.at 18 rfl) ?_
      refine go_aload_1 (DL_group.at 19 rfl) ?_
      refine go_cSx1 (DL_group.at 20 rfl) nL_10 vL_data (by omega) (c_data hL hY) (Nat.le_of_ble_eq_true rfl) ?_
      refine go_isub (DL_group.at 21 rfl) ?_
      rw [pk_sub (by omega)]
      refine go_goto 39 (DL_group.at 22 rfl) (by decide) ?_
      exact go_iret (DL_group.at 24 rfl) rfl rfl (RX.mk (by unfold grf; rw [eh, if_pos (by omega)]) rfl)
  · rw [nI_leI (by omega) (by omega)] at c5
    have hh : hcv (aG A) (aS A) c < aG A := hcv_ltg (by omega)
    have eh : hcv (aG A) (aS A) c = c / aS A := if_pos (by omega)
    refine go_iload_0 (DL_group.at 4 rfl) ?_
    refine go_aload_1 (DL_group.at 5 rfl) ?_
    refine go_iconst (v := nI 1) (DL_group.at 6 rfl) (by decide) ?_
    refine go_ialdL 0 (DL_group.at 7 rfl) hL (by decide) (show 1 < 9 by decide) ?_
    rw [hY.2.2.2.1]
    refine go_idiv (DL_group.at 8 rfl) (nI_ne0 (by omega) (by omega)) ?_
    rw [pk_div (by omega) (by omega) (by omega)]
    refine go_goto 39 (DL_group.at 9 rfl) (by decide) ?_
    exact go_iret (DL_group.at 24 rfl) rfl rfl (RX.mk (by unfold grf; rw [if_pos hh, eh]) rfl)

theorem c_lnode {t c : Nat} (ht : t < aT A) (hc : c < nc (aG A) (aS A)) (hL : LA h ρ) (hY : LY A ρ) (hd : 1 ≤ d) : Calls E mL_node d 0 0 [.int (nI t), .int (nI c), .ref 52] h (RX (nI ((c + t * aH A) % nc (aG A) (aS A))) h) := by
  refine Calls.of (ls := [some (.int (nI t)), some (.int (nI c)), some (.ref 52)]) (by decide +kernel) rfl (Nat.le_of_ble_eq_true rfl) (cat_ok rfl) ?_
  have hLO := hY.1
  have hT3 : aT A ≤ 3 := hY.2.1
  have hn := hLO.nc
  have hg4 : aG A ≤ 4 := hLO.2.1
  have hg1 : 1 ≤ aG A := hLO.1
  have hs6 : aS A ≤ 6 := hLO.2.2.2.1
  have hs2 : 2 ≤ aS A := hLO.2.2.1
  have hgs : aG A * aS A ≤ 15 := hLO.2.2.2.2.1
  have hH5 : aH A ≤ 5 := hLO.2.2.2.2.2.2.2
  have hT1 : 1 ≤ aT A := hLO.2.2.2.2.2.1
  have en : nc (aG A) (aS A) = aG A * aS A + aG A + 2 := rfl
  refine go_iload_1 (DL_node.at 0 rfl) ?_
  refine go_iload_0 (DL_node.at 1 rfl) ?_
  refine go_aload_2 (DL_node.at 2 rfl) ?_
  refine go_iconst (v := nI 3) (DL_node.at 3 rfl) (by decide) ?_
  refine go_ialdL 0 (DL_node.at 4 rfl) hL (by decide) (show 3 < 9 by decide) ?_
  rw [hY.2.2.2.2.2]
  refine go_imul (DL_node.at 5 rfl) ?_
  rw [pk_mul]
  refine go_iadd (DL_node.at 6 rfl) ?_
  rw [nI_add]
  refine go_aload_2 (DL_node.at 7 rfl) ?_
  refine go_cSx1 (DL_node.at 8 rfl) nL_16 vL_all (by omega) (c_all hL hY) (Nat.le_of_ble_eq_true rfl) ?_
  refine go_irem (DL_node.at 9 rfl) (nI_ne0 (by omega) (by omega)) ?_
  rw [pk_rem (by have : t * aH A ≤ 2 * 5 := Nat.mul_le_mul (by omega) hH5; omega) (by omega) (by omega)]
  exact go_iret (DL_node.at 10 rfl) rfl rfl (RX.mk rfl rfl)

theorem c_lcellOn {t nd : Nat} (ht : t < aT A) (hc : nd ≤ nc (aG A) (aS A)) (hL : LA h ρ) (hY : LY A ρ) (hd : 1 ≤ d) : Calls E mL_cellOn d 0 0 [.int (nI nd), .int (nI t), .ref 52] h (RX (nI (cnA A nd t)) h) := by
  refine Calls.of (ls := [some (.int (nI nd)), some (.int (nI t)), some (.ref 52)]) (by decide +kernel) rfl (Nat.le_of_ble_eq_true rfl) (cat_ok rfl) ?_
  have hLO := hY.1
  have hT3 : aT A ≤ 3 := hY.2.1
  have hn := hLO.nc
  have hg4 : aG A ≤ 4 := hLO.2.1
  have hg1 : 1 ≤ aG A := hLO.1
  have hs6 : aS A ≤ 6 := hLO.2.2.2.1
  have hs2 : 2 ≤ aS A := hLO.2.2.1
  have hgs : aG A * aS A ≤ 15 := hLO.2.2.2.2.1
  have hH5 : aH A ≤ 5 := hLO.2.2.2.2.2.2.2
  have hT1 : 1 ≤ aT A := hLO.2.2.2.2.2.1
  have en : nc (aG A) (aS A) = aG A * aS A + aG A + 2 := rfl
  have ht2 : t * aH A ≤ 2 * 5 := Nat.mul_le_mul (by omega) hH5
  refine go_iload_0 (DL_cellOn.at 0 rfl) ?_
  refine go_bipush (v := nI 40) (DL_cellOn.at 1 rfl) (by decide) ?_
  refine go_aload_2 (DL_cellOn.at 2 rfl) ?_
  refine go_cSx1 (DL_cellOn.at 3 rfl) nL_16 vL_all (by omega) (c_all hL hY) (Nat.le_of_ble_eq_true rfl) ?_
  refine go_imul (DL_cellOn.at 4 rfl) ?_
  rw [pk_mul]
  refine go_iadd (DL_cellOn.at 5 rfl) ?_
  rw [nI_add]
  refine go_iload_1 (DL_cellOn.at 6 rfl) ?_
  refine go_aload_2 (DL_cellOn.at 7 rfl) ?_
  refine go_iconst (v := nI 3) (DL_cellOn.at 8 rfl) (by decide) ?_
  refine go_ialdL 0 (DL_cellOn.at 9 rfl) hL (by decide) (show 3 < 9 by decide) ?_
  rw [hY.2.2.2.2.2]
  refine go_imul (DL_cellOn.at 10 rfl) ?_
  rw [pk_mul]
  refine go_isub (DL_cellOn.at 11 rfl) ?_
  rw [pk_sub (by omega)]
  refine go_aload_2 (DL_cellOn.at 12 rfl) ?_
  refine go_cSx1 (DL_cellOn.at 13 rfl) nL_16 vL_all (by omega) (c_all hL hY) (Nat.le_of_ble_eq_true rfl) ?_
  refine go_irem (DL_cellOn.at 14 rfl) (nI_ne0 (by omega) (by omega)) ?_
  rw [pk_rem (by omega) (by omega) (by omega)]
  exact go_iret (DL_cellOn.at 15 rfl) rfl rfl (RX.mk rfl rfl)

theorem c_ones {M : Nat} (hM : M < 2 ^ 20) : Calls E mL_ones d 0 0 [.int (nI M)] h (RX (nI (pcn M 20)) h) := by
  refine Calls.of (ls := [some (.int (nI M)), none, none]) (by decide +kernel) rfl (Nat.le_of_ble_eq_true rfl) (cat_ok rfl) ?_
  have loop : ∀ (m x y : Nat), x ≤ m → x < 2 ^ 20 → y + pcn x 20 = pcn M 20 → Go E mL_ones d 0 0 4 [some (.int (nI M)), some (.int (nI y)), some (.int (nI x))] [] h (RX (nI (pcn M 20)) h) := by
    intro m
    induction m with
    | zero =>
      intro x y hm hx hy
      have e0 : x = 0 := by omega
      subst e0
      rw [pcn_z, Nat.add_zero] at hy
      subst hy
      refine go_iload_2 (DL_ones.at 4 rfl) ?_
      refine go_if_eq 20 (DL_ones.at 5 rfl) (by decide) (fun c5 => ?_) (fun c5 => absurd (show nI 0 = 0 by decide) c5)
      refine go_iload_1 (DL_ones.at 14 rfl) ?_
      exact go_iret (DL_ones.at 15 rfl) rfl rfl (RX.mk rfl rfl)
    | succ m ih =>
      intro x y hm hx hy
      refine go_iload_2 (DL_ones.at 4 rfl) ?_
      refine go_if_eq 20 (DL_ones.at 5 rfl) (by decide) (fun c5 => ?_) (fun c5 => ?_)
      · rw [nI_eq0 (by omega)] at c5
        subst c5
        rw [pcn_z, Nat.add_zero] at hy
        refine go_iload_1 (DL_ones.at 14 rfl) ?_
        exact go_iret (DL_ones.at 15 rfl) rfl rfl (RX.mk (by rw [hy]) rfl)
      · rw [nI_eq0 (by omega)] at c5
        obtain ⟨l1, l2⟩ := pcn_low 20 x c5 hx
        refine go_iincN_1 (DL_ones.at 6 rfl) ?_
        refine go_iload_2 (DL_ones.at 7 rfl) ?_
        refine go_iload_2 (DL_ones.at 8 rfl) ?_
        refine go_iconst (v := nI 1) (DL_ones.at 9 rfl) (by decide) ?_
        refine go_isub (DL_ones.at 10 rfl) ?_
        rw [pk_sub (by omega)]
        refine go_iand (DL_ones.at 11 rfl) ?_
        rw [nx_and]
        refine go_istore_2 (DL_ones.at 12 rfl) ?_
        refine go_goto 4 (DL_ones.at 13 rfl) (by decide) ?_
        exact ih _ _ (by omega) (by omega) (by omega)
  refine go_iconst (v := nI 0) (DL_ones.at 0 rfl) (by decide) ?_
  refine go_istore_1 (DL_ones.at 1 rfl) ?_
  refine go_iload_0 (DL_ones.at 2 rfl) ?_
  refine go_istore_2 (DL_ones.at 3 rfl) ?_
  exact loop M M 0 (Nat.le_refl _) hM (Nat.zero_add _)
/-- the product, bit by bit -/
def tmT (a : Nat) : Nat → Nat
  | 0 => a
  | k + 1 => if tmT a k < 8 then 2 * tmT a k else (2 * tmT a k) ^^^ 19
def tmS (a b : Nat) : Nat → Nat
  | 0 => 0
  | k + 1 => tmS a b k ^^^ (if b / 2 ^ k % 2 = 1 then tmT a k else 0)
theorem tm_gm {a b : Nat} : a < 16 → b < 16 → tmS a b 4 = gm a b := dec2 (P := fun a b => tmS a b 4 = gm a b) (by decide +kernel)
theorem tmT_tab {a : Nat} : a < 16 → (tmT a 0 < 16 ∧ tmT a 1 < 16) ∧ (tmT a 2 < 16 ∧ tmT a 3 < 16) := dec1 (P := fun a => (tmT a 0 < 16 ∧ tmT a 1 < 16) ∧ (tmT a 2 < 16 ∧ tmT a 3 < 16)) (by decide +kernel)
theorem tmT_lt {a k : Nat} (ha : a < 16) (hk : k < 4) : tmT a k < 16 := by
  have h := tmT_tab ha
  rcases (show k = 0 ∨ k = 1 ∨ k = 2 ∨ k = 3 by omega) with rfl | rfl | rfl | rfl
  · exact h.1.1
  · exact h.1.2
  · exact h.2.1
  · exact h.2.2
theorem c_times {a b : Nat} (ha : a < 16) (hb : b < 16) : Calls E mL_times d 0 0 [.int (nI a), .int (nI b)] h (RX (nI (gm a b)) h) := by
  refine Calls.of (ls := [some (.int (nI a)), some (.int (nI b)), none, none, none]) (by decide +kernel) rfl (Nat.le_of_ble_eq_true rfl) (cat_ok rfl) ?_
  have loop : ∀ (m j : Nat), j + m = 4 → Go E mL_times d 0 0 7 [some (.int (nI a)), some (.int (nI b)), some (.int (nI (tmS a b j))), some (.int (nI (tmT a j))), some (.int (nI j))] [] h (RX (nI (gm a b)) h) := by
    intro m
    induction m with
    | zero =>
      intro j hj
      have ej : j = 4 := by omega
      subst ej
      refine go_iload_4 (DL_times.at 6 rfl) ?_
      refine go_iconst (v := nI 4) (DL_times.at 7 rfl) (by decide) ?_
      refine go_icmp_ge 56 (DL_times.at 8 rfl) (by decide) (fun c10 => ?_) (fun c10 => absurd (Int32.le_refl (nI 4)) c10)
      refine go_iload_2 (DL_times.at 37 rfl) ?_
      exact go_iret (DL_times.at 38 rfl) rfl rfl (RX.mk (by rw [tm_gm ha hb]) rfl)
    | succ m ih =>
      intro j hj
      have hj4 : j < 4 := by omega
      have hT16 := tmT_lt ha hj4
      refine go_iload_4 (DL_times.at 6 rfl) ?_
      refine go_iconst (v := nI 4) (DL_times.at 7 rfl) (by decide) ?_
      refine go_icmp_ge 56 (DL_times.at 8 rfl) (by decide) (fun c10 => absurd c10 (by rw [nI_leI (by decide) (by omega)]; omega)) (fun c10 => ?_)
      refine go_iload_2 (DL_times.at 9 rfl) ?_
      refine go_iload_1 (DL_times.at 10 rfl) ?_
      refine go_iload_4 (DL_times.at 11 rfl) ?_
      refine go_ishr (DL_times.at 12 rfl) ?_
      refine go_iconst (v := nI 1) (DL_times.at 13 rfl) (by decide) ?_
      refine go_iand (DL_times.at 14 rfl) ?_
      rw [nx_bit (by omega) (by omega)]
      refine go_iconst (v := nI 1) (DL_times.at 15 rfl) (by decide) ?_
      refine go_icmp_ne 28 (DL_times.at 16 rfl) (by decide) (fun c21 => ?_) (fun c21 => ?_)
      · rw [nI_eq (by omega) (by decide)] at c21
        have eS : tmS a b (j + 1) = tmS a b j ^^^ 0 := by show tmS a b j ^^^ (if b / 2 ^ j % 2 = 1 then tmT a j else 0) = _; rw [if_neg c21]
        refine go_iconst (v := nI 0) (DL_times.at 19 rfl) (by decide) ?_
        refine go_ixor (DL_times.at 20 rfl) ?_
        rw [nx_xor, ← eS]
        refine go_istore_2 (DL_times.at 21 rfl) ?_
        refine go_iload_3 (DL_times.at 22 rfl) ?_
        refine go_bipush (v := nI 8) (DL_times.at 23 rfl) (by decide) ?_
        refine go_icmp_ge 43 (DL_times.at 24 rfl) (by decide) (fun c34 => ?_) (fun c34 => ?_)
        · rw [nI_leI (by decide) (by omega)] at c34
          have eT : tmT a (j + 1) = (2 * tmT a j) ^^^ 19 := if_neg (by omega)
          refine go_iconst (v := nI 2) (DL_times.at 29 rfl) (by decide) ?_
          refine go_iload_3 (DL_times.at 30 rfl) ?_
          refine go_imul (DL_times.at 31 rfl) ?_
          rw [pk_mul]
          refine go_bipush (v := nI 19) (DL_times.at 32 rfl) (by decide) ?_
          refine go_ixor (DL_times.at 33 rfl) ?_
          rw [nx_xor]
          refine go_istore_3 (DL_times.at 34 rfl) ?_
          rw [← eT]
          refine go_iincN_4 (DL_times.at 35 rfl) ?_
          refine go_goto 7 (DL_times.at 36 rfl) (by decide) ?_
          exact ih (j + 1) (by omega)
        · rw [nI_leI (by decide) (by omega)] at c34
          have eT : tmT a (j + 1) = 2 * tmT a j := if_pos (by omega)
          refine go_iconst (v := nI 2) (DL_times.at 25 rfl) (by decide) ?_
          refine go_iload_3 (DL_times.at 26 rfl) ?_
          refine go_imul (DL_times.at 27 rfl) ?_
          rw [pk_mul]
          refine go_goto 49 (DL_times.at 28 rfl) (by decide) ?_
          refine go_istore_3 (DL_times.at 34 rfl) ?_
          rw [← eT]
          refine go_iincN_4 (DL_times.at 35 rfl) ?_
          refine go_goto 7 (DL_times.at 36 rfl) (by decide) ?_
          exact ih (j + 1) (by omega)
      · rw [nI_eq (by omega) (by decide)] at c21
        have eS : tmS a b (j + 1) = tmS a b j ^^^ tmT a j := by show tmS a b j ^^^ (if b / 2 ^ j % 2 = 1 then tmT a j else 0) = _; rw [if_pos c21]
        refine go_iload_3 (DL_times.at 17 rfl) ?_
        refine go_goto 29 (DL_times.at 18 rfl) (by decide) ?_
        refine go_ixor (DL_times.at 20 rfl) ?_
        rw [nx_xor, ← eS]
        refine go_istore_2 (DL_times.at 21 rfl) ?_
        refine go_iload_3 (DL_times.at 22 rfl) ?_
        refine go_bipush (v := nI 8) (DL_times.at 23 rfl) (by decide) ?_
        refine go_icmp_ge 43 (DL_times.at 24 rfl) (by decide) (fun c34 => ?_) (fun c34 => ?_)
        · rw [nI_leI (by decide) (by omega)] at c34
          have eT : tmT a (j + 1) = (2 * tmT a j) ^^^ 19 := if_neg (by omega)
          refine go_iconst (v := nI 2) (DL_times.at 29 rfl) (by decide) ?_
          refine go_iload_3 (DL_times.at 30 rfl) ?_
          refine go_imul (DL_times.at 31 rfl) ?_
          rw [pk_mul]
          refine go_bipush (v := nI 19) (DL_times.at 32 rfl) (by decide) ?_
          refine go_ixor (DL_times.at 33 rfl) ?_
          rw [nx_xor]
          refine go_istore_3 (DL_times.at 34 rfl) ?_
          rw [← eT]
          refine go_iincN_4 (DL_times.at 35 rfl) ?_
          refine go_goto 7 (DL_times.at 36 rfl) (by decide) ?_
          exact ih (j + 1) (by omega)
        · rw [nI_leI (by decide) (by omega)] at c34
          have eT : tmT a (j + 1) = 2 * tmT a j := if_pos (by omega)
          refine go_iconst (v := nI 2) (DL_times.at 25 rfl) (by decide) ?_
          refine go_iload_3 (DL_times.at 26 rfl) ?_
          refine go_imul (DL_times.at 27 rfl) ?_
          rw [pk_mul]
          refine go_goto 49 (DL_times.at 28 rfl) (by decide) ?_
          refine go_istore_3 (DL_times.at 34 rfl) ?_
          rw [← eT]
          refine go_iincN_4 (DL_times.at 35 rfl) ?_
          refine go_goto 7 (DL_times.at 36 rfl) (by decide) ?_
          exact ih (j + 1) (by omega)
  refine go_iconst (v := nI 0) (DL_times.at 0 rfl) (by decide) ?_
  refine go_istore_2 (DL_times.at 1 rfl) ?_
  refine go_iload_0 (DL_times.at 2 rfl) ?_
  refine go_istore_3 (DL_times.at 3 rfl) ?_
  refine go_iconst (v := nI 0) (DL_times.at 4 rfl) (by decide) ?_
  refine go_istore_4 (DL_times.at 5 rfl) ?_
  exact loop 4 0 (by decide)

theorem pw_2 {k : Nat} (hk : k < 30) : gm (pw k) 2 = pw (k + 1) := by
  have h := List.all_eq_true.mp (show (List.range 30).all (fun k => decide (gm (pw k) 2 = pw (k + 1))) = true by decide +kernel) k (List.mem_range.mpr hk)
  exact of_decide_eq_true h
theorem c_power {k : Nat} (hk : k < 30) (hd : 1 ≤ d) : Calls E mL_power d 0 0 [.int (nI k)] h (RX (nI (pw k)) h) := by
  refine Calls.of (ls := [some (.int (nI k)), none, none]) (by decide +kernel) rfl (Nat.le_of_ble_eq_true rfl) (cat_ok rfl) ?_
  have loop : ∀ (m j : Nat), j + m = k → Go E mL_power d 0 0 4 [some (.int (nI k)), some (.int (nI (pw j))), some (.int (nI j))] [] h (RX (nI (pw k)) h) := by
    intro m
    induction m with
    | zero =>
      intro j hj
      have ej : k = j := by omega
      subst ej
      refine go_iload_2 (DL_power.at 4 rfl) ?_
      refine go_iload_0 (DL_power.at 5 rfl) ?_
      refine go_icmp_ge 21 (DL_power.at 6 rfl) (by decide) (fun c6 => ?_) (fun c6 => absurd (Int32.le_refl _) c6)
      refine go_iload_1 (DL_power.at 13 rfl) ?_
      exact go_iret (DL_power.at 14 rfl) rfl rfl (RX.mk rfl rfl)
    | succ m ih =>
      intro j hj
      refine go_iload_2 (DL_power.at 4 rfl) ?_
      refine go_iload_0 (DL_power.at 5 rfl) ?_
      refine go_icmp_ge 21 (DL_power.at 6 rfl) (by decide) (fun c6 => absurd c6 (by rw [nI_leI (by omega) (by omega)]; omega)) (fun c6 => ?_)
      refine go_iload_1 (DL_power.at 7 rfl) ?_
      refine go_iconst (v := nI 2) (DL_power.at 8 rfl) (by decide) ?_
      refine go_cSx2 (DL_power.at 9 rfl) nL_19 vL_times (by omega) (c_times (pw_lt _) (show 2 < 16 by decide)) (Nat.le_of_ble_eq_true rfl) ?_
      rw [pw_2 (by omega)]
      refine go_istore_1 (DL_power.at 10 rfl) ?_
      refine go_iincN_2 (DL_power.at 11 rfl) ?_
      refine go_goto 4 (DL_power.at 12 rfl) (by decide) ?_
      exact ih (j + 1) (by omega)
  refine go_iconst (v := nI 1) (DL_power.at 0 rfl) (by decide) ?_
  refine go_istore_1 (DL_power.at 1 rfl) ?_
  refine go_iconst (v := nI 0) (DL_power.at 2 rfl) (by decide) ?_
  refine go_istore_2 (DL_power.at 3 rfl) ?_
  exact loop k 0 (Nat.zero_add k)

end LM
end
section
/-! THE LAW'S OWN STORE: losing, mending, writing; the way by the rules -/
theorem AOK.q60 {A : Ab} (h : AOK A) (h3 : aT A ≤ 3) : (aQ A).length ≤ 60 := php 60 _ h.2.2.2.1 (fun x hx => by
  have h1 := ((h.2.2.2.2 x).mp hx).1
  omega)
theorem AOK.q60r {A : Ab} {t c : Nat} (h : AOK A) (h3 : aT A ≤ 3) (ht : t < aT A) (hc : c < nc (aG A) (aS A)) (hb : ¬ bit (aM A t) c) : (aQ A).length < 60 := by
  have hn := h.1.nc
  have e : ((20 * t + c) :: aQ A).Nodup := List.nodup_cons.mpr ⟨fun q => hb ((h.qin ht hc).mp q), h.2.2.2.1⟩
  exact php 60 _ e (fun x hx => by
    rcases List.mem_cons.mp hx with rfl | hx
    · omega
    · have h1 := ((h.2.2.2.2 x).mp hx).1
      omega)
/-- only the law's rows have changed: they hold A' now -/
def LU (A' : Ab) (ρ : Nat → Nat → Int32) (h h' : List va_E) : Prop := Only 52 59 h h' ∧ ∃ ρ', LA h' ρ' ∧ LR A' ρ' ∧ ρ' 5 = ρ 5 ∧ ρ' 6 = ρ 6
theorem LR.los {A : Ab} {ρ ρ' : Nat → Nat → Int32} {t c : Nat} (hR : LR A ρ) (ht : t < aT A) (hc : c < nc (aG A) (aS A)) (hb : ¬ bit (aM A t) c) (e2 : ρ' 2 = upd (ρ 2) t (nI (aM A t ||| 2 ^ c))) (e3 : ρ' 3 = upd (ρ 3) (aQ A).length (nI (20 * t + c)))
    (e0 : ρ' 0 = upd (upd (ρ 0) 4 (nI ((aQ A).length + 1))) 8 (ρ 0 8 + 1)) (e1 : ρ' 1 = ρ 1) (e4 : ρ' 4 = ρ 4) : LR (aLos A t c) ρ' := by
  obtain ⟨hA, hY, hq, hK, hV, hM, hQ, hD⟩ := hR
  refine ⟨aLos_ok hA ht hc hb, hY.up (fun k hk => by rw [e0, pk_un (by omega), pk_un (by omega)]), ?_, fun k hk => ?_, fun t' ht' c' hc' => ?_, fun t' ht' => ?_, fun i x hx => ?_, fun j hj => ?_⟩
  · rw [e0, pk_un (by decide), pk_us]
    show _ = nI (aQ A ++ [20 * t + c]).length
    rw [List.length_append]
    rfl
  · rw [e0]
    show upd (upd (ρ 0) 4 (nI ((aQ A).length + 1))) 8 (ρ 0 8 + 1) (5 + k) = upd (aK A) 3 (aK A 3 + 1) k
    by_cases e : k = 3
    · subst e
      rw [pk_us, pk_us, ← hK 3 (by decide)]
    · rw [pk_un (by omega), pk_un (by omega), pk_un e]
      exact hK k hk
  · rw [e1]
    exact hV t' ht' c' hc'
  · rw [e2]
    show _ = nI (if t' = t then aM A t ||| 2 ^ c else aM A t')
    by_cases e : t' = t
    · rw [if_pos e, e, pk_us]
    · rw [if_neg e, pk_un e]
      exact hM t' ht'
  · have hx2 : (aQ A ++ [20 * t + c])[i]? = some x := hx
    rw [e3]
    by_cases q : i < (aQ A).length
    · rw [List.getElem?_append_left q] at hx2
      rw [pk_un (by omega)]
      exact hQ i x hx2
    · rw [List.getElem?_append_right (by omega)] at hx2
      have h1 := (List.getElem?_eq_some_iff.mp hx2).1
      have h2 : i = (aQ A).length := by
        simp only [List.length_cons, List.length_nil] at h1
        omega
      rw [h2, Nat.sub_self, List.getElem?_cons_zero] at hx2
      cases hx2
      rw [h2, pk_us]
  · rw [e4]
    exact hD j hj
theorem LR.mnd {A : Ab} {ρ ρ' : Nat → Nat → Int32} {t c w src : Nat} (hR : LR A ρ) (ht : t < aT A) (hc : c < nc (aG A) (aS A)) (e2 : ρ' 2 = upd (ρ 2) t (nI (clr (aM A t) c))) (e3 : ∀ i x, ((aQ A).erase (20 * t + c))[i]? = some x → ρ' 3 i = nI x) (hm : 20 * t + c ∈ aQ A)
    (e4 : ρ' 4 = rdl (ρ 4) src (fun c => (c + t * aH A) % nc (aG A) (aS A)) (nc (aG A) (aS A))) (e1 : ρ' 1 = ρ 1) (k0 : ∀ k, k < 4 → ρ' 0 k = ρ 0 k) (kq : ρ' 0 4 = nI ((aQ A).length - 1)) (k5 : ρ' 0 5 = rdc (ρ 0 5) src (nc (aG A) (aS A))) (k6 : ρ' 0 6 = ρ 0 6 + 1) (k7 : ρ' 0 7 = if w = 1 then ρ 0 7 + 1 else ρ 0 7) (k8 : ρ' 0 8 = ρ 0 8) : LR (aMnd A t c w src (aV A t c)) ρ' := by
  obtain ⟨hA, hY, hq, hK, hV, hM, hQ, hD⟩ := hR
  have hn := hA.1.nc
  refine ⟨aMnd_ok hA ht hc (hA.2.2.1 t c), hY.up k0, ?_, fun k hk => ?_, fun t' ht' c' hc' => ?_, fun t' ht' => ?_, e3, fun j hj => ?_⟩
  · rw [kq]
    show _ = nI ((aQ A).erase (20 * t + c)).length
    rw [List.length_erase_of_mem hm]
  · show ρ' 0 (5 + k) = upd (upd (upd (aK A) 0 (rdc (aK A 0) src (nc (aG A) (aS A)))) 1 (aK A 1 + 1)) 2 (if w = 1 then aK A 2 + 1 else aK A 2) k
    rcases (show k = 0 ∨ k = 1 ∨ k = 2 ∨ k = 3 by omega) with rfl | rfl | rfl | rfl
    · rw [pk_un (by decide), pk_un (by decide), pk_us, ← hK 0 (by decide)]
      exact k5
    · rw [pk_un (by decide), pk_us, ← hK 1 (by decide)]
      exact k6
    · rw [pk_us, ← hK 2 (by decide)]
      exact k7
    · rw [pk_un (by decide), pk_un (by decide), pk_un (by decide), ← hK 3 (by decide)]
      exact k8
  · rw [e1]
    show _ = nI (put2 (aV A) t c (aV A t c) t' c')
    rw [put2_same]
    exact hV t' ht' c' hc'
  · rw [e2]
    show _ = nI (if t' = t then clr (aM A t) c else aM A t')
    by_cases e : t' = t
    · rw [if_pos e, e, pk_us]
    · rw [if_neg e, pk_un e]
      exact hM t' ht'
  · rw [e4]
    exact rdl_congr hD (fun c => Nat.lt_of_lt_of_le (Nat.mod_lt _ (by omega)) hn.2) _ j hj
theorem LR.wrt {A : Ab} {ρ ρ' : Nat → Nat → Int32} {t c v : Nat} (hR : LR A ρ) (ht : t < aT A) (hc : c < aG A * aS A) (hv : v < 16) (e0 : ρ' 0 = ρ 0) (e2 : ρ' 2 = ρ 2) (e3 : ρ' 3 = ρ 3) (e4 : ρ' 4 = ρ 4)
    (c1 : ρ' 1 (20 * t + c) = nI v) (c2 : ρ' 1 (20 * t + (aG A * aS A + hcv (aG A) (aS A) c)) = nI (aV A t (aG A * aS A + hcv (aG A) (aS A) c) ^^^ (aV A t c ^^^ v)))
    (c3 : ρ' 1 (20 * t + (aG A * aS A + aG A)) = nI (aV A t (aG A * aS A + aG A) ^^^ gm (aV A t c ^^^ v) (pw c))) (c4 : ρ' 1 (20 * t + (aG A * aS A + aG A + 1)) = nI (aV A t (aG A * aS A + aG A + 1) ^^^ gm (aV A t c ^^^ v) (pw (2 * c))))
    (c5 : ∀ k, k ≠ 20 * t + c → k ≠ 20 * t + (aG A * aS A + hcv (aG A) (aS A) c) → k ≠ 20 * t + (aG A * aS A + aG A) → k ≠ 20 * t + (aG A * aS A + aG A + 1) → ρ' 1 k = ρ 1 k) : LR (aWrt A t c v) ρ' := by
  obtain ⟨hA, hY, hq, hK, hV, hM, hQ, hD⟩ := hR
  have hn := hA.1.nc
  have en : nc (aG A) (aS A) = aG A * aS A + aG A + 2 := rfl
  have hh := hcv_ltg hc
  have eh : hcv (aG A) (aS A) c = c / aS A := if_pos hc
  have hd : aV A t c ^^^ v < 16 := xor_lt (hA.2.2.1 t c) hv
  refine ⟨aWrt_ok hA hv, hY.up (fun k hk => by rw [e0]), by rw [e0]; exact hq, fun k hk => by rw [e0]; exact hK k hk, fun t' ht' c' hc' => ?_, fun t' ht' => by rw [e2]; exact hM t' ht', fun i x hx => by rw [e3]; exact hQ i x hx, fun j hj => by rw [e4]; exact hD j hj⟩
  have ht2 : t' < aT A := ht'
  have hc2 : c' < nc (aG A) (aS A) := hc'
  have hv' := hV t' ht2 c' hc2
  show _ = nI (if t' = t then (if c' = c then v else if c' < aG A * aS A then aV A t c' else aV A t c' ^^^ gm (colv (aG A) (aS A) c (c' - aG A * aS A)) (aV A t c ^^^ v)) else aV A t' c')
  by_cases e : t' = t
  · subst e
    rw [if_pos rfl]
    by_cases e2 : c' = c
    · rw [if_pos e2, e2]
      exact c1
    · rw [if_neg e2]
      by_cases e3 : c' < aG A * aS A
      · rw [if_pos e3, c5 _ (by omega) (by omega) (by omega) (by omega)]
        exact hv'
      · rw [if_neg e3]
        by_cases e4 : c' = aG A * aS A + hcv (aG A) (aS A) c
        · rw [e4, c2, show aG A * aS A + hcv (aG A) (aS A) c - aG A * aS A = hcv (aG A) (aS A) c by omega, colv_dk hc hh, if_pos eh, gm_1l hd]
        · by_cases e5 : c' = aG A * aS A + aG A
          · rw [e5, c3, show aG A * aS A + aG A - aG A * aS A = aG A by omega, colv_dg hc, gm_comm hd (pw_lt _)]
          · by_cases e6 : c' = aG A * aS A + aG A + 1
            · rw [e6, c4, show aG A * aS A + aG A + 1 - aG A * aS A = aG A + 1 by omega, colv_dg1 hc, gm_comm hd (pw_lt _)]
            · rw [c5 _ (by omega) (by omega) (by omega) (by omega), hv', colv_dk hc (by omega), if_neg (by omega), gm_0l hd, Nat.xor_zero]
  · rw [if_neg e, c5 _ (by omega) (by omega) (by omega) (by omega)]
    exact hv'
/-! near ways -/
def NrP (A : Ab) (t c j : Nat) : Prop := ∀ e, e < j → ¬ (bit (pmv (aG A) (aS A) c) e ∧ bit (aM A t) e)
theorem NrP.succ {A : Ab} {t c j : Nat} (h : NrP A t c j) (hn : ¬ (bit (pmv (aG A) (aS A) c) j ∧ bit (aM A t) j)) : NrP A t c (j + 1) := fun e he => by
  rcases lt_s1 he with q | rfl
  · exact h e q
  · exact hn
theorem NrP.down {A : Ab} {t c j : Nat} (h : NrP A t c (j + 1)) : NrP A t c j := fun e he => h e (by omega)
theorem NrP.iff {A : Ab} {t c : Nat} (hA : AOK A) (ht : t < aT A) : NrP A t c (nc (aG A) (aS A)) ↔ pmv (aG A) (aS A) c &&& aM A t = 0 := by
  constructor
  · intro h
    refine eq_bits (fun x => ⟨fun q => ?_, fun q => absurd q (nbit0 x)⟩)
    rw [bit_and] at q
    exact absurd q (h x (bit_big (hA.2.1 t ht) q.2))
  · exact fun h e _ q => and_bit h q.1 q.2
noncomputable def nrN (A : Ab) (t c : Nat) : Nat := if pmv (aG A) (aS A) c &&& aM A t = 0 then (if hcv (aG A) (aS A) c < aG A then 1 else 2) else 3
theorem WyX.nr {A : Ab} {t c w src X : Nat} (h : WyX A t c w src X) : nrN A t c = w := by
  unfold nrN
  rcases h with ⟨q, e, -⟩ | ⟨q, -, e, -⟩
  · rw [if_pos q, e]
  · rw [if_neg q, e]
theorem nrN_0 {A : Ab} {t c : Nat} (hA : AOK A) (hK : Cw A) (ht : t < aT A) (hc : c < nc (aG A) (aS A)) (h : wyF A t c = none) : nrN A t c = 3 := by
  unfold nrN
  rw [if_neg]
  intro q
  have hw : WyX A t c _ _ (aV A t c) := Or.inl ⟨q, rfl, rfl, ((hK t ht).near hA.1 (hA.2.2.1 t) hc).symm⟩
  rw [wyF_s hw] at h
  cases h
def NdP (A : Ab) (c j : Nat) : Prop := if grf (aG A) (aS A) c < 9 then grf (aG A) (aS A) j = grf (aG A) (aS A) c else j < aG A * aS A
theorem NdP.iff {A : Ab} {c j : Nat} (hL : LayOK (aG A) (aS A) (aT A) (aH A)) (hj : j < nc (aG A) (aS A)) (hne : j ≠ c) : NdP A c j ↔ bit (pmv (aG A) (aS A) c) j := by
  have hn := hL.nc
  have hs : 0 < aS A := by have h2 : 2 ≤ aS A := hL.2.2.1; omega
  unfold NdP
  by_cases q : hcv (aG A) (aS A) c < aG A
  · rw [if_pos ((grf_9 hL.2.1).mpr q), grf_eq hL.2.1 q, pmv_bit hs q (by omega)]
    exact ⟨fun e => ⟨e, hne⟩, fun e => e.1⟩
  · rw [if_neg (fun w => q ((grf_9 hL.2.1).mp w)), pmv_d q, bit_m1]
/-- what is asked of a lost cell, and of one that isn't -/
theorem asF_s {A : Ab} {t c w src X : Nat} {f : Nat → Nat → Nat → Int32} {z : Int32} (hA : AOK A) (ht : t < aT A) (hc : c < nc (aG A) (aS A)) (hb : bit (aM A t) c) (h : WyX A t c w src X) : asF A (nI t) (nI c) f z = f w src X := by
  unfold asF
  rw [ceQ_in hA ht hc, cI_t hb, wyF_s h]
theorem asF_0 {A : Ab} {t c : Nat} {f : Nat → Nat → Nat → Int32} {z : Int32} (hA : AOK A) (ht : t < aT A) (hc : c < nc (aG A) (aS A)) (hb : bit (aM A t) c) (h : wyF A t c = none) : asF A (nI t) (nI c) f z = z := by
  unfold asF
  rw [ceQ_in hA ht hc, cI_t hb, h]
theorem asF_n {A : Ab} {t c : Nat} {f : Nat → Nat → Nat → Int32} {z : Int32} (hA : AOK A) (ht : t < aT A) (hc : c < nc (aG A) (aS A)) (hb : ¬ bit (aM A t) c) : asF A (nI t) (nI c) f z = -5 := by
  unfold asF
  rw [ceQ_in hA ht hc, cI_f hb]
def shW (f : Nat → Int32) (p e : Nat) : Nat → Int32 := fun i => if p ≤ i ∧ i < e then f (i + 1) else f i
theorem shW_0 {f : Nat → Int32} {p : Nat} : shW f p p = f := by
  funext i
  exact if_neg (by omega)
theorem shW_s {f : Nat → Int32} {p e : Nat} (h : p ≤ e) : upd (shW f p e) e (shW f p e (e + 1)) = shW f p (e + 1) := by
  funext i
  by_cases q : i = e
  · subst q
    rw [pk_us]
    unfold shW
    rw [if_neg (by omega), if_pos (by omega)]
  · rw [pk_un q]
    unfold shW
    by_cases q2 : p ≤ i ∧ i < e
    · rw [if_pos q2, if_pos (by omega)]
    · rw [if_neg q2, if_neg (by omega)]
theorem rset_sw {ρ : Nat → Nat → Int32} {a b : Nat} {f g : Nat → Int32} (h : a ≠ b) : rset (rset ρ a f) b g = rset (rset ρ b g) a f := by
  funext i
  by_cases q : i = a
  · subst q
    rw [rset_n h, rset_s, rset_s]
  · by_cases q2 : i = b
    · subst q2
      rw [rset_s, rset_n q, rset_s]
    · rw [rset_n q2, rset_n q, rset_n q, rset_n q2]
theorem add_n0 (x : Int32) : x + nI 0 = x := by
  show x + 0 = x
  exact Int32.add_zero x
/-- while the cells are read -/
def MdI (A : Ab) (t src : Nat) (ρ ρ' : Nat → Nat → Int32) (j : Nat) : Prop := ρ' 4 = rdl (ρ 4) src (fun c => (c + t * aH A) % nc (aG A) (aS A)) j ∧ ρ' 0 = upd (ρ 0) 5 (rdc (ρ 0 5) src j) ∧ ∀ a, a ≠ 0 → a ≠ 4 → ρ' a = ρ a
theorem MdI.yes {A : Ab} {t src j : Nat} {ρ ρ' : Nat → Nat → Int32} (h : MdI A t src ρ ρ' j) (hb : bit src j) : MdI A t src ρ (rset (rset ρ' 4 (upd (ρ' 4) ((j + t * aH A) % nc (aG A) (aS A)) (ρ' 4 ((j + t * aH A) % nc (aG A) (aS A)) + nI 1))) 0 (upd (ρ' 0) 5 (ρ' 0 5 + nI 1))) (j + 1) := by
  obtain ⟨e4, e0, eo⟩ := h
  have hb2 : src / 2 ^ j % 2 = 1 := hb
  refine ⟨?_, ?_, fun a h0 h4 => ?_⟩
  · rw [rset_n (by decide), rset_s, e4]
    show _ = (if src / 2 ^ j % 2 = 1 then upd (rdl (ρ 4) src (fun c => (c + t * aH A) % nc (aG A) (aS A)) j) ((j + t * aH A) % nc (aG A) (aS A)) (rdl (ρ 4) src (fun c => (c + t * aH A) % nc (aG A) (aS A)) j ((j + t * aH A) % nc (aG A) (aS A)) + 1) else rdl (ρ 4) src (fun c => (c + t * aH A) % nc (aG A) (aS A)) j)
    rw [if_pos hb2]
    rfl
  · rw [rset_s, e0, pk_us, upd_upd]
    show _ = upd (ρ 0) 5 (if src / 2 ^ j % 2 = 1 then rdc (ρ 0 5) src j + 1 else rdc (ρ 0 5) src j)
    rw [if_pos hb2]
    rfl
  · rw [rset_n h0, rset_n h4]
    exact eo a h0 h4
theorem MdI.no {A : Ab} {t src j : Nat} {ρ ρ' : Nat → Nat → Int32} (h : MdI A t src ρ ρ' j) (hb : ¬ bit src j) : MdI A t src ρ (rset (rset ρ' 4 (upd (ρ' 4) ((j + t * aH A) % nc (aG A) (aS A)) (ρ' 4 ((j + t * aH A) % nc (aG A) (aS A)) + nI 0))) 0 (upd (ρ' 0) 5 (ρ' 0 5 + nI 0))) (j + 1) := by
  obtain ⟨e4, e0, eo⟩ := h
  have hb2 : ¬ src / 2 ^ j % 2 = 1 := hb
  rw [add_n0, add_n0, upd_self, upd_self]
  refine ⟨?_, ?_, fun a h0 h4 => ?_⟩
  · rw [rset_n (by decide), rset_s, e4]
    show _ = (if src / 2 ^ j % 2 = 1 then upd (rdl (ρ 4) src (fun c => (c + t * aH A) % nc (aG A) (aS A)) j) ((j + t * aH A) % nc (aG A) (aS A)) (rdl (ρ 4) src (fun c => (c + t * aH A) % nc (aG A) (aS A)) j ((j + t * aH A) % nc (aG A) (aS A)) + 1) else rdl (ρ 4) src (fun c => (c + t * aH A) % nc (aG A) (aS A)) j)
    rw [if_neg hb2]
  · rw [rset_s, e0]
    show _ = upd (ρ 0) 5 (if src / 2 ^ j % 2 = 1 then rdc (ρ 0 5) src j + 1 else rdc (ρ 0 5) src j)
    rw [if_neg hb2]
  · rw [rset_n h0, rset_n h4]
    exact eo a h0 h4
section LM
end LM
end
section
/-! THE LAW'S METHODS on its own store -/
section LM
variable {E : AEnv} {d : Nat} {h h' h0 : List va_E} {ρ ρ' : Nat → Nat → Int32} {A : Ab} {Z : Zt} {G : Nat → Option va_E}
theorem NdP.loc {A : Ab} {c j : Nat} (h : grf (aG A) (aS A) c < 9) : NdP A c j ↔ grf (aG A) (aS A) j = grf (aG A) (aS A) c := by
  unfold NdP
  rw [if_pos h]
theorem NdP.glo {A : Ab} {c j : Nat} (h : ¬ grf (aG A) (aS A) c < 9) : NdP A c j ↔ j < aG A * aS A := by
  unfold NdP
  rw [if_neg h]
theorem c_nearWay {t c : Nat} (ht : t < aT A) (hc : c < nc (aG A) (aS A)) (hL : LA h ρ) (hR : LR A ρ) (hd : 2 ≤ d) : Calls E mL_nearWay d 0 0 [.int (nI t), .int (nI c), .ref 52, .ref 54] h (RX (nI (nrN A t c)) h) := by
  refine Calls.of (ls := [some (.int (nI t)), some (.int (nI c)), some (.ref 52), some (.ref 54), none, none, none]) (by decide +kernel) rfl (Nat.le_of_ble_eq_true rfl) (cat_ok rfl) ?_
  have hA := hR.1
  have hY := hR.2.1
  have hLO := hY.1
  have hT3 : aT A ≤ 3 := hY.2.1
  have hn := hLO.nc
  have hg4 : aG A ≤ 4 := hLO.2.1
  have hg1 : 1 ≤ aG A := hLO.1
  have hs6 : aS A ≤ 6 := hLO.2.2.2.1
  have hs2 : 2 ≤ aS A := hLO.2.2.1
  have hgs : aG A * aS A ≤ 15 := hLO.2.2.2.2.1
  have hH5 : aH A ≤ 5 := hLO.2.2.2.2.2.2.2
  have hT1 : 1 ≤ aT A := hLO.2.2.2.2.2.1
  have en : nc (aG A) (aS A) = aG A * aS A + aG A + 2 := rfl
  have hM20 := hA.m20 ht
  obtain ⟨-, keyc⟩ := pmv_key hLO hc
  have loop : ∀ (m j : Nat) (x : Int32) (u : Option Value), j + m = nc (aG A) (aS A) → ((x = nI 1 ∧ NrP A t c j) ∨ (x = nI 0 ∧ ¬ NrP A t c j)) → Go E mL_nearWay d 0 0 6 [some (.int (nI t)), some (.int (nI c)), some (.ref 52), some (.ref 54), some (.int x), some (.int (nI j)), u] [] h (RX (nI (nrN A t c)) h) := by
    intro m
    induction m with
    | zero =>
      intro j x u hj hx
      have ej : j = nc (aG A) (aS A) := by omega
      subst ej
      refine go_iload_5 (DL_nearWay.at 4 rfl) ?_
      refine go_aload_2 (DL_nearWay.at 5 rfl) ?_
      refine go_cSx1 (DL_nearWay.at 6 rfl) nL_16 vL_all (by omega) (c_all hL hY) (Nat.le_of_ble_eq_true rfl) ?_
      refine go_icmp_ge 103 (DL_nearWay.at 7 rfl) (by decide) (fun c12 => ?_) (fun c12 => absurd (Int32.le_refl _) c12)
      refine go_iload_4 (DL_nearWay.at 53 rfl) ?_
      refine go_if_ne 112 (DL_nearWay.at 54 rfl) (by decide) (fun c105 => ?_) (fun c105 => ?_)
      · have hx1 : pmv (aG A) (aS A) c &&& aM A t = 0 := (NrP.iff hA ht).mp (by
          rcases hx with ⟨e, q⟩ | ⟨e, q⟩
          · exact q
          · exact absurd (e.trans (show nI 0 = 0 by decide)) c105)
        refine go_iload_1 (DL_nearWay.at 57 rfl) ?_
        refine go_aload_2 (DL_nearWay.at 58 rfl) ?_
        refine go_cSx2 (DL_nearWay.at 59 rfl) nL_23 vL_group (by omega) (c_group hc hL hY (by omega)) (Nat.le_of_ble_eq_true rfl) ?_
        refine go_bipush (v := nI 9) (DL_nearWay.at 60 rfl) (by decide) ?_
        refine go_icmp_ge 126 (DL_nearWay.at 61 rfl) (by decide) (fun c119 => ?_) (fun c119 => ?_)
        · rw [nI_leI (by omega) (by have := grf_lt (g := aG A) (s := aS A) (c := c) hg4; omega)] at c119
          have h2 : ¬ hcv (aG A) (aS A) c < aG A := fun w => by have := (grf_9 (s := aS A) hg4).mpr w; omega
          have fin : nrN A t c = 2 := (if_pos hx1).trans (if_neg h2)
          refine go_iconst (v := nI 2) (DL_nearWay.at 64 rfl) (by decide) ?_
          exact go_iret (DL_nearWay.at 65 rfl) rfl rfl (RX.mk (by first | rw [fin] | rw [show nrN A t c = 3 from if_neg hx0]) rfl)
        · rw [nI_leI (by omega) (by have := grf_lt (g := aG A) (s := aS A) (c := c) hg4; omega)] at c119
          have h2 : hcv (aG A) (aS A) c < aG A := (grf_9 (s := aS A) hg4).mp (by omega)
          have fin : nrN A t c = 1 := (if_pos hx1).trans (if_pos h2)
          refine go_iconst (v := nI 1) (DL_nearWay.at 62 rfl) (by decide) ?_
          refine go_goto 127 (DL_nearWay.at 63 rfl) (by decide) ?_
          exact go_iret (DL_nearWay.at 65 rfl) rfl rfl (RX.mk (by first | rw [fin] | rw [show nrN A t c = 3 from if_neg hx0]) rfl)
      · have hx0 : ¬ pmv (aG A) (aS A) c &&& aM A t = 0 := fun w => by
          rcases hx with ⟨e, q⟩ | ⟨e, q⟩
          · rw [e] at c105
            exact absurd c105 (by decide)
          · exact q ((NrP.iff hA ht).mpr w)
        refine go_iconst (v := nI 3) (DL_nearWay.at 55 rfl) (by decide) ?_
        refine go_goto 127 (DL_nearWay.at 56 rfl) (by decide) ?_
        exact go_iret (DL_nearWay.at 65 rfl) rfl rfl (RX.mk (by first | rw [fin] | rw [show nrN A t c = 3 from if_neg hx0]) rfl)
    | succ m ih =>
      intro j x u hj hx
      have hj20 : j < nc (aG A) (aS A) := by omega
      have t95 : ∀ (z : Int32) (u : Option Value), ((z = nI 1 ∧ NrP A t c (j + 1)) ∨ (z = nI 0 ∧ ¬ NrP A t c (j + 1))) → Go E mL_nearWay d 0 0 95 [some (.int (nI t)), some (.int (nI c)), some (.ref 52), some (.ref 54), some (.int x), some (.int (nI j)), u] [.int z] h (RX (nI (nrN A t c)) h) := by
        intro z u hz
        refine go_istore_4 (DL_nearWay.at 50 rfl) ?_
        refine go_iincN_5 (DL_nearWay.at 51 rfl) ?_
        refine go_goto 6 (DL_nearWay.at 52 rfl) (by decide) ?_
        exact ih (j + 1) _ _ (by omega) hz
      have t61 : ∀ (y : Int32) (u : Option Value), ((y = nI 1 ∧ NdP A c j) ∨ (y = nI 0 ∧ ¬ NdP A c j)) → Go E mL_nearWay d 0 0 61 [some (.int (nI t)), some (.int (nI c)), some (.ref 52), some (.ref 54), some (.int x), some (.int (nI j)), u] [.int y] h (RX (nI (nrN A t c)) h) := by
        intro y u hy
        refine go_istore_6 (DL_nearWay.at 31 rfl) ?_
        refine go_iload_4 (DL_nearWay.at 32 rfl) ?_
        refine go_if_eq 94 (DL_nearWay.at 33 rfl) (by decide) (fun c65 => ?_) (fun c65 => ?_)
        · have fin : ¬ NrP A t c (j + 1) := fun w => by
            rcases hx with ⟨e, q⟩ | ⟨e, q⟩
            · rw [e] at c65
              exact absurd c65 (by decide)
            · exact q w.down
          refine go_iconst (v := nI 0) (DL_nearWay.at 49 rfl) (by decide) ?_
          exact t95 _ _ (by first | exact Or.inl ⟨rfl, fin⟩ | exact Or.inr ⟨rfl, fin⟩)
        · have hP : NrP A t c j := by
            rcases hx with ⟨e, q⟩ | ⟨e, q⟩
            · exact q
            · exact absurd (e.trans (show nI 0 = 0 by decide)) c65
          refine go_iload_5 (DL_nearWay.at 34 rfl) ?_
          refine go_iload_1 (DL_nearWay.at 35 rfl) ?_
          refine go_icmp_eq 90 (DL_nearWay.at 36 rfl) (by decide) (fun c71 => ?_) (fun c71 => ?_)
          · rw [nI_eq (by omega) (by omega)] at c71
            have fin : NrP A t c (j + 1) := hP.succ (fun w => by rw [c71] at w; exact keyc w.1)
            refine go_iconst (v := nI 1) (DL_nearWay.at 47 rfl) (by decide) ?_
            refine go_goto 95 (DL_nearWay.at 48 rfl) (by decide) ?_
            exact t95 _ _ (by first | exact Or.inl ⟨rfl, fin⟩ | exact Or.inr ⟨rfl, fin⟩)
          · rw [nI_eq (by omega) (by omega)] at c71
            refine go_iload_6 (DL_nearWay.at 37 rfl) ?_
            refine go_if_eq 90 (DL_nearWay.at 38 rfl) (by decide) (fun c76 => ?_) (fun c76 => ?_)
            · have fin : NrP A t c (j + 1) := hP.succ (fun w => by
                rcases hy with ⟨e, q⟩ | ⟨e, q⟩
                · rw [e] at c76
                  exact absurd c76 (by decide)
                · exact q ((NdP.iff hLO hj20 c71).mpr w.1))
              refine go_iconst (v := nI 1) (DL_nearWay.at 47 rfl) (by decide) ?_
              refine go_goto 95 (DL_nearWay.at 48 rfl) (by decide) ?_
              exact t95 _ _ (by first | exact Or.inl ⟨rfl, fin⟩ | exact Or.inr ⟨rfl, fin⟩)
            · have hN : bit (pmv (aG A) (aS A) c) j := by
                rcases hy with ⟨e, q⟩ | ⟨e, q⟩
                · exact (NdP.iff hLO hj20 c71).mp q
                · exact absurd (e.trans (show nI 0 = 0 by decide)) c76
              refine go_aload_3 (DL_nearWay.at 39 rfl) ?_
              refine go_iload_0 (DL_nearWay.at 40 rfl) ?_
              refine go_ialdL 2 (DL_nearWay.at 41 rfl) hL (by decide) (show t < 3 by omega) ?_
              rw [hR.2.2.2.2.2.1 t ht]
              refine go_iload_5 (DL_nearWay.at 42 rfl) ?_
              refine go_ishr (DL_nearWay.at 43 rfl) ?_
              refine go_iconst (v := nI 1) (DL_nearWay.at 44 rfl) (by decide) ?_
              refine go_iand (DL_nearWay.at 45 rfl) ?_
              rw [nx_bit (by omega) (by omega)]
              refine go_if_ne 94 (DL_nearWay.at 46 rfl) (by decide) (fun c87 => ?_) (fun c87 => ?_)
              · rw [nI_eq0 (by omega)] at c87
                have fin : ¬ NrP A t c (j + 1) := fun w => w j (Nat.lt_succ_self j) ⟨hN, by have := c87; show aM A t / 2 ^ j % 2 = 1; omega⟩
                refine go_iconst (v := nI 0) (DL_nearWay.at 49 rfl) (by decide) ?_
                exact t95 _ _ (by first | exact Or.inl ⟨rfl, fin⟩ | exact Or.inr ⟨rfl, fin⟩)
              · rw [nI_eq0 (by omega)] at c87
                have fin : NrP A t c (j + 1) := hP.succ (fun w => by have w2 : aM A t / 2 ^ j % 2 = 1 := w.2; omega)
                refine go_iconst (v := nI 1) (DL_nearWay.at 47 rfl) (by decide) ?_
                refine go_goto 95 (DL_nearWay.at 48 rfl) (by decide) ?_
                exact t95 _ _ (by first | exact Or.inl ⟨rfl, fin⟩ | exact Or.inr ⟨rfl, fin⟩)
      refine go_iload_5 (DL_nearWay.at 4 rfl) ?_
      refine go_aload_2 (DL_nearWay.at 5 rfl) ?_
      refine go_cSx1 (DL_nearWay.at 6 rfl) nL_16 vL_all (by omega) (c_all hL hY) (Nat.le_of_ble_eq_true rfl) ?_
      refine go_icmp_ge 103 (DL_nearWay.at 7 rfl) (by decide) (fun c12 => absurd c12 (by rw [nI_leI (by omega) (by omega)]; omega)) (fun c12 => ?_)
      refine go_iload_1 (DL_nearWay.at 8 rfl) ?_
      refine go_aload_2 (DL_nearWay.at 9 rfl) ?_
      refine go_cSx2 (DL_nearWay.at 10 rfl) nL_23 vL_group (by omega) (c_group hc hL hY (by omega)) (Nat.le_of_ble_eq_true rfl) ?_
      refine go_bipush (v := nI 9) (DL_nearWay.at 11 rfl) (by decide) ?_
      refine go_icmp_ge 47 (DL_nearWay.at 12 rfl) (by decide) (fun c22 => ?_) (fun c22 => ?_)
      · rw [nI_leI (by omega) (by have := grf_lt (g := aG A) (s := aS A) (c := c) hg4; omega)] at c22
        refine go_iload_5 (DL_nearWay.at 24 rfl) ?_
        refine go_aload_2 (DL_nearWay.at 25 rfl) ?_
        refine go_cSx1 (DL_nearWay.at 26 rfl) nL_10 vL_data (by omega) (c_data hL hY) (Nat.le_of_ble_eq_true rfl) ?_
        refine go_icmp_ge 60 (DL_nearWay.at 27 rfl) (by decide) (fun c53 => ?_) (fun c53 => ?_)
        · rw [nI_leI (by omega) (by omega)] at c53
          have nd : ¬ NdP A c j := fun w => by have w2 := (NdP.glo (by omega)).mp w; omega
          refine go_iconst (v := nI 0) (DL_nearWay.at 30 rfl) (by decide) ?_
          exact t61 _ _ (by first | exact Or.inl ⟨rfl, nd⟩ | exact Or.inr ⟨rfl, nd⟩)
        · rw [nI_leI (by omega) (by omega)] at c53
          have nd : NdP A c j := (NdP.glo (by omega)).mpr (by omega)
          refine go_iconst (v := nI 1) (DL_nearWay.at 28 rfl) (by decide) ?_
          refine go_goto 61 (DL_nearWay.at 29 rfl) (by decide) ?_
          exact t61 _ _ (by first | exact Or.inl ⟨rfl, nd⟩ | exact Or.inr ⟨rfl, nd⟩)
      · rw [nI_leI (by omega) (by have := grf_lt (g := aG A) (s := aS A) (c := c) hg4; omega)] at c22
        refine go_iload_5 (DL_nearWay.at 13 rfl) ?_
        refine go_aload_2 (DL_nearWay.at 14 rfl) ?_
        refine go_cSx2 (DL_nearWay.at 15 rfl) nL_23 vL_group (by omega) (c_group hj20 hL hY (by omega)) (Nat.le_of_ble_eq_true rfl) ?_
        refine go_iload_1 (DL_nearWay.at 16 rfl) ?_
        refine go_aload_2 (DL_nearWay.at 17 rfl) ?_
        refine go_cSx2 (DL_nearWay.at 18 rfl) nL_23 vL_group (by omega) (c_group hc hL hY (by omega)) (Nat.le_of_ble_eq_true rfl) ?_
        refine go_icmp_ne 43 (DL_nearWay.at 19 rfl) (by decide) (fun c36 => ?_) (fun c36 => ?_)
        · rw [nI_eq (by have := grf_lt (g := aG A) (s := aS A) (c := j) hg4; omega) (by have := grf_lt (g := aG A) (s := aS A) (c := c) hg4; omega)] at c36
          have nd : ¬ NdP A c j := fun w => c36 ((NdP.loc (by omega)).mp w)
          refine go_iconst (v := nI 0) (DL_nearWay.at 22 rfl) (by decide) ?_
          refine go_goto 61 (DL_nearWay.at 23 rfl) (by decide) ?_
          exact t61 _ _ (by first | exact Or.inl ⟨rfl, nd⟩ | exact Or.inr ⟨rfl, nd⟩)
        · rw [nI_eq (by have := grf_lt (g := aG A) (s := aS A) (c := j) hg4; omega) (by have := grf_lt (g := aG A) (s := aS A) (c := c) hg4; omega)] at c36
          have nd : NdP A c j := (NdP.loc (by omega)).mpr c36
          refine go_iconst (v := nI 1) (DL_nearWay.at 20 rfl) (by decide) ?_
          refine go_goto 61 (DL_nearWay.at 21 rfl) (by decide) ?_
          exact t61 _ _ (by first | exact Or.inl ⟨rfl, nd⟩ | exact Or.inr ⟨rfl, nd⟩)
  refine go_iconst (v := nI 1) (DL_nearWay.at 0 rfl) (by decide) ?_
  refine go_istore_4 (DL_nearWay.at 1 rfl) ?_
  refine go_iconst (v := nI 0) (DL_nearWay.at 2 rfl) (by decide) ?_
  refine go_istore_5 (DL_nearWay.at 3 rfl) ?_
  exact loop _ 0 _ _ (Nat.zero_add _) (Or.inl ⟨rfl, fun e he => absurd he (Nat.not_lt_zero e)⟩)

theorem c_lreads {t w : Nat} (ht : t < aT A) (hw : w < 4) (hL : LA h ρ) (hR : LR A ρ) (hd : 1 ≤ d) : Calls E mL_reads d 0 0 [.int (nI t), .int (nI w), .ref 52, .ref 54] h (RX (nI (rdN A t w)) h) := by
  refine Calls.of (ls := [some (.int (nI t)), some (.int (nI w)), some (.ref 52), some (.ref 54)]) (by decide +kernel) rfl (Nat.le_of_ble_eq_true rfl) (cat_ok rfl) ?_
  have hA := hR.1
  have hY := hR.2.1
  have hLO := hY.1
  have hT3 : aT A ≤ 3 := hY.2.1
  have hn := hLO.nc
  have hg4 : aG A ≤ 4 := hLO.2.1
  have hg1 : 1 ≤ aG A := hLO.1
  have hs6 : aS A ≤ 6 := hLO.2.2.2.1
  have hs2 : 2 ≤ aS A := hLO.2.2.1
  have hgs : aG A * aS A ≤ 15 := hLO.2.2.2.2.1
  have hH5 : aH A ≤ 5 := hLO.2.2.2.2.2.2.2
  have hT1 : 1 ≤ aT A := hLO.2.2.2.2.2.1
  have en : nc (aG A) (aS A) = aG A * aS A + aG A + 2 := rfl
  have hM20 := hA.m20 ht
  refine go_iload_1 (DL_reads.at 0 rfl) ?_
  refine go_iconst (v := nI 1) (DL_reads.at 1 rfl) (by decide) ?_
  refine go_icmp_ne 11 (DL_reads.at 2 rfl) (by decide) (fun c2 => ?_) (fun c2 => ?_)
  · rw [nI_eq (by omega) (by decide)] at c2
    refine go_iload_1 (DL_reads.at 7 rfl) ?_
    refine go_iconst (v := nI 2) (DL_reads.at 8 rfl) (by decide) ?_
    refine go_icmp_ne 23 (DL_reads.at 9 rfl) (by decide) (fun c13 => ?_) (fun c13 => ?_)
    · rw [nI_eq (by omega) (by decide)] at c13
      refine go_aload_2 (DL_reads.at 13 rfl) ?_
      refine go_cSx1 (DL_reads.at 14 rfl) nL_16 vL_all (by omega) (c_all hL hY) (Nat.le_of_ble_eq_true rfl) ?_
      refine go_aload_3 (DL_reads.at 15 rfl) ?_
      refine go_iload_0 (DL_reads.at 16 rfl) ?_
      refine go_ialdL 2 (DL_reads.at 17 rfl) hL (by decide) (show t < 3 by omega) ?_
      rw [hR.2.2.2.2.2.1 t ht]
      refine go_cSx1 (DL_reads.at 18 rfl) nL_27 vL_ones (by omega) (c_ones hM20) (Nat.le_of_ble_eq_true rfl) ?_
      refine go_isub (DL_reads.at 19 rfl) ?_
      rw [pk_sub (pcn_all hA ht)]
      exact go_iret (DL_reads.at 20 rfl) rfl rfl (RX.mk (by unfold rdN; rw [if_neg c2, if_neg c13]) rfl)
    · rw [nI_eq (by omega) (by decide)] at c13
      refine go_aload_2 (DL_reads.at 10 rfl) ?_
      refine go_cSx1 (DL_reads.at 11 rfl) nL_10 vL_data (by omega) (c_data hL hY) (Nat.le_of_ble_eq_true rfl) ?_
      refine go_goto 34 (DL_reads.at 12 rfl) (by decide) ?_
      exact go_iret (DL_reads.at 20 rfl) rfl rfl (RX.mk (by unfold rdN; rw [if_neg c2, if_pos c13]) rfl)
  · rw [nI_eq (by omega) (by decide)] at c2
    refine go_aload_2 (DL_reads.at 3 rfl) ?_
    refine go_iconst (v := nI 1) (DL_reads.at 4 rfl) (by decide) ?_
    refine go_ialdL 0 (DL_reads.at 5 rfl) hL (by decide) (show 1 < 9 by decide) ?_
    rw [hY.2.2.2.1]
    refine go_goto 34 (DL_reads.at 6 rfl) (by decide) ?_
    exact go_iret (DL_reads.at 20 rfl) rfl rfl (RX.mk (by unfold rdN; rw [if_pos c2]) rfl)

theorem c_isWay {t c : Nat} (ht : t < aT A) (hc : c < nc (aG A) (aS A)) (hb : bit (aM A t) c) (hK : Cw A) (eA : zA Z = A) (hZ : CZ (fun j => h[j]?) Z h 0) (hL : LA h ρ) (hR : LR A ρ) (hd : 6 ≤ d) : Calls E mL_isWay d 0 0 [.ref 0, .int (nI t), .int (nI c), .ref 52, .ref 53, .ref 54] h (RI (fun r h' => r = nI 1 ∧ CZ (fun j => h[j]?) Z h' 0)) := by
  refine Calls.of (ls := [some (.ref 0), some (.int (nI t)), some (.int (nI c)), some (.ref 52), some (.ref 53), some (.ref 54), none, none]) (by decide +kernel) rfl (Nat.le_of_ble_eq_true rfl) (cat_ok rfl) ?_
  have hA := hR.1
  have hY := hR.2.1
  have hLO := hY.1
  have hT3 : aT A ≤ 3 := hY.2.1
  have hn := hLO.nc
  have hg4 : aG A ≤ 4 := hLO.2.1
  have hg1 : 1 ≤ aG A := hLO.1
  have hs6 : aS A ≤ 6 := hLO.2.2.2.1
  have hs2 : 2 ≤ aS A := hLO.2.2.1
  have hgs : aG A * aS A ≤ 15 := hLO.2.2.2.2.1
  have hH5 : aH A ≤ 5 := hLO.2.2.2.2.2.2.2
  have hT1 : 1 ≤ aT A := hLO.2.2.2.2.2.1
  have en : nc (aG A) (aS A) = aG A * aS A + aG A + 2 := rfl
  obtain ⟨n0, k0, o0⟩ := hZ.obj
  rcases way_cases A t c with ⟨w, src, X, hw⟩ | hw
  · have hw3 := hw.w
    have eX := hw.val hA hK ht hc hb
    subst eX
    refine go_aload_0 (DL_isWay.at 0 rfl) ?_
    refine go_iload_1 (DL_isWay.at 1 rfl) ?_
    refine go_iload_2 (DL_isWay.at 2 rfl) ?_
    refine go_cVi2 (DL_isWay.at 3 rfl) nL_31 vX5_way (by omega) (z_way hZ (by omega)) o0 rfl (Nat.le_of_ble_eq_true rfl) (fun x3 h3 q3 => ?_)
    obtain ⟨e3, Z3⟩ := q3
    rw [eA, asF_s hA ht hc hb hw] at e3
    subst e3
    have L3 := hL.cz Z3
    obtain ⟨n3, k3, o3⟩ := Z3.obj
    refine go_istore_6 (DL_isWay.at 4 rfl) ?_
    refine go_iload_1 (DL_isWay.at 5 rfl) ?_
    refine go_iload_2 (DL_isWay.at 6 rfl) ?_
    refine go_aload_3 (DL_isWay.at 7 rfl) ?_
    refine go_aload_5 (DL_isWay.at 8 rfl) ?_
    refine go_cSx4 (DL_isWay.at 9 rfl) nL_36 vL_nearWay (by omega) (c_nearWay ht hc L3 hR (by omega)) (Nat.le_of_ble_eq_true rfl) ?_
    rw [hw.nr]
    refine go_istore_7 (DL_isWay.at 10 rfl) ?_
    refine go_iload_7 (DL_isWay.at 11 rfl) ?_
    refine go_iconst (v := nI 3) (DL_isWay.at 12 rfl) (by decide) ?_
    refine go_icmp_ge 34 (DL_isWay.at 13 rfl) (by decide) (fun c21 => ?_) (fun c21 => ?_)
    · rw [nI_leI (by decide) (by omega)] at c21
      have e3w : w = 3 := by omega
      subst e3w
      refine go_iload_6 (DL_isWay.at 18 rfl) ?_
      refine go_if_eq 47 (DL_isWay.at 19 rfl) (by decide) (fun c36 => absurd c36 (by decide)) (fun c36 => ?_)
      refine go_iload_6 (DL_isWay.at 20 rfl) ?_
      refine go_iconst (v := nI 3) (DL_isWay.at 21 rfl) (by decide) ?_
      refine go_icmp_eq 47 (DL_isWay.at 22 rfl) (by decide) (fun c42 => ?_) (fun c42 => absurd rfl c42)
      refine go_aload_0 (DL_isWay.at 25 rfl) ?_
      refine go_iload_1 (DL_isWay.at 26 rfl) ?_
      refine go_iload_2 (DL_isWay.at 27 rfl) ?_
      refine go_cVi2 (DL_isWay.at 28 rfl) nL_40 vX5_reads (by omega) (z_reads Z3 (by omega)) o3 rfl (Nat.le_of_ble_eq_true rfl) (fun x50 h50 q50 => ?_)
      obtain ⟨e50, Z50⟩ := q50
      rw [eA, asF_s hA ht hc hb hw] at e50
      subst e50
      have L50 := hL.cz Z50
      obtain ⟨n50, k50, o50⟩ := Z50.obj
      refine go_iload_6 (DL_isWay.at 29 rfl) ?_
      refine go_if_ne 63 (DL_isWay.at 30 rfl) (by decide) (fun c55 => ?_) (fun c55 => absurd ((nI_eq0 (by omega)).mp c55) (by omega))
      refine go_iload_1 (DL_isWay.at 33 rfl) ?_
      refine go_iload_6 (DL_isWay.at 34 rfl) ?_
      refine go_aload_3 (DL_isWay.at 35 rfl) ?_
      refine go_aload_5 (DL_isWay.at 36 rfl) ?_
      refine go_cSx4 (DL_isWay.at 37 rfl) nL_43 vL_reads (by omega) (c_lreads ht (by omega) L50 hR (by omega)) (Nat.le_of_ble_eq_true rfl) ?_
      rw [← hw.cnt hA ht hc]
      refine go_icmp_ne 107 (DL_isWay.at 38 rfl) (by decide) (fun c72 => absurd rfl c72) (fun c72 => ?_)
      refine go_aload_0 (DL_isWay.at 39 rfl) ?_
      refine go_iload_1 (DL_isWay.at 40 rfl) ?_
      refine go_iload_2 (DL_isWay.at 41 rfl) ?_
      refine go_cVi2 (DL_isWay.at 42 rfl) nL_45 vX5_mended (by omega) (z_mended Z50 (by omega)) o50 rfl (Nat.le_of_ble_eq_true rfl) (fun x78 h78 q78 => ?_)
      obtain ⟨e78, Z78⟩ := q78
      rw [eA, asF_s hA ht hc hb hw] at e78
      subst e78
      have L78 := hL.cz Z78
      refine go_iload_6 (DL_isWay.at 43 rfl) ?_
      refine go_if_ne 91 (DL_isWay.at 44 rfl) (by decide) (fun c83 => ?_) (fun c83 => absurd ((nI_eq0 (by omega)).mp c83) (by omega))
      refine go_aload_4 (DL_isWay.at 47 rfl) ?_
      refine go_bipush (v := nI 20) (DL_isWay.at 48 rfl) (by decide) ?_
      refine go_iload_1 (DL_isWay.at 49 rfl) ?_
      refine go_imul (DL_isWay.at 50 rfl) ?_
      rw [pk_mul]
      refine go_iload_2 (DL_isWay.at 51 rfl) ?_
      refine go_iadd (DL_isWay.at 52 rfl) ?_
      rw [nI_add]
      refine go_ialdL 1 (DL_isWay.at 53 rfl) L78 (by decide) (show 20 * t + c < 60 by omega) ?_
      rw [hR.2.2.2.2.1 t ht c hc]
      refine go_icmp_ne 107 (DL_isWay.at 54 rfl) (by decide) (fun c100 => absurd rfl c100) (fun c100 => ?_)
      refine go_iconst (v := nI 1) (DL_isWay.at 55 rfl) (by decide) ?_
      refine go_goto 108 (DL_isWay.at 56 rfl) (by decide) ?_
      exact go_iret (DL_isWay.at 58 rfl) rfl rfl (RI.mk ⟨rfl, Z78⟩)
    · rw [nI_leI (by decide) (by omega)] at c21
      refine go_iload_6 (DL_isWay.at 14 rfl) ?_
      refine go_iload_7 (DL_isWay.at 15 rfl) ?_
      refine go_icmp_eq 47 (DL_isWay.at 16 rfl) (by decide) (fun c28 => ?_) (fun c28 => absurd rfl c28)
      refine go_aload_0 (DL_isWay.at 25 rfl) ?_
      refine go_iload_1 (DL_isWay.at 26 rfl) ?_
      refine go_iload_2 (DL_isWay.at 27 rfl) ?_
      refine go_cVi2 (DL_isWay.at 28 rfl) nL_40 vX5_reads (by omega) (z_reads Z3 (by omega)) o3 rfl (Nat.le_of_ble_eq_true rfl) (fun x50 h50 q50 => ?_)
      obtain ⟨e50, Z50⟩ := q50
      rw [eA, asF_s hA ht hc hb hw] at e50
      subst e50
      have L50 := hL.cz Z50
      obtain ⟨n50, k50, o50⟩ := Z50.obj
      refine go_iload_6 (DL_isWay.at 29 rfl) ?_
      refine go_if_ne 63 (DL_isWay.at 30 rfl) (by decide) (fun c55 => ?_) (fun c55 => absurd ((nI_eq0 (by omega)).mp c55) (by omega))
      refine go_iload_1 (DL_isWay.at 33 rfl) ?_
      refine go_iload_6 (DL_isWay.at 34 rfl) ?_
      refine go_aload_3 (DL_isWay.at 35 rfl) ?_
      refine go_aload_5 (DL_isWay.at 36 rfl) ?_
      refine go_cSx4 (DL_isWay.at 37 rfl) nL_43 vL_reads (by omega) (c_lreads ht (by omega) L50 hR (by omega)) (Nat.le_of_ble_eq_true rfl) ?_
      rw [← hw.cnt hA ht hc]
      refine go_icmp_ne 107 (DL_isWay.at 38 rfl) (by decide) (fun c72 => absurd rfl c72) (fun c72 => ?_)
      refine go_aload_0 (DL_isWay.at 39 rfl) ?_
      refine go_iload_1 (DL_isWay.at 40 rfl) ?_
      refine go_iload_2 (DL_isWay.at 41 rfl) ?_
      refine go_cVi2 (DL_isWay.at 42 rfl) nL_45 vX5_mended (by omega) (z_mended Z50 (by omega)) o50 rfl (Nat.le_of_ble_eq_true rfl) (fun x78 h78 q78 => ?_)
      obtain ⟨e78, Z78⟩ := q78
      rw [eA, asF_s hA ht hc hb hw] at e78
      subst e78
      have L78 := hL.cz Z78
      refine go_iload_6 (DL_isWay.at 43 rfl) ?_
      refine go_if_ne 91 (DL_isWay.at 44 rfl) (by decide) (fun c83 => ?_) (fun c83 => absurd ((nI_eq0 (by omega)).mp c83) (by omega))
      refine go_aload_4 (DL_isWay.at 47 rfl) ?_
      refine go_bipush (v := nI 20) (DL_isWay.at 48 rfl) (by decide) ?_
      refine go_iload_1 (DL_isWay.at 49 rfl) ?_
      refine go_imul (DL_isWay.at 50 rfl) ?_
      rw [pk_mul]
      refine go_iload_2 (DL_isWay.at 51 rfl) ?_
      refine go_iadd (DL_isWay.at 52 rfl) ?_
      rw [nI_add]
      refine go_ialdL 1 (DL_isWay.at 53 rfl) L78 (by decide) (show 20 * t + c < 60 by omega) ?_
      rw [hR.2.2.2.2.1 t ht c hc]
      refine go_icmp_ne 107 (DL_isWay.at 54 rfl) (by decide) (fun c100 => absurd rfl c100) (fun c100 => ?_)
      refine go_iconst (v := nI 1) (DL_isWay.at 55 rfl) (by decide) ?_
      refine go_goto 108 (DL_isWay.at 56 rfl) (by decide) ?_
      exact go_iret (DL_isWay.at 58 rfl) rfl rfl (RI.mk ⟨rfl, Z78⟩)
  · refine go_aload_0 (DL_isWay.at 0 rfl) ?_
    refine go_iload_1 (DL_isWay.at 1 rfl) ?_
    refine go_iload_2 (DL_isWay.at 2 rfl) ?_
    refine go_cVi2 (DL_isWay.at 3 rfl) nL_31 vX5_way (by omega) (z_way hZ (by omega)) o0 rfl (Nat.le_of_ble_eq_true rfl) (fun x3 h3 q3 => ?_)
    obtain ⟨e3, Z3⟩ := q3
    rw [eA, asF_0 hA ht hc hb hw] at e3
    subst e3
    have L3 := hL.cz Z3
    obtain ⟨n3, k3, o3⟩ := Z3.obj
    refine go_istore_6 (DL_isWay.at 4 rfl) ?_
    refine go_iload_1 (DL_isWay.at 5 rfl) ?_
    refine go_iload_2 (DL_isWay.at 6 rfl) ?_
    refine go_aload_3 (DL_isWay.at 7 rfl) ?_
    refine go_aload_5 (DL_isWay.at 8 rfl) ?_
    refine go_cSx4 (DL_isWay.at 9 rfl) nL_36 vL_nearWay (by omega) (c_nearWay ht hc L3 hR (by omega)) (Nat.le_of_ble_eq_true rfl) ?_
    rw [nrN_0 hA hK ht hc hw]
    refine go_istore_7 (DL_isWay.at 10 rfl) ?_
    refine go_iload_7 (DL_isWay.at 11 rfl) ?_
    refine go_iconst (v := nI 3) (DL_isWay.at 12 rfl) (by decide) ?_
    refine go_icmp_ge 34 (DL_isWay.at 13 rfl) (by decide) (fun c21 => ?_) (fun c21 => absurd (Int32.le_refl _) c21)
    refine go_iload_6 (DL_isWay.at 18 rfl) ?_
    refine go_if_eq 47 (DL_isWay.at 19 rfl) (by decide) (fun c36 => ?_) (fun c36 => absurd rfl c36)
    refine go_aload_0 (DL_isWay.at 25 rfl) ?_
    refine go_iload_1 (DL_isWay.at 26 rfl) ?_
    refine go_iload_2 (DL_isWay.at 27 rfl) ?_
    refine go_cVi2 (DL_isWay.at 28 rfl) nL_40 vX5_reads (by omega) (z_reads Z3 (by omega)) o3 rfl (Nat.le_of_ble_eq_true rfl) (fun x50 h50 q50 => ?_)
    obtain ⟨e50, Z50⟩ := q50
    rw [eA, asF_0 hA ht hc hb hw] at e50
    subst e50
    have L50 := hL.cz Z50
    obtain ⟨n50, k50, o50⟩ := Z50.obj
    refine go_iload_6 (DL_isWay.at 29 rfl) ?_
    refine go_if_ne 63 (DL_isWay.at 30 rfl) (by decide) (fun c55 => absurd rfl c55) (fun c55 => ?_)
    refine go_bipush (v := (-4)) (DL_isWay.at 31 rfl) (by decide) ?_
    refine go_goto 72 (DL_isWay.at 32 rfl) (by decide) ?_
    refine go_icmp_ne 107 (DL_isWay.at 38 rfl) (by decide) (fun c72 => absurd rfl c72) (fun c72 => ?_)
    refine go_aload_0 (DL_isWay.at 39 rfl) ?_
    refine go_iload_1 (DL_isWay.at 40 rfl) ?_
    refine go_iload_2 (DL_isWay.at 41 rfl) ?_
    refine go_cVi2 (DL_isWay.at 42 rfl) nL_45 vX5_mended (by omega) (z_mended Z50 (by omega)) o50 rfl (Nat.le_of_ble_eq_true rfl) (fun x78 h78 q78 => ?_)
    obtain ⟨e78, Z78⟩ := q78
    rw [eA, asF_0 hA ht hc hb hw] at e78
    subst e78
    have L78 := hL.cz Z78
    refine go_iload_6 (DL_isWay.at 43 rfl) ?_
    refine go_if_ne 91 (DL_isWay.at 44 rfl) (by decide) (fun c83 => absurd rfl c83) (fun c83 => ?_)
    refine go_bipush (v := (-4)) (DL_isWay.at 45 rfl) (by decide) ?_
    refine go_goto 100 (DL_isWay.at 46 rfl) (by decide) ?_
    refine go_icmp_ne 107 (DL_isWay.at 54 rfl) (by decide) (fun c100 => absurd rfl c100) (fun c100 => ?_)
    refine go_iconst (v := nI 1) (DL_isWay.at 55 rfl) (by decide) ?_
    refine go_goto 108 (DL_isWay.at 56 rfl) (by decide) ?_
    exact go_iret (DL_isWay.at 58 rfl) rfl rfl (RI.mk ⟨rfl, Z78⟩)

end LM
end
