-- ===== PART A: goes FIRST, ahead of the names: the tables' words, and 'selects' of the private methods out of them =====
/-- a private method of a class that the tables say can be made, by its rows of tables_1 -/
def lw_okq (q : MethodName × Nat) : Prop := (q.1.cls ≠ "java/lang/invoke/MethodHandle" ∧ q.1.cls ≠ "java/lang/invoke/VarHandle") ∧ Cond.instantiable q.1.cls q.2 ∈ tables_1 ∧ Cond.privateMethod q.1 ∈ tables_1 ∧ Cond.instanceMethod q.1 ∈ tables_1
theorem lw_p0 : lw_okq (⟨"LocalMenders$State", "layOut", "(IIII)V"⟩, 14) := ⟨⟨by decide +kernel, by decide +kernel⟩, List.mem_of_getElem? (i := 20) (by decide +kernel), List.mem_of_getElem? (i := 26) (by decide +kernel), List.mem_of_getElem? (i := 27) (by decide +kernel)⟩
theorem lw_p1 : lw_okq (⟨"LocalMenders$State", "cellCount", "()I"⟩, 14) := ⟨⟨by decide +kernel, by decide +kernel⟩, List.mem_of_getElem? (i := 20) (by decide +kernel), List.mem_of_getElem? (i := 33) (by decide +kernel), List.mem_of_getElem? (i := 34) (by decide +kernel)⟩
theorem lw_p2 : lw_okq (⟨"LocalMenders$State", "homeCheck", "(I)I"⟩, 14) := ⟨⟨by decide +kernel, by decide +kernel⟩, List.mem_of_getElem? (i := 20) (by decide +kernel), List.mem_of_getElem? (i := 37) (by decide +kernel), List.mem_of_getElem? (i := 38) (by decide +kernel)⟩
theorem lw_p3 : lw_okq (⟨"LocalMenders$State", "dataCount", "()I"⟩, 14) := ⟨⟨by decide +kernel, by decide +kernel⟩, List.mem_of_getElem? (i := 20) (by decide +kernel), List.mem_of_getElem? (i := 41) (by decide +kernel), List.mem_of_getElem? (i := 42) (by decide +kernel)⟩
theorem lw_p4 : lw_okq (⟨"LocalMenders", "begin", "()V"⟩, 9) := ⟨⟨by decide +kernel, by decide +kernel⟩, List.mem_of_getElem? (i := 12) (by decide +kernel), List.mem_of_getElem? (i := 235) (by decide +kernel), List.mem_of_getElem? (i := 236) (by decide +kernel)⟩
theorem lw_p5 : lw_okq (⟨"LocalMenders$State", "copyFrom", "(LLocalMenders$State;)V"⟩, 14) := ⟨⟨by decide +kernel, by decide +kernel⟩, List.mem_of_getElem? (i := 20) (by decide +kernel), List.mem_of_getElem? (i := 239) (by decide +kernel), List.mem_of_getElem? (i := 240) (by decide +kernel)⟩
theorem lw_p6 : lw_okq (⟨"LocalMenders", "finish", "(I)I"⟩, 9) := ⟨⟨by decide +kernel, by decide +kernel⟩, List.mem_of_getElem? (i := 12) (by decide +kernel), List.mem_of_getElem? (i := 254) (by decide +kernel), List.mem_of_getElem? (i := 255) (by decide +kernel)⟩
theorem lw_p7 : lw_okq (⟨"LocalMenders", "record", "()V"⟩, 9) := ⟨⟨by decide +kernel, by decide +kernel⟩, List.mem_of_getElem? (i := 12) (by decide +kernel), List.mem_of_getElem? (i := 258) (by decide +kernel), List.mem_of_getElem? (i := 259) (by decide +kernel)⟩
theorem lw_p8 : lw_okq (⟨"LocalMenders", "dropOldest", "()V"⟩, 9) := ⟨⟨by decide +kernel, by decide +kernel⟩, List.mem_of_getElem? (i := 12) (by decide +kernel), List.mem_of_getElem? (i := 262) (by decide +kernel), List.mem_of_getElem? (i := 263) (by decide +kernel)⟩
theorem lw_p9 : lw_okq (⟨"LocalMenders", "workOnQueue", "(I)I"⟩, 9) := ⟨⟨by decide +kernel, by decide +kernel⟩, List.mem_of_getElem? (i := 12) (by decide +kernel), List.mem_of_getElem? (i := 270) (by decide +kernel), List.mem_of_getElem? (i := 271) (by decide +kernel)⟩
theorem lw_p10 : lw_okq (⟨"LocalMenders", "mendCell", "(II)I"⟩, 9) := ⟨⟨by decide +kernel, by decide +kernel⟩, List.mem_of_getElem? (i := 12) (by decide +kernel), List.mem_of_getElem? (i := 275) (by decide +kernel), List.mem_of_getElem? (i := 276) (by decide +kernel)⟩
theorem lw_p11 : lw_okq (⟨"LocalMenders$Plan", "make", "(LLocalMenders$State;II)I"⟩, 3) := ⟨⟨by decide +kernel, by decide +kernel⟩, List.mem_of_getElem? (i := 146) (by decide +kernel), List.mem_of_getElem? (i := 279) (by decide +kernel), List.mem_of_getElem? (i := 280) (by decide +kernel)⟩
theorem lw_p12 : lw_okq (⟨"LocalMenders$State", "hasCell", "(II)Z"⟩, 14) := ⟨⟨by decide +kernel, by decide +kernel⟩, List.mem_of_getElem? (i := 20) (by decide +kernel), List.mem_of_getElem? (i := 283) (by decide +kernel), List.mem_of_getElem? (i := 284) (by decide +kernel)⟩
theorem lw_p13 : lw_okq (⟨"LocalMenders$State", "hasStripe", "(I)Z"⟩, 14) := ⟨⟨by decide +kernel, by decide +kernel⟩, List.mem_of_getElem? (i := 20) (by decide +kernel), List.mem_of_getElem? (i := 287) (by decide +kernel), List.mem_of_getElem? (i := 288) (by decide +kernel)⟩
theorem lw_p14 : lw_okq (⟨"LocalMenders$State", "isMissing", "(II)Z"⟩, 14) := ⟨⟨by decide +kernel, by decide +kernel⟩, List.mem_of_getElem? (i := 20) (by decide +kernel), List.mem_of_getElem? (i := 291) (by decide +kernel), List.mem_of_getElem? (i := 292) (by decide +kernel)⟩
theorem lw_p15 : lw_okq (⟨"LocalMenders$State", "missingIn", "(I)I"⟩, 14) := ⟨⟨by decide +kernel, by decide +kernel⟩, List.mem_of_getElem? (i := 20) (by decide +kernel), List.mem_of_getElem? (i := 295) (by decide +kernel), List.mem_of_getElem? (i := 296) (by decide +kernel)⟩
def lw_privs_1 : List (MethodName × Nat) := [(⟨"LocalMenders$State", "layOut", "(IIII)V"⟩, 14), (⟨"LocalMenders$State", "cellCount", "()I"⟩, 14), (⟨"LocalMenders$State", "homeCheck", "(I)I"⟩, 14), (⟨"LocalMenders$State", "dataCount", "()I"⟩, 14), (⟨"LocalMenders", "begin", "()V"⟩, 9), (⟨"LocalMenders$State", "copyFrom", "(LLocalMenders$State;)V"⟩, 14), (⟨"LocalMenders", "finish", "(I)I"⟩, 9), (⟨"LocalMenders", "record", "()V"⟩, 9), (⟨"LocalMenders", "dropOldest", "()V"⟩, 9), (⟨"LocalMenders", "workOnQueue", "(I)I"⟩, 9), (⟨"LocalMenders", "mendCell", "(II)I"⟩, 9), (⟨"LocalMenders$Plan", "make", "(LLocalMenders$State;II)I"⟩, 3), (⟨"LocalMenders$State", "hasCell", "(II)Z"⟩, 14), (⟨"LocalMenders$State", "hasStripe", "(I)Z"⟩, 14), (⟨"LocalMenders$State", "isMissing", "(II)Z"⟩, 14), (⟨"LocalMenders$State", "missingIn", "(I)I"⟩, 14)]
theorem lw_r1 : ∀ q ∈ lw_privs_1, lw_okq q := List.forall_mem_cons.mpr ⟨lw_p0, List.forall_mem_cons.mpr ⟨lw_p1, List.forall_mem_cons.mpr ⟨lw_p2, List.forall_mem_cons.mpr ⟨lw_p3, List.forall_mem_cons.mpr ⟨lw_p4, List.forall_mem_cons.mpr ⟨lw_p5, List.forall_mem_cons.mpr ⟨lw_p6, List.forall_mem_cons.mpr ⟨lw_p7, List.forall_mem_cons.mpr ⟨lw_p8, List.forall_mem_cons.mpr ⟨lw_p9, List.forall_mem_cons.mpr ⟨lw_p10, List.forall_mem_cons.mpr ⟨lw_p11, List.forall_mem_cons.mpr ⟨lw_p12, List.forall_mem_cons.mpr ⟨lw_p13, List.forall_mem_cons.mpr ⟨lw_p14, List.forall_mem_cons.mpr ⟨lw_p15, fun _ h => absurd h List.not_mem_nil⟩⟩⟩⟩⟩⟩⟩⟩⟩⟩⟩⟩⟩⟩⟩⟩
theorem lw_p16 : lw_okq (⟨"LocalMenders$State", "partnersOf", "(I)I"⟩, 14) := ⟨⟨by decide +kernel, by decide +kernel⟩, List.mem_of_getElem? (i := 20) (by decide +kernel), List.mem_of_getElem? (i := 300) (by decide +kernel), List.mem_of_getElem? (i := 301) (by decide +kernel)⟩
theorem lw_p17 : lw_okq (⟨"LocalMenders$State", "sumsOver", "(II)I"⟩, 14) := ⟨⟨by decide +kernel, by decide +kernel⟩, List.mem_of_getElem? (i := 20) (by decide +kernel), List.mem_of_getElem? (i := 305) (by decide +kernel), List.mem_of_getElem? (i := 306) (by decide +kernel)⟩
theorem lw_p18 : lw_okq (⟨"LocalMenders$State", "columnOf", "(I)I"⟩, 14) := ⟨⟨by decide +kernel, by decide +kernel⟩, List.mem_of_getElem? (i := 20) (by decide +kernel), List.mem_of_getElem? (i := 309) (by decide +kernel), List.mem_of_getElem? (i := 310) (by decide +kernel)⟩
theorem lw_p19 : lw_okq (⟨"LocalMenders$State", "valueOf", "(II)I"⟩, 14) := ⟨⟨by decide +kernel, by decide +kernel⟩, List.mem_of_getElem? (i := 20) (by decide +kernel), List.mem_of_getElem? (i := 313) (by decide +kernel), List.mem_of_getElem? (i := 314) (by decide +kernel)⟩
theorem lw_p20 : lw_okq (⟨"LocalMenders$State", "allCells", "()I"⟩, 14) := ⟨⟨by decide +kernel, by decide +kernel⟩, List.mem_of_getElem? (i := 20) (by decide +kernel), List.mem_of_getElem? (i := 325) (by decide +kernel), List.mem_of_getElem? (i := 326) (by decide +kernel)⟩
theorem lw_p21 : lw_okq (⟨"LocalMenders$Basis", "span", "(LLocalMenders$State;I)V"⟩, 3) := ⟨⟨by decide +kernel, by decide +kernel⟩, List.mem_of_getElem? (i := 152) (by decide +kernel), List.mem_of_getElem? (i := 329) (by decide +kernel), List.mem_of_getElem? (i := 330) (by decide +kernel)⟩
theorem lw_p22 : lw_okq (⟨"LocalMenders$Basis", "restOf", "(I)I"⟩, 3) := ⟨⟨by decide +kernel, by decide +kernel⟩, List.mem_of_getElem? (i := 152) (by decide +kernel), List.mem_of_getElem? (i := 335) (by decide +kernel), List.mem_of_getElem? (i := 336) (by decide +kernel)⟩
theorem lw_p23 : lw_okq (⟨"LocalMenders$Plan", "solve", "(II)I"⟩, 3) := ⟨⟨by decide +kernel, by decide +kernel⟩, List.mem_of_getElem? (i := 146) (by decide +kernel), List.mem_of_getElem? (i := 354) (by decide +kernel), List.mem_of_getElem? (i := 355) (by decide +kernel)⟩
theorem lw_p24 : lw_okq (⟨"LocalMenders$State", "countReads", "(II)V"⟩, 14) := ⟨⟨by decide +kernel, by decide +kernel⟩, List.mem_of_getElem? (i := 20) (by decide +kernel), List.mem_of_getElem? (i := 363) (by decide +kernel), List.mem_of_getElem? (i := 364) (by decide +kernel)⟩
theorem lw_p25 : lw_okq (⟨"LocalMenders$State", "nodeOf", "(II)I"⟩, 14) := ⟨⟨by decide +kernel, by decide +kernel⟩, List.mem_of_getElem? (i := 20) (by decide +kernel), List.mem_of_getElem? (i := 367) (by decide +kernel), List.mem_of_getElem? (i := 368) (by decide +kernel)⟩
theorem lw_p26 : lw_okq (⟨"LocalMenders$State", "bringBack", "(III)V"⟩, 14) := ⟨⟨by decide +kernel, by decide +kernel⟩, List.mem_of_getElem? (i := 20) (by decide +kernel), List.mem_of_getElem? (i := 374) (by decide +kernel), List.mem_of_getElem? (i := 375) (by decide +kernel)⟩
theorem lw_p27 : lw_okq (⟨"LocalMenders$State", "setValue", "(III)V"⟩, 14) := ⟨⟨by decide +kernel, by decide +kernel⟩, List.mem_of_getElem? (i := 20) (by decide +kernel), List.mem_of_getElem? (i := 378) (by decide +kernel), List.mem_of_getElem? (i := 379) (by decide +kernel)⟩
theorem lw_p28 : lw_okq (⟨"LocalMenders$State", "leaveQueue", "(I)V"⟩, 14) := ⟨⟨by decide +kernel, by decide +kernel⟩, List.mem_of_getElem? (i := 20) (by decide +kernel), List.mem_of_getElem? (i := 382) (by decide +kernel), List.mem_of_getElem? (i := 383) (by decide +kernel)⟩
theorem lw_p29 : lw_okq (⟨"LocalMenders$State", "joinQueue", "(I)V"⟩, 14) := ⟨⟨by decide +kernel, by decide +kernel⟩, List.mem_of_getElem? (i := 20) (by decide +kernel), List.mem_of_getElem? (i := 394) (by decide +kernel), List.mem_of_getElem? (i := 395) (by decide +kernel)⟩
theorem lw_p30 : lw_okq (⟨"LocalMenders$Plan", "canMendAll", "(LLocalMenders$State;I)Z"⟩, 3) := ⟨⟨by decide +kernel, by decide +kernel⟩, List.mem_of_getElem? (i := 146) (by decide +kernel), List.mem_of_getElem? (i := 422) (by decide +kernel), List.mem_of_getElem? (i := 423) (by decide +kernel)⟩
theorem lw_p31 : lw_okq (⟨"LocalMenders$State", "hasNode", "(I)Z"⟩, 14) := ⟨⟨by decide +kernel, by decide +kernel⟩, List.mem_of_getElem? (i := 20) (by decide +kernel), List.mem_of_getElem? (i := 477) (by decide +kernel), List.mem_of_getElem? (i := 478) (by decide +kernel)⟩
def lw_privs_2 : List (MethodName × Nat) := [(⟨"LocalMenders$State", "partnersOf", "(I)I"⟩, 14), (⟨"LocalMenders$State", "sumsOver", "(II)I"⟩, 14), (⟨"LocalMenders$State", "columnOf", "(I)I"⟩, 14), (⟨"LocalMenders$State", "valueOf", "(II)I"⟩, 14), (⟨"LocalMenders$State", "allCells", "()I"⟩, 14), (⟨"LocalMenders$Basis", "span", "(LLocalMenders$State;I)V"⟩, 3), (⟨"LocalMenders$Basis", "restOf", "(I)I"⟩, 3), (⟨"LocalMenders$Plan", "solve", "(II)I"⟩, 3), (⟨"LocalMenders$State", "countReads", "(II)V"⟩, 14), (⟨"LocalMenders$State", "nodeOf", "(II)I"⟩, 14), (⟨"LocalMenders$State", "bringBack", "(III)V"⟩, 14), (⟨"LocalMenders$State", "setValue", "(III)V"⟩, 14), (⟨"LocalMenders$State", "leaveQueue", "(I)V"⟩, 14), (⟨"LocalMenders$State", "joinQueue", "(I)V"⟩, 14), (⟨"LocalMenders$Plan", "canMendAll", "(LLocalMenders$State;I)Z"⟩, 3), (⟨"LocalMenders$State", "hasNode", "(I)Z"⟩, 14)]
theorem lw_r2 : ∀ q ∈ lw_privs_2, lw_okq q := List.forall_mem_cons.mpr ⟨lw_p16, List.forall_mem_cons.mpr ⟨lw_p17, List.forall_mem_cons.mpr ⟨lw_p18, List.forall_mem_cons.mpr ⟨lw_p19, List.forall_mem_cons.mpr ⟨lw_p20, List.forall_mem_cons.mpr ⟨lw_p21, List.forall_mem_cons.mpr ⟨lw_p22, List.forall_mem_cons.mpr ⟨lw_p23, List.forall_mem_cons.mpr ⟨lw_p24, List.forall_mem_cons.mpr ⟨lw_p25, List.forall_mem_cons.mpr ⟨lw_p26, List.forall_mem_cons.mpr ⟨lw_p27, List.forall_mem_cons.mpr ⟨lw_p28, List.forall_mem_cons.mpr ⟨lw_p29, List.forall_mem_cons.mpr ⟨lw_p30, List.forall_mem_cons.mpr ⟨lw_p31, fun _ h => absurd h List.not_mem_nil⟩⟩⟩⟩⟩⟩⟩⟩⟩⟩⟩⟩⟩⟩⟩⟩
theorem lw_p32 : lw_okq (⟨"LocalMenders$State", "culpritIn", "(I)I"⟩, 14) := ⟨⟨by decide +kernel, by decide +kernel⟩, List.mem_of_getElem? (i := 20) (by decide +kernel), List.mem_of_getElem? (i := 513) (by decide +kernel), List.mem_of_getElem? (i := 514) (by decide +kernel)⟩
theorem lw_p33 : lw_okq (⟨"LocalMenders", "writeCell", "(III)I"⟩, 9) := ⟨⟨by decide +kernel, by decide +kernel⟩, List.mem_of_getElem? (i := 12) (by decide +kernel), List.mem_of_getElem? (i := 531) (by decide +kernel), List.mem_of_getElem? (i := 532) (by decide +kernel)⟩
theorem lw_p34 : lw_okq (⟨"LocalMenders$State", "addToParities", "(II)V"⟩, 14) := ⟨⟨by decide +kernel, by decide +kernel⟩, List.mem_of_getElem? (i := 20) (by decide +kernel), List.mem_of_getElem? (i := 538) (by decide +kernel), List.mem_of_getElem? (i := 539) (by decide +kernel)⟩
theorem lw_p35 : lw_okq (⟨"LocalMenders", "loseCell", "(II)I"⟩, 9) := ⟨⟨by decide +kernel, by decide +kernel⟩, List.mem_of_getElem? (i := 12) (by decide +kernel), List.mem_of_getElem? (i := 546) (by decide +kernel), List.mem_of_getElem? (i := 547) (by decide +kernel)⟩
theorem lw_p36 : lw_okq (⟨"LocalMenders$State", "takeAway", "(II)V"⟩, 14) := ⟨⟨by decide +kernel, by decide +kernel⟩, List.mem_of_getElem? (i := 20) (by decide +kernel), List.mem_of_getElem? (i := 550) (by decide +kernel), List.mem_of_getElem? (i := 551) (by decide +kernel)⟩
theorem lw_p37 : lw_okq (⟨"LocalMenders", "loseCellsOn", "(I)I"⟩, 9) := ⟨⟨by decide +kernel, by decide +kernel⟩, List.mem_of_getElem? (i := 12) (by decide +kernel), List.mem_of_getElem? (i := 559) (by decide +kernel), List.mem_of_getElem? (i := 560) (by decide +kernel)⟩
theorem lw_p38 : lw_okq (⟨"LocalMenders$State", "cellOn", "(II)I"⟩, 14) := ⟨⟨by decide +kernel, by decide +kernel⟩, List.mem_of_getElem? (i := 20) (by decide +kernel), List.mem_of_getElem? (i := 563) (by decide +kernel), List.mem_of_getElem? (i := 564) (by decide +kernel)⟩
theorem lw_p39 : lw_okq (⟨"LocalMenders", "mendCellsOn", "(I)I"⟩, 9) := ⟨⟨by decide +kernel, by decide +kernel⟩, List.mem_of_getElem? (i := 12) (by decide +kernel), List.mem_of_getElem? (i := 575) (by decide +kernel), List.mem_of_getElem? (i := 576) (by decide +kernel)⟩
def lw_privs_3 : List (MethodName × Nat) := [(⟨"LocalMenders$State", "culpritIn", "(I)I"⟩, 14), (⟨"LocalMenders", "writeCell", "(III)I"⟩, 9), (⟨"LocalMenders$State", "addToParities", "(II)V"⟩, 14), (⟨"LocalMenders", "loseCell", "(II)I"⟩, 9), (⟨"LocalMenders$State", "takeAway", "(II)V"⟩, 14), (⟨"LocalMenders", "loseCellsOn", "(I)I"⟩, 9), (⟨"LocalMenders$State", "cellOn", "(II)I"⟩, 14), (⟨"LocalMenders", "mendCellsOn", "(I)I"⟩, 9)]
theorem lw_r3 : ∀ q ∈ lw_privs_3, lw_okq q := List.forall_mem_cons.mpr ⟨lw_p32, List.forall_mem_cons.mpr ⟨lw_p33, List.forall_mem_cons.mpr ⟨lw_p34, List.forall_mem_cons.mpr ⟨lw_p35, List.forall_mem_cons.mpr ⟨lw_p36, List.forall_mem_cons.mpr ⟨lw_p37, List.forall_mem_cons.mpr ⟨lw_p38, List.forall_mem_cons.mpr ⟨lw_p39, fun _ h => absurd h List.not_mem_nil⟩⟩⟩⟩⟩⟩⟩⟩
def lw_privs : List (MethodName × Nat) := lw_privs_1 ++ (lw_privs_2 ++ (lw_privs_3))
def lw_tbl : List Cond := k2_sels lw_privs ++ tables_1
theorem lw_privs_ok : ∀ q ∈ lw_privs, lw_okq q := by
  show ∀ q ∈ lw_privs_1 ++ (lw_privs_2 ++ (lw_privs_3)), lw_okq q
  exact List.forall_mem_append.mpr ⟨lw_r1, List.forall_mem_append.mpr ⟨lw_r2, lw_r3⟩⟩
-- ===== end of PART A; then your names; then what follows =====
def RX0 : String := "LocalMenders$Basis"
def TX0 : u_T := fun k => match k with
  | 0 => ("LocalMenders$Basis", "columns", "[I", true)
  | 1 => ("LocalMenders$Basis", "leads", "[I", true)
  | _ => ("LocalMenders$Basis", "rank", "I", false)
def tyX0 : Nat → FieldType := fun k => match k with
  | 0 => .array .int
  | 1 => .array .int
  | _ => .int
abbrev wsX00 : List Cond := u_ws RX0 TX0 3
theorem nmX0 : ∀ a, a < 3 → ∀ b, b < 3 → a ≠ b → (TX0 a).2.1 ≠ (TX0 b).2.1 := by decide +kernel
theorem tyX0_ok : ∀ k, k < 3 → parseFieldDescriptor (TX0 k).2.2.1 = some (tyX0 k) := by decide +kernel
abbrev cX0_init : ByteArray := prog_2_method_1_code
def yX0_init : MethodName := ⟨RX0, "<init>", "()V"⟩
abbrev cX0_span : ByteArray := prog_2_method_2_code
def yX0_span : MethodName := ⟨RX0, "span", "(LLocalMenders$State;I)V"⟩
abbrev cX0_restOf : ByteArray := prog_2_method_3_code
def yX0_restOf : MethodName := ⟨RX0, "restOf", "(I)I"⟩
def RX1 : String := "LocalMenders$Orders"
def TX1 : u_T := fun k => match k with
  | 0 => ("LocalMenders$Orders", "signs", "[C", true)
  | 1 => ("LocalMenders$Orders", "length", "I", false)
  | 2 => ("LocalMenders$Orders", "place", "I", false)
  | 3 => ("LocalMenders$Orders", "count", "I", false)
  | 4 => ("LocalMenders$Orders", "kind", "I", false)
  | 5 => ("LocalMenders$Orders", "stripe", "I", false)
  | 6 => ("LocalMenders$Orders", "cell", "I", false)
  | 7 => ("LocalMenders$Orders", "node", "I", false)
  | _ => ("LocalMenders$Orders", "value", "I", false)
def tyX1 : Nat → FieldType := fun k => match k with
  | 0 => .array .char
  | 1 => .int
  | 2 => .int
  | 3 => .int
  | 4 => .int
  | 5 => .int
  | 6 => .int
  | 7 => .int
  | _ => .int
abbrev wsX10 : List Cond := u_ws RX1 TX1 9
theorem nmX1 : ∀ a, a < 9 → ∀ b, b < 9 → a ≠ b → (TX1 a).2.1 ≠ (TX1 b).2.1 := by decide +kernel
theorem tyX1_ok : ∀ k, k < 9 → parseFieldDescriptor (TX1 k).2.2.1 = some (tyX1 k) := by decide +kernel
abbrev cX1_init : ByteArray := prog_3_method_1_code
def yX1_init : MethodName := ⟨RX1, "<init>", "()V"⟩
def RX2 : String := "LocalMenders$Plan"
def TX2 : u_T := fun k => match k with
  | 0 => ("LocalMenders$Plan", "basis", "LLocalMenders$Basis;", true)
  | 1 => ("LocalMenders$Plan", "sources", "I", false)
  | _ => ("LocalMenders$Plan", "outcome", "I", false)
def tyX2 : Nat → FieldType := fun k => match k with
  | 0 => .object "LocalMenders$Basis"
  | 1 => .int
  | _ => .int
abbrev wsX20 : List Cond := u_ws RX2 TX2 3
theorem nmX2 : ∀ a, a < 3 → ∀ b, b < 3 → a ≠ b → (TX2 a).2.1 ≠ (TX2 b).2.1 := by decide +kernel
theorem tyX2_ok : ∀ k, k < 3 → parseFieldDescriptor (TX2 k).2.2.1 = some (tyX2 k) := by decide +kernel
abbrev cX2_init : ByteArray := prog_4_method_1_code
def yX2_init : MethodName := ⟨RX2, "<init>", "()V"⟩
abbrev cX2_make : ByteArray := prog_4_method_2_code
def yX2_make : MethodName := ⟨RX2, "make", "(LLocalMenders$State;II)I"⟩
abbrev cX2_solve : ByteArray := prog_4_method_3_code
def yX2_solve : MethodName := ⟨RX2, "solve", "(II)I"⟩
abbrev cX2_canMendAll : ByteArray := prog_4_method_4_code
def yX2_canMendAll : MethodName := ⟨RX2, "canMendAll", "(LLocalMenders$State;I)Z"⟩
def RX3 : String := "LocalMenders$Search"
def TX3 : u_T := fun k => match k with
  | 0 => ("LocalMenders$Search", "rests", "[I", true)
  | 1 => ("LocalMenders$Search", "wanted", "I", false)
  | 2 => ("LocalMenders$Search", "found", "I", false)
  | _ => ("LocalMenders$Search", "leastNodes", "I", false)
def tyX3 : Nat → FieldType := fun k => match k with
  | 0 => .array .int
  | 1 => .int
  | 2 => .int
  | _ => .int
abbrev wsX30 : List Cond := u_ws RX3 TX3 4
theorem nmX3 : ∀ a, a < 4 → ∀ b, b < 4 → a ≠ b → (TX3 a).2.1 ≠ (TX3 b).2.1 := by decide +kernel
theorem tyX3_ok : ∀ k, k < 4 → parseFieldDescriptor (TX3 k).2.2.1 = some (tyX3 k) := by decide +kernel
abbrev cX3_init : ByteArray := prog_5_method_1_code
def yX3_init : MethodName := ⟨RX3, "<init>", "()V"⟩
def RX4 : String := "LocalMenders$State"
def TX4 : u_T := fun k => match k with
  | 0 => ("LocalMenders$State", "groups", "I", false)
  | 1 => ("LocalMenders$State", "size", "I", false)
  | 2 => ("LocalMenders$State", "stripes", "I", false)
  | 3 => ("LocalMenders$State", "shift", "I", false)
  | 4 => ("LocalMenders$State", "readsSoFar", "I", false)
  | 5 => ("LocalMenders$State", "mendsSoFar", "I", false)
  | 6 => ("LocalMenders$State", "localMendsSoFar", "I", false)
  | 7 => ("LocalMenders$State", "lossesSoFar", "I", false)
  | 8 => ("LocalMenders$State", "queueLength", "I", false)
  | 9 => ("LocalMenders$State", "queue", "[I", true)
  | 10 => ("LocalMenders$State", "values", "[I", true)
  | 11 => ("LocalMenders$State", "missing", "[I", true)
  | 12 => ("LocalMenders$State", "loads", "[I", true)
  | _ => ("LocalMenders$State", "columns", "[I", true)
def tyX4 : Nat → FieldType := fun k => match k with
  | 0 => .int
  | 1 => .int
  | 2 => .int
  | 3 => .int
  | 4 => .int
  | 5 => .int
  | 6 => .int
  | 7 => .int
  | 8 => .int
  | 9 => .array .int
  | 10 => .array .int
  | 11 => .array .int
  | 12 => .array .int
  | _ => .array .int
abbrev wsX40 : List Cond := u_ws RX4 TX4 14
theorem nmX4 : ∀ a, a < 14 → ∀ b, b < 14 → a ≠ b → (TX4 a).2.1 ≠ (TX4 b).2.1 := by decide +kernel
theorem tyX4_ok : ∀ k, k < 14 → parseFieldDescriptor (TX4 k).2.2.1 = some (tyX4 k) := by decide +kernel
abbrev cX4_init : ByteArray := prog_6_method_1_code
def yX4_init : MethodName := ⟨RX4, "<init>", "()V"⟩
abbrev cX4_copyFrom : ByteArray := prog_6_method_2_code
def yX4_copyFrom : MethodName := ⟨RX4, "copyFrom", "(LLocalMenders$State;)V"⟩
abbrev cX4_layOut : ByteArray := prog_6_method_3_code
def yX4_layOut : MethodName := ⟨RX4, "layOut", "(IIII)V"⟩
abbrev cX4_dataCount : ByteArray := prog_6_method_4_code
def yX4_dataCount : MethodName := ⟨RX4, "dataCount", "()I"⟩
abbrev cX4_cellCount : ByteArray := prog_6_method_5_code
def yX4_cellCount : MethodName := ⟨RX4, "cellCount", "()I"⟩
abbrev cX4_allCells : ByteArray := prog_6_method_6_code
def yX4_allCells : MethodName := ⟨RX4, "allCells", "()I"⟩
abbrev cX4_hasStripe : ByteArray := prog_6_method_7_code
def yX4_hasStripe : MethodName := ⟨RX4, "hasStripe", "(I)Z"⟩
abbrev cX4_hasCell : ByteArray := prog_6_method_8_code
def yX4_hasCell : MethodName := ⟨RX4, "hasCell", "(II)Z"⟩
abbrev cX4_hasNode : ByteArray := prog_6_method_9_code
def yX4_hasNode : MethodName := ⟨RX4, "hasNode", "(I)Z"⟩
abbrev cX4_nodeOf : ByteArray := prog_6_method_10_code
def yX4_nodeOf : MethodName := ⟨RX4, "nodeOf", "(II)I"⟩
abbrev cX4_cellOn : ByteArray := prog_6_method_11_code
def yX4_cellOn : MethodName := ⟨RX4, "cellOn", "(II)I"⟩
abbrev cX4_homeCheck : ByteArray := prog_6_method_13_code
def yX4_homeCheck : MethodName := ⟨RX4, "homeCheck", "(I)I"⟩
abbrev cX4_columnOf : ByteArray := prog_6_method_14_code
def yX4_columnOf : MethodName := ⟨RX4, "columnOf", "(I)I"⟩
abbrev cX4_partnersOf : ByteArray := prog_6_method_15_code
def yX4_partnersOf : MethodName := ⟨RX4, "partnersOf", "(I)I"⟩
abbrev cX4_valueOf : ByteArray := prog_6_method_16_code
def yX4_valueOf : MethodName := ⟨RX4, "valueOf", "(II)I"⟩
abbrev cX4_setValue : ByteArray := prog_6_method_17_code
def yX4_setValue : MethodName := ⟨RX4, "setValue", "(III)V"⟩
abbrev cX4_addToParities : ByteArray := prog_6_method_18_code
def yX4_addToParities : MethodName := ⟨RX4, "addToParities", "(II)V"⟩
abbrev cX4_missingIn : ByteArray := prog_6_method_19_code
def yX4_missingIn : MethodName := ⟨RX4, "missingIn", "(I)I"⟩
abbrev cX4_isMissing : ByteArray := prog_6_method_20_code
def yX4_isMissing : MethodName := ⟨RX4, "isMissing", "(II)Z"⟩
abbrev cX4_sumsOver : ByteArray := prog_6_method_21_code
def yX4_sumsOver : MethodName := ⟨RX4, "sumsOver", "(II)I"⟩
abbrev cX4_culpritIn : ByteArray := prog_6_method_22_code
def yX4_culpritIn : MethodName := ⟨RX4, "culpritIn", "(I)I"⟩
abbrev cX4_takeAway : ByteArray := prog_6_method_23_code
def yX4_takeAway : MethodName := ⟨RX4, "takeAway", "(II)V"⟩
abbrev cX4_bringBack : ByteArray := prog_6_method_24_code
def yX4_bringBack : MethodName := ⟨RX4, "bringBack", "(III)V"⟩
abbrev cX4_countReads : ByteArray := prog_6_method_25_code
def yX4_countReads : MethodName := ⟨RX4, "countReads", "(II)V"⟩
abbrev cX4_joinQueue : ByteArray := prog_6_method_26_code
def yX4_joinQueue : MethodName := ⟨RX4, "joinQueue", "(I)V"⟩
abbrev cX4_leaveQueue : ByteArray := prog_6_method_27_code
def yX4_leaveQueue : MethodName := ⟨RX4, "leaveQueue", "(I)V"⟩
def RX5 : String := "LocalMenders"
def TX5 : u_T := fun k => match k with
  | 0 => ("LocalMenders", "now", "LLocalMenders$State;", true)
  | 1 => ("LocalMenders", "before", "LLocalMenders$State;", true)
  | 2 => ("LocalMenders", "snapshot", "LLocalMenders$State;", true)
  | 3 => ("LocalMenders", "history", "[LLocalMenders$State;", true)
  | 4 => ("LocalMenders", "orders", "LLocalMenders$Orders;", true)
  | 5 => ("LocalMenders", "plan", "LLocalMenders$Plan;", true)
  | 6 => ("LocalMenders", "search", "LLocalMenders$Search;", true)
  | 7 => ("LocalMenders", "historyLength", "I", false)
  | _ => ("LocalMenders", "snapshotTaken", "Z", false)
def tyX5 : Nat → FieldType := fun k => match k with
  | 0 => .object "LocalMenders$State"
  | 1 => .object "LocalMenders$State"
  | 2 => .object "LocalMenders$State"
  | 3 => .array (.object "LocalMenders$State")
  | 4 => .object "LocalMenders$Orders"
  | 5 => .object "LocalMenders$Plan"
  | 6 => .object "LocalMenders$Search"
  | 7 => .int
  | _ => .boolean
abbrev wsX50 : List Cond := u_ws RX5 TX5 9
theorem nmX5 : ∀ a, a < 9 → ∀ b, b < 9 → a ≠ b → (TX5 a).2.1 ≠ (TX5 b).2.1 := by decide +kernel
theorem tyX5_ok : ∀ k, k < 9 → parseFieldDescriptor (TX5 k).2.2.1 = some (tyX5 k) := by decide +kernel
abbrev cX5_init : ByteArray := prog_1_method_1_code
def yX5_init : MethodName := ⟨RX5, "<init>", "()V"⟩
abbrev cX5_setLayout : ByteArray := prog_1_method_2_code
def yX5_setLayout : MethodName := ⟨RX5, "setLayout", "(IIII)I"⟩
abbrev cX5_write : ByteArray := prog_1_method_3_code
def yX5_write : MethodName := ⟨RX5, "write", "(III)I"⟩
abbrev cX5_lose : ByteArray := prog_1_method_5_code
def yX5_lose : MethodName := ⟨RX5, "lose", "(II)I"⟩
abbrev cX5_loseNode : ByteArray := prog_1_method_6_code
def yX5_loseNode : MethodName := ⟨RX5, "loseNode", "(I)I"⟩
abbrev cX5_mend : ByteArray := prog_1_method_7_code
def yX5_mend : MethodName := ⟨RX5, "mend", "(II)I"⟩
abbrev cX5_mendNode : ByteArray := prog_1_method_8_code
def yX5_mendNode : MethodName := ⟨RX5, "mendNode", "(I)I"⟩
abbrev cX5_work : ByteArray := prog_1_method_9_code
def yX5_work : MethodName := ⟨RX5, "work", "(I)I"⟩
abbrev cX5_undo : ByteArray := prog_1_method_14_code
def yX5_undo : MethodName := ⟨RX5, "undo", "()I"⟩
abbrev cX5_value : ByteArray := prog_1_method_17_code
def yX5_value : MethodName := ⟨RX5, "value", "(II)I"⟩
abbrev cX5_node : ByteArray := prog_1_method_18_code
def yX5_node : MethodName := ⟨RX5, "node", "(II)I"⟩
abbrev cX5_load : ByteArray := prog_1_method_19_code
def yX5_load : MethodName := ⟨RX5, "load", "(I)I"⟩
abbrev cX5_lost : ByteArray := prog_1_method_20_code
def yX5_lost : MethodName := ⟨RX5, "lost", "(I)I"⟩
abbrev cX5_waiting : ByteArray := prog_1_method_21_code
def yX5_waiting : MethodName := ⟨RX5, "waiting", "(I)I"⟩
abbrev cX5_failing : ByteArray := prog_1_method_22_code
def yX5_failing : MethodName := ⟨RX5, "failing", "(I)I"⟩
abbrev cX5_total : ByteArray := prog_1_method_23_code
def yX5_total : MethodName := ⟨RX5, "total", "(I)I"⟩
abbrev cX5_way : ByteArray := prog_1_method_24_code
def yX5_way : MethodName := ⟨RX5, "way", "(II)I"⟩
abbrev cX5_reads : ByteArray := prog_1_method_25_code
def yX5_reads : MethodName := ⟨RX5, "reads", "(II)I"⟩
abbrev cX5_mended : ByteArray := prog_1_method_26_code
def yX5_mended : MethodName := ⟨RX5, "mended", "(II)I"⟩
abbrev cX5_culprit : ByteArray := prog_1_method_27_code
def yX5_culprit : MethodName := ⟨RX5, "culprit", "(I)I"⟩
abbrev cX5_survives : ByteArray := prog_1_method_28_code
def yX5_survives : MethodName := ⟨RX5, "survives", "(I)I"⟩
abbrev cX5_busiest : ByteArray := prog_1_method_31_code
def yX5_busiest : MethodName := ⟨RX5, "busiest", "()I"⟩
abbrev cX5_begin : ByteArray := prog_1_method_32_code
def yX5_begin : MethodName := ⟨RX5, "begin", "()V"⟩
abbrev cX5_finish : ByteArray := prog_1_method_33_code
def yX5_finish : MethodName := ⟨RX5, "finish", "(I)I"⟩
abbrev cX5_record : ByteArray := prog_1_method_34_code
def yX5_record : MethodName := ⟨RX5, "record", "()V"⟩
abbrev cX5_dropOldest : ByteArray := prog_1_method_35_code
def yX5_dropOldest : MethodName := ⟨RX5, "dropOldest", "()V"⟩
abbrev cX5_writeCell : ByteArray := prog_1_method_36_code
def yX5_writeCell : MethodName := ⟨RX5, "writeCell", "(III)I"⟩
abbrev cX5_loseCell : ByteArray := prog_1_method_38_code
def yX5_loseCell : MethodName := ⟨RX5, "loseCell", "(II)I"⟩
abbrev cX5_loseCellsOn : ByteArray := prog_1_method_39_code
def yX5_loseCellsOn : MethodName := ⟨RX5, "loseCellsOn", "(I)I"⟩
abbrev cX5_mendCell : ByteArray := prog_1_method_40_code
def yX5_mendCell : MethodName := ⟨RX5, "mendCell", "(II)I"⟩
abbrev cX5_mendCellsOn : ByteArray := prog_1_method_41_code
def yX5_mendCellsOn : MethodName := ⟨RX5, "mendCellsOn", "(I)I"⟩
abbrev cX5_workOnQueue : ByteArray := prog_1_method_42_code
def yX5_workOnQueue : MethodName := ⟨RX5, "workOnQueue", "(I)I"⟩
abbrev cX5_isWithin : ByteArray := prog_1_method_45_code
def yX5_isWithin : MethodName := ⟨RX5, "isWithin", "(III)Z"⟩
abbrev cX5_at : ByteArray := prog_1_method_46_code
def yX5_at : MethodName := ⟨RX5, "at", "([II)I"⟩
abbrev cX5_put : ByteArray := prog_1_method_47_code
def yX5_put : MethodName := ⟨RX5, "put", "([III)V"⟩
abbrev cX5_copyRow : ByteArray := prog_1_method_48_code
def yX5_copyRow : MethodName := ⟨RX5, "copyRow", "([I[I)V"⟩
abbrev cX5_scaled : ByteArray := prog_1_method_49_code
def yX5_scaled : MethodName := ⟨RX5, "scaled", "(II)I"⟩
abbrev cX5_element : ByteArray := prog_1_method_50_code
def yX5_element : MethodName := ⟨RX5, "element", "(II)I"⟩
abbrev cX5_leadOf : ByteArray := prog_1_method_51_code
def yX5_leadOf : MethodName := ⟨RX5, "leadOf", "(I)I"⟩
abbrev cX5_unitOf : ByteArray := prog_1_method_52_code
def yX5_unitOf : MethodName := ⟨RX5, "unitOf", "(II)I"⟩
def RX6 : String := "LocalMendersModel"
def TX6 : u_T := fun k => match k with
  | _ => ("", "", "", false)
def tyX6 : Nat → FieldType := fun k => match k with
  | _ => .int
abbrev wsX60 : List Cond := u_ws RX6 TX6 0
theorem nmX6 : ∀ a, a < 0 → ∀ b, b < 0 → a ≠ b → (TX6 a).2.1 ≠ (TX6 b).2.1 := by decide +kernel
theorem tyX6_ok : ∀ k, k < 0 → parseFieldDescriptor (TX6 k).2.2.1 = some (tyX6 k) := by decide +kernel
def RJ6 : String := "java/lang/Integer"
def TJ6 : u_T := fun k => match k with
  | _ => ("", "", "", false)
def tyJ6 : Nat → FieldType := fun k => match k with
  | _ => .int
abbrev wsJ60 : List Cond := u_ws RJ6 TJ6 0
theorem nmJ6 : ∀ a, a < 0 → ∀ b, b < 0 → a ≠ b → (TJ6 a).2.1 ≠ (TJ6 b).2.1 := by decide +kernel
theorem tyJ6_ok : ∀ k, k < 0 → parseFieldDescriptor (TJ6 k).2.2.1 = some (tyJ6 k) := by decide +kernel
abbrev cJ6_bitCount_0f7a4 : ByteArray := prog_9_method_49_code
def yJ6_bitCount_0f7a4 : MethodName := ⟨RJ6, "bitCount", "(I)I"⟩
def RJ9 : String := "java/lang/Math"
def TJ9 : u_T := fun k => match k with
  | _ => ("", "", "", false)
def tyJ9 : Nat → FieldType := fun k => match k with
  | _ => .int
abbrev wsJ90 : List Cond := u_ws RJ9 TJ9 0
theorem nmJ9 : ∀ a, a < 0 → ∀ b, b < 0 → a ≠ b → (TJ9 a).2.1 ≠ (TJ9 b).2.1 := by decide +kernel
theorem tyJ9_ok : ∀ k, k < 0 → parseFieldDescriptor (TJ9 k).2.2.1 = some (tyJ9 k) := by decide +kernel
abbrev cJ9_floorMod_7cf53 : ByteArray := prog_10_method_50_code
def yJ9_floorMod_7cf53 : MethodName := ⟨RJ9, "floorMod", "(II)I"⟩
abbrev cJ9_max_7cf53 : ByteArray := prog_10_method_65_code
def yJ9_max_7cf53 : MethodName := ⟨RJ9, "max", "(II)I"⟩
abbrev cJ9_min_7cf53 : ByteArray := prog_10_method_69_code
def yJ9_min_7cf53 : MethodName := ⟨RJ9, "min", "(II)I"⟩
def RJ10 : String := "java/lang/System"
def TJ10 : u_T := fun k => match k with
  | _ => ("", "", "", false)
def tyJ10 : Nat → FieldType := fun k => match k with
  | _ => .int
abbrev wsJ100 : List Cond := u_ws RJ10 TJ10 0
theorem nmJ10 : ∀ a, a < 0 → ∀ b, b < 0 → a ≠ b → (TJ10 a).2.1 ≠ (TJ10 b).2.1 := by decide +kernel
theorem tyJ10_ok : ∀ k, k < 0 → parseFieldDescriptor (TJ10 k).2.2.1 = some (tyJ10 k) := by decide +kernel
def RJ7 : String := "java/util/Arrays"
def TJ7 : u_T := fun k => match k with
  | _ => ("", "", "", false)
def tyJ7 : Nat → FieldType := fun k => match k with
  | _ => .int
abbrev wsJ70 : List Cond := u_ws RJ7 TJ7 0
theorem nmJ7 : ∀ a, a < 0 → ∀ b, b < 0 → a ≠ b → (TJ7 a).2.1 ≠ (TJ7 b).2.1 := by decide +kernel
theorem tyJ7_ok : ∀ k, k < 0 → parseFieldDescriptor (TJ7 k).2.2.1 = some (tyJ7 k) := by decide +kernel
abbrev cJ7_fill_53178 : ByteArray := prog_12_method_103_code
def yJ7_fill_53178 : MethodName := ⟨RJ7, "fill", "([II)V"⟩
def RL : String := "LocalMendersLaw"
abbrev cL_cell : ByteArray := method_2_code
def yL_cell : MethodName := ⟨RL, "cell", "([II)I"⟩
abbrev cL_low : ByteArray := method_3_code
def yL_low : MethodName := ⟨RL, "low", "(II)I"⟩
abbrev cL_data : ByteArray := method_4_code
def yL_data : MethodName := ⟨RL, "data", "([I)I"⟩
abbrev cL_all : ByteArray := method_5_code
def yL_all : MethodName := ⟨RL, "all", "([I)I"⟩
abbrev cL_group : ByteArray := method_6_code
def yL_group : MethodName := ⟨RL, "group", "(I[I)I"⟩
abbrev cL_node : ByteArray := method_7_code
def yL_node : MethodName := ⟨RL, "node", "(II[I)I"⟩
abbrev cL_cellOn : ByteArray := method_8_code
def yL_cellOn : MethodName := ⟨RL, "cellOn", "(II[I)I"⟩
abbrev cL_ones : ByteArray := method_9_code
def yL_ones : MethodName := ⟨RL, "ones", "(I)I"⟩
abbrev cL_times : ByteArray := method_10_code
def yL_times : MethodName := ⟨RL, "times", "(II)I"⟩
abbrev cL_power : ByteArray := method_11_code
def yL_power : MethodName := ⟨RL, "power", "(I)I"⟩
abbrev cL_nearWay : ByteArray := method_12_code
def yL_nearWay : MethodName := ⟨RL, "nearWay", "(II[I[I)I"⟩
abbrev cL_reads : ByteArray := method_13_code
def yL_reads : MethodName := ⟨RL, "reads", "(II[I[I)I"⟩
abbrev cL_isWay : ByteArray := method_14_code
def yL_isWay : MethodName := ⟨RL, "isWay", "(LLocalMenders;II[I[I[I)Z"⟩
abbrev cL_lose : ByteArray := method_15_code
def yL_lose : MethodName := ⟨RL, "lose", "(II[I[I[I)V"⟩
abbrev cL_leave : ByteArray := method_16_code
def yL_leave : MethodName := ⟨RL, "leave", "(II[I[I)V"⟩
abbrev cL_mend : ByteArray := method_17_code
def yL_mend : MethodName := ⟨RL, "mend", "(III[I[I[I[I)V"⟩
abbrev cL_write : ByteArray := method_18_code
def yL_write : MethodName := ⟨RL, "write", "(III[I[I)V"⟩
abbrev cL_told : ByteArray := method_19_code
def yL_told : MethodName := ⟨RL, "told", "(LLocalMenders;)J"⟩
abbrev cL_isSo : ByteArray := method_20_code
def yL_isSo : MethodName := ⟨RL, "isSo", "(LLocalMenders;[I[I[I[I[I)Z"⟩
abbrev cL_call : ByteArray := method_21_code
def yL_call : MethodName := ⟨RL, "call", "(LLocalMenders;IIII)I"⟩
abbrev cL_does : ByteArray := method_22_code
def yL_does : MethodName := ⟨RL, "does", "(I[I[I[I[I[I[I[I)Z"⟩
abbrev cL_nodeDue : ByteArray := method_23_code
def yL_nodeDue : MethodName := ⟨RL, "nodeDue", "(I[II[I[I)I"⟩
abbrev cL_law : ByteArray := code
def yL_law : MethodName := ⟨RL, "law", "([I)Z"⟩
abbrev vwCl : List vw_C := [(RX0, TX0, 3), (RX1, TX1, 9), (RX2, TX2, 3), (RX3, TX3, 4), (RX4, TX4, 14), (RX5, TX5, 9)]
