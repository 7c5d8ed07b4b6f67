-- ===== PART A: goes FIRST, ahead of the names: the tables' words, and 'selects' of the private methods out of them =====
/-- a private method of a class that the tables say can be made, by its rows of tables_1 -/
def lw_okq (q : MethodName × Nat) : Prop := (q.1.cls ≠ "java/lang/invoke/MethodHandle" ∧ q.1.cls ≠ "java/lang/invoke/VarHandle") ∧ Cond.instantiable q.1.cls q.2 ∈ tables_1 ∧ Cond.privateMethod q.1 ∈ tables_1 ∧ Cond.instanceMethod q.1 ∈ tables_1
theorem lw_p0 : lw_okq (⟨"BargeChess$Board", "countOf", "(I)I"⟩, 6) := ⟨⟨by decide +kernel, by decide +kernel⟩, List.mem_of_getElem? (i := 30) (by decide +kernel), List.mem_of_getElem? (i := 227) (by decide +kernel), List.mem_of_getElem? (i := 228) (by decide +kernel)⟩
theorem lw_p1 : lw_okq (⟨"BargeChess", "buildingError", "(III)I"⟩, 9) := ⟨⟨by decide +kernel, by decide +kernel⟩, List.mem_of_getElem? (i := 16) (by decide +kernel), List.mem_of_getElem? (i := 234) (by decide +kernel), List.mem_of_getElem? (i := 235) (by decide +kernel)⟩
theorem lw_p2 : lw_okq (⟨"BargeChess", "refuse", "(III)I"⟩, 9) := ⟨⟨by decide +kernel, by decide +kernel⟩, List.mem_of_getElem? (i := 16) (by decide +kernel), List.mem_of_getElem? (i := 238) (by decide +kernel), List.mem_of_getElem? (i := 239) (by decide +kernel)⟩
theorem lw_p3 : lw_okq (⟨"BargeChess$Refusal", "note", "(III)V"⟩, 5) := ⟨⟨by decide +kernel, by decide +kernel⟩, List.mem_of_getElem? (i := 162) (by decide +kernel), List.mem_of_getElem? (i := 242) (by decide +kernel), List.mem_of_getElem? (i := 243) (by decide +kernel)⟩
theorem lw_p4 : lw_okq (⟨"BargeChess$Refusal", "noteCause", "(II)V"⟩, 5) := ⟨⟨by decide +kernel, by decide +kernel⟩, List.mem_of_getElem? (i := 162) (by decide +kernel), List.mem_of_getElem? (i := 246) (by decide +kernel), List.mem_of_getElem? (i := 247) (by decide +kernel)⟩
theorem lw_p5 : lw_okq (⟨"BargeChess$Board", "pieceAt", "(I)I"⟩, 6) := ⟨⟨by decide +kernel, by decide +kernel⟩, List.mem_of_getElem? (i := 30) (by decide +kernel), List.mem_of_getElem? (i := 250) (by decide +kernel), List.mem_of_getElem? (i := 251) (by decide +kernel)⟩
theorem lw_p6 : lw_okq (⟨"BargeChess$Board", "lockAt", "(I)I"⟩, 6) := ⟨⟨by decide +kernel, by decide +kernel⟩, List.mem_of_getElem? (i := 30) (by decide +kernel), List.mem_of_getElem? (i := 254) (by decide +kernel), List.mem_of_getElem? (i := 255) (by decide +kernel)⟩
theorem lw_p7 : lw_okq (⟨"BargeChess$Past", "keep", "(LBargeChess$Game;)V"⟩, 3) := ⟨⟨by decide +kernel, by decide +kernel⟩, List.mem_of_getElem? (i := 116) (by decide +kernel), List.mem_of_getElem? (i := 258) (by decide +kernel), List.mem_of_getElem? (i := 259) (by decide +kernel)⟩
theorem lw_p8 : lw_okq (⟨"BargeChess$Past", "gameAt", "(I)LBargeChess$Game;"⟩, 3) := ⟨⟨by decide +kernel, by decide +kernel⟩, List.mem_of_getElem? (i := 116) (by decide +kernel), List.mem_of_getElem? (i := 262) (by decide +kernel), List.mem_of_getElem? (i := 263) (by decide +kernel)⟩
theorem lw_p9 : lw_okq (⟨"BargeChess$Game", "copyFrom", "(LBargeChess$Game;)V"⟩, 9) := ⟨⟨by decide +kernel, by decide +kernel⟩, List.mem_of_getElem? (i := 24) (by decide +kernel), List.mem_of_getElem? (i := 266) (by decide +kernel), List.mem_of_getElem? (i := 267) (by decide +kernel)⟩
theorem lw_p10 : lw_okq (⟨"BargeChess$Board", "copyBoard", "(LBargeChess$Board;)V"⟩, 6) := ⟨⟨by decide +kernel, by decide +kernel⟩, List.mem_of_getElem? (i := 30) (by decide +kernel), List.mem_of_getElem? (i := 270) (by decide +kernel), List.mem_of_getElem? (i := 271) (by decide +kernel)⟩
theorem lw_p11 : lw_okq (⟨"BargeChess$History", "copyHistory", "(LBargeChess$History;)V"⟩, 3) := ⟨⟨by decide +kernel, by decide +kernel⟩, List.mem_of_getElem? (i := 62) (by decide +kernel), List.mem_of_getElem? (i := 274) (by decide +kernel), List.mem_of_getElem? (i := 275) (by decide +kernel)⟩
theorem lw_p12 : lw_okq (⟨"BargeChess$Board", "setPiece", "(II)V"⟩, 6) := ⟨⟨by decide +kernel, by decide +kernel⟩, List.mem_of_getElem? (i := 30) (by decide +kernel), List.mem_of_getElem? (i := 281) (by decide +kernel), List.mem_of_getElem? (i := 282) (by decide +kernel)⟩
theorem lw_p13 : lw_okq (⟨"BargeChess$Board", "buildLock", "(II)I"⟩, 6) := ⟨⟨by decide +kernel, by decide +kernel⟩, List.mem_of_getElem? (i := 30) (by decide +kernel), List.mem_of_getElem? (i := 289) (by decide +kernel), List.mem_of_getElem? (i := 290) (by decide +kernel)⟩
theorem lw_p14 : lw_okq (⟨"BargeChess$Game", "startPlay", "()V"⟩, 9) := ⟨⟨by decide +kernel, by decide +kernel⟩, List.mem_of_getElem? (i := 24) (by decide +kernel), List.mem_of_getElem? (i := 297) (by decide +kernel), List.mem_of_getElem? (i := 298) (by decide +kernel)⟩
theorem lw_p15 : lw_okq (⟨"BargeChess$Game", "recordPosition", "()V"⟩, 9) := ⟨⟨by decide +kernel, by decide +kernel⟩, List.mem_of_getElem? (i := 24) (by decide +kernel), List.mem_of_getElem? (i := 301) (by decide +kernel), List.mem_of_getElem? (i := 302) (by decide +kernel)⟩
def lw_privs_1 : List (MethodName × Nat) := [(⟨"BargeChess$Board", "countOf", "(I)I"⟩, 6), (⟨"BargeChess", "buildingError", "(III)I"⟩, 9), (⟨"BargeChess", "refuse", "(III)I"⟩, 9), (⟨"BargeChess$Refusal", "note", "(III)V"⟩, 5), (⟨"BargeChess$Refusal", "noteCause", "(II)V"⟩, 5), (⟨"BargeChess$Board", "pieceAt", "(I)I"⟩, 6), (⟨"BargeChess$Board", "lockAt", "(I)I"⟩, 6), (⟨"BargeChess$Past", "keep", "(LBargeChess$Game;)V"⟩, 3), (⟨"BargeChess$Past", "gameAt", "(I)LBargeChess$Game;"⟩, 3), (⟨"BargeChess$Game", "copyFrom", "(LBargeChess$Game;)V"⟩, 9), (⟨"BargeChess$Board", "copyBoard", "(LBargeChess$Board;)V"⟩, 6), (⟨"BargeChess$History", "copyHistory", "(LBargeChess$History;)V"⟩, 3), (⟨"BargeChess$Board", "setPiece", "(II)V"⟩, 6), (⟨"BargeChess$Board", "buildLock", "(II)I"⟩, 6), (⟨"BargeChess$Game", "startPlay", "()V"⟩, 9), (⟨"BargeChess$Game", "recordPosition", "()V"⟩, 9)]
theorem lw_r1 : ∀ q ∈ lw_privs_1, lw_okq q := List.forall_mem_cons.mpr ⟨lw_p0, List.forall_mem_cons.mpr ⟨lw_p1, List.forall_mem_cons.mpr ⟨lw_p2, List.forall_mem_cons.mpr ⟨lw_p3, List.forall_mem_cons.mpr ⟨lw_p4, List.forall_mem_cons.mpr ⟨lw_p5, List.forall_mem_cons.mpr ⟨lw_p6, List.forall_mem_cons.mpr ⟨lw_p7, List.forall_mem_cons.mpr ⟨lw_p8, List.forall_mem_cons.mpr ⟨lw_p9, List.forall_mem_cons.mpr ⟨lw_p10, List.forall_mem_cons.mpr ⟨lw_p11, List.forall_mem_cons.mpr ⟨lw_p12, List.forall_mem_cons.mpr ⟨lw_p13, List.forall_mem_cons.mpr ⟨lw_p14, List.forall_mem_cons.mpr ⟨lw_p15, fun _ h => absurd h List.not_mem_nil⟩⟩⟩⟩⟩⟩⟩⟩⟩⟩⟩⟩⟩⟩⟩⟩
theorem lw_p16 : lw_okq (⟨"BargeChess$Board", "closedKey", "()I"⟩, 6) := ⟨⟨by decide +kernel, by decide +kernel⟩, List.mem_of_getElem? (i := 30) (by decide +kernel), List.mem_of_getElem? (i := 305) (by decide +kernel), List.mem_of_getElem? (i := 306) (by decide +kernel)⟩
theorem lw_p17 : lw_okq (⟨"BargeChess$Game", "sideToMove", "()I"⟩, 9) := ⟨⟨by decide +kernel, by decide +kernel⟩, List.mem_of_getElem? (i := 24) (by decide +kernel), List.mem_of_getElem? (i := 309) (by decide +kernel), List.mem_of_getElem? (i := 310) (by decide +kernel)⟩
theorem lw_p18 : lw_okq (⟨"BargeChess$Board", "halfKey", "(I)J"⟩, 6) := ⟨⟨by decide +kernel, by decide +kernel⟩, List.mem_of_getElem? (i := 30) (by decide +kernel), List.mem_of_getElem? (i := 313) (by decide +kernel), List.mem_of_getElem? (i := 314) (by decide +kernel)⟩
theorem lw_p19 : lw_okq (⟨"BargeChess$History", "addPosition", "(JJ)V"⟩, 3) := ⟨⟨by decide +kernel, by decide +kernel⟩, List.mem_of_getElem? (i := 62) (by decide +kernel), List.mem_of_getElem? (i := 320) (by decide +kernel), List.mem_of_getElem? (i := 321) (by decide +kernel)⟩
theorem lw_p20 : lw_okq (⟨"BargeChess$Game", "settleEnding", "()I"⟩, 9) := ⟨⟨by decide +kernel, by decide +kernel⟩, List.mem_of_getElem? (i := 24) (by decide +kernel), List.mem_of_getElem? (i := 324) (by decide +kernel), List.mem_of_getElem? (i := 325) (by decide +kernel)⟩
theorem lw_p21 : lw_okq (⟨"BargeChess$History", "timesOfLatest", "()I"⟩, 3) := ⟨⟨by decide +kernel, by decide +kernel⟩, List.mem_of_getElem? (i := 62) (by decide +kernel), List.mem_of_getElem? (i := 328) (by decide +kernel), List.mem_of_getElem? (i := 329) (by decide +kernel)⟩
theorem lw_p22 : lw_okq (⟨"BargeChess$History", "timesUpTo", "(I)I"⟩, 3) := ⟨⟨by decide +kernel, by decide +kernel⟩, List.mem_of_getElem? (i := 62) (by decide +kernel), List.mem_of_getElem? (i := 332) (by decide +kernel), List.mem_of_getElem? (i := 333) (by decide +kernel)⟩
theorem lw_p23 : lw_okq (⟨"BargeChess$Board", "countMoves", "(I)I"⟩, 6) := ⟨⟨by decide +kernel, by decide +kernel⟩, List.mem_of_getElem? (i := 30) (by decide +kernel), List.mem_of_getElem? (i := 337) (by decide +kernel), List.mem_of_getElem? (i := 338) (by decide +kernel)⟩
theorem lw_p24 : lw_okq (⟨"BargeChess$Board", "causeAgainst", "(II)I"⟩, 6) := ⟨⟨by decide +kernel, by decide +kernel⟩, List.mem_of_getElem? (i := 30) (by decide +kernel), List.mem_of_getElem? (i := 341) (by decide +kernel), List.mem_of_getElem? (i := 342) (by decide +kernel)⟩
theorem lw_p25 : lw_okq (⟨"BargeChess$Board", "standing", "(II)I"⟩, 6) := ⟨⟨by decide +kernel, by decide +kernel⟩, List.mem_of_getElem? (i := 30) (by decide +kernel), List.mem_of_getElem? (i := 355) (by decide +kernel), List.mem_of_getElem? (i := 356) (by decide +kernel)⟩
theorem lw_p26 : lw_okq (⟨"BargeChess$Board", "isClosed", "(I)Z"⟩, 6) := ⟨⟨by decide +kernel, by decide +kernel⟩, List.mem_of_getElem? (i := 30) (by decide +kernel), List.mem_of_getElem? (i := 367) (by decide +kernel), List.mem_of_getElem? (i := 368) (by decide +kernel)⟩
theorem lw_p27 : lw_okq (⟨"BargeChess$Game", "openMoves", "()I"⟩, 9) := ⟨⟨by decide +kernel, by decide +kernel⟩, List.mem_of_getElem? (i := 24) (by decide +kernel), List.mem_of_getElem? (i := 375) (by decide +kernel), List.mem_of_getElem? (i := 376) (by decide +kernel)⟩
theorem lw_p28 : lw_okq (⟨"BargeChess$Game", "goesOn", "()Z"⟩, 9) := ⟨⟨by decide +kernel, by decide +kernel⟩, List.mem_of_getElem? (i := 24) (by decide +kernel), List.mem_of_getElem? (i := 379) (by decide +kernel), List.mem_of_getElem? (i := 380) (by decide +kernel)⟩
theorem lw_p29 : lw_okq (⟨"BargeChess", "moveError", "(LBargeChess$Game;III)I"⟩, 9) := ⟨⟨by decide +kernel, by decide +kernel⟩, List.mem_of_getElem? (i := 16) (by decide +kernel), List.mem_of_getElem? (i := 387) (by decide +kernel), List.mem_of_getElem? (i := 388) (by decide +kernel)⟩
theorem lw_p30 : lw_okq (⟨"BargeChess$Board", "causeDetail", "(III)I"⟩, 6) := ⟨⟨by decide +kernel, by decide +kernel⟩, List.mem_of_getElem? (i := 30) (by decide +kernel), List.mem_of_getElem? (i := 396) (by decide +kernel), List.mem_of_getElem? (i := 397) (by decide +kernel)⟩
theorem lw_p31 : lw_okq (⟨"BargeChess$Game", "carryOut", "(II)I"⟩, 9) := ⟨⟨by decide +kernel, by decide +kernel⟩, List.mem_of_getElem? (i := 24) (by decide +kernel), List.mem_of_getElem? (i := 402) (by decide +kernel), List.mem_of_getElem? (i := 403) (by decide +kernel)⟩
def lw_privs_2 : List (MethodName × Nat) := [(⟨"BargeChess$Board", "closedKey", "()I"⟩, 6), (⟨"BargeChess$Game", "sideToMove", "()I"⟩, 9), (⟨"BargeChess$Board", "halfKey", "(I)J"⟩, 6), (⟨"BargeChess$History", "addPosition", "(JJ)V"⟩, 3), (⟨"BargeChess$Game", "settleEnding", "()I"⟩, 9), (⟨"BargeChess$History", "timesOfLatest", "()I"⟩, 3), (⟨"BargeChess$History", "timesUpTo", "(I)I"⟩, 3), (⟨"BargeChess$Board", "countMoves", "(I)I"⟩, 6), (⟨"BargeChess$Board", "causeAgainst", "(II)I"⟩, 6), (⟨"BargeChess$Board", "standing", "(II)I"⟩, 6), (⟨"BargeChess$Board", "isClosed", "(I)Z"⟩, 6), (⟨"BargeChess$Game", "openMoves", "()I"⟩, 9), (⟨"BargeChess$Game", "goesOn", "()Z"⟩, 9), (⟨"BargeChess", "moveError", "(LBargeChess$Game;III)I"⟩, 9), (⟨"BargeChess$Board", "causeDetail", "(III)I"⟩, 6), (⟨"BargeChess$Game", "carryOut", "(II)I"⟩, 9)]
theorem lw_r2 : ∀ q ∈ lw_privs_2, lw_okq q := List.forall_mem_cons.mpr ⟨lw_p16, List.forall_mem_cons.mpr ⟨lw_p17, List.forall_mem_cons.mpr ⟨lw_p18, List.forall_mem_cons.mpr ⟨lw_p19, List.forall_mem_cons.mpr ⟨lw_p20, List.forall_mem_cons.mpr ⟨lw_p21, List.forall_mem_cons.mpr ⟨lw_p22, List.forall_mem_cons.mpr ⟨lw_p23, List.forall_mem_cons.mpr ⟨lw_p24, List.forall_mem_cons.mpr ⟨lw_p25, List.forall_mem_cons.mpr ⟨lw_p26, List.forall_mem_cons.mpr ⟨lw_p27, List.forall_mem_cons.mpr ⟨lw_p28, List.forall_mem_cons.mpr ⟨lw_p29, List.forall_mem_cons.mpr ⟨lw_p30, List.forall_mem_cons.mpr ⟨lw_p31, fun _ h => absurd h List.not_mem_nil⟩⟩⟩⟩⟩⟩⟩⟩⟩⟩⟩⟩⟩⟩⟩⟩
theorem lw_p32 : lw_okq (⟨"BargeChess$Board", "promote", "(II)Z"⟩, 6) := ⟨⟨by decide +kernel, by decide +kernel⟩, List.mem_of_getElem? (i := 30) (by decide +kernel), List.mem_of_getElem? (i := 408) (by decide +kernel), List.mem_of_getElem? (i := 409) (by decide +kernel)⟩
theorem lw_p33 : lw_okq (⟨"BargeChess$Board", "shift", "(II)I"⟩, 6) := ⟨⟨by decide +kernel, by decide +kernel⟩, List.mem_of_getElem? (i := 30) (by decide +kernel), List.mem_of_getElem? (i := 416) (by decide +kernel), List.mem_of_getElem? (i := 417) (by decide +kernel)⟩
theorem lw_p34 : lw_okq (⟨"BargeChess$Board", "turnLocks", "(I)V"⟩, 6) := ⟨⟨by decide +kernel, by decide +kernel⟩, List.mem_of_getElem? (i := 30) (by decide +kernel), List.mem_of_getElem? (i := 421) (by decide +kernel), List.mem_of_getElem? (i := 422) (by decide +kernel)⟩
theorem lw_p35 : lw_okq (⟨"BargeChess$Game", "carryByTide", "()V"⟩, 9) := ⟨⟨by decide +kernel, by decide +kernel⟩, List.mem_of_getElem? (i := 24) (by decide +kernel), List.mem_of_getElem? (i := 425) (by decide +kernel), List.mem_of_getElem? (i := 426) (by decide +kernel)⟩
theorem lw_p36 : lw_okq (⟨"BargeChess$Game", "tide", "()I"⟩, 9) := ⟨⟨by decide +kernel, by decide +kernel⟩, List.mem_of_getElem? (i := 24) (by decide +kernel), List.mem_of_getElem? (i := 429) (by decide +kernel), List.mem_of_getElem? (i := 430) (by decide +kernel)⟩
theorem lw_p37 : lw_okq (⟨"BargeChess$Board", "carryRiver", "(I)I"⟩, 6) := ⟨⟨by decide +kernel, by decide +kernel⟩, List.mem_of_getElem? (i := 30) (by decide +kernel), List.mem_of_getElem? (i := 433) (by decide +kernel), List.mem_of_getElem? (i := 434) (by decide +kernel)⟩
theorem lw_p38 : lw_okq (⟨"BargeChess$Board", "drift", "(II)Z"⟩, 6) := ⟨⟨by decide +kernel, by decide +kernel⟩, List.mem_of_getElem? (i := 30) (by decide +kernel), List.mem_of_getElem? (i := 440) (by decide +kernel), List.mem_of_getElem? (i := 441) (by decide +kernel)⟩
theorem lw_p39 : lw_okq (⟨"BargeChess$Board", "hasLock", "(I)Z"⟩, 6) := ⟨⟨by decide +kernel, by decide +kernel⟩, List.mem_of_getElem? (i := 30) (by decide +kernel), List.mem_of_getElem? (i := 456) (by decide +kernel), List.mem_of_getElem? (i := 457) (by decide +kernel)⟩
theorem lw_p40 : lw_okq (⟨"BargeChess$Board", "tugsOf", "(I)I"⟩, 6) := ⟨⟨by decide +kernel, by decide +kernel⟩, List.mem_of_getElem? (i := 30) (by decide +kernel), List.mem_of_getElem? (i := 464) (by decide +kernel), List.mem_of_getElem? (i := 465) (by decide +kernel)⟩
theorem lw_p41 : lw_okq (⟨"BargeChess$Board", "movesInLane", "(III)I"⟩, 6) := ⟨⟨by decide +kernel, by decide +kernel⟩, List.mem_of_getElem? (i := 30) (by decide +kernel), List.mem_of_getElem? (i := 477) (by decide +kernel), List.mem_of_getElem? (i := 478) (by decide +kernel)⟩
theorem lw_p42 : lw_okq (⟨"BargeChess$Game", "allows", "(II)Z"⟩, 9) := ⟨⟨by decide +kernel, by decide +kernel⟩, List.mem_of_getElem? (i := 24) (by decide +kernel), List.mem_of_getElem? (i := 485) (by decide +kernel), List.mem_of_getElem? (i := 486) (by decide +kernel)⟩
theorem lw_p43 : lw_okq (⟨"BargeChess$History", "mostTimes", "()I"⟩, 3) := ⟨⟨by decide +kernel, by decide +kernel⟩, List.mem_of_getElem? (i := 62) (by decide +kernel), List.mem_of_getElem? (i := 500) (by decide +kernel), List.mem_of_getElem? (i := 501) (by decide +kernel)⟩
theorem lw_p44 : lw_okq (⟨"BargeChess$Board", "pushedOff", "(II)I"⟩, 6) := ⟨⟨by decide +kernel, by decide +kernel⟩, List.mem_of_getElem? (i := 30) (by decide +kernel), List.mem_of_getElem? (i := 519) (by decide +kernel), List.mem_of_getElem? (i := 520) (by decide +kernel)⟩
theorem lw_p45 : lw_okq (⟨"BargeChess$Board", "signOf", "(I)I"⟩, 6) := ⟨⟨by decide +kernel, by decide +kernel⟩, List.mem_of_getElem? (i := 30) (by decide +kernel), List.mem_of_getElem? (i := 541) (by decide +kernel), List.mem_of_getElem? (i := 542) (by decide +kernel)⟩
theorem lw_p46 : lw_okq (⟨"BargeChess$MoveText", "addCharacter", "(I)Z"⟩, 5) := ⟨⟨by decide +kernel, by decide +kernel⟩, List.mem_of_getElem? (i := 136) (by decide +kernel), List.mem_of_getElem? (i := 553) (by decide +kernel), List.mem_of_getElem? (i := 554) (by decide +kernel)⟩
theorem lw_p47 : lw_okq (⟨"BargeChess$MoveText", "parse", "()I"⟩, 5) := ⟨⟨by decide +kernel, by decide +kernel⟩, List.mem_of_getElem? (i := 136) (by decide +kernel), List.mem_of_getElem? (i := 561) (by decide +kernel), List.mem_of_getElem? (i := 562) (by decide +kernel)⟩
def lw_privs_3 : List (MethodName × Nat) := [(⟨"BargeChess$Board", "promote", "(II)Z"⟩, 6), (⟨"BargeChess$Board", "shift", "(II)I"⟩, 6), (⟨"BargeChess$Board", "turnLocks", "(I)V"⟩, 6), (⟨"BargeChess$Game", "carryByTide", "()V"⟩, 9), (⟨"BargeChess$Game", "tide", "()I"⟩, 9), (⟨"BargeChess$Board", "carryRiver", "(I)I"⟩, 6), (⟨"BargeChess$Board", "drift", "(II)Z"⟩, 6), (⟨"BargeChess$Board", "hasLock", "(I)Z"⟩, 6), (⟨"BargeChess$Board", "tugsOf", "(I)I"⟩, 6), (⟨"BargeChess$Board", "movesInLane", "(III)I"⟩, 6), (⟨"BargeChess$Game", "allows", "(II)Z"⟩, 9), (⟨"BargeChess$History", "mostTimes", "()I"⟩, 3), (⟨"BargeChess$Board", "pushedOff", "(II)I"⟩, 6), (⟨"BargeChess$Board", "signOf", "(I)I"⟩, 6), (⟨"BargeChess$MoveText", "addCharacter", "(I)Z"⟩, 5), (⟨"BargeChess$MoveText", "parse", "()I"⟩, 5)]
theorem lw_r3 : ∀ q ∈ lw_privs_3, lw_okq q := List.forall_mem_cons.mpr ⟨lw_p32, List.forall_mem_cons.mpr ⟨lw_p33, List.forall_mem_cons.mpr ⟨lw_p34, List.forall_mem_cons.mpr ⟨lw_p35, List.forall_mem_cons.mpr ⟨lw_p36, List.forall_mem_cons.mpr ⟨lw_p37, List.forall_mem_cons.mpr ⟨lw_p38, List.forall_mem_cons.mpr ⟨lw_p39, List.forall_mem_cons.mpr ⟨lw_p40, List.forall_mem_cons.mpr ⟨lw_p41, List.forall_mem_cons.mpr ⟨lw_p42, List.forall_mem_cons.mpr ⟨lw_p43, List.forall_mem_cons.mpr ⟨lw_p44, List.forall_mem_cons.mpr ⟨lw_p45, List.forall_mem_cons.mpr ⟨lw_p46, List.forall_mem_cons.mpr ⟨lw_p47, fun _ h => absurd h List.not_mem_nil⟩⟩⟩⟩⟩⟩⟩⟩⟩⟩⟩⟩⟩⟩⟩⟩
theorem lw_p48 : lw_okq (⟨"BargeChess$MoveText", "addMove", "(II)V"⟩, 5) := ⟨⟨by decide +kernel, by decide +kernel⟩, List.mem_of_getElem? (i := 136) (by decide +kernel), List.mem_of_getElem? (i := 568) (by decide +kernel), List.mem_of_getElem? (i := 569) (by decide +kernel)⟩
theorem lw_p49 : lw_okq (⟨"BargeChess$MoveText", "clear", "()V"⟩, 5) := ⟨⟨by decide +kernel, by decide +kernel⟩, List.mem_of_getElem? (i := 136) (by decide +kernel), List.mem_of_getElem? (i := 572) (by decide +kernel), List.mem_of_getElem? (i := 573) (by decide +kernel)⟩
theorem lw_p50 : lw_okq (⟨"BargeChess$Board", "closedLocks", "()I"⟩, 6) := ⟨⟨by decide +kernel, by decide +kernel⟩, List.mem_of_getElem? (i := 30) (by decide +kernel), List.mem_of_getElem? (i := 584) (by decide +kernel), List.mem_of_getElem? (i := 585) (by decide +kernel)⟩
theorem lw_p51 : lw_okq (⟨"BargeChess$Board", "allLockTurns", "()I"⟩, 6) := ⟨⟨by decide +kernel, by decide +kernel⟩, List.mem_of_getElem? (i := 30) (by decide +kernel), List.mem_of_getElem? (i := 588) (by decide +kernel), List.mem_of_getElem? (i := 589) (by decide +kernel)⟩
theorem lw_p52 : lw_okq (⟨"BargeChess$History", "different", "()I"⟩, 3) := ⟨⟨by decide +kernel, by decide +kernel⟩, List.mem_of_getElem? (i := 62) (by decide +kernel), List.mem_of_getElem? (i := 592) (by decide +kernel), List.mem_of_getElem? (i := 593) (by decide +kernel)⟩
theorem lw_p53 : lw_okq (⟨"BargeChess$Past", "bringBack", "(LBargeChess$Game;)Z"⟩, 3) := ⟨⟨by decide +kernel, by decide +kernel⟩, List.mem_of_getElem? (i := 116) (by decide +kernel), List.mem_of_getElem? (i := 608) (by decide +kernel), List.mem_of_getElem? (i := 609) (by decide +kernel)⟩
theorem lw_p54 : lw_okq (⟨"BargeChess$Past", "forget", "()V"⟩, 3) := ⟨⟨by decide +kernel, by decide +kernel⟩, List.mem_of_getElem? (i := 116) (by decide +kernel), List.mem_of_getElem? (i := 620) (by decide +kernel), List.mem_of_getElem? (i := 621) (by decide +kernel)⟩
theorem lw_p55 : lw_okq (⟨"BargeChessModel", "cannotBuild", "(I)Z"⟩, 20) := ⟨⟨by decide +kernel, by decide +kernel⟩, List.mem_of_getElem? (i := 624) (by decide +kernel), List.mem_of_getElem? (i := 702) (by decide +kernel), List.mem_of_getElem? (i := 703) (by decide +kernel)⟩
theorem lw_p56 : lw_okq (⟨"BargeChessModel", "refuses", "(II)I"⟩, 20) := ⟨⟨by decide +kernel, by decide +kernel⟩, List.mem_of_getElem? (i := 624) (by decide +kernel), List.mem_of_getElem? (i := 706) (by decide +kernel), List.mem_of_getElem? (i := 707) (by decide +kernel)⟩
theorem lw_p57 : lw_okq (⟨"BargeChessModel", "pieceAt", "(I)I"⟩, 20) := ⟨⟨by decide +kernel, by decide +kernel⟩, List.mem_of_getElem? (i := 624) (by decide +kernel), List.mem_of_getElem? (i := 710) (by decide +kernel), List.mem_of_getElem? (i := 711) (by decide +kernel)⟩
theorem lw_p58 : lw_okq (⟨"BargeChessModel", "lockAt", "(I)I"⟩, 20) := ⟨⟨by decide +kernel, by decide +kernel⟩, List.mem_of_getElem? (i := 624) (by decide +kernel), List.mem_of_getElem? (i := 714) (by decide +kernel), List.mem_of_getElem? (i := 715) (by decide +kernel)⟩
theorem lw_p59 : lw_okq (⟨"BargeChessModel", "ofLock", "(II)I"⟩, 20) := ⟨⟨by decide +kernel, by decide +kernel⟩, List.mem_of_getElem? (i := 624) (by decide +kernel), List.mem_of_getElem? (i := 718) (by decide +kernel), List.mem_of_getElem? (i := 719) (by decide +kernel)⟩
theorem lw_p60 : lw_okq (⟨"BargeChessModel", "keeps", "([I)V"⟩, 20) := ⟨⟨by decide +kernel, by decide +kernel⟩, List.mem_of_getElem? (i := 624) (by decide +kernel), List.mem_of_getElem? (i := 722) (by decide +kernel), List.mem_of_getElem? (i := 723) (by decide +kernel)⟩
theorem lw_p61 : lw_okq (⟨"BargeChessModel", "pieces", "(I)I"⟩, 20) := ⟨⟨by decide +kernel, by decide +kernel⟩, List.mem_of_getElem? (i := 624) (by decide +kernel), List.mem_of_getElem? (i := 729) (by decide +kernel), List.mem_of_getElem? (i := 730) (by decide +kernel)⟩
theorem lw_p62 : lw_okq (⟨"BargeChessModel", "countOf", "(II)I"⟩, 20) := ⟨⟨by decide +kernel, by decide +kernel⟩, List.mem_of_getElem? (i := 624) (by decide +kernel), List.mem_of_getElem? (i := 733) (by decide +kernel), List.mem_of_getElem? (i := 734) (by decide +kernel)⟩
theorem lw_p63 : lw_okq (⟨"BargeChessModel", "looks", "()I"⟩, 20) := ⟨⟨by decide +kernel, by decide +kernel⟩, List.mem_of_getElem? (i := 624) (by decide +kernel), List.mem_of_getElem? (i := 745) (by decide +kernel), List.mem_of_getElem? (i := 746) (by decide +kernel)⟩
def lw_privs_4 : List (MethodName × Nat) := [(⟨"BargeChess$MoveText", "addMove", "(II)V"⟩, 5), (⟨"BargeChess$MoveText", "clear", "()V"⟩, 5), (⟨"BargeChess$Board", "closedLocks", "()I"⟩, 6), (⟨"BargeChess$Board", "allLockTurns", "()I"⟩, 6), (⟨"BargeChess$History", "different", "()I"⟩, 3), (⟨"BargeChess$Past", "bringBack", "(LBargeChess$Game;)Z"⟩, 3), (⟨"BargeChess$Past", "forget", "()V"⟩, 3), (⟨"BargeChessModel", "cannotBuild", "(I)Z"⟩, 20), (⟨"BargeChessModel", "refuses", "(II)I"⟩, 20), (⟨"BargeChessModel", "pieceAt", "(I)I"⟩, 20), (⟨"BargeChessModel", "lockAt", "(I)I"⟩, 20), (⟨"BargeChessModel", "ofLock", "(II)I"⟩, 20), (⟨"BargeChessModel", "keeps", "([I)V"⟩, 20), (⟨"BargeChessModel", "pieces", "(I)I"⟩, 20), (⟨"BargeChessModel", "countOf", "(II)I"⟩, 20), (⟨"BargeChessModel", "looks", "()I"⟩, 20)]
theorem lw_r4 : ∀ q ∈ lw_privs_4, lw_okq q := List.forall_mem_cons.mpr ⟨lw_p48, List.forall_mem_cons.mpr ⟨lw_p49, List.forall_mem_cons.mpr ⟨lw_p50, List.forall_mem_cons.mpr ⟨lw_p51, List.forall_mem_cons.mpr ⟨lw_p52, List.forall_mem_cons.mpr ⟨lw_p53, List.forall_mem_cons.mpr ⟨lw_p54, List.forall_mem_cons.mpr ⟨lw_p55, List.forall_mem_cons.mpr ⟨lw_p56, List.forall_mem_cons.mpr ⟨lw_p57, List.forall_mem_cons.mpr ⟨lw_p58, List.forall_mem_cons.mpr ⟨lw_p59, List.forall_mem_cons.mpr ⟨lw_p60, List.forall_mem_cons.mpr ⟨lw_p61, List.forall_mem_cons.mpr ⟨lw_p62, List.forall_mem_cons.mpr ⟨lw_p63, fun _ h => absurd h List.not_mem_nil⟩⟩⟩⟩⟩⟩⟩⟩⟩⟩⟩⟩⟩⟩⟩⟩
theorem lw_p64 : lw_okq (⟨"BargeChessModel", "position", "()I"⟩, 20) := ⟨⟨by decide +kernel, by decide +kernel⟩, List.mem_of_getElem? (i := 624) (by decide +kernel), List.mem_of_getElem? (i := 749) (by decide +kernel), List.mem_of_getElem? (i := 750) (by decide +kernel)⟩
theorem lw_p65 : lw_okq (⟨"BargeChessModel", "restPart", "()I"⟩, 20) := ⟨⟨by decide +kernel, by decide +kernel⟩, List.mem_of_getElem? (i := 624) (by decide +kernel), List.mem_of_getElem? (i := 753) (by decide +kernel), List.mem_of_getElem? (i := 754) (by decide +kernel)⟩
theorem lw_p66 : lw_okq (⟨"BargeChessModel", "boardPart", "(I)I"⟩, 20) := ⟨⟨by decide +kernel, by decide +kernel⟩, List.mem_of_getElem? (i := 624) (by decide +kernel), List.mem_of_getElem? (i := 757) (by decide +kernel), List.mem_of_getElem? (i := 758) (by decide +kernel)⟩
theorem lw_p67 : lw_okq (⟨"BargeChessModel", "isMove", "(II)Z"⟩, 20) := ⟨⟨by decide +kernel, by decide +kernel⟩, List.mem_of_getElem? (i := 624) (by decide +kernel), List.mem_of_getElem? (i := 765) (by decide +kernel), List.mem_of_getElem? (i := 766) (by decide +kernel)⟩
theorem lw_p68 : lw_okq (⟨"BargeChessModel", "goesOn", "()Z"⟩, 20) := ⟨⟨by decide +kernel, by decide +kernel⟩, List.mem_of_getElem? (i := 624) (by decide +kernel), List.mem_of_getElem? (i := 769) (by decide +kernel), List.mem_of_getElem? (i := 770) (by decide +kernel)⟩
theorem lw_p69 : lw_okq (⟨"BargeChessModel", "sideAt", "(I)I"⟩, 20) := ⟨⟨by decide +kernel, by decide +kernel⟩, List.mem_of_getElem? (i := 624) (by decide +kernel), List.mem_of_getElem? (i := 773) (by decide +kernel), List.mem_of_getElem? (i := 774) (by decide +kernel)⟩
theorem lw_p70 : lw_okq (⟨"BargeChessModel", "against", "(II)I"⟩, 20) := ⟨⟨by decide +kernel, by decide +kernel⟩, List.mem_of_getElem? (i := 624) (by decide +kernel), List.mem_of_getElem? (i := 777) (by decide +kernel), List.mem_of_getElem? (i := 778) (by decide +kernel)⟩
theorem lw_p71 : lw_okq (⟨"BargeChessModel", "goes", "(II)Z"⟩, 20) := ⟨⟨by decide +kernel, by decide +kernel⟩, List.mem_of_getElem? (i := 624) (by decide +kernel), List.mem_of_getElem? (i := 781) (by decide +kernel), List.mem_of_getElem? (i := 782) (by decide +kernel)⟩
theorem lw_p72 : lw_okq (⟨"BargeChessModel", "kindAt", "(I)I"⟩, 20) := ⟨⟨by decide +kernel, by decide +kernel⟩, List.mem_of_getElem? (i := 624) (by decide +kernel), List.mem_of_getElem? (i := 785) (by decide +kernel), List.mem_of_getElem? (i := 786) (by decide +kernel)⟩
theorem lw_p73 : lw_okq (⟨"BargeChessModel", "endOf", "(II)I"⟩, 20) := ⟨⟨by decide +kernel, by decide +kernel⟩, List.mem_of_getElem? (i := 624) (by decide +kernel), List.mem_of_getElem? (i := 792) (by decide +kernel), List.mem_of_getElem? (i := 793) (by decide +kernel)⟩
theorem lw_p74 : lw_okq (⟨"BargeChessModel", "isClosed", "(I)Z"⟩, 20) := ⟨⟨by decide +kernel, by decide +kernel⟩, List.mem_of_getElem? (i := 624) (by decide +kernel), List.mem_of_getElem? (i := 796) (by decide +kernel), List.mem_of_getElem? (i := 797) (by decide +kernel)⟩
theorem lw_p75 : lw_okq (⟨"BargeChessModel", "lineFrom", "(II)I"⟩, 20) := ⟨⟨by decide +kernel, by decide +kernel⟩, List.mem_of_getElem? (i := 624) (by decide +kernel), List.mem_of_getElem? (i := 800) (by decide +kernel), List.mem_of_getElem? (i := 801) (by decide +kernel)⟩
theorem lw_p76 : lw_okq (⟨"BargeChessModel", "againstDetail", "(II)I"⟩, 20) := ⟨⟨by decide +kernel, by decide +kernel⟩, List.mem_of_getElem? (i := 624) (by decide +kernel), List.mem_of_getElem? (i := 808) (by decide +kernel), List.mem_of_getElem? (i := 809) (by decide +kernel)⟩
theorem lw_p77 : lw_okq (⟨"BargeChessModel", "makes", "(II)I"⟩, 20) := ⟨⟨by decide +kernel, by decide +kernel⟩, List.mem_of_getElem? (i := 624) (by decide +kernel), List.mem_of_getElem? (i := 812) (by decide +kernel), List.mem_of_getElem? (i := 813) (by decide +kernel)⟩
theorem lw_p78 : lw_okq (⟨"BargeChessModel", "shifts", "(II)V"⟩, 20) := ⟨⟨by decide +kernel, by decide +kernel⟩, List.mem_of_getElem? (i := 624) (by decide +kernel), List.mem_of_getElem? (i := 816) (by decide +kernel), List.mem_of_getElem? (i := 817) (by decide +kernel)⟩
theorem lw_p79 : lw_okq (⟨"BargeChessModel", "pushes", "(III)V"⟩, 20) := ⟨⟨by decide +kernel, by decide +kernel⟩, List.mem_of_getElem? (i := 624) (by decide +kernel), List.mem_of_getElem? (i := 820) (by decide +kernel), List.mem_of_getElem? (i := 821) (by decide +kernel)⟩
def lw_privs_5 : List (MethodName × Nat) := [(⟨"BargeChessModel", "position", "()I"⟩, 20), (⟨"BargeChessModel", "restPart", "()I"⟩, 20), (⟨"BargeChessModel", "boardPart", "(I)I"⟩, 20), (⟨"BargeChessModel", "isMove", "(II)Z"⟩, 20), (⟨"BargeChessModel", "goesOn", "()Z"⟩, 20), (⟨"BargeChessModel", "sideAt", "(I)I"⟩, 20), (⟨"BargeChessModel", "against", "(II)I"⟩, 20), (⟨"BargeChessModel", "goes", "(II)Z"⟩, 20), (⟨"BargeChessModel", "kindAt", "(I)I"⟩, 20), (⟨"BargeChessModel", "endOf", "(II)I"⟩, 20), (⟨"BargeChessModel", "isClosed", "(I)Z"⟩, 20), (⟨"BargeChessModel", "lineFrom", "(II)I"⟩, 20), (⟨"BargeChessModel", "againstDetail", "(II)I"⟩, 20), (⟨"BargeChessModel", "makes", "(II)I"⟩, 20), (⟨"BargeChessModel", "shifts", "(II)V"⟩, 20), (⟨"BargeChessModel", "pushes", "(III)V"⟩, 20)]
theorem lw_r5 : ∀ q ∈ lw_privs_5, lw_okq q := List.forall_mem_cons.mpr ⟨lw_p64, List.forall_mem_cons.mpr ⟨lw_p65, List.forall_mem_cons.mpr ⟨lw_p66, List.forall_mem_cons.mpr ⟨lw_p67, List.forall_mem_cons.mpr ⟨lw_p68, List.forall_mem_cons.mpr ⟨lw_p69, List.forall_mem_cons.mpr ⟨lw_p70, List.forall_mem_cons.mpr ⟨lw_p71, List.forall_mem_cons.mpr ⟨lw_p72, List.forall_mem_cons.mpr ⟨lw_p73, List.forall_mem_cons.mpr ⟨lw_p74, List.forall_mem_cons.mpr ⟨lw_p75, List.forall_mem_cons.mpr ⟨lw_p76, List.forall_mem_cons.mpr ⟨lw_p77, List.forall_mem_cons.mpr ⟨lw_p78, List.forall_mem_cons.mpr ⟨lw_p79, fun _ h => absurd h List.not_mem_nil⟩⟩⟩⟩⟩⟩⟩⟩⟩⟩⟩⟩⟩⟩⟩⟩
theorem lw_p80 : lw_okq (⟨"BargeChessModel", "locksTurn", "()V"⟩, 20) := ⟨⟨by decide +kernel, by decide +kernel⟩, List.mem_of_getElem? (i := 624) (by decide +kernel), List.mem_of_getElem? (i := 824) (by decide +kernel), List.mem_of_getElem? (i := 825) (by decide +kernel)⟩
theorem lw_p81 : lw_okq (⟨"BargeChessModel", "tides", "()V"⟩, 20) := ⟨⟨by decide +kernel, by decide +kernel⟩, List.mem_of_getElem? (i := 624) (by decide +kernel), List.mem_of_getElem? (i := 828) (by decide +kernel), List.mem_of_getElem? (i := 829) (by decide +kernel)⟩
theorem lw_p82 : lw_okq (⟨"BargeChessModel", "carries", "(II)V"⟩, 20) := ⟨⟨by decide +kernel, by decide +kernel⟩, List.mem_of_getElem? (i := 624) (by decide +kernel), List.mem_of_getElem? (i := 832) (by decide +kernel), List.mem_of_getElem? (i := 833) (by decide +kernel)⟩
theorem lw_p83 : lw_okq (⟨"BargeChessModel", "isTake", "(II)Z"⟩, 20) := ⟨⟨by decide +kernel, by decide +kernel⟩, List.mem_of_getElem? (i := 624) (by decide +kernel), List.mem_of_getElem? (i := 873) (by decide +kernel), List.mem_of_getElem? (i := 874) (by decide +kernel)⟩
theorem lw_p84 : lw_okq (⟨"BargeChessModel", "isText", "()Z"⟩, 20) := ⟨⟨by decide +kernel, by decide +kernel⟩, List.mem_of_getElem? (i := 624) (by decide +kernel), List.mem_of_getElem? (i := 947) (by decide +kernel), List.mem_of_getElem? (i := 948) (by decide +kernel)⟩
theorem lw_p85 : lw_okq (⟨"BargeChessModel", "moveHere", "()Z"⟩, 20) := ⟨⟨by decide +kernel, by decide +kernel⟩, List.mem_of_getElem? (i := 624) (by decide +kernel), List.mem_of_getElem? (i := 951) (by decide +kernel), List.mem_of_getElem? (i := 952) (by decide +kernel)⟩
theorem lw_p86 : lw_okq (⟨"BargeChessModel", "here", "()I"⟩, 20) := ⟨⟨by decide +kernel, by decide +kernel⟩, List.mem_of_getElem? (i := 624) (by decide +kernel), List.mem_of_getElem? (i := 955) (by decide +kernel), List.mem_of_getElem? (i := 956) (by decide +kernel)⟩
theorem lw_p87 : lw_okq (⟨"BargeChessModel", "closedMany", "()I"⟩, 20) := ⟨⟨by decide +kernel, by decide +kernel⟩, List.mem_of_getElem? (i := 624) (by decide +kernel), List.mem_of_getElem? (i := 969) (by decide +kernel), List.mem_of_getElem? (i := 970) (by decide +kernel)⟩
theorem lw_p88 : lw_okq (⟨"BargeChessModel", "turnedAll", "()I"⟩, 20) := ⟨⟨by decide +kernel, by decide +kernel⟩, List.mem_of_getElem? (i := 624) (by decide +kernel), List.mem_of_getElem? (i := 973) (by decide +kernel), List.mem_of_getElem? (i := 974) (by decide +kernel)⟩
def lw_privs_6 : List (MethodName × Nat) := [(⟨"BargeChessModel", "locksTurn", "()V"⟩, 20), (⟨"BargeChessModel", "tides", "()V"⟩, 20), (⟨"BargeChessModel", "carries", "(II)V"⟩, 20), (⟨"BargeChessModel", "isTake", "(II)Z"⟩, 20), (⟨"BargeChessModel", "isText", "()Z"⟩, 20), (⟨"BargeChessModel", "moveHere", "()Z"⟩, 20), (⟨"BargeChessModel", "here", "()I"⟩, 20), (⟨"BargeChessModel", "closedMany", "()I"⟩, 20), (⟨"BargeChessModel", "turnedAll", "()I"⟩, 20)]
theorem lw_r6 : ∀ q ∈ lw_privs_6, lw_okq q := List.forall_mem_cons.mpr ⟨lw_p80, List.forall_mem_cons.mpr ⟨lw_p81, List.forall_mem_cons.mpr ⟨lw_p82, List.forall_mem_cons.mpr ⟨lw_p83, List.forall_mem_cons.mpr ⟨lw_p84, List.forall_mem_cons.mpr ⟨lw_p85, List.forall_mem_cons.mpr ⟨lw_p86, List.forall_mem_cons.mpr ⟨lw_p87, List.forall_mem_cons.mpr ⟨lw_p88, fun _ h => absurd h List.not_mem_nil⟩⟩⟩⟩⟩⟩⟩⟩⟩
def lw_privs : List (MethodName × Nat) := lw_privs_1 ++ (lw_privs_2 ++ (lw_privs_3 ++ (lw_privs_4 ++ (lw_privs_5 ++ (lw_privs_6)))))
def lw_tbl : List Cond := k2_sels lw_privs ++ tables_1
theorem lw_privs_ok : ∀ q ∈ lw_privs, lw_okq q := by
  show ∀ q ∈ lw_privs_1 ++ (lw_privs_2 ++ (lw_privs_3 ++ (lw_privs_4 ++ (lw_privs_5 ++ (lw_privs_6))))), lw_okq q
  exact List.forall_mem_append.mpr ⟨lw_r1, List.forall_mem_append.mpr ⟨lw_r2, List.forall_mem_append.mpr ⟨lw_r3, List.forall_mem_append.mpr ⟨lw_r4, List.forall_mem_append.mpr ⟨lw_r5, lw_r6⟩⟩⟩⟩⟩
/-- the streams that the claim lets the run draw from -/
abbrev lw_cs : List Choice := [Jvm.Choice.named "NaN.bits"]
theorem lw_bits : nanBits ∈ lw_cs := by first | decide | exact List.mem_cons_self | simp [lw_cs, nanBits]
-- names (printed)
/-! ===== BEGIN words of one list among another's, by their places ===== -/
theorem goodIn_r {big : List Cond} (ws : List Cond) (ps : List Nat) (hp : ws = ps.filterMap (fun i => big[i]?)) (h : ws.all goodWord = true) : GoodIn big ws := by
  intro w hw
  have h1 := List.all_eq_true.mp h w hw
  rw [hp] at hw
  obtain ⟨i, -, hi⟩ := List.mem_filterMap.mp hw
  have hm : w ∈ big := by first | exact List.mem_of_getElem? hi | exact List.getElem?_mem hi
  exact ⟨hm, good_of_word h1⟩
theorem goodIn_app {big a b : List Cond} (ha : GoodIn big a) (hb : GoodIn big b) : GoodIn big (a ++ b) := fun w h => (List.mem_append.mp h).elim (ha w) (hb w)
theorem goodIn_ca {big a b : List Cond} {c : Cond} (ha : GoodIn big (c :: a)) (hb : GoodIn big b) : GoodIn big (c :: (a ++ b)) := fun w h => (List.mem_cons.mp h).elim (fun e => ha w (List.mem_cons.mpr (Or.inl e))) (fun h => (List.mem_append.mp h).elim (fun h => ha w (List.mem_cons.mpr (Or.inr h))) (hb w))
theorem goodIn_sub {big ws : List Cond} (hm : ∀ w ∈ ws, w ∈ big) (h : ws.all goodWord = true) : GoodIn big ws := fun w hw => ⟨hm w hw, good_of_word (List.all_eq_true.mp h w hw)⟩
/-! ===== END ===== -/

/-! ===== BEGIN printed: names, fields, word lists, decode rows ===== -/
def RX0 : String := "BargeChess$Board"
def TX0 : u_T := fun k => match k with
  | 0 => ("BargeChess$Board", "pieces", "[I", true)
  | 1 => ("BargeChess$Board", "lockCount", "I", false)
  | 2 => ("BargeChess$Board", "lockSquares", "[I", true)
  | 3 => ("BargeChess$Board", "lockPeriods", "[I", true)
  | 4 => ("BargeChess$Board", "lockClosed", "[Z", true)
  | _ => ("BargeChess$Board", "lockTurns", "[I", true)
def tyX0 : Nat → FieldType := fun k => match k with
  | 0 => .array .int
  | 1 => .int
  | 2 => .array .int
  | 3 => .array .int
  | 4 => .array .boolean
  | _ => .array .int
abbrev wsX00 : List Cond := u_ws RX0 TX0 6
theorem nmX0 : ∀ a, a < 6 → ∀ b, b < 6 → a ≠ b → (TX0 a).2.1 ≠ (TX0 b).2.1 := by decide +kernel
theorem tyX0_ok : ∀ k, k < 6 → parseFieldDescriptor (TX0 k).2.2.1 = some (tyX0 k) := by decide +kernel
abbrev cX0_init : ByteArray := prog_2_method_1_code
def yX0_init : MethodName := ⟨RX0, "<init>", "()V"⟩
abbrev cX0_copyBoard : ByteArray := prog_2_method_2_code
def yX0_copyBoard : MethodName := ⟨RX0, "copyBoard", "(LBargeChess$Board;)V"⟩
abbrev cX0_pieceAt : ByteArray := prog_2_method_3_code
def yX0_pieceAt : MethodName := ⟨RX0, "pieceAt", "(I)I"⟩
abbrev cX0_setPiece : ByteArray := prog_2_method_4_code
def yX0_setPiece : MethodName := ⟨RX0, "setPiece", "(II)V"⟩
abbrev cX0_countOf : ByteArray := prog_2_method_5_code
def yX0_countOf : MethodName := ⟨RX0, "countOf", "(I)I"⟩
abbrev cX0_tugsOf : ByteArray := prog_2_method_6_code
def yX0_tugsOf : MethodName := ⟨RX0, "tugsOf", "(I)I"⟩
abbrev cX0_hasLock : ByteArray := prog_2_method_7_code
def yX0_hasLock : MethodName := ⟨RX0, "hasLock", "(I)Z"⟩
abbrev cX0_lockAt : ByteArray := prog_2_method_8_code
def yX0_lockAt : MethodName := ⟨RX0, "lockAt", "(I)I"⟩
abbrev cX0_isClosed : ByteArray := prog_2_method_9_code
def yX0_isClosed : MethodName := ⟨RX0, "isClosed", "(I)Z"⟩
abbrev cX0_buildLock : ByteArray := prog_2_method_10_code
def yX0_buildLock : MethodName := ⟨RX0, "buildLock", "(II)I"⟩
abbrev cX0_turnLocks : ByteArray := prog_2_method_11_code
def yX0_turnLocks : MethodName := ⟨RX0, "turnLocks", "(I)V"⟩
abbrev cX0_closedLocks : ByteArray := prog_2_method_12_code
def yX0_closedLocks : MethodName := ⟨RX0, "closedLocks", "()I"⟩
abbrev cX0_allLockTurns : ByteArray := prog_2_method_13_code
def yX0_allLockTurns : MethodName := ⟨RX0, "allLockTurns", "()I"⟩
abbrev cX0_standing : ByteArray := prog_2_method_14_code
def yX0_standing : MethodName := ⟨RX0, "standing", "(II)I"⟩
abbrev cX0_causeAgainst : ByteArray := prog_2_method_15_code
def yX0_causeAgainst : MethodName := ⟨RX0, "causeAgainst", "(II)I"⟩
abbrev cX0_causeDetail : ByteArray := prog_2_method_16_code
def yX0_causeDetail : MethodName := ⟨RX0, "causeDetail", "(III)I"⟩
abbrev cX0_pushedOff : ByteArray := prog_2_method_17_code
def yX0_pushedOff : MethodName := ⟨RX0, "pushedOff", "(II)I"⟩
abbrev cX0_countMoves : ByteArray := prog_2_method_18_code
def yX0_countMoves : MethodName := ⟨RX0, "countMoves", "(I)I"⟩
abbrev cX0_movesInLane : ByteArray := prog_2_method_19_code
def yX0_movesInLane : MethodName := ⟨RX0, "movesInLane", "(III)I"⟩
abbrev cX0_promote : ByteArray := prog_2_method_20_code
def yX0_promote : MethodName := ⟨RX0, "promote", "(II)Z"⟩
abbrev cX0_shift : ByteArray := prog_2_method_21_code
def yX0_shift : MethodName := ⟨RX0, "shift", "(II)I"⟩
abbrev cX0_carryRiver : ByteArray := prog_2_method_22_code
def yX0_carryRiver : MethodName := ⟨RX0, "carryRiver", "(I)I"⟩
abbrev cX0_drift : ByteArray := prog_2_method_23_code
def yX0_drift : MethodName := ⟨RX0, "drift", "(II)Z"⟩
abbrev cX0_signOf : ByteArray := prog_2_method_24_code
def yX0_signOf : MethodName := ⟨RX0, "signOf", "(I)I"⟩
abbrev cX0_halfKey : ByteArray := prog_2_method_25_code
def yX0_halfKey : MethodName := ⟨RX0, "halfKey", "(I)J"⟩
abbrev cX0_closedKey : ByteArray := prog_2_method_26_code
def yX0_closedKey : MethodName := ⟨RX0, "closedKey", "()I"⟩
def RX1 : String := "BargeChess$Game"
def TX1 : u_T := fun k => match k with
  | 0 => ("BargeChess$Game", "board", "LBargeChess$Board;", true)
  | 1 => ("BargeChess$Game", "history", "LBargeChess$History;", true)
  | 2 => ("BargeChess$Game", "begun", "Z", false)
  | 3 => ("BargeChess$Game", "ending", "I", false)
  | 4 => ("BargeChess$Game", "turn", "I", false)
  | 5 => ("BargeChess$Game", "carried", "I", false)
  | 6 => ("BargeChess$Game", "gone", "[I", true)
  | 7 => ("BargeChess$Game", "pushed", "[I", true)
  | _ => ("BargeChess$Game", "becameTugs", "[I", true)
def tyX1 : Nat → FieldType := fun k => match k with
  | 0 => .object "BargeChess$Board"
  | 1 => .object "BargeChess$History"
  | 2 => .boolean
  | 3 => .int
  | 4 => .int
  | 5 => .int
  | 6 => .array .int
  | 7 => .array .int
  | _ => .array .int
abbrev wsX10 : List Cond := u_ws RX1 TX1 9
theorem nmX1 : ∀ a, a < 9 → ∀ b, b < 9 → a ≠ b → (TX1 a).2.1 ≠ (TX1 b).2.1 := by decide +kernel
theorem tyX1_ok : ∀ k, k < 9 → parseFieldDescriptor (TX1 k).2.2.1 = some (tyX1 k) := by decide +kernel
abbrev cX1_init : ByteArray := prog_3_method_1_code
def yX1_init : MethodName := ⟨RX1, "<init>", "()V"⟩
abbrev cX1_copyFrom : ByteArray := prog_3_method_2_code
def yX1_copyFrom : MethodName := ⟨RX1, "copyFrom", "(LBargeChess$Game;)V"⟩
abbrev cX1_sideToMove : ByteArray := prog_3_method_3_code
def yX1_sideToMove : MethodName := ⟨RX1, "sideToMove", "()I"⟩
abbrev cX1_tide : ByteArray := prog_3_method_4_code
def yX1_tide : MethodName := ⟨RX1, "tide", "()I"⟩
abbrev cX1_goesOn : ByteArray := prog_3_method_5_code
def yX1_goesOn : MethodName := ⟨RX1, "goesOn", "()Z"⟩
abbrev cX1_openMoves : ByteArray := prog_3_method_6_code
def yX1_openMoves : MethodName := ⟨RX1, "openMoves", "()I"⟩
abbrev cX1_allows : ByteArray := prog_3_method_7_code
def yX1_allows : MethodName := ⟨RX1, "allows", "(II)Z"⟩
abbrev cX1_startPlay : ByteArray := prog_3_method_8_code
def yX1_startPlay : MethodName := ⟨RX1, "startPlay", "()V"⟩
abbrev cX1_carryOut : ByteArray := prog_3_method_9_code
def yX1_carryOut : MethodName := ⟨RX1, "carryOut", "(II)I"⟩
abbrev cX1_carryByTide : ByteArray := prog_3_method_10_code
def yX1_carryByTide : MethodName := ⟨RX1, "carryByTide", "()V"⟩
abbrev cX1_recordPosition : ByteArray := prog_3_method_11_code
def yX1_recordPosition : MethodName := ⟨RX1, "recordPosition", "()V"⟩
abbrev cX1_settleEnding : ByteArray := prog_3_method_12_code
def yX1_settleEnding : MethodName := ⟨RX1, "settleEnding", "()I"⟩
def RX2 : String := "BargeChess$History"
def TX2 : u_T := fun k => match k with
  | 0 => ("BargeChess$History", "count", "I", false)
  | 1 => ("BargeChess$History", "lowKeys", "[J", true)
  | _ => ("BargeChess$History", "highKeys", "[J", true)
def tyX2 : Nat → FieldType := fun k => match k with
  | 0 => .int
  | 1 => .array .long
  | _ => .array .long
abbrev wsX20 : List Cond := u_ws RX2 TX2 3
theorem nmX2 : ∀ a, a < 3 → ∀ b, b < 3 → a ≠ b → (TX2 a).2.1 ≠ (TX2 b).2.1 := by decide +kernel
theorem tyX2_ok : ∀ k, k < 3 → parseFieldDescriptor (TX2 k).2.2.1 = some (tyX2 k) := by decide +kernel
abbrev cX2_init : ByteArray := prog_4_method_1_code
def yX2_init : MethodName := ⟨RX2, "<init>", "()V"⟩
abbrev cX2_copyHistory : ByteArray := prog_4_method_2_code
def yX2_copyHistory : MethodName := ⟨RX2, "copyHistory", "(LBargeChess$History;)V"⟩
abbrev cX2_addPosition : ByteArray := prog_4_method_3_code
def yX2_addPosition : MethodName := ⟨RX2, "addPosition", "(JJ)V"⟩
abbrev cX2_timesOfLatest : ByteArray := prog_4_method_4_code
def yX2_timesOfLatest : MethodName := ⟨RX2, "timesOfLatest", "()I"⟩
abbrev cX2_timesUpTo : ByteArray := prog_4_method_5_code
def yX2_timesUpTo : MethodName := ⟨RX2, "timesUpTo", "(I)I"⟩
abbrev cX2_mostTimes : ByteArray := prog_4_method_6_code
def yX2_mostTimes : MethodName := ⟨RX2, "mostTimes", "()I"⟩
abbrev cX2_different : ByteArray := prog_4_method_7_code
def yX2_different : MethodName := ⟨RX2, "different", "()I"⟩
def RX3 : String := "BargeChess$MoveText"
def TX3 : u_T := fun k => match k with
  | 0 => ("BargeChess$MoveText", "length", "I", false)
  | 1 => ("BargeChess$MoveText", "codes", "[I", true)
  | 2 => ("BargeChess$MoveText", "moveCount", "I", false)
  | 3 => ("BargeChess$MoveText", "squares", "[I", true)
  | _ => ("BargeChess$MoveText", "directions", "[I", true)
def tyX3 : Nat → FieldType := fun k => match k with
  | 0 => .int
  | 1 => .array .int
  | 2 => .int
  | 3 => .array .int
  | _ => .array .int
abbrev wsX30 : List Cond := u_ws RX3 TX3 5
theorem nmX3 : ∀ a, a < 5 → ∀ b, b < 5 → a ≠ b → (TX3 a).2.1 ≠ (TX3 b).2.1 := by decide +kernel
theorem tyX3_ok : ∀ k, k < 5 → parseFieldDescriptor (TX3 k).2.2.1 = some (tyX3 k) := by decide +kernel
abbrev cX3_init : ByteArray := prog_5_method_1_code
def yX3_init : MethodName := ⟨RX3, "<init>", "()V"⟩
abbrev cX3_addCharacter : ByteArray := prog_5_method_2_code
def yX3_addCharacter : MethodName := ⟨RX3, "addCharacter", "(I)Z"⟩
abbrev cX3_clear : ByteArray := prog_5_method_3_code
def yX3_clear : MethodName := ⟨RX3, "clear", "()V"⟩
abbrev cX3_parse : ByteArray := prog_5_method_4_code
def yX3_parse : MethodName := ⟨RX3, "parse", "()I"⟩
abbrev cX3_addMove : ByteArray := prog_5_method_5_code
def yX3_addMove : MethodName := ⟨RX3, "addMove", "(II)V"⟩
abbrev cX3_directionOf : ByteArray := prog_5_method_6_code
def yX3_directionOf : MethodName := ⟨RX3, "directionOf", "(I)I"⟩
def RX4 : String := "BargeChess$Past"
def TX4 : u_T := fun k => match k with
  | 0 => ("BargeChess$Past", "games", "[LBargeChess$Game;", true)
  | 1 => ("BargeChess$Past", "next", "I", false)
  | _ => ("BargeChess$Past", "count", "I", false)
def tyX4 : Nat → FieldType := fun k => match k with
  | 0 => .array (.object "BargeChess$Game")
  | 1 => .int
  | _ => .int
abbrev wsX40 : List Cond := u_ws RX4 TX4 3
theorem nmX4 : ∀ a, a < 3 → ∀ b, b < 3 → a ≠ b → (TX4 a).2.1 ≠ (TX4 b).2.1 := by decide +kernel
theorem tyX4_ok : ∀ k, k < 3 → parseFieldDescriptor (TX4 k).2.2.1 = some (tyX4 k) := by decide +kernel
abbrev cX4_init : ByteArray := prog_6_method_1_code
def yX4_init : MethodName := ⟨RX4, "<init>", "()V"⟩
abbrev cX4_gameAt : ByteArray := prog_6_method_2_code
def yX4_gameAt : MethodName := ⟨RX4, "gameAt", "(I)LBargeChess$Game;"⟩
abbrev cX4_keep : ByteArray := prog_6_method_3_code
def yX4_keep : MethodName := ⟨RX4, "keep", "(LBargeChess$Game;)V"⟩
abbrev cX4_bringBack : ByteArray := prog_6_method_4_code
def yX4_bringBack : MethodName := ⟨RX4, "bringBack", "(LBargeChess$Game;)Z"⟩
abbrev cX4_forget : ByteArray := prog_6_method_5_code
def yX4_forget : MethodName := ⟨RX4, "forget", "()V"⟩
def RX5 : String := "BargeChess$Refusal"
def TX5 : u_T := fun k => match k with
  | 0 => ("BargeChess$Refusal", "reason", "I", false)
  | 1 => ("BargeChess$Refusal", "detail", "I", false)
  | 2 => ("BargeChess$Refusal", "moveNumber", "I", false)
  | 3 => ("BargeChess$Refusal", "cause", "I", false)
  | _ => ("BargeChess$Refusal", "causeDetail", "I", false)
def tyX5 : Nat → FieldType := fun k => match k with
  | 0 => .int
  | 1 => .int
  | 2 => .int
  | 3 => .int
  | _ => .int
abbrev wsX50 : List Cond := u_ws RX5 TX5 5
theorem nmX5 : ∀ a, a < 5 → ∀ b, b < 5 → a ≠ b → (TX5 a).2.1 ≠ (TX5 b).2.1 := by decide +kernel
theorem tyX5_ok : ∀ k, k < 5 → parseFieldDescriptor (TX5 k).2.2.1 = some (tyX5 k) := by decide +kernel
abbrev cX5_init : ByteArray := prog_7_method_1_code
def yX5_init : MethodName := ⟨RX5, "<init>", "()V"⟩
abbrev cX5_note : ByteArray := prog_7_method_2_code
def yX5_note : MethodName := ⟨RX5, "note", "(III)V"⟩
abbrev cX5_noteCause : ByteArray := prog_7_method_3_code
def yX5_noteCause : MethodName := ⟨RX5, "noteCause", "(II)V"⟩
def RX6 : String := "BargeChess"
def TX6 : u_T := fun k => match k with
  | 0 => ("BargeChess", "now", "LBargeChess$Game;", true)
  | 1 => ("BargeChess", "trial", "LBargeChess$Game;", true)
  | 2 => ("BargeChess", "saved", "LBargeChess$Game;", true)
  | 3 => ("BargeChess", "hasSaved", "Z", false)
  | 4 => ("BargeChess", "past", "LBargeChess$Past;", true)
  | 5 => ("BargeChess", "text", "LBargeChess$MoveText;", true)
  | 6 => ("BargeChess", "lastRefusal", "LBargeChess$Refusal;", true)
  | 7 => ("BargeChess", "line", "[I", true)
  | _ => ("BargeChess", "lineLength", "I", false)
def tyX6 : Nat → FieldType := fun k => match k with
  | 0 => .object "BargeChess$Game"
  | 1 => .object "BargeChess$Game"
  | 2 => .object "BargeChess$Game"
  | 3 => .boolean
  | 4 => .object "BargeChess$Past"
  | 5 => .object "BargeChess$MoveText"
  | 6 => .object "BargeChess$Refusal"
  | 7 => .array .int
  | _ => .int
abbrev wsX60 : List Cond := u_ws RX6 TX6 9
theorem nmX6 : ∀ a, a < 9 → ∀ b, b < 9 → a ≠ b → (TX6 a).2.1 ≠ (TX6 b).2.1 := by decide +kernel
theorem tyX6_ok : ∀ k, k < 9 → parseFieldDescriptor (TX6 k).2.2.1 = some (tyX6 k) := by decide +kernel
abbrev cX6_init : ByteArray := prog_1_method_1_code
def yX6_init : MethodName := ⟨RX6, "<init>", "()V"⟩
abbrev cX6_put : ByteArray := prog_1_method_2_code
def yX6_put : MethodName := ⟨RX6, "put", "(III)I"⟩
abbrev cX6_lock : ByteArray := prog_1_method_3_code
def yX6_lock : MethodName := ⟨RX6, "lock", "(II)I"⟩
abbrev cX6_begin : ByteArray := prog_1_method_4_code
def yX6_begin : MethodName := ⟨RX6, "begin", "()I"⟩
abbrev cX6_move : ByteArray := prog_1_method_5_code
def yX6_move : MethodName := ⟨RX6, "move", "(II)I"⟩
abbrev cX6_squareOf : ByteArray := prog_1_method_6_code
def yX6_squareOf : MethodName := ⟨RX6, "squareOf", "(II)I"⟩
abbrev cX6_lockOf : ByteArray := prog_1_method_7_code
def yX6_lockOf : MethodName := ⟨RX6, "lockOf", "(II)I"⟩
abbrev cX6_sideOf : ByteArray := prog_1_method_8_code
def yX6_sideOf : MethodName := ⟨RX6, "sideOf", "(II)I"⟩
abbrev cX6_moves : ByteArray := prog_1_method_9_code
def yX6_moves : MethodName := ⟨RX6, "moves", "()I"⟩
abbrev cX6_movesAgain : ByteArray := prog_1_method_10_code
def yX6_movesAgain : MethodName := ⟨RX6, "movesAgain", "()I"⟩
abbrev cX6_moveAt : ByteArray := prog_1_method_11_code
def yX6_moveAt : MethodName := ⟨RX6, "moveAt", "(I)I"⟩
abbrev cX6_repeats : ByteArray := prog_1_method_12_code
def yX6_repeats : MethodName := ⟨RX6, "repeats", "()I"⟩
abbrev cX6_mostRepeats : ByteArray := prog_1_method_13_code
def yX6_mostRepeats : MethodName := ⟨RX6, "mostRepeats", "()I"⟩
abbrev cX6_wouldPush : ByteArray := prog_1_method_14_code
def yX6_wouldPush : MethodName := ⟨RX6, "wouldPush", "(II)I"⟩
abbrev cX6_firstTake : ByteArray := prog_1_method_15_code
def yX6_firstTake : MethodName := ⟨RX6, "firstTake", "()I"⟩
abbrev cX6_ways : ByteArray := prog_1_method_16_code
def yX6_ways : MethodName := ⟨RX6, "ways", "(I)I"⟩
abbrev cX6_turnsIn : ByteArray := prog_1_method_17_code
def yX6_turnsIn : MethodName := ⟨RX6, "turnsIn", "(I)I"⟩
abbrev cX6_tideIn : ByteArray := prog_1_method_18_code
def yX6_tideIn : MethodName := ⟨RX6, "tideIn", "(I)I"⟩
abbrev cX6_describe : ByteArray := prog_1_method_19_code
def yX6_describe : MethodName := ⟨RX6, "describe", "(I)I"⟩
abbrev cX6_sign : ByteArray := prog_1_method_20_code
def yX6_sign : MethodName := ⟨RX6, "sign", "(I)I"⟩
abbrev cX6_append : ByteArray := prog_1_method_21_code
def yX6_append : MethodName := ⟨RX6, "append", "(I)I"⟩
abbrev cX6_read : ByteArray := prog_1_method_22_code
def yX6_read : MethodName := ⟨RX6, "read", "()I"⟩
abbrev cX6_refusal : ByteArray := prog_1_method_23_code
def yX6_refusal : MethodName := ⟨RX6, "refusal", "(I)I"⟩
abbrev cX6_account : ByteArray := prog_1_method_24_code
def yX6_account : MethodName := ⟨RX6, "account", "(I)I"⟩
abbrev cX6_mean : ByteArray := prog_1_method_25_code
def yX6_mean : MethodName := ⟨RX6, "mean", "()I"⟩
abbrev cX6_undo : ByteArray := prog_1_method_26_code
def yX6_undo : MethodName := ⟨RX6, "undo", "()I"⟩
abbrev cX6_save : ByteArray := prog_1_method_27_code
def yX6_save : MethodName := ⟨RX6, "save", "()I"⟩
abbrev cX6_restore : ByteArray := prog_1_method_28_code
def yX6_restore : MethodName := ⟨RX6, "restore", "()I"⟩
abbrev cX6_refuse : ByteArray := prog_1_method_29_code
def yX6_refuse : MethodName := ⟨RX6, "refuse", "(III)I"⟩
abbrev cX6_buildingError : ByteArray := prog_1_method_30_code
def yX6_buildingError : MethodName := ⟨RX6, "buildingError", "(III)I"⟩
abbrev cX6_moveError : ByteArray := prog_1_method_31_code
def yX6_moveError : MethodName := ⟨RX6, "moveError", "(LBargeChess$Game;III)I"⟩
abbrev cX6_isSquare : ByteArray := prog_1_method_32_code
def yX6_isSquare : MethodName := ⟨RX6, "isSquare", "(I)Z"⟩
abbrev cX6_isSide : ByteArray := prog_1_method_33_code
def yX6_isSide : MethodName := ⟨RX6, "isSide", "(I)Z"⟩
abbrev cX6_isDirection : ByteArray := prog_1_method_34_code
def yX6_isDirection : MethodName := ⟨RX6, "isDirection", "(I)Z"⟩
abbrev cX6_orNothing : ByteArray := prog_1_method_35_code
def yX6_orNothing : MethodName := ⟨RX6, "orNothing", "(I)I"⟩
abbrev cX6_otherSide : ByteArray := prog_1_method_36_code
def yX6_otherSide : MethodName := ⟨RX6, "otherSide", "(I)I"⟩
abbrev cX6_ownerOf : ByteArray := prog_1_method_37_code
def yX6_ownerOf : MethodName := ⟨RX6, "ownerOf", "(I)I"⟩
abbrev cX6_isTug : ByteArray := prog_1_method_38_code
def yX6_isTug : MethodName := ⟨RX6, "isTug", "(I)Z"⟩
abbrev cX6_goes : ByteArray := prog_1_method_39_code
def yX6_goes : MethodName := ⟨RX6, "goes", "(II)Z"⟩
abbrev cX6_strengthOf : ByteArray := prog_1_method_40_code
def yX6_strengthOf : MethodName := ⟨RX6, "strengthOf", "(I)I"⟩
abbrev cX6_lastRowOf : ByteArray := prog_1_method_41_code
def yX6_lastRowOf : MethodName := ⟨RX6, "lastRowOf", "(I)I"⟩
abbrev cX6_stepOf : ByteArray := prog_1_method_42_code
def yX6_stepOf : MethodName := ⟨RX6, "stepOf", "(I)I"⟩
abbrev cX6_roomFrom : ByteArray := prog_1_method_43_code
def yX6_roomFrom : MethodName := ⟨RX6, "roomFrom", "(II)I"⟩
abbrev cX6_ahead : ByteArray := prog_1_method_44_code
def yX6_ahead : MethodName := ⟨RX6, "ahead", "(III)I"⟩
abbrev cX6_fromEnd : ByteArray := prog_1_method_45_code
def yX6_fromEnd : MethodName := ⟨RX6, "fromEnd", "(III)I"⟩
abbrev cX6_bitsOf : ByteArray := prog_1_method_46_code
def yX6_bitsOf : MethodName := ⟨RX6, "bitsOf", "(F)I"⟩
def RX7 : String := "BargeChessModel"
def TX7 : u_T := fun k => match k with
  | 0 => ("BargeChessModel", "g", "[I", true)
  | 1 => ("BargeChessModel", "kept", "[I", true)
  | 2 => ("BargeChessModel", "saved", "[I", true)
  | 3 => ("BargeChessModel", "before", "[I", true)
  | 4 => ("BargeChessModel", "spare", "[I", true)
  | 5 => ("BargeChessModel", "isSaved", "Z", false)
  | 6 => ("BargeChessModel", "changes", "I", false)
  | 7 => ("BargeChessModel", "isWithin", "Z", false)
  | 8 => ("BargeChessModel", "why", "I", false)
  | 9 => ("BargeChessModel", "detail", "I", false)
  | 10 => ("BargeChessModel", "command", "I", false)
  | 11 => ("BargeChessModel", "cause", "I", false)
  | 12 => ("BargeChessModel", "causeDetail", "I", false)
  | 13 => ("BargeChessModel", "input", "[I", true)
  | 14 => ("BargeChessModel", "length", "I", false)
  | 15 => ("BargeChessModel", "signs", "[C", true)
  | 16 => ("BargeChessModel", "signMany", "I", false)
  | 17 => ("BargeChessModel", "at", "I", false)
  | 18 => ("BargeChessModel", "told", "[I", true)
  | _ => ("BargeChessModel", "toldMany", "I", false)
def tyX7 : Nat → FieldType := fun k => match k with
  | 0 => .array .int
  | 1 => .array .int
  | 2 => .array .int
  | 3 => .array .int
  | 4 => .array .int
  | 5 => .boolean
  | 6 => .int
  | 7 => .boolean
  | 8 => .int
  | 9 => .int
  | 10 => .int
  | 11 => .int
  | 12 => .int
  | 13 => .array .int
  | 14 => .int
  | 15 => .array .char
  | 16 => .int
  | 17 => .int
  | 18 => .array .int
  | _ => .int
abbrev wsX70 : List Cond := u_ws RX7 TX7 20
theorem nmX7 : ∀ a, a < 20 → ∀ b, b < 20 → a ≠ b → (TX7 a).2.1 ≠ (TX7 b).2.1 := by decide +kernel
theorem tyX7_ok : ∀ k, k < 20 → parseFieldDescriptor (TX7 k).2.2.1 = some (tyX7 k) := by decide +kernel
abbrev cX7_init : ByteArray := prog_9_method_1_code
def yX7_init : MethodName := ⟨RX7, "<init>", "()V"⟩
abbrev cX7_refuses : ByteArray := prog_9_method_2_code
def yX7_refuses : MethodName := ⟨RX7, "refuses", "(II)I"⟩
abbrev cX7_in : ByteArray := prog_9_method_3_code
def yX7_in : MethodName := ⟨RX7, "in", "(III)Z"⟩
abbrev cX7_isSquare : ByteArray := prog_9_method_4_code
def yX7_isSquare : MethodName := ⟨RX7, "isSquare", "(I)Z"⟩
abbrev cX7_copies : ByteArray := prog_9_method_5_code
def yX7_copies : MethodName := ⟨RX7, "copies", "([II[II)V"⟩
abbrev cX7_keeps : ByteArray := prog_9_method_6_code
def yX7_keeps : MethodName := ⟨RX7, "keeps", "([I)V"⟩
abbrev cX7_pieceAt : ByteArray := prog_9_method_7_code
def yX7_pieceAt : MethodName := ⟨RX7, "pieceAt", "(I)I"⟩
abbrev cX7_sideAt : ByteArray := prog_9_method_8_code
def yX7_sideAt : MethodName := ⟨RX7, "sideAt", "(I)I"⟩
abbrev cX7_kindAt : ByteArray := prog_9_method_9_code
def yX7_kindAt : MethodName := ⟨RX7, "kindAt", "(I)I"⟩
abbrev cX7_ofLock : ByteArray := prog_9_method_10_code
def yX7_ofLock : MethodName := ⟨RX7, "ofLock", "(II)I"⟩
abbrev cX7_lockAt : ByteArray := prog_9_method_11_code
def yX7_lockAt : MethodName := ⟨RX7, "lockAt", "(I)I"⟩
abbrev cX7_isClosed : ByteArray := prog_9_method_12_code
def yX7_isClosed : MethodName := ⟨RX7, "isClosed", "(I)Z"⟩
abbrev cX7_countOf : ByteArray := prog_9_method_13_code
def yX7_countOf : MethodName := ⟨RX7, "countOf", "(II)I"⟩
abbrev cX7_pieces : ByteArray := prog_9_method_14_code
def yX7_pieces : MethodName := ⟨RX7, "pieces", "(I)I"⟩
abbrev cX7_cannotBuild : ByteArray := prog_9_method_15_code
def yX7_cannotBuild : MethodName := ⟨RX7, "cannotBuild", "(I)Z"⟩
abbrev cX7_put : ByteArray := prog_9_method_16_code
def yX7_put : MethodName := ⟨RX7, "put", "(III)I"⟩
abbrev cX7_lock : ByteArray := prog_9_method_17_code
def yX7_lock : MethodName := ⟨RX7, "lock", "(II)I"⟩
abbrev cX7_begin : ByteArray := prog_9_method_18_code
def yX7_begin : MethodName := ⟨RX7, "begin", "()I"⟩
abbrev cX7_beside : ByteArray := prog_9_method_19_code
def yX7_beside : MethodName := ⟨RX7, "beside", "(II)I"⟩
abbrev cX7_lineFrom : ByteArray := prog_9_method_20_code
def yX7_lineFrom : MethodName := ⟨RX7, "lineFrom", "(II)I"⟩
abbrev cX7_endOf : ByteArray := prog_9_method_21_code
def yX7_endOf : MethodName := ⟨RX7, "endOf", "(II)I"⟩
abbrev cX7_goes : ByteArray := prog_9_method_22_code
def yX7_goes : MethodName := ⟨RX7, "goes", "(II)Z"⟩
abbrev cX7_against : ByteArray := prog_9_method_23_code
def yX7_against : MethodName := ⟨RX7, "against", "(II)I"⟩
abbrev cX7_againstDetail : ByteArray := prog_9_method_24_code
def yX7_againstDetail : MethodName := ⟨RX7, "againstDetail", "(II)I"⟩
abbrev cX7_shifts : ByteArray := prog_9_method_25_code
def yX7_shifts : MethodName := ⟨RX7, "shifts", "(II)V"⟩
abbrev cX7_pushes : ByteArray := prog_9_method_26_code
def yX7_pushes : MethodName := ⟨RX7, "pushes", "(III)V"⟩
abbrev cX7_locksTurn : ByteArray := prog_9_method_27_code
def yX7_locksTurn : MethodName := ⟨RX7, "locksTurn", "()V"⟩
abbrev cX7_carries : ByteArray := prog_9_method_28_code
def yX7_carries : MethodName := ⟨RX7, "carries", "(II)V"⟩
abbrev cX7_tides : ByteArray := prog_9_method_29_code
def yX7_tides : MethodName := ⟨RX7, "tides", "()V"⟩
abbrev cX7_boardPart : ByteArray := prog_9_method_30_code
def yX7_boardPart : MethodName := ⟨RX7, "boardPart", "(I)I"⟩
abbrev cX7_restPart : ByteArray := prog_9_method_31_code
def yX7_restPart : MethodName := ⟨RX7, "restPart", "()I"⟩
abbrev cX7_position : ByteArray := prog_9_method_32_code
def yX7_position : MethodName := ⟨RX7, "position", "()I"⟩
abbrev cX7_looks : ByteArray := prog_9_method_33_code
def yX7_looks : MethodName := ⟨RX7, "looks", "()I"⟩
abbrev cX7_makes : ByteArray := prog_9_method_34_code
def yX7_makes : MethodName := ⟨RX7, "makes", "(II)I"⟩
abbrev cX7_move : ByteArray := prog_9_method_35_code
def yX7_move : MethodName := ⟨RX7, "move", "(II)I"⟩
abbrev cX7_squareOf : ByteArray := prog_9_method_36_code
def yX7_squareOf : MethodName := ⟨RX7, "squareOf", "(II)I"⟩
abbrev cX7_lockOf : ByteArray := prog_9_method_37_code
def yX7_lockOf : MethodName := ⟨RX7, "lockOf", "(II)I"⟩
abbrev cX7_sideOf : ByteArray := prog_9_method_38_code
def yX7_sideOf : MethodName := ⟨RX7, "sideOf", "(II)I"⟩
abbrev cX7_goesOn : ByteArray := prog_9_method_39_code
def yX7_goesOn : MethodName := ⟨RX7, "goesOn", "()Z"⟩
abbrev cX7_isMove : ByteArray := prog_9_method_40_code
def yX7_isMove : MethodName := ⟨RX7, "isMove", "(II)Z"⟩
abbrev cX7_moves : ByteArray := prog_9_method_41_code
def yX7_moves : MethodName := ⟨RX7, "moves", "()I"⟩
abbrev cX7_movesAgain : ByteArray := prog_9_method_42_code
def yX7_movesAgain : MethodName := ⟨RX7, "movesAgain", "()I"⟩
abbrev cX7_moveAt : ByteArray := prog_9_method_43_code
def yX7_moveAt : MethodName := ⟨RX7, "moveAt", "(I)I"⟩
abbrev cX7_repeats : ByteArray := prog_9_method_44_code
def yX7_repeats : MethodName := ⟨RX7, "repeats", "()I"⟩
abbrev cX7_mostRepeats : ByteArray := prog_9_method_45_code
def yX7_mostRepeats : MethodName := ⟨RX7, "mostRepeats", "()I"⟩
abbrev cX7_wouldPush : ByteArray := prog_9_method_46_code
def yX7_wouldPush : MethodName := ⟨RX7, "wouldPush", "(II)I"⟩
abbrev cX7_isTake : ByteArray := prog_9_method_47_code
def yX7_isTake : MethodName := ⟨RX7, "isTake", "(II)Z"⟩
abbrev cX7_firstTake : ByteArray := prog_9_method_48_code
def yX7_firstTake : MethodName := ⟨RX7, "firstTake", "()I"⟩
abbrev cX7_ways : ByteArray := prog_9_method_49_code
def yX7_ways : MethodName := ⟨RX7, "ways", "(I)I"⟩
abbrev cX7_turnsIn : ByteArray := prog_9_method_50_code
def yX7_turnsIn : MethodName := ⟨RX7, "turnsIn", "(I)I"⟩
abbrev cX7_tideIn : ByteArray := prog_9_method_51_code
def yX7_tideIn : MethodName := ⟨RX7, "tideIn", "(I)I"⟩
abbrev cX7_describe : ByteArray := prog_9_method_52_code
def yX7_describe : MethodName := ⟨RX7, "describe", "(I)I"⟩
abbrev cX7_sign : ByteArray := prog_9_method_53_code
def yX7_sign : MethodName := ⟨RX7, "sign", "(I)I"⟩
abbrev cX7_append : ByteArray := prog_9_method_54_code
def yX7_append : MethodName := ⟨RX7, "append", "(I)I"⟩
abbrev cX7_here : ByteArray := prog_9_method_55_code
def yX7_here : MethodName := ⟨RX7, "here", "()I"⟩
abbrev cX7_moveHere : ByteArray := prog_9_method_56_code
def yX7_moveHere : MethodName := ⟨RX7, "moveHere", "()Z"⟩
abbrev cX7_isText : ByteArray := prog_9_method_57_code
def yX7_isText : MethodName := ⟨RX7, "isText", "()Z"⟩
abbrev cX7_read : ByteArray := prog_9_method_58_code
def yX7_read : MethodName := ⟨RX7, "read", "()I"⟩
abbrev cX7_refusal : ByteArray := prog_9_method_59_code
def yX7_refusal : MethodName := ⟨RX7, "refusal", "(I)I"⟩
abbrev cX7_closedMany : ByteArray := prog_9_method_60_code
def yX7_closedMany : MethodName := ⟨RX7, "closedMany", "()I"⟩
abbrev cX7_turnedAll : ByteArray := prog_9_method_61_code
def yX7_turnedAll : MethodName := ⟨RX7, "turnedAll", "()I"⟩
abbrev cX7_account : ByteArray := prog_9_method_62_code
def yX7_account : MethodName := ⟨RX7, "account", "(I)I"⟩
abbrev cX7_mean : ByteArray := prog_9_method_63_code
def yX7_mean : MethodName := ⟨RX7, "mean", "()I"⟩
abbrev cX7_undo : ByteArray := prog_9_method_64_code
def yX7_undo : MethodName := ⟨RX7, "undo", "()I"⟩
abbrev cX7_save : ByteArray := prog_9_method_65_code
def yX7_save : MethodName := ⟨RX7, "save", "()I"⟩
abbrev cX7_restore : ByteArray := prog_9_method_66_code
def yX7_restore : MethodName := ⟨RX7, "restore", "()I"⟩
def RJxf58ca : String := "java/lang/Float"
def TJxf58ca : u_T := fun k => match k with
  | _ => ("", "", "", false)
def tyJxf58ca : Nat → FieldType := fun k => match k with
  | _ => .int
abbrev wsJxf58ca0 : List Cond := u_ws RJxf58ca TJxf58ca 0
theorem nmJxf58ca : ∀ a, a < 0 → ∀ b, b < 0 → a ≠ b → (TJxf58ca a).2.1 ≠ (TJxf58ca b).2.1 := by decide +kernel
theorem tyJxf58ca_ok : ∀ k, k < 0 → parseFieldDescriptor (TJxf58ca k).2.2.1 = some (tyJxf58ca k) := by decide +kernel
abbrev cJxf58ca_isNaN_12338 : ByteArray := prog_10_method_6_code
def yJxf58ca_isNaN_12338 : MethodName := ⟨RJxf58ca, "isNaN", "(F)Z"⟩
abbrev cJxf58ca_floatToIntBits_5c35a : ByteArray := prog_10_method_24_code
def yJxf58ca_floatToIntBits_5c35a : MethodName := ⟨RJxf58ca, "floatToIntBits", "(F)I"⟩
def RJ9 : String := "java/lang/Math"
def TJ9 : u_T := fun k => match k with
  | _ => ("", "", "", false)
def tyJ9 : Nat → FieldType := fun k => match k with
  | _ => .int
abbrev wsJ90 : List Cond := u_ws RJ9 TJ9 0
theorem nmJ9 : ∀ a, a < 0 → ∀ b, b < 0 → a ≠ b → (TJ9 a).2.1 ≠ (TJ9 b).2.1 := by decide +kernel
theorem tyJ9_ok : ∀ k, k < 0 → parseFieldDescriptor (TJ9 k).2.2.1 = some (tyJ9 k) := by decide +kernel
abbrev cJ9_max_7cf53 : ByteArray := prog_11_method_65_code
def yJ9_max_7cf53 : MethodName := ⟨RJ9, "max", "(II)I"⟩
abbrev cJ9_min_7cf53 : ByteArray := prog_11_method_69_code
def yJ9_min_7cf53 : MethodName := ⟨RJ9, "min", "(II)I"⟩
def RJ0 : String := "java/lang/String"
def TJ0 : u_T := fun k => match k with
  | _ => ("", "", "", false)
def tyJ0 : Nat → FieldType := fun k => match k with
  | _ => .int
abbrev wsJ00 : List Cond := u_ws RJ0 TJ0 0
theorem nmJ0 : ∀ a, a < 0 → ∀ b, b < 0 → a ≠ b → (TJ0 a).2.1 ≠ (TJ0 b).2.1 := by decide +kernel
theorem tyJ0_ok : ∀ k, k < 0 → parseFieldDescriptor (TJ0 k).2.2.1 = some (tyJ0 k) := by decide +kernel
abbrev cJ0_charAt_5068e : ByteArray := prog_12_method_56_code
def yJ0_charAt_5068e : MethodName := ⟨RJ0, "charAt", "(I)C"⟩
abbrev cJ0_isLatin1_aae02 : ByteArray := prog_12_method_154_code
def yJ0_isLatin1_aae02 : MethodName := ⟨RJ0, "isLatin1", "()Z"⟩
abbrev cJ0_checkIndex_df160 : ByteArray := prog_12_method_155_code
def yJ0_checkIndex_df160 : MethodName := ⟨RJ0, "checkIndex", "(II)V"⟩
def RJ1 : String := "java/lang/StringLatin1"
def TJ1 : u_T := fun k => match k with
  | _ => ("", "", "", false)
def tyJ1 : Nat → FieldType := fun k => match k with
  | _ => .int
abbrev wsJ10 : List Cond := u_ws RJ1 TJ1 0
theorem nmJ1 : ∀ a, a < 0 → ∀ b, b < 0 → a ≠ b → (TJ1 a).2.1 ≠ (TJ1 b).2.1 := by decide +kernel
theorem tyJ1_ok : ∀ k, k < 0 → parseFieldDescriptor (TJ1 k).2.2.1 = some (tyJ1 k) := by decide +kernel
abbrev cJ1_charAt_3b067 : ByteArray := prog_13_method_2_code
def yJ1_charAt_3b067 : MethodName := ⟨RJ1, "charAt", "([BI)C"⟩
def RJ2 : String := "java/lang/StringUTF16"
def TJ2 : u_T := fun k => match k with
  | _ => ("", "", "", false)
def tyJ2 : Nat → FieldType := fun k => match k with
  | _ => .int
abbrev wsJ20 : List Cond := u_ws RJ2 TJ2 0
theorem nmJ2 : ∀ a, a < 0 → ∀ b, b < 0 → a ≠ b → (TJ2 a).2.1 ≠ (TJ2 b).2.1 := by decide +kernel
theorem tyJ2_ok : ∀ k, k < 0 → parseFieldDescriptor (TJ2 k).2.2.1 = some (tyJ2 k) := by decide +kernel
abbrev cJ2_getChar_3b067 : ByteArray := prog_14_method_5_code
def yJ2_getChar_3b067 : MethodName := ⟨RJ2, "getChar", "([BI)C"⟩
abbrev cJ2_length_9d52b : ByteArray := prog_14_method_6_code
def yJ2_length_9d52b : MethodName := ⟨RJ2, "length", "([B)I"⟩
abbrev cJ2_charAt_3b067 : ByteArray := prog_14_method_83_code
def yJ2_charAt_3b067 : MethodName := ⟨RJ2, "charAt", "([BI)C"⟩
abbrev cJ2_checkIndex_2214a : ByteArray := prog_14_method_91_code
def yJ2_checkIndex_2214a : MethodName := ⟨RJ2, "checkIndex", "(I[B)V"⟩
def RJ3 : String := "jdk/internal/util/Preconditions"
def TJ3 : u_T := fun k => match k with
  | _ => ("", "", "", false)
def tyJ3 : Nat → FieldType := fun k => match k with
  | _ => .int
abbrev wsJ30 : List Cond := u_ws RJ3 TJ3 0
theorem nmJ3 : ∀ a, a < 0 → ∀ b, b < 0 → a ≠ b → (TJ3 a).2.1 ≠ (TJ3 b).2.1 := by decide +kernel
theorem tyJ3_ok : ∀ k, k < 0 → parseFieldDescriptor (TJ3 k).2.2.1 = some (tyJ3 k) := by decide +kernel
abbrev cJ3_checkIndex_8e157 : ByteArray := prog_15_method_11_code
def yJ3_checkIndex_8e157 : MethodName := ⟨RJ3, "checkIndex", "(IILjava/util/function/BiFunction;)I"⟩
def RL : String := "BargeChessLaw"
abbrev cL_law : ByteArray := code
def yL_law : MethodName := ⟨RL, "law", "([I)Z"⟩
abbrev vwCl : List vw_C := [(RX0, TX0, 6), (RX1, TX1, 9), (RX2, TX2, 3), (RX3, TX3, 5), (RX4, TX4, 3), (RX5, TX5, 5), (RX6, TX6, 9), (RX7, TX7, 20)]
/-! the methods by number: as ag_Ms -/
def sg_y : List MethodName := [yX0_init, yX0_copyBoard, yX0_pieceAt, yX0_setPiece, yX0_countOf, yX0_tugsOf, yX0_hasLock, yX0_lockAt, yX0_isClosed, yX0_buildLock, yX0_turnLocks, yX0_closedLocks, yX0_allLockTurns, yX0_standing, yX0_causeAgainst, yX0_causeDetail, yX0_pushedOff, yX0_countMoves, yX0_movesInLane, yX0_promote, yX0_shift, yX0_carryRiver, yX0_drift, yX0_signOf, yX0_halfKey, yX0_closedKey, yX1_init, yX1_copyFrom, yX1_sideToMove, yX1_tide, yX1_goesOn, yX1_openMoves, yX1_allows, yX1_startPlay, yX1_carryOut, yX1_carryByTide, yX1_recordPosition, yX1_settleEnding, yX2_init, yX2_copyHistory, yX2_addPosition, yX2_timesOfLatest, yX2_timesUpTo, yX2_mostTimes, yX2_different, yX3_init, yX3_addCharacter, yX3_clear, yX3_parse, yX3_addMove, yX3_directionOf, yX4_init, yX4_gameAt, yX4_keep, yX4_bringBack, yX4_forget, yX5_init, yX5_note, yX5_noteCause, yX6_init, yX6_put, yX6_lock, yX6_begin, yX6_move, yX6_squareOf, yX6_lockOf, yX6_sideOf, yX6_moves, yX6_movesAgain, yX6_moveAt, yX6_repeats, yX6_mostRepeats, yX6_wouldPush, yX6_firstTake, yX6_ways, yX6_turnsIn, yX6_tideIn, yX6_describe, yX6_sign, yX6_append, yX6_read, yX6_refusal, yX6_account, yX6_mean, yX6_undo, yX6_save, yX6_restore, yX6_refuse, yX6_buildingError, yX6_moveError, yX6_isSquare, yX6_isSide, yX6_isDirection, yX6_orNothing, yX6_otherSide, yX6_ownerOf, yX6_isTug, yX6_goes, yX6_strengthOf, yX6_lastRowOf, yX6_stepOf, yX6_roomFrom, yX6_ahead, yX6_fromEnd, yX6_bitsOf, yX7_init, yX7_refuses, yX7_in, yX7_isSquare, yX7_copies, yX7_keeps, yX7_pieceAt, yX7_sideAt, yX7_kindAt, yX7_ofLock, yX7_lockAt, yX7_isClosed, yX7_countOf, yX7_pieces, yX7_cannotBuild, yX7_put, yX7_lock, yX7_begin, yX7_beside, yX7_lineFrom, yX7_endOf, yX7_goes, yX7_against, yX7_againstDetail, yX7_shifts, yX7_pushes, yX7_locksTurn, yX7_carries, yX7_tides, yX7_boardPart, yX7_restPart, yX7_position, yX7_looks, yX7_makes, yX7_move, yX7_squareOf, yX7_lockOf, yX7_sideOf, yX7_goesOn, yX7_isMove, yX7_moves, yX7_movesAgain, yX7_moveAt, yX7_repeats, yX7_mostRepeats, yX7_wouldPush, yX7_isTake, yX7_firstTake, yX7_ways, yX7_turnsIn, yX7_tideIn, yX7_describe, yX7_sign, yX7_append, yX7_here, yX7_moveHere, yX7_isText, yX7_read, yX7_refusal, yX7_closedMany, yX7_turnedAll, yX7_account, yX7_mean, yX7_undo, yX7_save, yX7_restore]
def sg_c : List ByteArray := [cX0_init, cX0_copyBoard, cX0_pieceAt, cX0_setPiece, cX0_countOf, cX0_tugsOf, cX0_hasLock, cX0_lockAt, cX0_isClosed, cX0_buildLock, cX0_turnLocks, cX0_closedLocks, cX0_allLockTurns, cX0_standing, cX0_causeAgainst, cX0_causeDetail, cX0_pushedOff, cX0_countMoves, cX0_movesInLane, cX0_promote, cX0_shift, cX0_carryRiver, cX0_drift, cX0_signOf, cX0_halfKey, cX0_closedKey, cX1_init, cX1_copyFrom, cX1_sideToMove, cX1_tide, cX1_goesOn, cX1_openMoves, cX1_allows, cX1_startPlay, cX1_carryOut, cX1_carryByTide, cX1_recordPosition, cX1_settleEnding, cX2_init, cX2_copyHistory, cX2_addPosition, cX2_timesOfLatest, cX2_timesUpTo, cX2_mostTimes, cX2_different, cX3_init, cX3_addCharacter, cX3_clear, cX3_parse, cX3_addMove, cX3_directionOf, cX4_init, cX4_gameAt, cX4_keep, cX4_bringBack, cX4_forget, cX5_init, cX5_note, cX5_noteCause, cX6_init, cX6_put, cX6_lock, cX6_begin, cX6_move, cX6_squareOf, cX6_lockOf, cX6_sideOf, cX6_moves, cX6_movesAgain, cX6_moveAt, cX6_repeats, cX6_mostRepeats, cX6_wouldPush, cX6_firstTake, cX6_ways, cX6_turnsIn, cX6_tideIn, cX6_describe, cX6_sign, cX6_append, cX6_read, cX6_refusal, cX6_account, cX6_mean, cX6_undo, cX6_save, cX6_restore, cX6_refuse, cX6_buildingError, cX6_moveError, cX6_isSquare, cX6_isSide, cX6_isDirection, cX6_orNothing, cX6_otherSide, cX6_ownerOf, cX6_isTug, cX6_goes, cX6_strengthOf, cX6_lastRowOf, cX6_stepOf, cX6_roomFrom, cX6_ahead, cX6_fromEnd, cX6_bitsOf, cX7_init, cX7_refuses, cX7_in, cX7_isSquare, cX7_copies, cX7_keeps, cX7_pieceAt, cX7_sideAt, cX7_kindAt, cX7_ofLock, cX7_lockAt, cX7_isClosed, cX7_countOf, cX7_pieces, cX7_cannotBuild, cX7_put, cX7_lock, cX7_begin, cX7_beside, cX7_lineFrom, cX7_endOf, cX7_goes, cX7_against, cX7_againstDetail, cX7_shifts, cX7_pushes, cX7_locksTurn, cX7_carries, cX7_tides, cX7_boardPart, cX7_restPart, cX7_position, cX7_looks, cX7_makes, cX7_move, cX7_squareOf, cX7_lockOf, cX7_sideOf, cX7_goesOn, cX7_isMove, cX7_moves, cX7_movesAgain, cX7_moveAt, cX7_repeats, cX7_mostRepeats, cX7_wouldPush, cX7_isTake, cX7_firstTake, cX7_ways, cX7_turnsIn, cX7_tideIn, cX7_describe, cX7_sign, cX7_append, cX7_here, cX7_moveHere, cX7_isText, cX7_read, cX7_refusal, cX7_closedMany, cX7_turnedAll, cX7_account, cX7_mean, cX7_undo, cX7_save, cX7_restore]
def sg_R : Nat → String := fun i => [RX0, RX1, RX2, RX3, RX4, RX5, RX6, RX7, RL].getD i RL
def sg_T : Nat → u_T := fun i => [TX0, TX1, TX2, TX3, TX4, TX5, TX6, TX7].getD i TX7
def sg_ty : Nat → Nat → FieldType := fun i => [tyX0, tyX1, tyX2, tyX3, tyX4, tyX5, tyX6, tyX7].getD i tyX7
def sg_dec (b : ByteArray) (l : List (Option (Instr × Nat))) : Bool := (l.zipIdx).all fun r => match r.1 with
  | some q => decide (decode b r.2 = .ok q)
  | none => true
theorem sg_dX0_init : sg_dec cX0_init ag_cX0_init = true := by decide +kernel
theorem sg_dX0_copyBoard : sg_dec cX0_copyBoard ag_cX0_copyBoard = true := by decide +kernel
theorem sg_dX0_pieceAt : sg_dec cX0_pieceAt ag_cX0_pieceAt = true := by decide +kernel
theorem sg_dX0_setPiece : sg_dec cX0_setPiece ag_cX0_setPiece = true := by decide +kernel
theorem sg_dX0_countOf : sg_dec cX0_countOf ag_cX0_countOf = true := by decide +kernel
theorem sg_dX0_tugsOf : sg_dec cX0_tugsOf ag_cX0_tugsOf = true := by decide +kernel
theorem sg_dX0_hasLock : sg_dec cX0_hasLock ag_cX0_hasLock = true := by decide +kernel
theorem sg_dX0_lockAt : sg_dec cX0_lockAt ag_cX0_lockAt = true := by decide +kernel
theorem sg_dX0_isClosed : sg_dec cX0_isClosed ag_cX0_isClosed = true := by decide +kernel
theorem sg_dX0_buildLock : sg_dec cX0_buildLock ag_cX0_buildLock = true := by decide +kernel
theorem sg_dX0_turnLocks : sg_dec cX0_turnLocks ag_cX0_turnLocks = true := by decide +kernel
theorem sg_dX0_closedLocks : sg_dec cX0_closedLocks ag_cX0_closedLocks = true := by decide +kernel
theorem sg_dX0_allLockTurns : sg_dec cX0_allLockTurns ag_cX0_allLockTurns = true := by decide +kernel
theorem sg_dX0_standing : sg_dec cX0_standing ag_cX0_standing = true := by decide +kernel
theorem sg_dX0_causeAgainst : sg_dec cX0_causeAgainst ag_cX0_causeAgainst = true := by decide +kernel
theorem sg_dX0_causeDetail : sg_dec cX0_causeDetail ag_cX0_causeDetail = true := by decide +kernel
theorem sg_dX0_pushedOff : sg_dec cX0_pushedOff ag_cX0_pushedOff = true := by decide +kernel
theorem sg_dX0_countMoves : sg_dec cX0_countMoves ag_cX0_countMoves = true := by decide +kernel
theorem sg_dX0_movesInLane : sg_dec cX0_movesInLane ag_cX0_movesInLane = true := by decide +kernel
theorem sg_dX0_promote : sg_dec cX0_promote ag_cX0_promote = true := by decide +kernel
theorem sg_dX0_shift : sg_dec cX0_shift ag_cX0_shift = true := by decide +kernel
theorem sg_dX0_carryRiver : sg_dec cX0_carryRiver ag_cX0_carryRiver = true := by decide +kernel
theorem sg_dX0_drift : sg_dec cX0_drift ag_cX0_drift = true := by decide +kernel
theorem sg_dX0_signOf : sg_dec cX0_signOf ag_cX0_signOf = true := by decide +kernel
theorem sg_dX0_halfKey : sg_dec cX0_halfKey ag_cX0_halfKey = true := by decide +kernel
theorem sg_dX0_closedKey : sg_dec cX0_closedKey ag_cX0_closedKey = true := by decide +kernel
theorem sg_dX1_init : sg_dec cX1_init ag_cX1_init = true := by decide +kernel
theorem sg_dX1_copyFrom : sg_dec cX1_copyFrom ag_cX1_copyFrom = true := by decide +kernel
theorem sg_dX1_sideToMove : sg_dec cX1_sideToMove ag_cX1_sideToMove = true := by decide +kernel
theorem sg_dX1_tide : sg_dec cX1_tide ag_cX1_tide = true := by decide +kernel
theorem sg_dX1_goesOn : sg_dec cX1_goesOn ag_cX1_goesOn = true := by decide +kernel
theorem sg_dX1_openMoves : sg_dec cX1_openMoves ag_cX1_openMoves = true := by decide +kernel
theorem sg_dX1_allows : sg_dec cX1_allows ag_cX1_allows = true := by decide +kernel
theorem sg_dX1_startPlay : sg_dec cX1_startPlay ag_cX1_startPlay = true := by decide +kernel
theorem sg_dX1_carryOut : sg_dec cX1_carryOut ag_cX1_carryOut = true := by decide +kernel
theorem sg_dX1_carryByTide : sg_dec cX1_carryByTide ag_cX1_carryByTide = true := by decide +kernel
theorem sg_dX1_recordPosition : sg_dec cX1_recordPosition ag_cX1_recordPosition = true := by decide +kernel
theorem sg_dX1_settleEnding : sg_dec cX1_settleEnding ag_cX1_settleEnding = true := by decide +kernel
theorem sg_dX2_init : sg_dec cX2_init ag_cX2_init = true := by decide +kernel
theorem sg_dX2_copyHistory : sg_dec cX2_copyHistory ag_cX2_copyHistory = true := by decide +kernel
theorem sg_dX2_addPosition : sg_dec cX2_addPosition ag_cX2_addPosition = true := by decide +kernel
theorem sg_dX2_timesOfLatest : sg_dec cX2_timesOfLatest ag_cX2_timesOfLatest = true := by decide +kernel
theorem sg_dX2_timesUpTo : sg_dec cX2_timesUpTo ag_cX2_timesUpTo = true := by decide +kernel
theorem sg_dX2_mostTimes : sg_dec cX2_mostTimes ag_cX2_mostTimes = true := by decide +kernel
theorem sg_dX2_different : sg_dec cX2_different ag_cX2_different = true := by decide +kernel
theorem sg_dX3_init : sg_dec cX3_init ag_cX3_init = true := by decide +kernel
theorem sg_dX3_addCharacter : sg_dec cX3_addCharacter ag_cX3_addCharacter = true := by decide +kernel
theorem sg_dX3_clear : sg_dec cX3_clear ag_cX3_clear = true := by decide +kernel
theorem sg_dX3_parse : sg_dec cX3_parse ag_cX3_parse = true := by decide +kernel
theorem sg_dX3_addMove : sg_dec cX3_addMove ag_cX3_addMove = true := by decide +kernel
theorem sg_dX3_directionOf : sg_dec cX3_directionOf ag_cX3_directionOf = true := by decide +kernel
theorem sg_dX4_init : sg_dec cX4_init ag_cX4_init = true := by decide +kernel
theorem sg_dX4_gameAt : sg_dec cX4_gameAt ag_cX4_gameAt = true := by decide +kernel
theorem sg_dX4_keep : sg_dec cX4_keep ag_cX4_keep = true := by decide +kernel
theorem sg_dX4_bringBack : sg_dec cX4_bringBack ag_cX4_bringBack = true := by decide +kernel
theorem sg_dX4_forget : sg_dec cX4_forget ag_cX4_forget = true := by decide +kernel
theorem sg_dX5_init : sg_dec cX5_init ag_cX5_init = true := by decide +kernel
theorem sg_dX5_note : sg_dec cX5_note ag_cX5_note = true := by decide +kernel
theorem sg_dX5_noteCause : sg_dec cX5_noteCause ag_cX5_noteCause = true := by decide +kernel
theorem sg_dX6_init : sg_dec cX6_init ag_cX6_init = true := by decide +kernel
theorem sg_dX6_put : sg_dec cX6_put ag_cX6_put = true := by decide +kernel
theorem sg_dX6_lock : sg_dec cX6_lock ag_cX6_lock = true := by decide +kernel
theorem sg_dX6_begin : sg_dec cX6_begin ag_cX6_begin = true := by decide +kernel
theorem sg_dX6_move : sg_dec cX6_move ag_cX6_move = true := by decide +kernel
theorem sg_dX6_squareOf : sg_dec cX6_squareOf ag_cX6_squareOf = true := by decide +kernel
theorem sg_dX6_lockOf : sg_dec cX6_lockOf ag_cX6_lockOf = true := by decide +kernel
theorem sg_dX6_sideOf : sg_dec cX6_sideOf ag_cX6_sideOf = true := by decide +kernel
theorem sg_dX6_moves : sg_dec cX6_moves ag_cX6_moves = true := by decide +kernel
theorem sg_dX6_movesAgain : sg_dec cX6_movesAgain ag_cX6_movesAgain = true := by decide +kernel
theorem sg_dX6_moveAt : sg_dec cX6_moveAt ag_cX6_moveAt = true := by decide +kernel
theorem sg_dX6_repeats : sg_dec cX6_repeats ag_cX6_repeats = true := by decide +kernel
theorem sg_dX6_mostRepeats : sg_dec cX6_mostRepeats ag_cX6_mostRepeats = true := by decide +kernel
theorem sg_dX6_wouldPush : sg_dec cX6_wouldPush ag_cX6_wouldPush = true := by decide +kernel
theorem sg_dX6_firstTake : sg_dec cX6_firstTake ag_cX6_firstTake = true := by decide +kernel
theorem sg_dX6_ways : sg_dec cX6_ways ag_cX6_ways = true := by decide +kernel
theorem sg_dX6_turnsIn : sg_dec cX6_turnsIn ag_cX6_turnsIn = true := by decide +kernel
theorem sg_dX6_tideIn : sg_dec cX6_tideIn ag_cX6_tideIn = true := by decide +kernel
theorem sg_dX6_describe : sg_dec cX6_describe ag_cX6_describe = true := by decide +kernel
theorem sg_dX6_sign : sg_dec cX6_sign ag_cX6_sign = true := by decide +kernel
theorem sg_dX6_append : sg_dec cX6_append ag_cX6_append = true := by decide +kernel
theorem sg_dX6_read : sg_dec cX6_read ag_cX6_read = true := by decide +kernel
theorem sg_dX6_refusal : sg_dec cX6_refusal ag_cX6_refusal = true := by decide +kernel
theorem sg_dX6_account : sg_dec cX6_account ag_cX6_account = true := by decide +kernel
theorem sg_dX6_mean : sg_dec cX6_mean ag_cX6_mean = true := by decide +kernel
theorem sg_dX6_undo : sg_dec cX6_undo ag_cX6_undo = true := by decide +kernel
theorem sg_dX6_save : sg_dec cX6_save ag_cX6_save = true := by decide +kernel
theorem sg_dX6_restore : sg_dec cX6_restore ag_cX6_restore = true := by decide +kernel
theorem sg_dX6_refuse : sg_dec cX6_refuse ag_cX6_refuse = true := by decide +kernel
theorem sg_dX6_buildingError : sg_dec cX6_buildingError ag_cX6_buildingError = true := by decide +kernel
theorem sg_dX6_moveError : sg_dec cX6_moveError ag_cX6_moveError = true := by decide +kernel
theorem sg_dX6_isSquare : sg_dec cX6_isSquare ag_cX6_isSquare = true := by decide +kernel
theorem sg_dX6_isSide : sg_dec cX6_isSide ag_cX6_isSide = true := by decide +kernel
theorem sg_dX6_isDirection : sg_dec cX6_isDirection ag_cX6_isDirection = true := by decide +kernel
theorem sg_dX6_orNothing : sg_dec cX6_orNothing ag_cX6_orNothing = true := by decide +kernel
theorem sg_dX6_otherSide : sg_dec cX6_otherSide ag_cX6_otherSide = true := by decide +kernel
theorem sg_dX6_ownerOf : sg_dec cX6_ownerOf ag_cX6_ownerOf = true := by decide +kernel
theorem sg_dX6_isTug : sg_dec cX6_isTug ag_cX6_isTug = true := by decide +kernel
theorem sg_dX6_goes : sg_dec cX6_goes ag_cX6_goes = true := by decide +kernel
theorem sg_dX6_strengthOf : sg_dec cX6_strengthOf ag_cX6_strengthOf = true := by decide +kernel
theorem sg_dX6_lastRowOf : sg_dec cX6_lastRowOf ag_cX6_lastRowOf = true := by decide +kernel
theorem sg_dX6_stepOf : sg_dec cX6_stepOf ag_cX6_stepOf = true := by decide +kernel
theorem sg_dX6_roomFrom : sg_dec cX6_roomFrom ag_cX6_roomFrom = true := by decide +kernel
theorem sg_dX6_ahead : sg_dec cX6_ahead ag_cX6_ahead = true := by decide +kernel
theorem sg_dX6_fromEnd : sg_dec cX6_fromEnd ag_cX6_fromEnd = true := by decide +kernel
theorem sg_dX6_bitsOf : sg_dec cX6_bitsOf ag_cX6_bitsOf = true := by decide +kernel
theorem sg_dX7_init : sg_dec cX7_init ag_cX7_init = true := by decide +kernel
theorem sg_dX7_refuses : sg_dec cX7_refuses ag_cX7_refuses = true := by decide +kernel
theorem sg_dX7_in : sg_dec cX7_in ag_cX7_in = true := by decide +kernel
theorem sg_dX7_isSquare : sg_dec cX7_isSquare ag_cX7_isSquare = true := by decide +kernel
theorem sg_dX7_copies : sg_dec cX7_copies ag_cX7_copies = true := by decide +kernel
theorem sg_dX7_keeps : sg_dec cX7_keeps ag_cX7_keeps = true := by decide +kernel
theorem sg_dX7_pieceAt : sg_dec cX7_pieceAt ag_cX7_pieceAt = true := by decide +kernel
theorem sg_dX7_sideAt : sg_dec cX7_sideAt ag_cX7_sideAt = true := by decide +kernel
theorem sg_dX7_kindAt : sg_dec cX7_kindAt ag_cX7_kindAt = true := by decide +kernel
theorem sg_dX7_ofLock : sg_dec cX7_ofLock ag_cX7_ofLock = true := by decide +kernel
theorem sg_dX7_lockAt : sg_dec cX7_lockAt ag_cX7_lockAt = true := by decide +kernel
theorem sg_dX7_isClosed : sg_dec cX7_isClosed ag_cX7_isClosed = true := by decide +kernel
theorem sg_dX7_countOf : sg_dec cX7_countOf ag_cX7_countOf = true := by decide +kernel
theorem sg_dX7_pieces : sg_dec cX7_pieces ag_cX7_pieces = true := by decide +kernel
theorem sg_dX7_cannotBuild : sg_dec cX7_cannotBuild ag_cX7_cannotBuild = true := by decide +kernel
theorem sg_dX7_put : sg_dec cX7_put ag_cX7_put = true := by decide +kernel
theorem sg_dX7_lock : sg_dec cX7_lock ag_cX7_lock = true := by decide +kernel
theorem sg_dX7_begin : sg_dec cX7_begin ag_cX7_begin = true := by decide +kernel
theorem sg_dX7_beside : sg_dec cX7_beside ag_cX7_beside = true := by decide +kernel
theorem sg_dX7_lineFrom : sg_dec cX7_lineFrom ag_cX7_lineFrom = true := by decide +kernel
theorem sg_dX7_endOf : sg_dec cX7_endOf ag_cX7_endOf = true := by decide +kernel
theorem sg_dX7_goes : sg_dec cX7_goes ag_cX7_goes = true := by decide +kernel
theorem sg_dX7_against : sg_dec cX7_against ag_cX7_against = true := by decide +kernel
theorem sg_dX7_againstDetail : sg_dec cX7_againstDetail ag_cX7_againstDetail = true := by decide +kernel
theorem sg_dX7_shifts : sg_dec cX7_shifts ag_cX7_shifts = true := by decide +kernel
theorem sg_dX7_pushes : sg_dec cX7_pushes ag_cX7_pushes = true := by decide +kernel
theorem sg_dX7_locksTurn : sg_dec cX7_locksTurn ag_cX7_locksTurn = true := by decide +kernel
theorem sg_dX7_carries : sg_dec cX7_carries ag_cX7_carries = true := by decide +kernel
theorem sg_dX7_tides : sg_dec cX7_tides ag_cX7_tides = true := by decide +kernel
theorem sg_dX7_boardPart : sg_dec cX7_boardPart ag_cX7_boardPart = true := by decide +kernel
theorem sg_dX7_restPart : sg_dec cX7_restPart ag_cX7_restPart = true := by decide +kernel
theorem sg_dX7_position : sg_dec cX7_position ag_cX7_position = true := by decide +kernel
theorem sg_dX7_looks : sg_dec cX7_looks ag_cX7_looks = true := by decide +kernel
theorem sg_dX7_makes : sg_dec cX7_makes ag_cX7_makes = true := by decide +kernel
theorem sg_dX7_move : sg_dec cX7_move ag_cX7_move = true := by decide +kernel
theorem sg_dX7_squareOf : sg_dec cX7_squareOf ag_cX7_squareOf = true := by decide +kernel
theorem sg_dX7_lockOf : sg_dec cX7_lockOf ag_cX7_lockOf = true := by decide +kernel
theorem sg_dX7_sideOf : sg_dec cX7_sideOf ag_cX7_sideOf = true := by decide +kernel
theorem sg_dX7_goesOn : sg_dec cX7_goesOn ag_cX7_goesOn = true := by decide +kernel
theorem sg_dX7_isMove : sg_dec cX7_isMove ag_cX7_isMove = true := by decide +kernel
theorem sg_dX7_moves : sg_dec cX7_moves ag_cX7_moves = true := by decide +kernel
theorem sg_dX7_movesAgain : sg_dec cX7_movesAgain ag_cX7_movesAgain = true := by decide +kernel
theorem sg_dX7_moveAt : sg_dec cX7_moveAt ag_cX7_moveAt = true := by decide +kernel
theorem sg_dX7_repeats : sg_dec cX7_repeats ag_cX7_repeats = true := by decide +kernel
theorem sg_dX7_mostRepeats : sg_dec cX7_mostRepeats ag_cX7_mostRepeats = true := by decide +kernel
theorem sg_dX7_wouldPush : sg_dec cX7_wouldPush ag_cX7_wouldPush = true := by decide +kernel
theorem sg_dX7_isTake : sg_dec cX7_isTake ag_cX7_isTake = true := by decide +kernel
theorem sg_dX7_firstTake : sg_dec cX7_firstTake ag_cX7_firstTake = true := by decide +kernel
theorem sg_dX7_ways : sg_dec cX7_ways ag_cX7_ways = true := by decide +kernel
theorem sg_dX7_turnsIn : sg_dec cX7_turnsIn ag_cX7_turnsIn = true := by decide +kernel
theorem sg_dX7_tideIn : sg_dec cX7_tideIn ag_cX7_tideIn = true := by decide +kernel
theorem sg_dX7_describe : sg_dec cX7_describe ag_cX7_describe = true := by decide +kernel
theorem sg_dX7_sign : sg_dec cX7_sign ag_cX7_sign = true := by decide +kernel
theorem sg_dX7_append : sg_dec cX7_append ag_cX7_append = true := by decide +kernel
theorem sg_dX7_here : sg_dec cX7_here ag_cX7_here = true := by decide +kernel
theorem sg_dX7_moveHere : sg_dec cX7_moveHere ag_cX7_moveHere = true := by decide +kernel
theorem sg_dX7_isText : sg_dec cX7_isText ag_cX7_isText = true := by decide +kernel
theorem sg_dX7_read : sg_dec cX7_read ag_cX7_read = true := by decide +kernel
theorem sg_dX7_refusal : sg_dec cX7_refusal ag_cX7_refusal = true := by decide +kernel
theorem sg_dX7_closedMany : sg_dec cX7_closedMany ag_cX7_closedMany = true := by decide +kernel
theorem sg_dX7_turnedAll : sg_dec cX7_turnedAll ag_cX7_turnedAll = true := by decide +kernel
theorem sg_dX7_account : sg_dec cX7_account ag_cX7_account = true := by decide +kernel
theorem sg_dX7_mean : sg_dec cX7_mean ag_cX7_mean = true := by decide +kernel
theorem sg_dX7_undo : sg_dec cX7_undo ag_cX7_undo = true := by decide +kernel
theorem sg_dX7_save : sg_dec cX7_save ag_cX7_save = true := by decide +kernel
theorem sg_dX7_restore : sg_dec cX7_restore ag_cX7_restore = true := by decide +kernel
theorem sg_dL_law : sg_dec cL_law ag_cL_law = true := by decide +kernel
