-- ===== PART A: goes FIRST, ahead of the names: the tables' words, and 'selects' of the private methods out of them =====
/-- a private method of a class that the tables say can be made, by its rows of tables_1 -/
def lw_okq (q : MethodName × Nat) : Prop := (q.1.cls ≠ "java/lang/invoke/MethodHandle" ∧ q.1.cls ≠ "java/lang/invoke/VarHandle") ∧ Cond.instantiable q.1.cls q.2 ∈ tables_1 ∧ Cond.privateMethod q.1 ∈ tables_1 ∧ Cond.instanceMethod q.1 ∈ tables_1
theorem lw_p0 : lw_okq (⟨"SpillJoin$Page", "isFull", "()Z"⟩, 2) := ⟨⟨by decide +kernel, by decide +kernel⟩, List.mem_of_getElem? (i := 27) (by decide +kernel), List.mem_of_getElem? (i := 221) (by decide +kernel), List.mem_of_getElem? (i := 222) (by decide +kernel)⟩
theorem lw_p1 : lw_okq (⟨"SpillJoin$Page", "add", "(I)V"⟩, 2) := ⟨⟨by decide +kernel, by decide +kernel⟩, List.mem_of_getElem? (i := 27) (by decide +kernel), List.mem_of_getElem? (i := 225) (by decide +kernel), List.mem_of_getElem? (i := 226) (by decide +kernel)⟩
theorem lw_p2 : lw_okq (⟨"SpillJoin$Page", "clear", "()V"⟩, 2) := ⟨⟨by decide +kernel, by decide +kernel⟩, List.mem_of_getElem? (i := 27) (by decide +kernel), List.mem_of_getElem? (i := 233) (by decide +kernel), List.mem_of_getElem? (i := 234) (by decide +kernel)⟩
theorem lw_p3 : lw_okq (⟨"SpillJoin$Page", "firstFault", "()I"⟩, 2) := ⟨⟨by decide +kernel, by decide +kernel⟩, List.mem_of_getElem? (i := 27) (by decide +kernel), List.mem_of_getElem? (i := 241) (by decide +kernel), List.mem_of_getElem? (i := 242) (by decide +kernel)⟩
theorem lw_p4 : lw_okq (⟨"SpillJoin$Page", "codeAt", "(I)I"⟩, 2) := ⟨⟨by decide +kernel, by decide +kernel⟩, List.mem_of_getElem? (i := 27) (by decide +kernel), List.mem_of_getElem? (i := 245) (by decide +kernel), List.mem_of_getElem? (i := 246) (by decide +kernel)⟩
theorem lw_p5 : lw_okq (⟨"SpillJoin$Page", "isWhole", "()Z"⟩, 2) := ⟨⟨by decide +kernel, by decide +kernel⟩, List.mem_of_getElem? (i := 27) (by decide +kernel), List.mem_of_getElem? (i := 350) (by decide +kernel), List.mem_of_getElem? (i := 351) (by decide +kernel)⟩
theorem lw_p6 : lw_okq (⟨"SpillJoin$Page", "secondMark", "()I"⟩, 2) := ⟨⟨by decide +kernel, by decide +kernel⟩, List.mem_of_getElem? (i := 27) (by decide +kernel), List.mem_of_getElem? (i := 355) (by decide +kernel), List.mem_of_getElem? (i := 356) (by decide +kernel)⟩
theorem lw_p7 : lw_okq (⟨"SpillJoin$Page", "readRows", "(LSpillJoin$Side;II)V"⟩, 2) := ⟨⟨by decide +kernel, by decide +kernel⟩, List.mem_of_getElem? (i := 27) (by decide +kernel), List.mem_of_getElem? (i := 362) (by decide +kernel), List.mem_of_getElem? (i := 363) (by decide +kernel)⟩
theorem lw_p8 : lw_okq (⟨"SpillJoin$Side", "clear", "()V"⟩, 2) := ⟨⟨by decide +kernel, by decide +kernel⟩, List.mem_of_getElem? (i := 54) (by decide +kernel), List.mem_of_getElem? (i := 366) (by decide +kernel), List.mem_of_getElem? (i := 367) (by decide +kernel)⟩
theorem lw_p9 : lw_okq (⟨"SpillJoin$Side", "add", "(I)V"⟩, 2) := ⟨⟨by decide +kernel, by decide +kernel⟩, List.mem_of_getElem? (i := 54) (by decide +kernel), List.mem_of_getElem? (i := 370) (by decide +kernel), List.mem_of_getElem? (i := 371) (by decide +kernel)⟩
theorem lw_p10 : lw_okq (⟨"SpillJoin$Seen", "clear", "()V"⟩, 2) := ⟨⟨by decide +kernel, by decide +kernel⟩, List.mem_of_getElem? (i := 169) (by decide +kernel), List.mem_of_getElem? (i := 374) (by decide +kernel), List.mem_of_getElem? (i := 375) (by decide +kernel)⟩
theorem lw_p11 : lw_okq (⟨"SpillJoin$Run", "clear", "(I)V"⟩, 5) := ⟨⟨by decide +kernel, by decide +kernel⟩, List.mem_of_getElem? (i := 42) (by decide +kernel), List.mem_of_getElem? (i := 378) (by decide +kernel), List.mem_of_getElem? (i := 379) (by decide +kernel)⟩
theorem lw_p12 : lw_okq (⟨"SpillJoin$Output", "clear", "(I)V"⟩, 5) := ⟨⟨by decide +kernel, by decide +kernel⟩, List.mem_of_getElem? (i := 90) (by decide +kernel), List.mem_of_getElem? (i := 382) (by decide +kernel), List.mem_of_getElem? (i := 383) (by decide +kernel)⟩
theorem lw_p13 : lw_okq (⟨"SpillJoin$Log", "clear", "()V"⟩, 8) := ⟨⟨by decide +kernel, by decide +kernel⟩, List.mem_of_getElem? (i := 116) (by decide +kernel), List.mem_of_getElem? (i := 386) (by decide +kernel), List.mem_of_getElem? (i := 387) (by decide +kernel)⟩
theorem lw_p14 : lw_okq (⟨"SpillJoin$Tables", "size", "()I"⟩, 4) := ⟨⟨by decide +kernel, by decide +kernel⟩, List.mem_of_getElem? (i := 48) (by decide +kernel), List.mem_of_getElem? (i := 393) (by decide +kernel), List.mem_of_getElem? (i := 394) (by decide +kernel)⟩
theorem lw_p15 : lw_okq (⟨"SpillJoin$Tables", "hasRow", "(II)Z"⟩, 4) := ⟨⟨by decide +kernel, by decide +kernel⟩, List.mem_of_getElem? (i := 48) (by decide +kernel), List.mem_of_getElem? (i := 401) (by decide +kernel), List.mem_of_getElem? (i := 402) (by decide +kernel)⟩
def lw_privs_1 : List (MethodName × Nat) := [(⟨"SpillJoin$Page", "isFull", "()Z"⟩, 2), (⟨"SpillJoin$Page", "add", "(I)V"⟩, 2), (⟨"SpillJoin$Page", "clear", "()V"⟩, 2), (⟨"SpillJoin$Page", "firstFault", "()I"⟩, 2), (⟨"SpillJoin$Page", "codeAt", "(I)I"⟩, 2), (⟨"SpillJoin$Page", "isWhole", "()Z"⟩, 2), (⟨"SpillJoin$Page", "secondMark", "()I"⟩, 2), (⟨"SpillJoin$Page", "readRows", "(LSpillJoin$Side;II)V"⟩, 2), (⟨"SpillJoin$Side", "clear", "()V"⟩, 2), (⟨"SpillJoin$Side", "add", "(I)V"⟩, 2), (⟨"SpillJoin$Seen", "clear", "()V"⟩, 2), (⟨"SpillJoin$Run", "clear", "(I)V"⟩, 5), (⟨"SpillJoin$Output", "clear", "(I)V"⟩, 5), (⟨"SpillJoin$Log", "clear", "()V"⟩, 8), (⟨"SpillJoin$Tables", "size", "()I"⟩, 4), (⟨"SpillJoin$Tables", "hasRow", "(II)Z"⟩, 4)]
theorem lw_r1 : ∀ q ∈ lw_privs_1, lw_okq q := List.forall_mem_cons.mpr ⟨lw_p0, List.forall_mem_cons.mpr ⟨lw_p1, List.forall_mem_cons.mpr ⟨lw_p2, List.forall_mem_cons.mpr ⟨lw_p3, List.forall_mem_cons.mpr ⟨lw_p4, List.forall_mem_cons.mpr ⟨lw_p5, List.forall_mem_cons.mpr ⟨lw_p6, List.forall_mem_cons.mpr ⟨lw_p7, List.forall_mem_cons.mpr ⟨lw_p8, List.forall_mem_cons.mpr ⟨lw_p9, List.forall_mem_cons.mpr ⟨lw_p10, List.forall_mem_cons.mpr ⟨lw_p11, List.forall_mem_cons.mpr ⟨lw_p12, List.forall_mem_cons.mpr ⟨lw_p13, List.forall_mem_cons.mpr ⟨lw_p14, List.forall_mem_cons.mpr ⟨lw_p15, fun _ h => absurd h List.not_mem_nil⟩⟩⟩⟩⟩⟩⟩⟩⟩⟩⟩⟩⟩⟩⟩⟩
theorem lw_p16 : lw_okq (⟨"SpillJoin$Tables", "sideOf", "(I)LSpillJoin$Side;"⟩, 4) := ⟨⟨by decide +kernel, by decide +kernel⟩, List.mem_of_getElem? (i := 48) (by decide +kernel), List.mem_of_getElem? (i := 408) (by decide +kernel), List.mem_of_getElem? (i := 409) (by decide +kernel)⟩
theorem lw_p17 : lw_okq (⟨"SpillJoin$Side", "has", "(I)Z"⟩, 2) := ⟨⟨by decide +kernel, by decide +kernel⟩, List.mem_of_getElem? (i := 54) (by decide +kernel), List.mem_of_getElem? (i := 412) (by decide +kernel), List.mem_of_getElem? (i := 413) (by decide +kernel)⟩
theorem lw_p18 : lw_okq (⟨"SpillJoin$Side", "keyAt", "(I)I"⟩, 2) := ⟨⟨by decide +kernel, by decide +kernel⟩, List.mem_of_getElem? (i := 54) (by decide +kernel), List.mem_of_getElem? (i := 417) (by decide +kernel), List.mem_of_getElem? (i := 418) (by decide +kernel)⟩
theorem lw_p19 : lw_okq (⟨"SpillJoin$Tables", "partners", "(II)I"⟩, 4) := ⟨⟨by decide +kernel, by decide +kernel⟩, List.mem_of_getElem? (i := 48) (by decide +kernel), List.mem_of_getElem? (i := 421) (by decide +kernel), List.mem_of_getElem? (i := 422) (by decide +kernel)⟩
theorem lw_p20 : lw_okq (⟨"SpillJoin$Side", "rowsOfKey", "(I)I"⟩, 2) := ⟨⟨by decide +kernel, by decide +kernel⟩, List.mem_of_getElem? (i := 54) (by decide +kernel), List.mem_of_getElem? (i := 429) (by decide +kernel), List.mem_of_getElem? (i := 430) (by decide +kernel)⟩
theorem lw_p21 : lw_okq (⟨"SpillJoin$Tables", "areThere", "()Z"⟩, 4) := ⟨⟨by decide +kernel, by decide +kernel⟩, List.mem_of_getElem? (i := 48) (by decide +kernel), List.mem_of_getElem? (i := 446) (by decide +kernel), List.mem_of_getElem? (i := 447) (by decide +kernel)⟩
theorem lw_p22 : lw_okq (⟨"SpillJoin$Side", "remove", "(I)V"⟩, 2) := ⟨⟨by decide +kernel, by decide +kernel⟩, List.mem_of_getElem? (i := 54) (by decide +kernel), List.mem_of_getElem? (i := 463) (by decide +kernel), List.mem_of_getElem? (i := 464) (by decide +kernel)⟩
theorem lw_p23 : lw_okq (⟨"SpillJoin$Side", "change", "(II)V"⟩, 2) := ⟨⟨by decide +kernel, by decide +kernel⟩, List.mem_of_getElem? (i := 54) (by decide +kernel), List.mem_of_getElem? (i := 469) (by decide +kernel), List.mem_of_getElem? (i := 470) (by decide +kernel)⟩
theorem lw_p24 : lw_okq (⟨"SpillJoin$Run", "go", "(I)V"⟩, 5) := ⟨⟨by decide +kernel, by decide +kernel⟩, List.mem_of_getElem? (i := 42) (by decide +kernel), List.mem_of_getElem? (i := 490) (by decide +kernel), List.mem_of_getElem? (i := 491) (by decide +kernel)⟩
theorem lw_p25 : lw_okq (⟨"SpillJoin$Side", "rowsWithKey", "()I"⟩, 2) := ⟨⟨by decide +kernel, by decide +kernel⟩, List.mem_of_getElem? (i := 54) (by decide +kernel), List.mem_of_getElem? (i := 495) (by decide +kernel), List.mem_of_getElem? (i := 496) (by decide +kernel)⟩
theorem lw_p26 : lw_okq (⟨"SpillJoin$Run", "turn", "(III)V"⟩, 5) := ⟨⟨by decide +kernel, by decide +kernel⟩, List.mem_of_getElem? (i := 42) (by decide +kernel), List.mem_of_getElem? (i := 499) (by decide +kernel), List.mem_of_getElem? (i := 500) (by decide +kernel)⟩
theorem lw_p27 : lw_okq (⟨"SpillJoin$Tables", "buildSide", "(II)I"⟩, 4) := ⟨⟨by decide +kernel, by decide +kernel⟩, List.mem_of_getElem? (i := 48) (by decide +kernel), List.mem_of_getElem? (i := 503) (by decide +kernel), List.mem_of_getElem? (i := 504) (by decide +kernel)⟩
theorem lw_p28 : lw_okq (⟨"SpillJoin$Run", "natureOf", "(III)I"⟩, 5) := ⟨⟨by decide +kernel, by decide +kernel⟩, List.mem_of_getElem? (i := 42) (by decide +kernel), List.mem_of_getElem? (i := 508) (by decide +kernel), List.mem_of_getElem? (i := 509) (by decide +kernel)⟩
theorem lw_p29 : lw_okq (⟨"SpillJoin$Side", "haveOneKey", "(I)Z"⟩, 2) := ⟨⟨by decide +kernel, by decide +kernel⟩, List.mem_of_getElem? (i := 54) (by decide +kernel), List.mem_of_getElem? (i := 514) (by decide +kernel), List.mem_of_getElem? (i := 515) (by decide +kernel)⟩
theorem lw_p30 : lw_okq (⟨"SpillJoin$Log", "open", "(I)V"⟩, 8) := ⟨⟨by decide +kernel, by decide +kernel⟩, List.mem_of_getElem? (i := 116) (by decide +kernel), List.mem_of_getElem? (i := 523) (by decide +kernel), List.mem_of_getElem? (i := 524) (by decide +kernel)⟩
theorem lw_p31 : lw_okq (⟨"SpillJoin$Log", "add", "(III)V"⟩, 8) := ⟨⟨by decide +kernel, by decide +kernel⟩, List.mem_of_getElem? (i := 116) (by decide +kernel), List.mem_of_getElem? (i := 527) (by decide +kernel), List.mem_of_getElem? (i := 528) (by decide +kernel)⟩
def lw_privs_2 : List (MethodName × Nat) := [(⟨"SpillJoin$Tables", "sideOf", "(I)LSpillJoin$Side;"⟩, 4), (⟨"SpillJoin$Side", "has", "(I)Z"⟩, 2), (⟨"SpillJoin$Side", "keyAt", "(I)I"⟩, 2), (⟨"SpillJoin$Tables", "partners", "(II)I"⟩, 4), (⟨"SpillJoin$Side", "rowsOfKey", "(I)I"⟩, 2), (⟨"SpillJoin$Tables", "areThere", "()Z"⟩, 4), (⟨"SpillJoin$Side", "remove", "(I)V"⟩, 2), (⟨"SpillJoin$Side", "change", "(II)V"⟩, 2), (⟨"SpillJoin$Run", "go", "(I)V"⟩, 5), (⟨"SpillJoin$Side", "rowsWithKey", "()I"⟩, 2), (⟨"SpillJoin$Run", "turn", "(III)V"⟩, 5), (⟨"SpillJoin$Tables", "buildSide", "(II)I"⟩, 4), (⟨"SpillJoin$Run", "natureOf", "(III)I"⟩, 5), (⟨"SpillJoin$Side", "haveOneKey", "(I)Z"⟩, 2), (⟨"SpillJoin$Log", "open", "(I)V"⟩, 8), (⟨"SpillJoin$Log", "add", "(III)V"⟩, 8)]
theorem lw_r2 : ∀ q ∈ lw_privs_2, lw_okq q := List.forall_mem_cons.mpr ⟨lw_p16, List.forall_mem_cons.mpr ⟨lw_p17, List.forall_mem_cons.mpr ⟨lw_p18, List.forall_mem_cons.mpr ⟨lw_p19, List.forall_mem_cons.mpr ⟨lw_p20, List.forall_mem_cons.mpr ⟨lw_p21, List.forall_mem_cons.mpr ⟨lw_p22, List.forall_mem_cons.mpr ⟨lw_p23, List.forall_mem_cons.mpr ⟨lw_p24, List.forall_mem_cons.mpr ⟨lw_p25, List.forall_mem_cons.mpr ⟨lw_p26, List.forall_mem_cons.mpr ⟨lw_p27, List.forall_mem_cons.mpr ⟨lw_p28, List.forall_mem_cons.mpr ⟨lw_p29, List.forall_mem_cons.mpr ⟨lw_p30, List.forall_mem_cons.mpr ⟨lw_p31, fun _ h => absurd h List.not_mem_nil⟩⟩⟩⟩⟩⟩⟩⟩⟩⟩⟩⟩⟩⟩⟩⟩
theorem lw_p32 : lw_okq (⟨"SpillJoin$Run", "enterPart", "(III)V"⟩, 5) := ⟨⟨by decide +kernel, by decide +kernel⟩, List.mem_of_getElem? (i := 42) (by decide +kernel), List.mem_of_getElem? (i := 531) (by decide +kernel), List.mem_of_getElem? (i := 532) (by decide +kernel)⟩
theorem lw_p33 : lw_okq (⟨"SpillJoin$Run", "hold", "(III)V"⟩, 5) := ⟨⟨by decide +kernel, by decide +kernel⟩, List.mem_of_getElem? (i := 42) (by decide +kernel), List.mem_of_getElem? (i := 536) (by decide +kernel), List.mem_of_getElem? (i := 537) (by decide +kernel)⟩
theorem lw_p34 : lw_okq (⟨"SpillJoin$Run", "noteHeld", "(I)V"⟩, 5) := ⟨⟨by decide +kernel, by decide +kernel⟩, List.mem_of_getElem? (i := 42) (by decide +kernel), List.mem_of_getElem? (i := 540) (by decide +kernel), List.mem_of_getElem? (i := 541) (by decide +kernel)⟩
theorem lw_p35 : lw_okq (⟨"SpillJoin$Run", "meetAll", "(III)V"⟩, 5) := ⟨⟨by decide +kernel, by decide +kernel⟩, List.mem_of_getElem? (i := 42) (by decide +kernel), List.mem_of_getElem? (i := 548) (by decide +kernel), List.mem_of_getElem? (i := 549) (by decide +kernel)⟩
theorem lw_p36 : lw_okq (⟨"SpillJoin$Run", "meet", "(II)V"⟩, 5) := ⟨⟨by decide +kernel, by decide +kernel⟩, List.mem_of_getElem? (i := 42) (by decide +kernel), List.mem_of_getElem? (i := 553) (by decide +kernel), List.mem_of_getElem? (i := 554) (by decide +kernel)⟩
theorem lw_p37 : lw_okq (⟨"SpillJoin$Output", "add", "(II)V"⟩, 5) := ⟨⟨by decide +kernel, by decide +kernel⟩, List.mem_of_getElem? (i := 90) (by decide +kernel), List.mem_of_getElem? (i := 562) (by decide +kernel), List.mem_of_getElem? (i := 563) (by decide +kernel)⟩
theorem lw_p38 : lw_okq (⟨"SpillJoin$Run", "comeOutAlone", "(II)V"⟩, 5) := ⟨⟨by decide +kernel, by decide +kernel⟩, List.mem_of_getElem? (i := 42) (by decide +kernel), List.mem_of_getElem? (i := 566) (by decide +kernel), List.mem_of_getElem? (i := 567) (by decide +kernel)⟩
theorem lw_p39 : lw_okq (⟨"SpillJoin$Run", "goByBlocks", "(III)V"⟩, 5) := ⟨⟨by decide +kernel, by decide +kernel⟩, List.mem_of_getElem? (i := 42) (by decide +kernel), List.mem_of_getElem? (i := 570) (by decide +kernel), List.mem_of_getElem? (i := 571) (by decide +kernel)⟩
theorem lw_p40 : lw_okq (⟨"SpillJoin$Run", "split", "(IIII)V"⟩, 5) := ⟨⟨by decide +kernel, by decide +kernel⟩, List.mem_of_getElem? (i := 42) (by decide +kernel), List.mem_of_getElem? (i := 577) (by decide +kernel), List.mem_of_getElem? (i := 578) (by decide +kernel)⟩
theorem lw_p41 : lw_okq (⟨"SpillJoin$Side", "rowsWithBit", "(I)I"⟩, 2) := ⟨⟨by decide +kernel, by decide +kernel⟩, List.mem_of_getElem? (i := 54) (by decide +kernel), List.mem_of_getElem? (i := 581) (by decide +kernel), List.mem_of_getElem? (i := 582) (by decide +kernel)⟩
theorem lw_p42 : lw_okq (⟨"SpillJoin$Run", "residentHalf", "(II)I"⟩, 5) := ⟨⟨by decide +kernel, by decide +kernel⟩, List.mem_of_getElem? (i := 42) (by decide +kernel), List.mem_of_getElem? (i := 585) (by decide +kernel), List.mem_of_getElem? (i := 586) (by decide +kernel)⟩
theorem lw_p43 : lw_okq (⟨"SpillJoin$Run", "spill", "(II)V"⟩, 5) := ⟨⟨by decide +kernel, by decide +kernel⟩, List.mem_of_getElem? (i := 42) (by decide +kernel), List.mem_of_getElem? (i := 589) (by decide +kernel), List.mem_of_getElem? (i := 590) (by decide +kernel)⟩
theorem lw_p44 : lw_okq (⟨"SpillJoin$Run", "goOn", "(IIII)V"⟩, 5) := ⟨⟨by decide +kernel, by decide +kernel⟩, List.mem_of_getElem? (i := 42) (by decide +kernel), List.mem_of_getElem? (i := 593) (by decide +kernel), List.mem_of_getElem? (i := 594) (by decide +kernel)⟩
theorem lw_p45 : lw_okq (⟨"SpillJoin$Log", "shutDownTo", "(I)V"⟩, 8) := ⟨⟨by decide +kernel, by decide +kernel⟩, List.mem_of_getElem? (i := 116) (by decide +kernel), List.mem_of_getElem? (i := 597) (by decide +kernel), List.mem_of_getElem? (i := 598) (by decide +kernel)⟩
theorem lw_p46 : lw_okq (⟨"SpillJoin$Side", "rowsWithoutKey", "()I"⟩, 2) := ⟨⟨by decide +kernel, by decide +kernel⟩, List.mem_of_getElem? (i := 54) (by decide +kernel), List.mem_of_getElem? (i := 601) (by decide +kernel), List.mem_of_getElem? (i := 602) (by decide +kernel)⟩
theorem lw_p47 : lw_okq (⟨"SpillJoin$Output", "at", "(II)I"⟩, 5) := ⟨⟨by decide +kernel, by decide +kernel⟩, List.mem_of_getElem? (i := 90) (by decide +kernel), List.mem_of_getElem? (i := 610) (by decide +kernel), List.mem_of_getElem? (i := 611) (by decide +kernel)⟩
def lw_privs_3 : List (MethodName × Nat) := [(⟨"SpillJoin$Run", "enterPart", "(III)V"⟩, 5), (⟨"SpillJoin$Run", "hold", "(III)V"⟩, 5), (⟨"SpillJoin$Run", "noteHeld", "(I)V"⟩, 5), (⟨"SpillJoin$Run", "meetAll", "(III)V"⟩, 5), (⟨"SpillJoin$Run", "meet", "(II)V"⟩, 5), (⟨"SpillJoin$Output", "add", "(II)V"⟩, 5), (⟨"SpillJoin$Run", "comeOutAlone", "(II)V"⟩, 5), (⟨"SpillJoin$Run", "goByBlocks", "(III)V"⟩, 5), (⟨"SpillJoin$Run", "split", "(IIII)V"⟩, 5), (⟨"SpillJoin$Side", "rowsWithBit", "(I)I"⟩, 2), (⟨"SpillJoin$Run", "residentHalf", "(II)I"⟩, 5), (⟨"SpillJoin$Run", "spill", "(II)V"⟩, 5), (⟨"SpillJoin$Run", "goOn", "(IIII)V"⟩, 5), (⟨"SpillJoin$Log", "shutDownTo", "(I)V"⟩, 8), (⟨"SpillJoin$Side", "rowsWithoutKey", "()I"⟩, 2), (⟨"SpillJoin$Output", "at", "(II)I"⟩, 5)]
theorem lw_r3 : ∀ q ∈ lw_privs_3, lw_okq q := List.forall_mem_cons.mpr ⟨lw_p32, List.forall_mem_cons.mpr ⟨lw_p33, List.forall_mem_cons.mpr ⟨lw_p34, List.forall_mem_cons.mpr ⟨lw_p35, List.forall_mem_cons.mpr ⟨lw_p36, List.forall_mem_cons.mpr ⟨lw_p37, List.forall_mem_cons.mpr ⟨lw_p38, List.forall_mem_cons.mpr ⟨lw_p39, List.forall_mem_cons.mpr ⟨lw_p40, List.forall_mem_cons.mpr ⟨lw_p41, List.forall_mem_cons.mpr ⟨lw_p42, List.forall_mem_cons.mpr ⟨lw_p43, List.forall_mem_cons.mpr ⟨lw_p44, List.forall_mem_cons.mpr ⟨lw_p45, List.forall_mem_cons.mpr ⟨lw_p46, List.forall_mem_cons.mpr ⟨lw_p47, fun _ h => absurd h List.not_mem_nil⟩⟩⟩⟩⟩⟩⟩⟩⟩⟩⟩⟩⟩⟩⟩⟩
theorem lw_p48 : lw_okq (⟨"SpillJoin$Log", "at", "(II)I"⟩, 8) := ⟨⟨by decide +kernel, by decide +kernel⟩, List.mem_of_getElem? (i := 116) (by decide +kernel), List.mem_of_getElem? (i := 618) (by decide +kernel), List.mem_of_getElem? (i := 619) (by decide +kernel)⟩
theorem lw_p49 : lw_okq (⟨"SpillJoin$Run", "lineAt", "(I)I"⟩, 5) := ⟨⟨by decide +kernel, by decide +kernel⟩, List.mem_of_getElem? (i := 42) (by decide +kernel), List.mem_of_getElem? (i := 626) (by decide +kernel), List.mem_of_getElem? (i := 627) (by decide +kernel)⟩
theorem lw_p50 : lw_okq (⟨"SpillJoin$Seen", "add", "(IZ)V"⟩, 2) := ⟨⟨by decide +kernel, by decide +kernel⟩, List.mem_of_getElem? (i := 169) (by decide +kernel), List.mem_of_getElem? (i := 642) (by decide +kernel), List.mem_of_getElem? (i := 643) (by decide +kernel)⟩
theorem lw_p51 : lw_okq (⟨"SpillJoin$Seen", "bestQuestion", "()I"⟩, 2) := ⟨⟨by decide +kernel, by decide +kernel⟩, List.mem_of_getElem? (i := 169) (by decide +kernel), List.mem_of_getElem? (i := 658) (by decide +kernel), List.mem_of_getElem? (i := 659) (by decide +kernel)⟩
theorem lw_p52 : lw_okq (⟨"SpillJoin$Tables", "copy", "(LSpillJoin$Tables;)V"⟩, 4) := ⟨⟨by decide +kernel, by decide +kernel⟩, List.mem_of_getElem? (i := 48) (by decide +kernel), List.mem_of_getElem? (i := 681) (by decide +kernel), List.mem_of_getElem? (i := 682) (by decide +kernel)⟩
theorem lw_p53 : lw_okq (⟨"SpillJoin$Side", "copy", "(LSpillJoin$Side;)V"⟩, 2) := ⟨⟨by decide +kernel, by decide +kernel⟩, List.mem_of_getElem? (i := 54) (by decide +kernel), List.mem_of_getElem? (i := 685) (by decide +kernel), List.mem_of_getElem? (i := 686) (by decide +kernel)⟩
theorem lw_p54 : lw_okq (⟨"SpillJoin$Seen", "copy", "(LSpillJoin$Seen;)V"⟩, 2) := ⟨⟨by decide +kernel, by decide +kernel⟩, List.mem_of_getElem? (i := 169) (by decide +kernel), List.mem_of_getElem? (i := 691) (by decide +kernel), List.mem_of_getElem? (i := 692) (by decide +kernel)⟩
theorem lw_p55 : lw_okq (⟨"SpillJoin$Side", "keySet", "()I"⟩, 2) := ⟨⟨by decide +kernel, by decide +kernel⟩, List.mem_of_getElem? (i := 54) (by decide +kernel), List.mem_of_getElem? (i := 703) (by decide +kernel), List.mem_of_getElem? (i := 704) (by decide +kernel)⟩
theorem lw_p56 : lw_okq (⟨"SpillJoin$Tables", "pairs", "()I"⟩, 4) := ⟨⟨by decide +kernel, by decide +kernel⟩, List.mem_of_getElem? (i := 48) (by decide +kernel), List.mem_of_getElem? (i := 707) (by decide +kernel), List.mem_of_getElem? (i := 708) (by decide +kernel)⟩
theorem lw_p57 : lw_okq (⟨"SpillJoin", "mixRows", "(JI)J"⟩, 10) := ⟨⟨by decide +kernel, by decide +kernel⟩, List.mem_of_getElem? (i := 19) (by decide +kernel), List.mem_of_getElem? (i := 717) (by decide +kernel), List.mem_of_getElem? (i := 718) (by decide +kernel)⟩
theorem lw_p58 : lw_okq (⟨"SpillJoinModel", "clearTold", "()V"⟩, 62) := ⟨⟨by decide +kernel, by decide +kernel⟩, List.mem_of_getElem? (i := 732) (by decide +kernel), List.mem_of_getElem? (i := 738) (by decide +kernel), List.mem_of_getElem? (i := 739) (by decide +kernel)⟩
theorem lw_p59 : lw_okq (⟨"SpillJoinModel", "read", "()I"⟩, 62) := ⟨⟨by decide +kernel, by decide +kernel⟩, List.mem_of_getElem? (i := 732) (by decide +kernel), List.mem_of_getElem? (i := 944) (by decide +kernel), List.mem_of_getElem? (i := 945) (by decide +kernel)⟩
theorem lw_p60 : lw_okq (⟨"SpillJoinModel", "at", "(I)I"⟩, 62) := ⟨⟨by decide +kernel, by decide +kernel⟩, List.mem_of_getElem? (i := 732) (by decide +kernel), List.mem_of_getElem? (i := 948) (by decide +kernel), List.mem_of_getElem? (i := 949) (by decide +kernel)⟩
theorem lw_p61 : lw_okq (⟨"SpillJoinModel", "rowsFrom", "(I)I"⟩, 62) := ⟨⟨by decide +kernel, by decide +kernel⟩, List.mem_of_getElem? (i := 732) (by decide +kernel), List.mem_of_getElem? (i := 955) (by decide +kernel), List.mem_of_getElem? (i := 956) (by decide +kernel)⟩
theorem lw_p62 : lw_okq (⟨"SpillJoinModel", "isRowAt", "(I)Z"⟩, 62) := ⟨⟨by decide +kernel, by decide +kernel⟩, List.mem_of_getElem? (i := 732) (by decide +kernel), List.mem_of_getElem? (i := 959) (by decide +kernel), List.mem_of_getElem? (i := 960) (by decide +kernel)⟩
theorem lw_p63 : lw_okq (⟨"SpillJoinModel", "isRow", "(II)Z"⟩, 62) := ⟨⟨by decide +kernel, by decide +kernel⟩, List.mem_of_getElem? (i := 732) (by decide +kernel), List.mem_of_getElem? (i := 974) (by decide +kernel), List.mem_of_getElem? (i := 975) (by decide +kernel)⟩
def lw_privs_4 : List (MethodName × Nat) := [(⟨"SpillJoin$Log", "at", "(II)I"⟩, 8), (⟨"SpillJoin$Run", "lineAt", "(I)I"⟩, 5), (⟨"SpillJoin$Seen", "add", "(IZ)V"⟩, 2), (⟨"SpillJoin$Seen", "bestQuestion", "()I"⟩, 2), (⟨"SpillJoin$Tables", "copy", "(LSpillJoin$Tables;)V"⟩, 4), (⟨"SpillJoin$Side", "copy", "(LSpillJoin$Side;)V"⟩, 2), (⟨"SpillJoin$Seen", "copy", "(LSpillJoin$Seen;)V"⟩, 2), (⟨"SpillJoin$Side", "keySet", "()I"⟩, 2), (⟨"SpillJoin$Tables", "pairs", "()I"⟩, 4), (⟨"SpillJoin", "mixRows", "(JI)J"⟩, 10), (⟨"SpillJoinModel", "clearTold", "()V"⟩, 62), (⟨"SpillJoinModel", "read", "()I"⟩, 62), (⟨"SpillJoinModel", "at", "(I)I"⟩, 62), (⟨"SpillJoinModel", "rowsFrom", "(I)I"⟩, 62), (⟨"SpillJoinModel", "isRowAt", "(I)Z"⟩, 62), (⟨"SpillJoinModel", "isRow", "(II)Z"⟩, 62)]
theorem lw_r4 : ∀ q ∈ lw_privs_4, lw_okq q := List.forall_mem_cons.mpr ⟨lw_p48, List.forall_mem_cons.mpr ⟨lw_p49, List.forall_mem_cons.mpr ⟨lw_p50, List.forall_mem_cons.mpr ⟨lw_p51, List.forall_mem_cons.mpr ⟨lw_p52, List.forall_mem_cons.mpr ⟨lw_p53, List.forall_mem_cons.mpr ⟨lw_p54, List.forall_mem_cons.mpr ⟨lw_p55, List.forall_mem_cons.mpr ⟨lw_p56, List.forall_mem_cons.mpr ⟨lw_p57, List.forall_mem_cons.mpr ⟨lw_p58, List.forall_mem_cons.mpr ⟨lw_p59, List.forall_mem_cons.mpr ⟨lw_p60, List.forall_mem_cons.mpr ⟨lw_p61, List.forall_mem_cons.mpr ⟨lw_p62, List.forall_mem_cons.mpr ⟨lw_p63, fun _ h => absurd h List.not_mem_nil⟩⟩⟩⟩⟩⟩⟩⟩⟩⟩⟩⟩⟩⟩⟩⟩
theorem lw_p64 : lw_okq (⟨"SpillJoinModel", "rowNow", "(III)I"⟩, 62) := ⟨⟨by decide +kernel, by decide +kernel⟩, List.mem_of_getElem? (i := 732) (by decide +kernel), List.mem_of_getElem? (i := 981) (by decide +kernel), List.mem_of_getElem? (i := 982) (by decide +kernel)⟩
theorem lw_p65 : lw_okq (⟨"SpillJoinModel", "keyAt", "(II)I"⟩, 62) := ⟨⟨by decide +kernel, by decide +kernel⟩, List.mem_of_getElem? (i := 732) (by decide +kernel), List.mem_of_getElem? (i := 985) (by decide +kernel), List.mem_of_getElem? (i := 986) (by decide +kernel)⟩
theorem lw_p66 : lw_okq (⟨"SpillJoinModel", "partnersOf", "(II)I"⟩, 62) := ⟨⟨by decide +kernel, by decide +kernel⟩, List.mem_of_getElem? (i := 732) (by decide +kernel), List.mem_of_getElem? (i := 989) (by decide +kernel), List.mem_of_getElem? (i := 990) (by decide +kernel)⟩
theorem lw_p67 : lw_okq (⟨"SpillJoinModel", "runNow", "(I)V"⟩, 62) := ⟨⟨by decide +kernel, by decide +kernel⟩, List.mem_of_getElem? (i := 732) (by decide +kernel), List.mem_of_getElem? (i := 1024) (by decide +kernel), List.mem_of_getElem? (i := 1025) (by decide +kernel)⟩
theorem lw_p68 : lw_okq (⟨"SpillJoinModel", "clearRun", "()V"⟩, 62) := ⟨⟨by decide +kernel, by decide +kernel⟩, List.mem_of_getElem? (i := 732) (by decide +kernel), List.mem_of_getElem? (i := 1028) (by decide +kernel), List.mem_of_getElem? (i := 1029) (by decide +kernel)⟩
theorem lw_p69 : lw_okq (⟨"SpillJoinModel", "withKeys", "(IZ)I"⟩, 62) := ⟨⟨by decide +kernel, by decide +kernel⟩, List.mem_of_getElem? (i := 732) (by decide +kernel), List.mem_of_getElem? (i := 1032) (by decide +kernel), List.mem_of_getElem? (i := 1033) (by decide +kernel)⟩
theorem lw_p70 : lw_okq (⟨"SpillJoinModel", "turn", "(III)Z"⟩, 62) := ⟨⟨by decide +kernel, by decide +kernel⟩, List.mem_of_getElem? (i := 732) (by decide +kernel), List.mem_of_getElem? (i := 1036) (by decide +kernel), List.mem_of_getElem? (i := 1037) (by decide +kernel)⟩
theorem lw_p71 : lw_okq (⟨"SpillJoinModel", "openOne", "(I)V"⟩, 62) := ⟨⟨by decide +kernel, by decide +kernel⟩, List.mem_of_getElem? (i := 732) (by decide +kernel), List.mem_of_getElem? (i := 1043) (by decide +kernel), List.mem_of_getElem? (i := 1044) (by decide +kernel)⟩
theorem lw_p72 : lw_okq (⟨"SpillJoinModel", "noteLog", "(III)V"⟩, 62) := ⟨⟨by decide +kernel, by decide +kernel⟩, List.mem_of_getElem? (i := 732) (by decide +kernel), List.mem_of_getElem? (i := 1047) (by decide +kernel), List.mem_of_getElem? (i := 1048) (by decide +kernel)⟩
theorem lw_p73 : lw_okq (⟨"SpillJoinModel", "holdNow", "(III)V"⟩, 62) := ⟨⟨by decide +kernel, by decide +kernel⟩, List.mem_of_getElem? (i := 732) (by decide +kernel), List.mem_of_getElem? (i := 1051) (by decide +kernel), List.mem_of_getElem? (i := 1052) (by decide +kernel)⟩
theorem lw_p74 : lw_okq (⟨"SpillJoinModel", "inMemory", "(I)V"⟩, 62) := ⟨⟨by decide +kernel, by decide +kernel⟩, List.mem_of_getElem? (i := 732) (by decide +kernel), List.mem_of_getElem? (i := 1055) (by decide +kernel), List.mem_of_getElem? (i := 1056) (by decide +kernel)⟩
theorem lw_p75 : lw_okq (⟨"SpillJoinModel", "meetAll", "(III)V"⟩, 62) := ⟨⟨by decide +kernel, by decide +kernel⟩, List.mem_of_getElem? (i := 732) (by decide +kernel), List.mem_of_getElem? (i := 1062) (by decide +kernel), List.mem_of_getElem? (i := 1063) (by decide +kernel)⟩
theorem lw_p76 : lw_okq (⟨"SpillJoinModel", "meet", "(II)V"⟩, 62) := ⟨⟨by decide +kernel, by decide +kernel⟩, List.mem_of_getElem? (i := 732) (by decide +kernel), List.mem_of_getElem? (i := 1066) (by decide +kernel), List.mem_of_getElem? (i := 1067) (by decide +kernel)⟩
theorem lw_p77 : lw_okq (⟨"SpillJoinModel", "come", "(II)V"⟩, 62) := ⟨⟨by decide +kernel, by decide +kernel⟩, List.mem_of_getElem? (i := 732) (by decide +kernel), List.mem_of_getElem? (i := 1070) (by decide +kernel), List.mem_of_getElem? (i := 1071) (by decide +kernel)⟩
theorem lw_p78 : lw_okq (⟨"SpillJoinModel", "alone", "(II)V"⟩, 62) := ⟨⟨by decide +kernel, by decide +kernel⟩, List.mem_of_getElem? (i := 732) (by decide +kernel), List.mem_of_getElem? (i := 1074) (by decide +kernel), List.mem_of_getElem? (i := 1075) (by decide +kernel)⟩
theorem lw_p79 : lw_okq (⟨"SpillJoinModel", "comesAlone", "(I)Z"⟩, 62) := ⟨⟨by decide +kernel, by decide +kernel⟩, List.mem_of_getElem? (i := 732) (by decide +kernel), List.mem_of_getElem? (i := 1078) (by decide +kernel), List.mem_of_getElem? (i := 1079) (by decide +kernel)⟩
def lw_privs_5 : List (MethodName × Nat) := [(⟨"SpillJoinModel", "rowNow", "(III)I"⟩, 62), (⟨"SpillJoinModel", "keyAt", "(II)I"⟩, 62), (⟨"SpillJoinModel", "partnersOf", "(II)I"⟩, 62), (⟨"SpillJoinModel", "runNow", "(I)V"⟩, 62), (⟨"SpillJoinModel", "clearRun", "()V"⟩, 62), (⟨"SpillJoinModel", "withKeys", "(IZ)I"⟩, 62), (⟨"SpillJoinModel", "turn", "(III)Z"⟩, 62), (⟨"SpillJoinModel", "openOne", "(I)V"⟩, 62), (⟨"SpillJoinModel", "noteLog", "(III)V"⟩, 62), (⟨"SpillJoinModel", "holdNow", "(III)V"⟩, 62), (⟨"SpillJoinModel", "inMemory", "(I)V"⟩, 62), (⟨"SpillJoinModel", "meetAll", "(III)V"⟩, 62), (⟨"SpillJoinModel", "meet", "(II)V"⟩, 62), (⟨"SpillJoinModel", "come", "(II)V"⟩, 62), (⟨"SpillJoinModel", "alone", "(II)V"⟩, 62), (⟨"SpillJoinModel", "comesAlone", "(I)Z"⟩, 62)]
theorem lw_r5 : ∀ q ∈ lw_privs_5, lw_okq q := List.forall_mem_cons.mpr ⟨lw_p64, List.forall_mem_cons.mpr ⟨lw_p65, List.forall_mem_cons.mpr ⟨lw_p66, List.forall_mem_cons.mpr ⟨lw_p67, List.forall_mem_cons.mpr ⟨lw_p68, List.forall_mem_cons.mpr ⟨lw_p69, List.forall_mem_cons.mpr ⟨lw_p70, List.forall_mem_cons.mpr ⟨lw_p71, List.forall_mem_cons.mpr ⟨lw_p72, List.forall_mem_cons.mpr ⟨lw_p73, List.forall_mem_cons.mpr ⟨lw_p74, List.forall_mem_cons.mpr ⟨lw_p75, List.forall_mem_cons.mpr ⟨lw_p76, List.forall_mem_cons.mpr ⟨lw_p77, List.forall_mem_cons.mpr ⟨lw_p78, List.forall_mem_cons.mpr ⟨lw_p79, fun _ h => absurd h List.not_mem_nil⟩⟩⟩⟩⟩⟩⟩⟩⟩⟩⟩⟩⟩⟩⟩⟩
theorem lw_p80 : lw_okq (⟨"SpillJoinModel", "aloneOnes", "(II)V"⟩, 62) := ⟨⟨by decide +kernel, by decide +kernel⟩, List.mem_of_getElem? (i := 732) (by decide +kernel), List.mem_of_getElem? (i := 1082) (by decide +kernel), List.mem_of_getElem? (i := 1083) (by decide +kernel)⟩
theorem lw_p81 : lw_okq (⟨"SpillJoinModel", "isOneKey", "(II)Z"⟩, 62) := ⟨⟨by decide +kernel, by decide +kernel⟩, List.mem_of_getElem? (i := 732) (by decide +kernel), List.mem_of_getElem? (i := 1086) (by decide +kernel), List.mem_of_getElem? (i := 1087) (by decide +kernel)⟩
theorem lw_p82 : lw_okq (⟨"SpillJoinModel", "blocksNow", "(III)V"⟩, 62) := ⟨⟨by decide +kernel, by decide +kernel⟩, List.mem_of_getElem? (i := 732) (by decide +kernel), List.mem_of_getElem? (i := 1090) (by decide +kernel), List.mem_of_getElem? (i := 1091) (by decide +kernel)⟩
theorem lw_p83 : lw_okq (⟨"SpillJoinModel", "firstOf", "(II)I"⟩, 62) := ⟨⟨by decide +kernel, by decide +kernel⟩, List.mem_of_getElem? (i := 732) (by decide +kernel), List.mem_of_getElem? (i := 1094) (by decide +kernel), List.mem_of_getElem? (i := 1095) (by decide +kernel)⟩
theorem lw_p84 : lw_okq (⟨"SpillJoinModel", "splitNow", "(II)V"⟩, 62) := ⟨⟨by decide +kernel, by decide +kernel⟩, List.mem_of_getElem? (i := 732) (by decide +kernel), List.mem_of_getElem? (i := 1098) (by decide +kernel), List.mem_of_getElem? (i := 1099) (by decide +kernel)⟩
theorem lw_p85 : lw_okq (⟨"SpillJoinModel", "resident", "(II)I"⟩, 62) := ⟨⟨by decide +kernel, by decide +kernel⟩, List.mem_of_getElem? (i := 732) (by decide +kernel), List.mem_of_getElem? (i := 1102) (by decide +kernel), List.mem_of_getElem? (i := 1103) (by decide +kernel)⟩
theorem lw_p86 : lw_okq (⟨"SpillJoinModel", "halfOf", "(III)I"⟩, 62) := ⟨⟨by decide +kernel, by decide +kernel⟩, List.mem_of_getElem? (i := 732) (by decide +kernel), List.mem_of_getElem? (i := 1106) (by decide +kernel), List.mem_of_getElem? (i := 1107) (by decide +kernel)⟩
theorem lw_p87 : lw_okq (⟨"SpillJoinModel", "half", "(IIII)I"⟩, 62) := ⟨⟨by decide +kernel, by decide +kernel⟩, List.mem_of_getElem? (i := 732) (by decide +kernel), List.mem_of_getElem? (i := 1110) (by decide +kernel), List.mem_of_getElem? (i := 1111) (by decide +kernel)⟩
theorem lw_p88 : lw_okq (⟨"SpillJoinModel", "rowsOfHalf", "(II)I"⟩, 62) := ⟨⟨by decide +kernel, by decide +kernel⟩, List.mem_of_getElem? (i := 732) (by decide +kernel), List.mem_of_getElem? (i := 1114) (by decide +kernel), List.mem_of_getElem? (i := 1115) (by decide +kernel)⟩
theorem lw_p89 : lw_okq (⟨"SpillJoinModel", "shutOne", "()V"⟩, 62) := ⟨⟨by decide +kernel, by decide +kernel⟩, List.mem_of_getElem? (i := 732) (by decide +kernel), List.mem_of_getElem? (i := 1118) (by decide +kernel), List.mem_of_getElem? (i := 1119) (by decide +kernel)⟩
theorem lw_p90 : lw_okq (⟨"SpillJoinModel", "nextHalf", "(I)I"⟩, 62) := ⟨⟨by decide +kernel, by decide +kernel⟩, List.mem_of_getElem? (i := 732) (by decide +kernel), List.mem_of_getElem? (i := 1122) (by decide +kernel), List.mem_of_getElem? (i := 1123) (by decide +kernel)⟩
theorem lw_p91 : lw_okq (⟨"SpillJoinModel", "shutPart", "(I)V"⟩, 62) := ⟨⟨by decide +kernel, by decide +kernel⟩, List.mem_of_getElem? (i := 732) (by decide +kernel), List.mem_of_getElem? (i := 1126) (by decide +kernel), List.mem_of_getElem? (i := 1127) (by decide +kernel)⟩
theorem lw_p92 : lw_okq (⟨"SpillJoinModel", "tell", "()V"⟩, 62) := ⟨⟨by decide +kernel, by decide +kernel⟩, List.mem_of_getElem? (i := 732) (by decide +kernel), List.mem_of_getElem? (i := 1130) (by decide +kernel), List.mem_of_getElem? (i := 1131) (by decide +kernel)⟩
theorem lw_p93 : lw_okq (⟨"SpillJoinModel", "outNow", "(II)I"⟩, 62) := ⟨⟨by decide +kernel, by decide +kernel⟩, List.mem_of_getElem? (i := 732) (by decide +kernel), List.mem_of_getElem? (i := 1138) (by decide +kernel), List.mem_of_getElem? (i := 1139) (by decide +kernel)⟩
theorem lw_p94 : lw_okq (⟨"SpillJoinModel", "logNow", "(II)I"⟩, 62) := ⟨⟨by decide +kernel, by decide +kernel⟩, List.mem_of_getElem? (i := 732) (by decide +kernel), List.mem_of_getElem? (i := 1146) (by decide +kernel), List.mem_of_getElem? (i := 1147) (by decide +kernel)⟩
theorem lw_p95 : lw_okq (⟨"SpillJoinModel", "spareNow", "()I"⟩, 62) := ⟨⟨by decide +kernel, by decide +kernel⟩, List.mem_of_getElem? (i := 732) (by decide +kernel), List.mem_of_getElem? (i := 1158) (by decide +kernel), List.mem_of_getElem? (i := 1159) (by decide +kernel)⟩
def lw_privs_6 : List (MethodName × Nat) := [(⟨"SpillJoinModel", "aloneOnes", "(II)V"⟩, 62), (⟨"SpillJoinModel", "isOneKey", "(II)Z"⟩, 62), (⟨"SpillJoinModel", "blocksNow", "(III)V"⟩, 62), (⟨"SpillJoinModel", "firstOf", "(II)I"⟩, 62), (⟨"SpillJoinModel", "splitNow", "(II)V"⟩, 62), (⟨"SpillJoinModel", "resident", "(II)I"⟩, 62), (⟨"SpillJoinModel", "halfOf", "(III)I"⟩, 62), (⟨"SpillJoinModel", "half", "(IIII)I"⟩, 62), (⟨"SpillJoinModel", "rowsOfHalf", "(II)I"⟩, 62), (⟨"SpillJoinModel", "shutOne", "()V"⟩, 62), (⟨"SpillJoinModel", "nextHalf", "(I)I"⟩, 62), (⟨"SpillJoinModel", "shutPart", "(I)V"⟩, 62), (⟨"SpillJoinModel", "tell", "()V"⟩, 62), (⟨"SpillJoinModel", "outNow", "(II)I"⟩, 62), (⟨"SpillJoinModel", "logNow", "(II)I"⟩, 62), (⟨"SpillJoinModel", "spareNow", "()I"⟩, 62)]
theorem lw_r6 : ∀ q ∈ lw_privs_6, lw_okq q := List.forall_mem_cons.mpr ⟨lw_p80, List.forall_mem_cons.mpr ⟨lw_p81, List.forall_mem_cons.mpr ⟨lw_p82, List.forall_mem_cons.mpr ⟨lw_p83, List.forall_mem_cons.mpr ⟨lw_p84, List.forall_mem_cons.mpr ⟨lw_p85, List.forall_mem_cons.mpr ⟨lw_p86, List.forall_mem_cons.mpr ⟨lw_p87, List.forall_mem_cons.mpr ⟨lw_p88, List.forall_mem_cons.mpr ⟨lw_p89, List.forall_mem_cons.mpr ⟨lw_p90, List.forall_mem_cons.mpr ⟨lw_p91, List.forall_mem_cons.mpr ⟨lw_p92, List.forall_mem_cons.mpr ⟨lw_p93, List.forall_mem_cons.mpr ⟨lw_p94, List.forall_mem_cons.mpr ⟨lw_p95, fun _ h => absurd h List.not_mem_nil⟩⟩⟩⟩⟩⟩⟩⟩⟩⟩⟩⟩⟩⟩⟩⟩
theorem lw_p96 : lw_okq (⟨"SpillJoinModel", "sortsNow", "()I"⟩, 62) := ⟨⟨by decide +kernel, by decide +kernel⟩, List.mem_of_getElem? (i := 732) (by decide +kernel), List.mem_of_getElem? (i := 1175) (by decide +kernel), List.mem_of_getElem? (i := 1176) (by decide +kernel)⟩
theorem lw_p97 : lw_okq (⟨"SpillJoinModel", "askNow", "()I"⟩, 62) := ⟨⟨by decide +kernel, by decide +kernel⟩, List.mem_of_getElem? (i := 732) (by decide +kernel), List.mem_of_getElem? (i := 1182) (by decide +kernel), List.mem_of_getElem? (i := 1183) (by decide +kernel)⟩
theorem lw_p98 : lw_okq (⟨"SpillJoinModel", "drawnNow", "(III)I"⟩, 62) := ⟨⟨by decide +kernel, by decide +kernel⟩, List.mem_of_getElem? (i := 732) (by decide +kernel), List.mem_of_getElem? (i := 1190) (by decide +kernel), List.mem_of_getElem? (i := 1191) (by decide +kernel)⟩
theorem lw_p99 : lw_okq (⟨"SpillJoinModel", "draw", "(I)I"⟩, 62) := ⟨⟨by decide +kernel, by decide +kernel⟩, List.mem_of_getElem? (i := 732) (by decide +kernel), List.mem_of_getElem? (i := 1194) (by decide +kernel), List.mem_of_getElem? (i := 1195) (by decide +kernel)⟩
theorem lw_p100 : lw_okq (⟨"SpillJoinModel", "howMany", "(I)I"⟩, 62) := ⟨⟨by decide +kernel, by decide +kernel⟩, List.mem_of_getElem? (i := 732) (by decide +kernel), List.mem_of_getElem? (i := 1214) (by decide +kernel), List.mem_of_getElem? (i := 1215) (by decide +kernel)⟩
theorem lw_p101 : lw_okq (⟨"SpillJoinModel", "keysOfAll", "()I"⟩, 62) := ⟨⟨by decide +kernel, by decide +kernel⟩, List.mem_of_getElem? (i := 732) (by decide +kernel), List.mem_of_getElem? (i := 1218) (by decide +kernel), List.mem_of_getElem? (i := 1219) (by decide +kernel)⟩
theorem lw_p102 : lw_okq (⟨"SpillJoinModel", "pairs", "()I"⟩, 62) := ⟨⟨by decide +kernel, by decide +kernel⟩, List.mem_of_getElem? (i := 732) (by decide +kernel), List.mem_of_getElem? (i := 1222) (by decide +kernel), List.mem_of_getElem? (i := 1223) (by decide +kernel)⟩
theorem lw_p103 : lw_okq (⟨"SpillJoinModel", "mixRows", "()V"⟩, 62) := ⟨⟨by decide +kernel, by decide +kernel⟩, List.mem_of_getElem? (i := 732) (by decide +kernel), List.mem_of_getElem? (i := 1231) (by decide +kernel), List.mem_of_getElem? (i := 1232) (by decide +kernel)⟩
theorem lw_p104 : lw_okq (⟨"SpillJoinModel", "mix", "(J)V"⟩, 62) := ⟨⟨by decide +kernel, by decide +kernel⟩, List.mem_of_getElem? (i := 732) (by decide +kernel), List.mem_of_getElem? (i := 1235) (by decide +kernel), List.mem_of_getElem? (i := 1236) (by decide +kernel)⟩
theorem lw_p105 : lw_okq (⟨"SpillJoinModel", "mixTold", "()V"⟩, 62) := ⟨⟨by decide +kernel, by decide +kernel⟩, List.mem_of_getElem? (i := 732) (by decide +kernel), List.mem_of_getElem? (i := 1240) (by decide +kernel), List.mem_of_getElem? (i := 1241) (by decide +kernel)⟩
def lw_privs_7 : List (MethodName × Nat) := [(⟨"SpillJoinModel", "sortsNow", "()I"⟩, 62), (⟨"SpillJoinModel", "askNow", "()I"⟩, 62), (⟨"SpillJoinModel", "drawnNow", "(III)I"⟩, 62), (⟨"SpillJoinModel", "draw", "(I)I"⟩, 62), (⟨"SpillJoinModel", "howMany", "(I)I"⟩, 62), (⟨"SpillJoinModel", "keysOfAll", "()I"⟩, 62), (⟨"SpillJoinModel", "pairs", "()I"⟩, 62), (⟨"SpillJoinModel", "mixRows", "()V"⟩, 62), (⟨"SpillJoinModel", "mix", "(J)V"⟩, 62), (⟨"SpillJoinModel", "mixTold", "()V"⟩, 62)]
theorem lw_r7 : ∀ q ∈ lw_privs_7, lw_okq q := List.forall_mem_cons.mpr ⟨lw_p96, List.forall_mem_cons.mpr ⟨lw_p97, List.forall_mem_cons.mpr ⟨lw_p98, List.forall_mem_cons.mpr ⟨lw_p99, List.forall_mem_cons.mpr ⟨lw_p100, List.forall_mem_cons.mpr ⟨lw_p101, List.forall_mem_cons.mpr ⟨lw_p102, List.forall_mem_cons.mpr ⟨lw_p103, List.forall_mem_cons.mpr ⟨lw_p104, List.forall_mem_cons.mpr ⟨lw_p105, fun _ h => absurd h List.not_mem_nil⟩⟩⟩⟩⟩⟩⟩⟩⟩⟩
def lw_privs : List (MethodName × Nat) := lw_privs_1 ++ (lw_privs_2 ++ (lw_privs_3 ++ (lw_privs_4 ++ (lw_privs_5 ++ (lw_privs_6 ++ (lw_privs_7))))))
def lw_tbl : List Cond := k2_sels lw_privs ++ tables_1
theorem lw_privs_ok : ∀ q ∈ lw_privs, lw_okq q := by
  show ∀ q ∈ lw_privs_1 ++ (lw_privs_2 ++ (lw_privs_3 ++ (lw_privs_4 ++ (lw_privs_5 ++ (lw_privs_6 ++ (lw_privs_7)))))), lw_okq q
  exact List.forall_mem_append.mpr ⟨lw_r1, List.forall_mem_append.mpr ⟨lw_r2, List.forall_mem_append.mpr ⟨lw_r3, List.forall_mem_append.mpr ⟨lw_r4, List.forall_mem_append.mpr ⟨lw_r5, List.forall_mem_append.mpr ⟨lw_r6, lw_r7⟩⟩⟩⟩⟩⟩

def RX0 : String := "SpillJoin$Log"
def TX0 : u_T := fun k => match k with
  | 0 => ("SpillJoin$Log", "numbers", "[I", true)
  | 1 => ("SpillJoin$Log", "opened", "[I", true)
  | 2 => ("SpillJoin$Log", "natures", "[I", true)
  | 3 => ("SpillJoin$Log", "size", "I", false)
  | 4 => ("SpillJoin$Log", "openNumbers", "[I", true)
  | 5 => ("SpillJoin$Log", "openNatures", "[I", true)
  | 6 => ("SpillJoin$Log", "depth", "I", false)
  | _ => ("SpillJoin$Log", "nextNumber", "I", false)
def tyX0 : Nat → FieldType := fun k => match k with
  | 0 => .array .int
  | 1 => .array .int
  | 2 => .array .int
  | 3 => .int
  | 4 => .array .int
  | 5 => .array .int
  | 6 => .int
  | _ => .int
abbrev wsX00 : List Cond := u_ws RX0 TX0 8
theorem nmX0 : ∀ a, a < 8 → ∀ b, b < 8 → a ≠ b → (TX0 a).2.1 ≠ (TX0 b).2.1 := by decide +kernel
theorem tyX0_ok : ∀ k, k < 8 → parseFieldDescriptor (TX0 k).2.2.1 = some (tyX0 k) := by decide +kernel
abbrev cX0_init : ByteArray := prog_2_method_1_code
def yX0_init : MethodName := ⟨RX0, "<init>", "()V"⟩
abbrev cX0_clear : ByteArray := prog_2_method_2_code
def yX0_clear : MethodName := ⟨RX0, "clear", "()V"⟩
abbrev cX0_open : ByteArray := prog_2_method_3_code
def yX0_open : MethodName := ⟨RX0, "open", "(I)V"⟩
abbrev cX0_shutDownTo : ByteArray := prog_2_method_4_code
def yX0_shutDownTo : MethodName := ⟨RX0, "shutDownTo", "(I)V"⟩
abbrev cX0_add : ByteArray := prog_2_method_5_code
def yX0_add : MethodName := ⟨RX0, "add", "(III)V"⟩
abbrev cX0_at : ByteArray := prog_2_method_6_code
def yX0_at : MethodName := ⟨RX0, "at", "(II)I"⟩
def RX1 : String := "SpillJoin$Output"
def TX1 : u_T := fun k => match k with
  | 0 => ("SpillJoin$Output", "left", "[I", true)
  | 1 => ("SpillJoin$Output", "right", "[I", true)
  | 2 => ("SpillJoin$Output", "size", "I", false)
  | 3 => ("SpillJoin$Output", "limit", "I", false)
  | _ => ("SpillJoin$Output", "broken", "Z", false)
def tyX1 : Nat → FieldType := fun k => match k with
  | 0 => .array .int
  | 1 => .array .int
  | 2 => .int
  | 3 => .int
  | _ => .boolean
abbrev wsX10 : List Cond := u_ws RX1 TX1 5
theorem nmX1 : ∀ a, a < 5 → ∀ b, b < 5 → a ≠ b → (TX1 a).2.1 ≠ (TX1 b).2.1 := by decide +kernel
theorem tyX1_ok : ∀ k, k < 5 → parseFieldDescriptor (TX1 k).2.2.1 = some (tyX1 k) := by decide +kernel
abbrev cX1_init : ByteArray := prog_3_method_1_code
def yX1_init : MethodName := ⟨RX1, "<init>", "()V"⟩
abbrev cX1_clear : ByteArray := prog_3_method_2_code
def yX1_clear : MethodName := ⟨RX1, "clear", "(I)V"⟩
abbrev cX1_add : ByteArray := prog_3_method_3_code
def yX1_add : MethodName := ⟨RX1, "add", "(II)V"⟩
abbrev cX1_at : ByteArray := prog_3_method_4_code
def yX1_at : MethodName := ⟨RX1, "at", "(II)I"⟩
def RX2 : String := "SpillJoin$Page"
def TX2 : u_T := fun k => match k with
  | 0 => ("SpillJoin$Page", "codes", "[I", true)
  | _ => ("SpillJoin$Page", "size", "I", false)
def tyX2 : Nat → FieldType := fun k => match k with
  | 0 => .array .int
  | _ => .int
abbrev wsX20 : List Cond := u_ws RX2 TX2 2
theorem nmX2 : ∀ a, a < 2 → ∀ b, b < 2 → a ≠ b → (TX2 a).2.1 ≠ (TX2 b).2.1 := by decide +kernel
theorem tyX2_ok : ∀ k, k < 2 → parseFieldDescriptor (TX2 k).2.2.1 = some (tyX2 k) := by decide +kernel
abbrev cX2_init : ByteArray := prog_4_method_1_code
def yX2_init : MethodName := ⟨RX2, "<init>", "()V"⟩
abbrev cX2_kindOf : ByteArray := prog_4_method_2_code
def yX2_kindOf : MethodName := ⟨RX2, "kindOf", "(I)I"⟩
abbrev cX2_isRow : ByteArray := prog_4_method_3_code
def yX2_isRow : MethodName := ⟨RX2, "isRow", "(I)Z"⟩
abbrev cX2_isFull : ByteArray := prog_4_method_4_code
def yX2_isFull : MethodName := ⟨RX2, "isFull", "()Z"⟩
abbrev cX2_add : ByteArray := prog_4_method_5_code
def yX2_add : MethodName := ⟨RX2, "add", "(I)V"⟩
abbrev cX2_clear : ByteArray := prog_4_method_6_code
def yX2_clear : MethodName := ⟨RX2, "clear", "()V"⟩
abbrev cX2_codeAt : ByteArray := prog_4_method_7_code
def yX2_codeAt : MethodName := ⟨RX2, "codeAt", "(I)I"⟩
abbrev cX2_firstFault : ByteArray := prog_4_method_8_code
def yX2_firstFault : MethodName := ⟨RX2, "firstFault", "()I"⟩
abbrev cX2_isHead : ByteArray := prog_4_method_9_code
def yX2_isHead : MethodName := ⟨RX2, "isHead", "(II)Z"⟩
abbrev cX2_secondMark : ByteArray := prog_4_method_10_code
def yX2_secondMark : MethodName := ⟨RX2, "secondMark", "()I"⟩
abbrev cX2_isWhole : ByteArray := prog_4_method_11_code
def yX2_isWhole : MethodName := ⟨RX2, "isWhole", "()Z"⟩
abbrev cX2_readRows : ByteArray := prog_4_method_12_code
def yX2_readRows : MethodName := ⟨RX2, "readRows", "(LSpillJoin$Side;II)V"⟩
def RX3 : String := "SpillJoin$Run"
def TX3 : u_T := fun k => match k with
  | 0 => ("SpillJoin$Run", "tables", "LSpillJoin$Tables;", true)
  | 1 => ("SpillJoin$Run", "output", "LSpillJoin$Output;", true)
  | 2 => ("SpillJoin$Run", "log", "LSpillJoin$Log;", true)
  | 3 => ("SpillJoin$Run", "lines", "[I", true)
  | _ => ("SpillJoin$Run", "cameOnce", "I", false)
def tyX3 : Nat → FieldType := fun k => match k with
  | 0 => .object "SpillJoin$Tables"
  | 1 => .object "SpillJoin$Output"
  | 2 => .object "SpillJoin$Log"
  | 3 => .array .int
  | _ => .int
abbrev wsX30 : List Cond := u_ws RX3 TX3 5
theorem nmX3 : ∀ a, a < 5 → ∀ b, b < 5 → a ≠ b → (TX3 a).2.1 ≠ (TX3 b).2.1 := by decide +kernel
theorem tyX3_ok : ∀ k, k < 5 → parseFieldDescriptor (TX3 k).2.2.1 = some (tyX3 k) := by decide +kernel
abbrev cX3_init : ByteArray := prog_5_method_1_code
def yX3_init : MethodName := ⟨RX3, "<init>", "()V"⟩
abbrev cX3_clear : ByteArray := prog_5_method_2_code
def yX3_clear : MethodName := ⟨RX3, "clear", "(I)V"⟩
abbrev cX3_lineAt : ByteArray := prog_5_method_3_code
def yX3_lineAt : MethodName := ⟨RX3, "lineAt", "(I)I"⟩
abbrev cX3_go : ByteArray := prog_5_method_4_code
def yX3_go : MethodName := ⟨RX3, "go", "(I)V"⟩
abbrev cX3_turn : ByteArray := prog_5_method_5_code
def yX3_turn : MethodName := ⟨RX3, "turn", "(III)V"⟩
abbrev cX3_natureOf : ByteArray := prog_5_method_6_code
def yX3_natureOf : MethodName := ⟨RX3, "natureOf", "(III)I"⟩
abbrev cX3_enterPart : ByteArray := prog_5_method_7_code
def yX3_enterPart : MethodName := ⟨RX3, "enterPart", "(III)V"⟩
abbrev cX3_hold : ByteArray := prog_5_method_8_code
def yX3_hold : MethodName := ⟨RX3, "hold", "(III)V"⟩
abbrev cX3_goByBlocks : ByteArray := prog_5_method_9_code
def yX3_goByBlocks : MethodName := ⟨RX3, "goByBlocks", "(III)V"⟩
abbrev cX3_firstOf : ByteArray := prog_5_method_10_code
def yX3_firstOf : MethodName := ⟨RX3, "firstOf", "(II)I"⟩
abbrev cX3_split : ByteArray := prog_5_method_11_code
def yX3_split : MethodName := ⟨RX3, "split", "(IIII)V"⟩
abbrev cX3_residentHalf : ByteArray := prog_5_method_12_code
def yX3_residentHalf : MethodName := ⟨RX3, "residentHalf", "(II)I"⟩
abbrev cX3_spill : ByteArray := prog_5_method_13_code
def yX3_spill : MethodName := ⟨RX3, "spill", "(II)V"⟩
abbrev cX3_goOn : ByteArray := prog_5_method_14_code
def yX3_goOn : MethodName := ⟨RX3, "goOn", "(IIII)V"⟩
abbrev cX3_noteHeld : ByteArray := prog_5_method_15_code
def yX3_noteHeld : MethodName := ⟨RX3, "noteHeld", "(I)V"⟩
abbrev cX3_meetAll : ByteArray := prog_5_method_16_code
def yX3_meetAll : MethodName := ⟨RX3, "meetAll", "(III)V"⟩
abbrev cX3_meet : ByteArray := prog_5_method_17_code
def yX3_meet : MethodName := ⟨RX3, "meet", "(II)V"⟩
abbrev cX3_comeOutAlone : ByteArray := prog_5_method_18_code
def yX3_comeOutAlone : MethodName := ⟨RX3, "comeOutAlone", "(II)V"⟩
def RX4 : String := "SpillJoin$Seen"
def TX4 : u_T := fun k => match k with
  | 0 => ("SpillJoin$Seen", "size", "I", false)
  | _ => ("SpillJoin$Seen", "kindsLeft", "I", false)
def tyX4 : Nat → FieldType := fun k => match k with
  | 0 => .int
  | _ => .int
abbrev wsX40 : List Cond := u_ws RX4 TX4 2
theorem nmX4 : ∀ a, a < 2 → ∀ b, b < 2 → a ≠ b → (TX4 a).2.1 ≠ (TX4 b).2.1 := by decide +kernel
theorem tyX4_ok : ∀ k, k < 2 → parseFieldDescriptor (TX4 k).2.2.1 = some (tyX4 k) := by decide +kernel
abbrev cX4_init : ByteArray := prog_6_method_1_code
def yX4_init : MethodName := ⟨RX4, "<init>", "()V"⟩
abbrev cX4_clear : ByteArray := prog_6_method_2_code
def yX4_clear : MethodName := ⟨RX4, "clear", "()V"⟩
abbrev cX4_add : ByteArray := prog_6_method_3_code
def yX4_add : MethodName := ⟨RX4, "add", "(IZ)V"⟩
abbrev cX4_copy : ByteArray := prog_6_method_4_code
def yX4_copy : MethodName := ⟨RX4, "copy", "(LSpillJoin$Seen;)V"⟩
abbrev cX4_bestQuestion : ByteArray := prog_6_method_5_code
def yX4_bestQuestion : MethodName := ⟨RX4, "bestQuestion", "()I"⟩
abbrev cX4_kindsThatLetOut : ByteArray := prog_6_method_6_code
def yX4_kindsThatLetOut : MethodName := ⟨RX4, "kindsThatLetOut", "(I)I"⟩
def RX5 : String := "SpillJoin$Side"
def TX5 : u_T := fun k => match k with
  | 0 => ("SpillJoin$Side", "keys", "[I", true)
  | _ => ("SpillJoin$Side", "size", "I", false)
def tyX5 : Nat → FieldType := fun k => match k with
  | 0 => .array .int
  | _ => .int
abbrev wsX50 : List Cond := u_ws RX5 TX5 2
theorem nmX5 : ∀ a, a < 2 → ∀ b, b < 2 → a ≠ b → (TX5 a).2.1 ≠ (TX5 b).2.1 := by decide +kernel
theorem tyX5_ok : ∀ k, k < 2 → parseFieldDescriptor (TX5 k).2.2.1 = some (tyX5 k) := by decide +kernel
abbrev cX5_init : ByteArray := prog_7_method_1_code
def yX5_init : MethodName := ⟨RX5, "<init>", "()V"⟩
abbrev cX5_has : ByteArray := prog_7_method_2_code
def yX5_has : MethodName := ⟨RX5, "has", "(I)Z"⟩
abbrev cX5_keyAt : ByteArray := prog_7_method_3_code
def yX5_keyAt : MethodName := ⟨RX5, "keyAt", "(I)I"⟩
abbrev cX5_clear : ByteArray := prog_7_method_4_code
def yX5_clear : MethodName := ⟨RX5, "clear", "()V"⟩
abbrev cX5_add : ByteArray := prog_7_method_5_code
def yX5_add : MethodName := ⟨RX5, "add", "(I)V"⟩
abbrev cX5_change : ByteArray := prog_7_method_6_code
def yX5_change : MethodName := ⟨RX5, "change", "(II)V"⟩
abbrev cX5_remove : ByteArray := prog_7_method_7_code
def yX5_remove : MethodName := ⟨RX5, "remove", "(I)V"⟩
abbrev cX5_copy : ByteArray := prog_7_method_8_code
def yX5_copy : MethodName := ⟨RX5, "copy", "(LSpillJoin$Side;)V"⟩
abbrev cX5_rowsWithKey : ByteArray := prog_7_method_9_code
def yX5_rowsWithKey : MethodName := ⟨RX5, "rowsWithKey", "()I"⟩
abbrev cX5_rowsWithoutKey : ByteArray := prog_7_method_10_code
def yX5_rowsWithoutKey : MethodName := ⟨RX5, "rowsWithoutKey", "()I"⟩
abbrev cX5_rowsOfKey : ByteArray := prog_7_method_11_code
def yX5_rowsOfKey : MethodName := ⟨RX5, "rowsOfKey", "(I)I"⟩
abbrev cX5_rowsWithBit : ByteArray := prog_7_method_12_code
def yX5_rowsWithBit : MethodName := ⟨RX5, "rowsWithBit", "(I)I"⟩
abbrev cX5_haveOneKey : ByteArray := prog_7_method_13_code
def yX5_haveOneKey : MethodName := ⟨RX5, "haveOneKey", "(I)Z"⟩
abbrev cX5_keySet : ByteArray := prog_7_method_14_code
def yX5_keySet : MethodName := ⟨RX5, "keySet", "()I"⟩
def RX6 : String := "SpillJoin$Tables"
def TX6 : u_T := fun k => match k with
  | 0 => ("SpillJoin$Tables", "left", "LSpillJoin$Side;", true)
  | 1 => ("SpillJoin$Tables", "right", "LSpillJoin$Side;", true)
  | 2 => ("SpillJoin$Tables", "memory", "I", false)
  | _ => ("SpillJoin$Tables", "kind", "I", false)
def tyX6 : Nat → FieldType := fun k => match k with
  | 0 => .object "SpillJoin$Side"
  | 1 => .object "SpillJoin$Side"
  | 2 => .int
  | _ => .int
abbrev wsX60 : List Cond := u_ws RX6 TX6 4
theorem nmX6 : ∀ a, a < 4 → ∀ b, b < 4 → a ≠ b → (TX6 a).2.1 ≠ (TX6 b).2.1 := by decide +kernel
theorem tyX6_ok : ∀ k, k < 4 → parseFieldDescriptor (TX6 k).2.2.1 = some (tyX6 k) := by decide +kernel
abbrev cX6_init : ByteArray := prog_8_method_1_code
def yX6_init : MethodName := ⟨RX6, "<init>", "()V"⟩
abbrev cX6_areThere : ByteArray := prog_8_method_2_code
def yX6_areThere : MethodName := ⟨RX6, "areThere", "()Z"⟩
abbrev cX6_size : ByteArray := prog_8_method_3_code
def yX6_size : MethodName := ⟨RX6, "size", "()I"⟩
abbrev cX6_sideOf : ByteArray := prog_8_method_4_code
def yX6_sideOf : MethodName := ⟨RX6, "sideOf", "(I)LSpillJoin$Side;"⟩
abbrev cX6_hasRow : ByteArray := prog_8_method_5_code
def yX6_hasRow : MethodName := ⟨RX6, "hasRow", "(II)Z"⟩
abbrev cX6_partners : ByteArray := prog_8_method_6_code
def yX6_partners : MethodName := ⟨RX6, "partners", "(II)I"⟩
abbrev cX6_pairs : ByteArray := prog_8_method_7_code
def yX6_pairs : MethodName := ⟨RX6, "pairs", "()I"⟩
abbrev cX6_buildSide : ByteArray := prog_8_method_8_code
def yX6_buildSide : MethodName := ⟨RX6, "buildSide", "(II)I"⟩
abbrev cX6_copy : ByteArray := prog_8_method_9_code
def yX6_copy : MethodName := ⟨RX6, "copy", "(LSpillJoin$Tables;)V"⟩
def RX7 : String := "SpillJoin"
def TX7 : u_T := fun k => match k with
  | 0 => ("SpillJoin", "page", "LSpillJoin$Page;", true)
  | 1 => ("SpillJoin", "latest", "LSpillJoin$Run;", true)
  | 2 => ("SpillJoin", "current", "LSpillJoin$Tables;", true)
  | 3 => ("SpillJoin", "seen", "LSpillJoin$Seen;", true)
  | 4 => ("SpillJoin", "keptTables", "LSpillJoin$Tables;", true)
  | 5 => ("SpillJoin", "keptSeen", "LSpillJoin$Seen;", true)
  | 6 => ("SpillJoin", "imageKept", "Z", false)
  | 7 => ("SpillJoin", "drawnRun", "LSpillJoin$Run;", true)
  | 8 => ("SpillJoin", "runs", "I", false)
  | _ => ("SpillJoin", "reads", "I", false)
def tyX7 : Nat → FieldType := fun k => match k with
  | 0 => .object "SpillJoin$Page"
  | 1 => .object "SpillJoin$Run"
  | 2 => .object "SpillJoin$Tables"
  | 3 => .object "SpillJoin$Seen"
  | 4 => .object "SpillJoin$Tables"
  | 5 => .object "SpillJoin$Seen"
  | 6 => .boolean
  | 7 => .object "SpillJoin$Run"
  | 8 => .int
  | _ => .int
abbrev wsX70 : List Cond := u_ws RX7 TX7 10
theorem nmX7 : ∀ a, a < 10 → ∀ b, b < 10 → a ≠ b → (TX7 a).2.1 ≠ (TX7 b).2.1 := by decide +kernel
theorem tyX7_ok : ∀ k, k < 10 → parseFieldDescriptor (TX7 k).2.2.1 = some (tyX7 k) := by decide +kernel
abbrev cX7_init : ByteArray := prog_1_method_1_code
def yX7_init : MethodName := ⟨RX7, "<init>", "()V"⟩
abbrev cX7_letter : ByteArray := prog_1_method_2_code
def yX7_letter : MethodName := ⟨RX7, "letter", "(I)I"⟩
abbrev cX7_blank : ByteArray := prog_1_method_3_code
def yX7_blank : MethodName := ⟨RX7, "blank", "()I"⟩
abbrev cX7_fault : ByteArray := prog_1_method_4_code
def yX7_fault : MethodName := ⟨RX7, "fault", "()I"⟩
abbrev cX7_tables : ByteArray := prog_1_method_5_code
def yX7_tables : MethodName := ⟨RX7, "tables", "()I"⟩
abbrev cX7_row : ByteArray := prog_1_method_6_code
def yX7_row : MethodName := ⟨RX7, "row", "(III)I"⟩
abbrev cX7_as : ByteArray := prog_1_method_7_code
def yX7_as : MethodName := ⟨RX7, "as", "(I)I"⟩
abbrev cX7_put : ByteArray := prog_1_method_8_code
def yX7_put : MethodName := ⟨RX7, "put", "(II)I"⟩
abbrev cX7_take : ByteArray := prog_1_method_9_code
def yX7_take : MethodName := ⟨RX7, "take", "(II)I"⟩
abbrev cX7_key : ByteArray := prog_1_method_10_code
def yX7_key : MethodName := ⟨RX7, "key", "(III)I"⟩
abbrev cX7_memory : ByteArray := prog_1_method_11_code
def yX7_memory : MethodName := ⟨RX7, "memory", "(I)I"⟩
abbrev cX7_be : ByteArray := prog_1_method_12_code
def yX7_be : MethodName := ⟨RX7, "be", "(I)I"⟩
abbrev cX7_run : ByteArray := prog_1_method_13_code
def yX7_run : MethodName := ⟨RX7, "run", "(I)I"⟩
abbrev cX7_out : ByteArray := prog_1_method_14_code
def yX7_out : MethodName := ⟨RX7, "out", "(II)I"⟩
abbrev cX7_log : ByteArray := prog_1_method_15_code
def yX7_log : MethodName := ⟨RX7, "log", "(II)I"⟩
abbrev cX7_ledger : ByteArray := prog_1_method_16_code
def yX7_ledger : MethodName := ⟨RX7, "ledger", "(I)I"⟩
abbrev cX7_spare : ByteArray := prog_1_method_17_code
def yX7_spare : MethodName := ⟨RX7, "spare", "()I"⟩
abbrev cX7_see : ByteArray := prog_1_method_18_code
def yX7_see : MethodName := ⟨RX7, "see", "(IZ)I"⟩
abbrev cX7_forget : ByteArray := prog_1_method_19_code
def yX7_forget : MethodName := ⟨RX7, "forget", "()I"⟩
abbrev cX7_sorts : ByteArray := prog_1_method_20_code
def yX7_sorts : MethodName := ⟨RX7, "sorts", "(I)I"⟩
abbrev cX7_drawn : ByteArray := prog_1_method_21_code
def yX7_drawn : MethodName := ⟨RX7, "drawn", "(III)I"⟩
abbrev cX7_image : ByteArray := prog_1_method_22_code
def yX7_image : MethodName := ⟨RX7, "image", "()I"⟩
abbrev cX7_restore : ByteArray := prog_1_method_23_code
def yX7_restore : MethodName := ⟨RX7, "restore", "()I"⟩
abbrev cX7_count : ByteArray := prog_1_method_24_code
def yX7_count : MethodName := ⟨RX7, "count", "(I)I"⟩
abbrev cX7_digest : ByteArray := prog_1_method_25_code
def yX7_digest : MethodName := ⟨RX7, "digest", "()J"⟩
abbrev cX7_mixRows : ByteArray := prog_1_method_26_code
def yX7_mixRows : MethodName := ⟨RX7, "mixRows", "(JI)J"⟩
abbrev cX7_mix : ByteArray := prog_1_method_27_code
def yX7_mix : MethodName := ⟨RX7, "mix", "(JJ)J"⟩
abbrev cX7_isSide : ByteArray := prog_1_method_28_code
def yX7_isSide : MethodName := ⟨RX7, "isSide", "(I)Z"⟩
abbrev cX7_otherSide : ByteArray := prog_1_method_29_code
def yX7_otherSide : MethodName := ⟨RX7, "otherSide", "(I)I"⟩
abbrev cX7_isKind : ByteArray := prog_1_method_30_code
def yX7_isKind : MethodName := ⟨RX7, "isKind", "(I)Z"⟩
abbrev cX7_isKeyOrNone : ByteArray := prog_1_method_31_code
def yX7_isKeyOrNone : MethodName := ⟨RX7, "isKeyOrNone", "(I)Z"⟩
abbrev cX7_comesOutBy : ByteArray := prog_1_method_32_code
def yX7_comesOutBy : MethodName := ⟨RX7, "comesOutBy", "(II)Z"⟩
abbrev cX7_isIn : ByteArray := prog_1_method_33_code
def yX7_isIn : MethodName := ⟨RX7, "isIn", "(II)Z"⟩
abbrev cX7_drawRows : ByteArray := prog_1_method_34_code
def yX7_drawRows : MethodName := ⟨RX7, "drawRows", "(LSpillJoin$Side;I)I"⟩
def RX8 : String := "SpillJoinModel"
def TX8 : u_T := fun k => match k with
  | 0 => ("SpillJoinModel", "tables", "I", false)
  | 1 => ("SpillJoinModel", "memory", "I", false)
  | 2 => ("SpillJoinModel", "kind", "I", false)
  | 3 => ("SpillJoinModel", "keyOf", "[I", true)
  | 4 => ("SpillJoinModel", "rows", "[I", true)
  | 5 => ("SpillJoinModel", "runs", "I", false)
  | 6 => ("SpillJoinModel", "seen", "I", false)
  | 7 => ("SpillJoinModel", "seenWhat", "[I", true)
  | 8 => ("SpillJoinModel", "seenComes", "[I", true)
  | 9 => ("SpillJoinModel", "pageLength", "I", false)
  | 10 => ("SpillJoinModel", "page", "[B", true)
  | 11 => ("SpillJoinModel", "isWhole", "Z", false)
  | 12 => ("SpillJoinModel", "newLeft", "I", false)
  | 13 => ("SpillJoinModel", "newRight", "I", false)
  | 14 => ("SpillJoinModel", "limit", "I", false)
  | 15 => ("SpillJoinModel", "isOff", "Z", false)
  | 16 => ("SpillJoinModel", "semiOut", "I", false)
  | 17 => ("SpillJoinModel", "outs", "I", false)
  | 18 => ("SpillJoinModel", "written", "I", false)
  | 19 => ("SpillJoinModel", "readRows", "I", false)
  | 20 => ("SpillJoinModel", "peak", "I", false)
  | 21 => ("SpillJoinModel", "level", "I", false)
  | 22 => ("SpillJoinModel", "held", "I", false)
  | 23 => ("SpillJoinModel", "byBlocks", "I", false)
  | 24 => ("SpillJoinModel", "split", "I", false)
  | 25 => ("SpillJoinModel", "leftBuilds", "I", false)
  | 26 => ("SpillJoinModel", "logs", "I", false)
  | 27 => ("SpillJoinModel", "numbers", "I", false)
  | 28 => ("SpillJoinModel", "open", "I", false)
  | 29 => ("SpillJoinModel", "openNumber", "[I", true)
  | 30 => ("SpillJoinModel", "openWhat", "[I", true)
  | 31 => ("SpillJoinModel", "runLeft", "[I", true)
  | 32 => ("SpillJoinModel", "runRight", "[I", true)
  | 33 => ("SpillJoinModel", "runNumber", "[I", true)
  | 34 => ("SpillJoinModel", "runOpened", "[I", true)
  | 35 => ("SpillJoinModel", "runWhat", "[I", true)
  | 36 => ("SpillJoinModel", "partLeft", "[I", true)
  | 37 => ("SpillJoinModel", "partRight", "[I", true)
  | 38 => ("SpillJoinModel", "partNext", "[I", true)
  | 39 => ("SpillJoinModel", "partStays", "[I", true)
  | 40 => ("SpillJoinModel", "partFiles", "[I", true)
  | 41 => ("SpillJoinModel", "toldOuts", "I", false)
  | 42 => ("SpillJoinModel", "toldLogs", "I", false)
  | 43 => ("SpillJoinModel", "toldLedger", "[I", true)
  | 44 => ("SpillJoinModel", "toldLeft", "[I", true)
  | 45 => ("SpillJoinModel", "toldRight", "[I", true)
  | 46 => ("SpillJoinModel", "toldNumber", "[I", true)
  | 47 => ("SpillJoinModel", "toldOpened", "[I", true)
  | 48 => ("SpillJoinModel", "toldWhat", "[I", true)
  | 49 => ("SpillJoinModel", "seedNow", "J", false)
  | 50 => ("SpillJoinModel", "savedKey", "[I", true)
  | 51 => ("SpillJoinModel", "isKept", "Z", false)
  | 52 => ("SpillJoinModel", "keptTables", "I", false)
  | 53 => ("SpillJoinModel", "keptMemory", "I", false)
  | 54 => ("SpillJoinModel", "keptKind", "I", false)
  | 55 => ("SpillJoinModel", "keptLeft", "I", false)
  | 56 => ("SpillJoinModel", "keptRight", "I", false)
  | 57 => ("SpillJoinModel", "keptSeen", "I", false)
  | 58 => ("SpillJoinModel", "keptKey", "[I", true)
  | 59 => ("SpillJoinModel", "keptWhat", "[I", true)
  | 60 => ("SpillJoinModel", "keptComes", "[I", true)
  | _ => ("SpillJoinModel", "h", "J", false)
def tyX8 : Nat → FieldType := fun k => match k with
  | 0 => .int
  | 1 => .int
  | 2 => .int
  | 3 => .array .int
  | 4 => .array .int
  | 5 => .int
  | 6 => .int
  | 7 => .array .int
  | 8 => .array .int
  | 9 => .int
  | 10 => .array .byte
  | 11 => .boolean
  | 12 => .int
  | 13 => .int
  | 14 => .int
  | 15 => .boolean
  | 16 => .int
  | 17 => .int
  | 18 => .int
  | 19 => .int
  | 20 => .int
  | 21 => .int
  | 22 => .int
  | 23 => .int
  | 24 => .int
  | 25 => .int
  | 26 => .int
  | 27 => .int
  | 28 => .int
  | 29 => .array .int
  | 30 => .array .int
  | 31 => .array .int
  | 32 => .array .int
  | 33 => .array .int
  | 34 => .array .int
  | 35 => .array .int
  | 36 => .array .int
  | 37 => .array .int
  | 38 => .array .int
  | 39 => .array .int
  | 40 => .array .int
  | 41 => .int
  | 42 => .int
  | 43 => .array .int
  | 44 => .array .int
  | 45 => .array .int
  | 46 => .array .int
  | 47 => .array .int
  | 48 => .array .int
  | 49 => .long
  | 50 => .array .int
  | 51 => .boolean
  | 52 => .int
  | 53 => .int
  | 54 => .int
  | 55 => .int
  | 56 => .int
  | 57 => .int
  | 58 => .array .int
  | 59 => .array .int
  | 60 => .array .int
  | _ => .long
abbrev wsX80 : List Cond := u_ws RX8 TX8 62
theorem nmX8 : ∀ a, a < 62 → ∀ b, b < 62 → a ≠ b → (TX8 a).2.1 ≠ (TX8 b).2.1 := by decide +kernel
theorem tyX8_ok : ∀ k, k < 62 → parseFieldDescriptor (TX8 k).2.2.1 = some (tyX8 k) := by decide +kernel
abbrev cX8_init : ByteArray := prog_10_method_1_code
def yX8_init : MethodName := ⟨RX8, "<init>", "()V"⟩
abbrev cX8_within : ByteArray := prog_10_method_3_code
def yX8_within : MethodName := ⟨RX8, "within", "(III)Z"⟩
abbrev cX8_isIn : ByteArray := prog_10_method_4_code
def yX8_isIn : MethodName := ⟨RX8, "isIn", "(II)Z"⟩
abbrev cX8_size : ByteArray := prog_10_method_5_code
def yX8_size : MethodName := ⟨RX8, "size", "(I)I"⟩
abbrev cX8_letter : ByteArray := prog_10_method_6_code
def yX8_letter : MethodName := ⟨RX8, "letter", "(I)I"⟩
abbrev cX8_blank : ByteArray := prog_10_method_7_code
def yX8_blank : MethodName := ⟨RX8, "blank", "()I"⟩
abbrev cX8_kindBy : ByteArray := prog_10_method_8_code
def yX8_kindBy : MethodName := ⟨RX8, "kindBy", "(I)I"⟩
abbrev cX8_at : ByteArray := prog_10_method_9_code
def yX8_at : MethodName := ⟨RX8, "at", "(I)I"⟩
abbrev cX8_isRowAt : ByteArray := prog_10_method_10_code
def yX8_isRowAt : MethodName := ⟨RX8, "isRowAt", "(I)Z"⟩
abbrev cX8_rowsFrom : ByteArray := prog_10_method_11_code
def yX8_rowsFrom : MethodName := ⟨RX8, "rowsFrom", "(I)I"⟩
abbrev cX8_read : ByteArray := prog_10_method_12_code
def yX8_read : MethodName := ⟨RX8, "read", "()I"⟩
abbrev cX8_fault : ByteArray := prog_10_method_13_code
def yX8_fault : MethodName := ⟨RX8, "fault", "()I"⟩
abbrev cX8_keyBy : ByteArray := prog_10_method_14_code
def yX8_keyBy : MethodName := ⟨RX8, "keyBy", "(I)I"⟩
abbrev cX8_tables : ByteArray := prog_10_method_15_code
def yX8_tables : MethodName := ⟨RX8, "tables", "()I"⟩
abbrev cX8_isSide : ByteArray := prog_10_method_16_code
def yX8_isSide : MethodName := ⟨RX8, "isSide", "(I)Z"⟩
abbrev cX8_isRow : ByteArray := prog_10_method_17_code
def yX8_isRow : MethodName := ⟨RX8, "isRow", "(II)Z"⟩
abbrev cX8_keyAt : ByteArray := prog_10_method_18_code
def yX8_keyAt : MethodName := ⟨RX8, "keyAt", "(II)I"⟩
abbrev cX8_partnersOf : ByteArray := prog_10_method_19_code
def yX8_partnersOf : MethodName := ⟨RX8, "partnersOf", "(II)I"⟩
abbrev cX8_rowNow : ByteArray := prog_10_method_20_code
def yX8_rowNow : MethodName := ⟨RX8, "rowNow", "(III)I"⟩
abbrev cX8_row : ByteArray := prog_10_method_21_code
def yX8_row : MethodName := ⟨RX8, "row", "(III)I"⟩
abbrev cX8_as : ByteArray := prog_10_method_22_code
def yX8_as : MethodName := ⟨RX8, "as", "(I)I"⟩
abbrev cX8_isKey : ByteArray := prog_10_method_23_code
def yX8_isKey : MethodName := ⟨RX8, "isKey", "(I)Z"⟩
abbrev cX8_put : ByteArray := prog_10_method_24_code
def yX8_put : MethodName := ⟨RX8, "put", "(II)I"⟩
abbrev cX8_take : ByteArray := prog_10_method_25_code
def yX8_take : MethodName := ⟨RX8, "take", "(II)I"⟩
abbrev cX8_key : ByteArray := prog_10_method_26_code
def yX8_key : MethodName := ⟨RX8, "key", "(III)I"⟩
abbrev cX8_memory : ByteArray := prog_10_method_27_code
def yX8_memory : MethodName := ⟨RX8, "memory", "(I)I"⟩
abbrev cX8_be : ByteArray := prog_10_method_28_code
def yX8_be : MethodName := ⟨RX8, "be", "(I)I"⟩
abbrev cX8_noteLog : ByteArray := prog_10_method_29_code
def yX8_noteLog : MethodName := ⟨RX8, "noteLog", "(III)V"⟩
abbrev cX8_openOne : ByteArray := prog_10_method_30_code
def yX8_openOne : MethodName := ⟨RX8, "openOne", "(I)V"⟩
abbrev cX8_shutOne : ByteArray := prog_10_method_31_code
def yX8_shutOne : MethodName := ⟨RX8, "shutOne", "()V"⟩
abbrev cX8_come : ByteArray := prog_10_method_32_code
def yX8_come : MethodName := ⟨RX8, "come", "(II)V"⟩
abbrev cX8_comesAlone : ByteArray := prog_10_method_33_code
def yX8_comesAlone : MethodName := ⟨RX8, "comesAlone", "(I)Z"⟩
abbrev cX8_alone : ByteArray := prog_10_method_34_code
def yX8_alone : MethodName := ⟨RX8, "alone", "(II)V"⟩
abbrev cX8_meet : ByteArray := prog_10_method_35_code
def yX8_meet : MethodName := ⟨RX8, "meet", "(II)V"⟩
abbrev cX8_inMemory : ByteArray := prog_10_method_36_code
def yX8_inMemory : MethodName := ⟨RX8, "inMemory", "(I)V"⟩
abbrev cX8_meetAll : ByteArray := prog_10_method_37_code
def yX8_meetAll : MethodName := ⟨RX8, "meetAll", "(III)V"⟩
abbrev cX8_aloneOnes : ByteArray := prog_10_method_38_code
def yX8_aloneOnes : MethodName := ⟨RX8, "aloneOnes", "(II)V"⟩
abbrev cX8_holdNow : ByteArray := prog_10_method_39_code
def yX8_holdNow : MethodName := ⟨RX8, "holdNow", "(III)V"⟩
abbrev cX8_firstOf : ByteArray := prog_10_method_40_code
def yX8_firstOf : MethodName := ⟨RX8, "firstOf", "(II)I"⟩
abbrev cX8_blocksNow : ByteArray := prog_10_method_41_code
def yX8_blocksNow : MethodName := ⟨RX8, "blocksNow", "(III)V"⟩
abbrev cX8_isOneKey : ByteArray := prog_10_method_42_code
def yX8_isOneKey : MethodName := ⟨RX8, "isOneKey", "(II)Z"⟩
abbrev cX8_half : ByteArray := prog_10_method_43_code
def yX8_half : MethodName := ⟨RX8, "half", "(IIII)I"⟩
abbrev cX8_halfOf : ByteArray := prog_10_method_44_code
def yX8_halfOf : MethodName := ⟨RX8, "halfOf", "(III)I"⟩
abbrev cX8_rowsOfHalf : ByteArray := prog_10_method_45_code
def yX8_rowsOfHalf : MethodName := ⟨RX8, "rowsOfHalf", "(II)I"⟩
abbrev cX8_resident : ByteArray := prog_10_method_46_code
def yX8_resident : MethodName := ⟨RX8, "resident", "(II)I"⟩
abbrev cX8_splitNow : ByteArray := prog_10_method_47_code
def yX8_splitNow : MethodName := ⟨RX8, "splitNow", "(II)V"⟩
abbrev cX8_turn : ByteArray := prog_10_method_48_code
def yX8_turn : MethodName := ⟨RX8, "turn", "(III)Z"⟩
abbrev cX8_shutPart : ByteArray := prog_10_method_49_code
def yX8_shutPart : MethodName := ⟨RX8, "shutPart", "(I)V"⟩
abbrev cX8_nextHalf : ByteArray := prog_10_method_50_code
def yX8_nextHalf : MethodName := ⟨RX8, "nextHalf", "(I)I"⟩
abbrev cX8_withKeys : ByteArray := prog_10_method_51_code
def yX8_withKeys : MethodName := ⟨RX8, "withKeys", "(IZ)I"⟩
abbrev cX8_clearRun : ByteArray := prog_10_method_52_code
def yX8_clearRun : MethodName := ⟨RX8, "clearRun", "()V"⟩
abbrev cX8_runNow : ByteArray := prog_10_method_53_code
def yX8_runNow : MethodName := ⟨RX8, "runNow", "(I)V"⟩
abbrev cX8_clearTold : ByteArray := prog_10_method_54_code
def yX8_clearTold : MethodName := ⟨RX8, "clearTold", "()V"⟩
abbrev cX8_tell : ByteArray := prog_10_method_55_code
def yX8_tell : MethodName := ⟨RX8, "tell", "()V"⟩
abbrev cX8_run : ByteArray := prog_10_method_56_code
def yX8_run : MethodName := ⟨RX8, "run", "(I)I"⟩
abbrev cX8_outNow : ByteArray := prog_10_method_57_code
def yX8_outNow : MethodName := ⟨RX8, "outNow", "(II)I"⟩
abbrev cX8_out : ByteArray := prog_10_method_58_code
def yX8_out : MethodName := ⟨RX8, "out", "(II)I"⟩
abbrev cX8_logNow : ByteArray := prog_10_method_59_code
def yX8_logNow : MethodName := ⟨RX8, "logNow", "(II)I"⟩
abbrev cX8_log : ByteArray := prog_10_method_60_code
def yX8_log : MethodName := ⟨RX8, "log", "(II)I"⟩
abbrev cX8_ledger : ByteArray := prog_10_method_61_code
def yX8_ledger : MethodName := ⟨RX8, "ledger", "(I)I"⟩
abbrev cX8_spareNow : ByteArray := prog_10_method_62_code
def yX8_spareNow : MethodName := ⟨RX8, "spareNow", "()I"⟩
abbrev cX8_spare : ByteArray := prog_10_method_63_code
def yX8_spare : MethodName := ⟨RX8, "spare", "()I"⟩
abbrev cX8_could : ByteArray := prog_10_method_64_code
def yX8_could : MethodName := ⟨RX8, "could", "(II)Z"⟩
abbrev cX8_see : ByteArray := prog_10_method_65_code
def yX8_see : MethodName := ⟨RX8, "see", "(IZ)I"⟩
abbrev cX8_forget : ByteArray := prog_10_method_66_code
def yX8_forget : MethodName := ⟨RX8, "forget", "()I"⟩
abbrev cX8_sortsNow : ByteArray := prog_10_method_67_code
def yX8_sortsNow : MethodName := ⟨RX8, "sortsNow", "()I"⟩
abbrev cX8_askNow : ByteArray := prog_10_method_68_code
def yX8_askNow : MethodName := ⟨RX8, "askNow", "()I"⟩
abbrev cX8_sorts : ByteArray := prog_10_method_69_code
def yX8_sorts : MethodName := ⟨RX8, "sorts", "(I)I"⟩
abbrev cX8_draw : ByteArray := prog_10_method_70_code
def yX8_draw : MethodName := ⟨RX8, "draw", "(I)I"⟩
abbrev cX8_drawnNow : ByteArray := prog_10_method_71_code
def yX8_drawnNow : MethodName := ⟨RX8, "drawnNow", "(III)I"⟩
abbrev cX8_drawn : ByteArray := prog_10_method_72_code
def yX8_drawn : MethodName := ⟨RX8, "drawn", "(III)I"⟩
abbrev cX8_image : ByteArray := prog_10_method_73_code
def yX8_image : MethodName := ⟨RX8, "image", "()I"⟩
abbrev cX8_restore : ByteArray := prog_10_method_74_code
def yX8_restore : MethodName := ⟨RX8, "restore", "()I"⟩
abbrev cX8_keysOfAll : ByteArray := prog_10_method_75_code
def yX8_keysOfAll : MethodName := ⟨RX8, "keysOfAll", "()I"⟩
abbrev cX8_pairs : ByteArray := prog_10_method_76_code
def yX8_pairs : MethodName := ⟨RX8, "pairs", "()I"⟩
abbrev cX8_howMany : ByteArray := prog_10_method_77_code
def yX8_howMany : MethodName := ⟨RX8, "howMany", "(I)I"⟩
abbrev cX8_count : ByteArray := prog_10_method_78_code
def yX8_count : MethodName := ⟨RX8, "count", "(I)I"⟩
abbrev cX8_mix : ByteArray := prog_10_method_79_code
def yX8_mix : MethodName := ⟨RX8, "mix", "(J)V"⟩
abbrev cX8_mixRows : ByteArray := prog_10_method_80_code
def yX8_mixRows : MethodName := ⟨RX8, "mixRows", "()V"⟩
abbrev cX8_mixTold : ByteArray := prog_10_method_81_code
def yX8_mixTold : MethodName := ⟨RX8, "mixTold", "()V"⟩
abbrev cX8_digest : ByteArray := prog_10_method_82_code
def yX8_digest : MethodName := ⟨RX8, "digest", "()J"⟩
def RJ11 : String := "java/lang/Character"
def TJ11 : u_T := fun k => match k with
  | _ => ("", "", "", false)
def tyJ11 : Nat → FieldType := fun k => match k with
  | _ => .int
abbrev wsJ110 : List Cond := u_ws RJ11 TJ11 0
theorem nmJ11 : ∀ a, a < 0 → ∀ b, b < 0 → a ≠ b → (TJ11 a).2.1 ≠ (TJ11 b).2.1 := by decide +kernel
theorem tyJ11_ok : ∀ k, k < 0 → parseFieldDescriptor (TJ11 k).2.2.1 = some (tyJ11 k) := by decide +kernel
abbrev cJ11_isValidCodePoint_9a6ad : ByteArray := prog_11_method_11_code
def yJ11_isValidCodePoint_9a6ad : MethodName := ⟨RJ11, "isValidCodePoint", "(I)Z"⟩
abbrev cJ11_highSurrogate_5068e : ByteArray := prog_11_method_28_code
def yJ11_highSurrogate_5068e : MethodName := ⟨RJ11, "highSurrogate", "(I)C"⟩
abbrev cJ11_lowSurrogate_5068e : ByteArray := prog_11_method_29_code
def yJ11_lowSurrogate_5068e : MethodName := ⟨RJ11, "lowSurrogate", "(I)C"⟩
def RJ6 : String := "java/lang/Integer"
def TJ6 : u_T := fun k => match k with
  | _ => ("", "", "", false)
def tyJ6 : Nat → FieldType := fun k => match k with
  | _ => .int
abbrev wsJ60 : List Cond := u_ws RJ6 TJ6 0
theorem nmJ6 : ∀ a, a < 0 → ∀ b, b < 0 → a ≠ b → (TJ6 a).2.1 ≠ (TJ6 b).2.1 := by decide +kernel
theorem tyJ6_ok : ∀ k, k < 0 → parseFieldDescriptor (TJ6 k).2.2.1 = some (tyJ6 k) := by decide +kernel
abbrev cJ6_numberOfTrailingZeros_0f7a4 : ByteArray := prog_12_method_48_code
def yJ6_numberOfTrailingZeros_0f7a4 : MethodName := ⟨RJ6, "numberOfTrailingZeros", "(I)I"⟩
abbrev cJ6_bitCount_0f7a4 : ByteArray := prog_12_method_49_code
def yJ6_bitCount_0f7a4 : MethodName := ⟨RJ6, "bitCount", "(I)I"⟩
def RJ9 : String := "java/lang/Math"
def TJ9 : u_T := fun k => match k with
  | _ => ("", "", "", false)
def tyJ9 : Nat → FieldType := fun k => match k with
  | _ => .int
abbrev wsJ90 : List Cond := u_ws RJ9 TJ9 0
theorem nmJ9 : ∀ a, a < 0 → ∀ b, b < 0 → a ≠ b → (TJ9 a).2.1 ≠ (TJ9 b).2.1 := by decide +kernel
theorem tyJ9_ok : ∀ k, k < 0 → parseFieldDescriptor (TJ9 k).2.2.1 = some (tyJ9 k) := by decide +kernel
abbrev cJ9_max_7cf53 : ByteArray := prog_13_method_65_code
def yJ9_max_7cf53 : MethodName := ⟨RJ9, "max", "(II)I"⟩
abbrev cJ9_min_7cf53 : ByteArray := prog_13_method_69_code
def yJ9_min_7cf53 : MethodName := ⟨RJ9, "min", "(II)I"⟩
def RJ0 : String := "java/lang/String"
def TJ0 : u_T := fun k => match k with
  | _ => ("", "", "", false)
def tyJ0 : Nat → FieldType := fun k => match k with
  | _ => .int
abbrev wsJ00 : List Cond := u_ws RJ0 TJ0 0
theorem nmJ0 : ∀ a, a < 0 → ∀ b, b < 0 → a ≠ b → (TJ0 a).2.1 ≠ (TJ0 b).2.1 := by decide +kernel
theorem tyJ0_ok : ∀ k, k < 0 → parseFieldDescriptor (TJ0 k).2.2.1 = some (tyJ0 k) := by decide +kernel
abbrev cJ0_length_8abf5 : ByteArray := prog_14_method_54_code
def yJ0_length_8abf5 : MethodName := ⟨RJ0, "length", "()I"⟩
abbrev cJ0_indexOf_0f7a4 : ByteArray := prog_14_method_79_code
def yJ0_indexOf_0f7a4 : MethodName := ⟨RJ0, "indexOf", "(I)I"⟩
abbrev cJ0_indexOf_7cf53 : ByteArray := prog_14_method_80_code
def yJ0_indexOf_7cf53 : MethodName := ⟨RJ0, "indexOf", "(II)I"⟩
abbrev cJ0_coder_7d493 : ByteArray := prog_14_method_152_code
def yJ0_coder_7d493 : MethodName := ⟨RJ0, "coder", "()B"⟩
abbrev cJ0_isLatin1_aae02 : ByteArray := prog_14_method_154_code
def yJ0_isLatin1_aae02 : MethodName := ⟨RJ0, "isLatin1", "()Z"⟩
abbrev cJ0_checkBoundsBeginEnd_23922 : ByteArray := prog_14_method_158_code
def yJ0_checkBoundsBeginEnd_23922 : MethodName := ⟨RJ0, "checkBoundsBeginEnd", "(III)V"⟩
def RJ1 : String := "java/lang/StringLatin1"
def TJ1 : u_T := fun k => match k with
  | _ => ("", "", "", false)
def tyJ1 : Nat → FieldType := fun k => match k with
  | _ => .int
abbrev wsJ10 : List Cond := u_ws RJ1 TJ1 0
theorem nmJ1 : ∀ a, a < 0 → ∀ b, b < 0 → a ≠ b → (TJ1 a).2.1 ≠ (TJ1 b).2.1 := by decide +kernel
theorem tyJ1_ok : ∀ k, k < 0 → parseFieldDescriptor (TJ1 k).2.2.1 = some (tyJ1 k) := by decide +kernel
abbrev cJ1_canEncode_9a6ad : ByteArray := prog_15_method_4_code
def yJ1_canEncode_9a6ad : MethodName := ⟨RJ1, "canEncode", "(I)Z"⟩
abbrev cJ1_indexOf_4cfef : ByteArray := prog_15_method_22_code
def yJ1_indexOf_4cfef : MethodName := ⟨RJ1, "indexOf", "([BIII)I"⟩
abbrev cJ1_indexOfChar_4cfef : ByteArray := prog_15_method_23_code
def yJ1_indexOfChar_4cfef : MethodName := ⟨RJ1, "indexOfChar", "([BIII)I"⟩
def RJ2 : String := "java/lang/StringUTF16"
def TJ2 : u_T := fun k => match k with
  | _ => ("", "", "", false)
def tyJ2 : Nat → FieldType := fun k => match k with
  | _ => .int
abbrev wsJ20 : List Cond := u_ws RJ2 TJ2 0
theorem nmJ2 : ∀ a, a < 0 → ∀ b, b < 0 → a ≠ b → (TJ2 a).2.1 ≠ (TJ2 b).2.1 := by decide +kernel
theorem tyJ2_ok : ∀ k, k < 0 → parseFieldDescriptor (TJ2 k).2.2.1 = some (tyJ2 k) := by decide +kernel
abbrev cJ2_getChar_3b067 : ByteArray := prog_16_method_5_code
def yJ2_getChar_3b067 : MethodName := ⟨RJ2, "getChar", "([BI)C"⟩
abbrev cJ2_length_9d52b : ByteArray := prog_16_method_6_code
def yJ2_length_9d52b : MethodName := ⟨RJ2, "length", "([B)I"⟩
abbrev cJ2_indexOf_4cfef : ByteArray := prog_16_method_40_code
def yJ2_indexOf_4cfef : MethodName := ⟨RJ2, "indexOf", "([BIII)I"⟩
abbrev cJ2_indexOfChar_4cfef : ByteArray := prog_16_method_47_code
def yJ2_indexOfChar_4cfef : MethodName := ⟨RJ2, "indexOfChar", "([BIII)I"⟩
abbrev cJ2_indexOfCharUnsafe_4cfef : ByteArray := prog_16_method_48_code
def yJ2_indexOfCharUnsafe_4cfef : MethodName := ⟨RJ2, "indexOfCharUnsafe", "([BIII)I"⟩
abbrev cJ2_indexOfSupplementary_4cfef : ByteArray := prog_16_method_49_code
def yJ2_indexOfSupplementary_4cfef : MethodName := ⟨RJ2, "indexOfSupplementary", "([BIII)I"⟩
abbrev cJ2_checkBoundsBeginEnd_d044e : ByteArray := prog_16_method_93_code
def yJ2_checkBoundsBeginEnd_d044e : MethodName := ⟨RJ2, "checkBoundsBeginEnd", "(II[B)V"⟩
def RJ7 : String := "java/util/Arrays"
def TJ7 : u_T := fun k => match k with
  | _ => ("", "", "", false)
def tyJ7 : Nat → FieldType := fun k => match k with
  | _ => .int
abbrev wsJ70 : List Cond := u_ws RJ7 TJ7 0
theorem nmJ7 : ∀ a, a < 0 → ∀ b, b < 0 → a ≠ b → (TJ7 a).2.1 ≠ (TJ7 b).2.1 := by decide +kernel
theorem tyJ7_ok : ∀ k, k < 0 → parseFieldDescriptor (TJ7 k).2.2.1 = some (tyJ7 k) := by decide +kernel
abbrev cJ7_fill_53178 : ByteArray := prog_17_method_103_code
def yJ7_fill_53178 : MethodName := ⟨RJ7, "fill", "([II)V"⟩
def RJ3 : String := "jdk/internal/util/Preconditions"
def TJ3 : u_T := fun k => match k with
  | _ => ("", "", "", false)
def tyJ3 : Nat → FieldType := fun k => match k with
  | _ => .int
abbrev wsJ30 : List Cond := u_ws RJ3 TJ3 0
theorem nmJ3 : ∀ a, a < 0 → ∀ b, b < 0 → a ≠ b → (TJ3 a).2.1 ≠ (TJ3 b).2.1 := by decide +kernel
theorem tyJ3_ok : ∀ k, k < 0 → parseFieldDescriptor (TJ3 k).2.2.1 = some (tyJ3 k) := by decide +kernel
abbrev cJ3_checkFromToIndex_8c36e : ByteArray := prog_18_method_12_code
def yJ3_checkFromToIndex_8c36e : MethodName := ⟨RJ3, "checkFromToIndex", "(IIILjava/util/function/BiFunction;)I"⟩
def RL : String := "SpillJoinLaw"
abbrev cL_law : ByteArray := code
def yL_law : MethodName := ⟨RL, "law", "([I)Z"⟩
abbrev vwCl : List vw_C := [(RX0, TX0, 8), (RX1, TX1, 5), (RX2, TX2, 2), (RX3, TX3, 5), (RX4, TX4, 2), (RX5, TX5, 2), (RX6, TX6, 4), (RX7, TX7, 10), (RX8, TX8, 62)]
/-- the tables' words that hold on in every later state -/
def tb : List Cond := lw_tbl.filter goodWord
def isNst : Cond → Bool
  | .fieldLinkNest .. => true
  | .methodLinkNest .. => true
  | _ => false
/-- the tables' words on private members of nest mates -/
def nst : List Cond := lw_tbl.filter isNst
theorem tb_mem {w : Cond} (i : Nat) (h : lw_tbl[i]? = some w) (g : goodWord w = true) : w ∈ tb := List.mem_filter.mpr ⟨List.mem_of_getElem? h, g⟩
theorem nst_mem {w : Cond} (i : Nat) (h : lw_tbl[i]? = some w) (g : isNst w = true) : w ∈ nst := List.mem_filter.mpr ⟨List.mem_of_getElem? h, g⟩
theorem tb_places {ws : List Cond} (ps : List Nat) (hp : ws = ps.filterMap (fun i => lw_tbl[i]?)) (h : ws.all goodWord = true) : ∀ w ∈ ws, w ∈ tb := by
  intro w hw
  have h1 := List.all_eq_true.mp h w hw
  rw [hp] at hw
  obtain ⟨i, -, hi⟩ := List.mem_filterMap.mp hw
  exact tb_mem i hi h1
theorem inTX0 : ∀ w ∈ u_ws RX0 TX0 8, w ∈ tb := tb_places [238, 240, 242, 244, 246, 248, 250, 252] (by decide +kernel) (by decide +kernel)
theorem inTX1 : ∀ w ∈ u_ws RX1 TX1 5, w ∈ tb := tb_places [210, 212, 214, 216, 218] (by decide +kernel) (by decide +kernel)
theorem inTX2 : ∀ w ∈ u_ws RX2 TX2 2, w ∈ tb := tb_places [141, 143] (by decide +kernel) (by decide +kernel)
theorem inTX3 : ∀ w ∈ u_ws RX3 TX3 5, w ∈ tb := tb_places [263, 265, 267, 269, 271] (by decide +kernel) (by decide +kernel)
theorem inTX4 : ∀ w ∈ u_ws RX4 TX4 2, w ∈ tb := tb_places [284, 286] (by decide +kernel) (by decide +kernel)
theorem inTX5 : ∀ w ∈ u_ws RX5 TX5 2, w ∈ tb := tb_places [169, 171] (by decide +kernel) (by decide +kernel)
theorem inTX6 : ∀ w ∈ u_ws RX6 TX6 4, w ∈ tb := tb_places [186, 188, 190, 192] (by decide +kernel) (by decide +kernel)
theorem inTX7 : ∀ w ∈ u_ws RX7 TX7 10, w ∈ tb := tb_places [301, 303, 305, 307, 309, 311, 313, 315, 317, 319] (by decide +kernel) (by decide +kernel)
theorem inTX8 : ∀ w ∈ u_ws RX8 TX8 62, w ∈ tb := tb_places [909, 911, 913, 915, 917, 919, 921, 923, 925, 927, 929, 931, 933, 935, 937, 939, 941, 943, 945, 947, 949, 951, 953, 955, 957, 959, 961, 963, 965, 967, 969, 971, 973, 975, 977, 979, 981, 983, 985, 987, 989, 991, 993, 995, 997, 999, 1001, 1003, 1005, 1007, 1009, 1011, 1013, 1015, 1017, 1019, 1021, 1023, 1025, 1027, 1029, 1031] (by decide +kernel) (by decide +kernel)
