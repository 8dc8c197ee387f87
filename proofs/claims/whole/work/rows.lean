section
-- ===== PART A: goes FIRST, ahead of the names: the tables' words, and 'selects' of the private methods out of them =====
/-- a private method of a class that the tables say can be made, by its rows of tables_1 -/
def lw_okq (q : MethodName × Nat) : Prop := (q.1.cls ≠ "java/lang/invoke/MethodHandle" ∧ q.1.cls ≠ "java/lang/invoke/VarHandle") ∧ Cond.instantiable q.1.cls q.2 ∈ tables_1 ∧ Cond.privateMethod q.1 ∈ tables_1 ∧ Cond.instanceMethod q.1 ∈ tables_1
theorem lw_p0 : lw_okq (⟨"SpillJoin$Page", "isFull", "()Z"⟩, 2) := ⟨⟨by decide +kernel, by decide +kernel⟩, List.mem_of_getElem? (i := 27) (by decide +kernel), List.mem_of_getElem? (i := 221) (by decide +kernel), List.mem_of_getElem? (i := 222) (by decide +kernel)⟩
theorem lw_p1 : lw_okq (⟨"SpillJoin$Page", "add", "(I)V"⟩, 2) := ⟨⟨by decide +kernel, by decide +kernel⟩, List.mem_of_getElem? (i := 27) (by decide +kernel), List.mem_of_getElem? (i := 225) (by decide +kernel), List.mem_of_getElem? (i := 226) (by decide +kernel)⟩
theorem lw_p2 : lw_okq (⟨"SpillJoin$Page", "clear", "()V"⟩, 2) := ⟨⟨by decide +kernel, by decide +kernel⟩, List.mem_of_getElem? (i := 27) (by decide +kernel), List.mem_of_getElem? (i := 233) (by decide +kernel), List.mem_of_getElem? (i := 234) (by decide +kernel)⟩
theorem lw_p3 : lw_okq (⟨"SpillJoin$Page", "firstFault", "()I"⟩, 2) := ⟨⟨by decide +kernel, by decide +kernel⟩, List.mem_of_getElem? (i := 27) (by decide +kernel), List.mem_of_getElem? (i := 241) (by decide +kernel), List.mem_of_getElem? (i := 242) (by decide +kernel)⟩
theorem lw_p4 : lw_okq (⟨"SpillJoin$Page", "codeAt", "(I)I"⟩, 2) := ⟨⟨by decide +kernel, by decide +kernel⟩, List.mem_of_getElem? (i := 27) (by decide +kernel), List.mem_of_getElem? (i := 245) (by decide +kernel), List.mem_of_getElem? (i := 246) (by decide +kernel)⟩
theorem lw_p5 : lw_okq (⟨"SpillJoin$Page", "isWhole", "()Z"⟩, 2) := ⟨⟨by decide +kernel, by decide +kernel⟩, List.mem_of_getElem? (i := 27) (by decide +kernel), List.mem_of_getElem? (i := 350) (by decide +kernel), List.mem_of_getElem? (i := 351) (by decide +kernel)⟩
theorem lw_p6 : lw_okq (⟨"SpillJoin$Page", "secondMark", "()I"⟩, 2) := ⟨⟨by decide +kernel, by decide +kernel⟩, List.mem_of_getElem? (i := 27) (by decide +kernel), List.mem_of_getElem? (i := 355) (by decide +kernel), List.mem_of_getElem? (i := 356) (by decide +kernel)⟩
theorem lw_p7 : lw_okq (⟨"SpillJoin$Page", "readRows", "(LSpillJoin$Side;II)V"⟩, 2) := ⟨⟨by decide +kernel, by decide +kernel⟩, List.mem_of_getElem? (i := 27) (by decide +kernel), List.mem_of_getElem? (i := 362) (by decide +kernel), List.mem_of_getElem? (i := 363) (by decide +kernel)⟩
theorem lw_p8 : lw_okq (⟨"SpillJoin$Side", "clear", "()V"⟩, 2) := ⟨⟨by decide +kernel, by decide +kernel⟩, List.mem_of_getElem? (i := 54) (by decide +kernel), List.mem_of_getElem? (i := 366) (by decide +kernel), List.mem_of_getElem? (i := 367) (by decide +kernel)⟩
theorem lw_p9 : lw_okq (⟨"SpillJoin$Side", "add", "(I)V"⟩, 2) := ⟨⟨by decide +kernel, by decide +kernel⟩, List.mem_of_getElem? (i := 54) (by decide +kernel), List.mem_of_getElem? (i := 370) (by decide +kernel), List.mem_of_getElem? (i := 371) (by decide +kernel)⟩
theorem lw_p10 : lw_okq (⟨"SpillJoin$Seen", "clear", "()V"⟩, 2) := ⟨⟨by decide +kernel, by decide +kernel⟩, List.mem_of_getElem? (i := 169) (by decide +kernel), List.mem_of_getElem? (i := 374) (by decide +kernel), List.mem_of_getElem? (i := 375) (by decide +kernel)⟩
theorem lw_p11 : lw_okq (⟨"SpillJoin$Run", "clear", "(I)V"⟩, 5) := ⟨⟨by decide +kernel, by decide +kernel⟩, List.mem_of_getElem? (i := 42) (by decide +kernel), List.mem_of_getElem? (i := 378) (by decide +kernel), List.mem_of_getElem? (i := 379) (by decide +kernel)⟩
theorem lw_p12 : lw_okq (⟨"SpillJoin$Output", "clear", "(I)V"⟩, 5) := ⟨⟨by decide +kernel, by decide +kernel⟩, List.mem_of_getElem? (i := 90) (by decide +kernel), List.mem_of_getElem? (i := 382) (by decide +kernel), List.mem_of_getElem? (i := 383) (by decide +kernel)⟩
theorem lw_p13 : lw_okq (⟨"SpillJoin$Log", "clear", "()V"⟩, 8) := ⟨⟨by decide +kernel, by decide +kernel⟩, List.mem_of_getElem? (i := 116) (by decide +kernel), List.mem_of_getElem? (i := 386) (by decide +kernel), List.mem_of_getElem? (i := 387) (by decide +kernel)⟩
theorem lw_p14 : lw_okq (⟨"SpillJoin$Tables", "size", "()I"⟩, 4) := ⟨⟨by decide +kernel, by decide +kernel⟩, List.mem_of_getElem? (i := 48) (by decide +kernel), List.mem_of_getElem? (i := 393) (by decide +kernel), List.mem_of_getElem? (i := 394) (by decide +kernel)⟩
theorem lw_p15 : lw_okq (⟨"SpillJoin$Tables", "hasRow", "(II)Z"⟩, 4) := ⟨⟨by decide +kernel, by decide +kernel⟩, List.mem_of_getElem? (i := 48) (by decide +kernel), List.mem_of_getElem? (i := 401) (by decide +kernel), List.mem_of_getElem? (i := 402) (by decide +kernel)⟩
def lw_privs_1 : List (MethodName × Nat) := [(⟨"SpillJoin$Page", "isFull", "()Z"⟩, 2), (⟨"SpillJoin$Page", "add", "(I)V"⟩, 2), (⟨"SpillJoin$Page", "clear", "()V"⟩, 2), (⟨"SpillJoin$Page", "firstFault", "()I"⟩, 2), (⟨"SpillJoin$Page", "codeAt", "(I)I"⟩, 2), (⟨"SpillJoin$Page", "isWhole", "()Z"⟩, 2), (⟨"SpillJoin$Page", "secondMark", "()I"⟩, 2), (⟨"SpillJoin$Page", "readRows", "(LSpillJoin$Side;II)V"⟩, 2), (⟨"SpillJoin$Side", "clear", "()V"⟩, 2), (⟨"SpillJoin$Side", "add", "(I)V"⟩, 2), (⟨"SpillJoin$Seen", "clear", "()V"⟩, 2), (⟨"SpillJoin$Run", "clear", "(I)V"⟩, 5), (⟨"SpillJoin$Output", "clear", "(I)V"⟩, 5), (⟨"SpillJoin$Log", "clear", "()V"⟩, 8), (⟨"SpillJoin$Tables", "size", "()I"⟩, 4), (⟨"SpillJoin$Tables", "hasRow", "(II)Z"⟩, 4)]
theorem lw_r1 : ∀ q ∈ lw_privs_1, lw_okq q := List.forall_mem_cons.mpr ⟨lw_p0, List.forall_mem_cons.mpr ⟨lw_p1, List.forall_mem_cons.mpr ⟨lw_p2, List.forall_mem_cons.mpr ⟨lw_p3, List.forall_mem_cons.mpr ⟨lw_p4, List.forall_mem_cons.mpr ⟨lw_p5, List.forall_mem_cons.mpr ⟨lw_p6, List.forall_mem_cons.mpr ⟨lw_p7, List.forall_mem_cons.mpr ⟨lw_p8, List.forall_mem_cons.mpr ⟨lw_p9, List.forall_mem_cons.mpr ⟨lw_p10, List.forall_mem_cons.mpr ⟨lw_p11, List.forall_mem_cons.mpr ⟨lw_p12, List.forall_mem_cons.mpr ⟨lw_p13, List.forall_mem_cons.mpr ⟨lw_p14, List.forall_mem_cons.mpr ⟨lw_p15, fun _ h => absurd h List.not_mem_nil⟩⟩⟩⟩⟩⟩⟩⟩⟩⟩⟩⟩⟩⟩⟩⟩
theorem lw_p16 : lw_okq (⟨"SpillJoin$Tables", "sideOf", "(I)LSpillJoin$Side;"⟩, 4) := ⟨⟨by decide +kernel, by decide +kernel⟩, List.mem_of_getElem? (i := 48) (by decide +kernel), List.mem_of_getElem? (i := 408) (by decide +kernel), List.mem_of_getElem? (i := 409) (by decide +kernel)⟩
theorem lw_p17 : lw_okq (⟨"SpillJoin$Side", "has", "(I)Z"⟩, 2) := ⟨⟨by decide +kernel, by decide +kernel⟩, List.mem_of_getElem? (i := 54) (by decide +kernel), List.mem_of_getElem? (i := 412) (by decide +kernel), List.mem_of_getElem? (i := 413) (by decide +kernel)⟩
theorem lw_p18 : lw_okq (⟨"SpillJoin$Side", "keyAt", "(I)I"⟩, 2) := ⟨⟨by decide +kernel, by decide +kernel⟩, List.mem_of_getElem? (i := 54) (by decide +kernel), List.mem_of_getElem? (i := 417) (by decide +kernel), List.mem_of_getElem? (i := 418) (by decide +kernel)⟩
theorem lw_p19 : lw_okq (⟨"SpillJoin$Tables", "partners", "(II)I"⟩, 4) := ⟨⟨by decide +kernel, by decide +kernel⟩, List.mem_of_getElem? (i := 48) (by decide +kernel), List.mem_of_getElem? (i := 421) (by decide +kernel), List.mem_of_getElem? (i := 422) (by decide +kernel)⟩
theorem lw_p20 : lw_okq (⟨"SpillJoin$Side", "rowsOfKey", "(I)I"⟩, 2) := ⟨⟨by decide +kernel, by decide +kernel⟩, List.mem_of_getElem? (i := 54) (by decide +kernel), List.mem_of_getElem? (i := 429) (by decide +kernel), List.mem_of_getElem? (i := 430) (by decide +kernel)⟩
theorem lw_p21 : lw_okq (⟨"SpillJoin$Tables", "areThere", "()Z"⟩, 4) := ⟨⟨by decide +kernel, by decide +kernel⟩, List.mem_of_getElem? (i := 48) (by decide +kernel), List.mem_of_getElem? (i := 446) (by decide +kernel), List.mem_of_getElem? (i := 447) (by decide +kernel)⟩
theorem lw_p22 : lw_okq (⟨"SpillJoin$Side", "remove", "(I)V"⟩, 2) := ⟨⟨by decide +kernel, by decide +kernel⟩, List.mem_of_getElem? (i := 54) (by decide +kernel), List.mem_of_getElem? (i := 463) (by decide +kernel), List.mem_of_getElem? (i := 464) (by decide +kernel)⟩
theorem lw_p23 : lw_okq (⟨"SpillJoin$Side", "change", "(II)V"⟩, 2) := ⟨⟨by decide +kernel, by decide +kernel⟩, List.mem_of_getElem? (i := 54) (by decide +kernel), List.mem_of_getElem? (i := 469) (by decide +kernel), List.mem_of_getElem? (i := 470) (by decide +kernel)⟩
theorem lw_p24 : lw_okq (⟨"SpillJoin$Run", "go", "(I)V"⟩, 5) := ⟨⟨by decide +kernel, by decide +kernel⟩, List.mem_of_getElem? (i := 42) (by decide +kernel), List.mem_of_getElem? (i := 490) (by decide +kernel), List.mem_of_getElem? (i := 491) (by decide +kernel)⟩
theorem lw_p25 : lw_okq (⟨"SpillJoin$Side", "rowsWithKey", "()I"⟩, 2) := ⟨⟨by decide +kernel, by decide +kernel⟩, List.mem_of_getElem? (i := 54) (by decide +kernel), List.mem_of_getElem? (i := 495) (by decide +kernel), List.mem_of_getElem? (i := 496) (by decide +kernel)⟩
theorem lw_p26 : lw_okq (⟨"SpillJoin$Run", "turn", "(III)V"⟩, 5) := ⟨⟨by decide +kernel, by decide +kernel⟩, List.mem_of_getElem? (i := 42) (by decide +kernel), List.mem_of_getElem? (i := 499) (by decide +kernel), List.mem_of_getElem? (i := 500) (by decide +kernel)⟩
theorem lw_p27 : lw_okq (⟨"SpillJoin$Tables", "buildSide", "(II)I"⟩, 4) := ⟨⟨by decide +kernel, by decide +kernel⟩, List.mem_of_getElem? (i := 48) (by decide +kernel), List.mem_of_getElem? (i := 503) (by decide +kernel), List.mem_of_getElem? (i := 504) (by decide +kernel)⟩
theorem lw_p28 : lw_okq (⟨"SpillJoin$Run", "natureOf", "(III)I"⟩, 5) := ⟨⟨by decide +kernel, by decide +kernel⟩, List.mem_of_getElem? (i := 42) (by decide +kernel), List.mem_of_getElem? (i := 508) (by decide +kernel), List.mem_of_getElem? (i := 509) (by decide +kernel)⟩
theorem lw_p29 : lw_okq (⟨"SpillJoin$Side", "haveOneKey", "(I)Z"⟩, 2) := ⟨⟨by decide +kernel, by decide +kernel⟩, List.mem_of_getElem? (i := 54) (by decide +kernel), List.mem_of_getElem? (i := 514) (by decide +kernel), List.mem_of_getElem? (i := 515) (by decide +kernel)⟩
theorem lw_p30 : lw_okq (⟨"SpillJoin$Log", "open", "(I)V"⟩, 8) := ⟨⟨by decide +kernel, by decide +kernel⟩, List.mem_of_getElem? (i := 116) (by decide +kernel), List.mem_of_getElem? (i := 523) (by decide +kernel), List.mem_of_getElem? (i := 524) (by decide +kernel)⟩
theorem lw_p31 : lw_okq (⟨"SpillJoin$Log", "add", "(III)V"⟩, 8) := ⟨⟨by decide +kernel, by decide +kernel⟩, List.mem_of_getElem? (i := 116) (by decide +kernel), List.mem_of_getElem? (i := 527) (by decide +kernel), List.mem_of_getElem? (i := 528) (by decide +kernel)⟩
def lw_privs_2 : List (MethodName × Nat) := [(⟨"SpillJoin$Tables", "sideOf", "(I)LSpillJoin$Side;"⟩, 4), (⟨"SpillJoin$Side", "has", "(I)Z"⟩, 2), (⟨"SpillJoin$Side", "keyAt", "(I)I"⟩, 2), (⟨"SpillJoin$Tables", "partners", "(II)I"⟩, 4), (⟨"SpillJoin$Side", "rowsOfKey", "(I)I"⟩, 2), (⟨"SpillJoin$Tables", "areThere", "()Z"⟩, 4), (⟨"SpillJoin$Side", "remove", "(I)V"⟩, 2), (⟨"SpillJoin$Side", "change", "(II)V"⟩, 2), (⟨"SpillJoin$Run", "go", "(I)V"⟩, 5), (⟨"SpillJoin$Side", "rowsWithKey", "()I"⟩, 2), (⟨"SpillJoin$Run", "turn", "(III)V"⟩, 5), (⟨"SpillJoin$Tables", "buildSide", "(II)I"⟩, 4), (⟨"SpillJoin$Run", "natureOf", "(III)I"⟩, 5), (⟨"SpillJoin$Side", "haveOneKey", "(I)Z"⟩, 2), (⟨"SpillJoin$Log", "open", "(I)V"⟩, 8), (⟨"SpillJoin$Log", "add", "(III)V"⟩, 8)]
theorem lw_r2 : ∀ q ∈ lw_privs_2, lw_okq q := List.forall_mem_cons.mpr ⟨lw_p16, List.forall_mem_cons.mpr ⟨lw_p17, List.forall_mem_cons.mpr ⟨lw_p18, List.forall_mem_cons.mpr ⟨lw_p19, List.forall_mem_cons.mpr ⟨lw_p20, List.forall_mem_cons.mpr ⟨lw_p21, List.forall_mem_cons.mpr ⟨lw_p22, List.forall_mem_cons.mpr ⟨lw_p23, List.forall_mem_cons.mpr ⟨lw_p24, List.forall_mem_cons.mpr ⟨lw_p25, List.forall_mem_cons.mpr ⟨lw_p26, List.forall_mem_cons.mpr ⟨lw_p27, List.forall_mem_cons.mpr ⟨lw_p28, List.forall_mem_cons.mpr ⟨lw_p29, List.forall_mem_cons.mpr ⟨lw_p30, List.forall_mem_cons.mpr ⟨lw_p31, fun _ h => absurd h List.not_mem_nil⟩⟩⟩⟩⟩⟩⟩⟩⟩⟩⟩⟩⟩⟩⟩⟩
theorem lw_p32 : lw_okq (⟨"SpillJoin$Run", "enterPart", "(III)V"⟩, 5) := ⟨⟨by decide +kernel, by decide +kernel⟩, List.mem_of_getElem? (i := 42) (by decide +kernel), List.mem_of_getElem? (i := 531) (by decide +kernel), List.mem_of_getElem? (i := 532) (by decide +kernel)⟩
theorem lw_p33 : lw_okq (⟨"SpillJoin$Run", "hold", "(III)V"⟩, 5) := ⟨⟨by decide +kernel, by decide +kernel⟩, List.mem_of_getElem? (i := 42) (by decide +kernel), List.mem_of_getElem? (i := 536) (by decide +kernel), List.mem_of_getElem? (i := 537) (by decide +kernel)⟩
theorem lw_p34 : lw_okq (⟨"SpillJoin$Run", "noteHeld", "(I)V"⟩, 5) := ⟨⟨by decide +kernel, by decide +kernel⟩, List.mem_of_getElem? (i := 42) (by decide +kernel), List.mem_of_getElem? (i := 540) (by decide +kernel), List.mem_of_getElem? (i := 541) (by decide +kernel)⟩
theorem lw_p35 : lw_okq (⟨"SpillJoin$Run", "meetAll", "(III)V"⟩, 5) := ⟨⟨by decide +kernel, by decide +kernel⟩, List.mem_of_getElem? (i := 42) (by decide +kernel), List.mem_of_getElem? (i := 548) (by decide +kernel), List.mem_of_getElem? (i := 549) (by decide +kernel)⟩
theorem lw_p36 : lw_okq (⟨"SpillJoin$Run", "meet", "(II)V"⟩, 5) := ⟨⟨by decide +kernel, by decide +kernel⟩, List.mem_of_getElem? (i := 42) (by decide +kernel), List.mem_of_getElem? (i := 553) (by decide +kernel), List.mem_of_getElem? (i := 554) (by decide +kernel)⟩
theorem lw_p37 : lw_okq (⟨"SpillJoin$Output", "add", "(II)V"⟩, 5) := ⟨⟨by decide +kernel, by decide +kernel⟩, List.mem_of_getElem? (i := 90) (by decide +kernel), List.mem_of_getElem? (i := 562) (by decide +kernel), List.mem_of_getElem? (i := 563) (by decide +kernel)⟩
theorem lw_p38 : lw_okq (⟨"SpillJoin$Run", "comeOutAlone", "(II)V"⟩, 5) := ⟨⟨by decide +kernel, by decide +kernel⟩, List.mem_of_getElem? (i := 42) (by decide +kernel), List.mem_of_getElem? (i := 566) (by decide +kernel), List.mem_of_getElem? (i := 567) (by decide +kernel)⟩
theorem lw_p39 : lw_okq (⟨"SpillJoin$Run", "goByBlocks", "(III)V"⟩, 5) := ⟨⟨by decide +kernel, by decide +kernel⟩, List.mem_of_getElem? (i := 42) (by decide +kernel), List.mem_of_getElem? (i := 570) (by decide +kernel), List.mem_of_getElem? (i := 571) (by decide +kernel)⟩
theorem lw_p40 : lw_okq (⟨"SpillJoin$Run", "split", "(IIII)V"⟩, 5) := ⟨⟨by decide +kernel, by decide +kernel⟩, List.mem_of_getElem? (i := 42) (by decide +kernel), List.mem_of_getElem? (i := 577) (by decide +kernel), List.mem_of_getElem? (i := 578) (by decide +kernel)⟩
theorem lw_p41 : lw_okq (⟨"SpillJoin$Side", "rowsWithBit", "(I)I"⟩, 2) := ⟨⟨by decide +kernel, by decide +kernel⟩, List.mem_of_getElem? (i := 54) (by decide +kernel), List.mem_of_getElem? (i := 581) (by decide +kernel), List.mem_of_getElem? (i := 582) (by decide +kernel)⟩
theorem lw_p42 : lw_okq (⟨"SpillJoin$Run", "residentHalf", "(II)I"⟩, 5) := ⟨⟨by decide +kernel, by decide +kernel⟩, List.mem_of_getElem? (i := 42) (by decide +kernel), List.mem_of_getElem? (i := 585) (by decide +kernel), List.mem_of_getElem? (i := 586) (by decide +kernel)⟩
theorem lw_p43 : lw_okq (⟨"SpillJoin$Run", "spill", "(II)V"⟩, 5) := ⟨⟨by decide +kernel, by decide +kernel⟩, List.mem_of_getElem? (i := 42) (by decide +kernel), List.mem_of_getElem? (i := 589) (by decide +kernel), List.mem_of_getElem? (i := 590) (by decide +kernel)⟩
theorem lw_p44 : lw_okq (⟨"SpillJoin$Run", "goOn", "(IIII)V"⟩, 5) := ⟨⟨by decide +kernel, by decide +kernel⟩, List.mem_of_getElem? (i := 42) (by decide +kernel), List.mem_of_getElem? (i := 593) (by decide +kernel), List.mem_of_getElem? (i := 594) (by decide +kernel)⟩
theorem lw_p45 : lw_okq (⟨"SpillJoin$Log", "shutDownTo", "(I)V"⟩, 8) := ⟨⟨by decide +kernel, by decide +kernel⟩, List.mem_of_getElem? (i := 116) (by decide +kernel), List.mem_of_getElem? (i := 597) (by decide +kernel), List.mem_of_getElem? (i := 598) (by decide +kernel)⟩
theorem lw_p46 : lw_okq (⟨"SpillJoin$Side", "rowsWithoutKey", "()I"⟩, 2) := ⟨⟨by decide +kernel, by decide +kernel⟩, List.mem_of_getElem? (i := 54) (by decide +kernel), List.mem_of_getElem? (i := 601) (by decide +kernel), List.mem_of_getElem? (i := 602) (by decide +kernel)⟩
theorem lw_p47 : lw_okq (⟨"SpillJoin$Output", "at", "(II)I"⟩, 5) := ⟨⟨by decide +kernel, by decide +kernel⟩, List.mem_of_getElem? (i := 90) (by decide +kernel), List.mem_of_getElem? (i := 610) (by decide +kernel), List.mem_of_getElem? (i := 611) (by decide +kernel)⟩
def lw_privs_3 : List (MethodName × Nat) := [(⟨"SpillJoin$Run", "enterPart", "(III)V"⟩, 5), (⟨"SpillJoin$Run", "hold", "(III)V"⟩, 5), (⟨"SpillJoin$Run", "noteHeld", "(I)V"⟩, 5), (⟨"SpillJoin$Run", "meetAll", "(III)V"⟩, 5), (⟨"SpillJoin$Run", "meet", "(II)V"⟩, 5), (⟨"SpillJoin$Output", "add", "(II)V"⟩, 5), (⟨"SpillJoin$Run", "comeOutAlone", "(II)V"⟩, 5), (⟨"SpillJoin$Run", "goByBlocks", "(III)V"⟩, 5), (⟨"SpillJoin$Run", "split", "(IIII)V"⟩, 5), (⟨"SpillJoin$Side", "rowsWithBit", "(I)I"⟩, 2), (⟨"SpillJoin$Run", "residentHalf", "(II)I"⟩, 5), (⟨"SpillJoin$Run", "spill", "(II)V"⟩, 5), (⟨"SpillJoin$Run", "goOn", "(IIII)V"⟩, 5), (⟨"SpillJoin$Log", "shutDownTo", "(I)V"⟩, 8), (⟨"SpillJoin$Side", "rowsWithoutKey", "()I"⟩, 2), (⟨"SpillJoin$Output", "at", "(II)I"⟩, 5)]
theorem lw_r3 : ∀ q ∈ lw_privs_3, lw_okq q := List.forall_mem_cons.mpr ⟨lw_p32, List.forall_mem_cons.mpr ⟨lw_p33, List.forall_mem_cons.mpr ⟨lw_p34, List.forall_mem_cons.mpr ⟨lw_p35, List.forall_mem_cons.mpr ⟨lw_p36, List.forall_mem_cons.mpr ⟨lw_p37, List.forall_mem_cons.mpr ⟨lw_p38, List.forall_mem_cons.mpr ⟨lw_p39, List.forall_mem_cons.mpr ⟨lw_p40, List.forall_mem_cons.mpr ⟨lw_p41, List.forall_mem_cons.mpr ⟨lw_p42, List.forall_mem_cons.mpr ⟨lw_p43, List.forall_mem_cons.mpr ⟨lw_p44, List.forall_mem_cons.mpr ⟨lw_p45, List.forall_mem_cons.mpr ⟨lw_p46, List.forall_mem_cons.mpr ⟨lw_p47, fun _ h => absurd h List.not_mem_nil⟩⟩⟩⟩⟩⟩⟩⟩⟩⟩⟩⟩⟩⟩⟩⟩
theorem lw_p48 : lw_okq (⟨"SpillJoin$Log", "at", "(II)I"⟩, 8) := ⟨⟨by decide +kernel, by decide +kernel⟩, List.mem_of_getElem? (i := 116) (by decide +kernel), List.mem_of_getElem? (i := 618) (by decide +kernel), List.mem_of_getElem? (i := 619) (by decide +kernel)⟩
theorem lw_p49 : lw_okq (⟨"SpillJoin$Run", "lineAt", "(I)I"⟩, 5) := ⟨⟨by decide +kernel, by decide +kernel⟩, List.mem_of_getElem? (i := 42) (by decide +kernel), List.mem_of_getElem? (i := 626) (by decide +kernel), List.mem_of_getElem? (i := 627) (by decide +kernel)⟩
theorem lw_p50 : lw_okq (⟨"SpillJoin$Seen", "add", "(IZ)V"⟩, 2) := ⟨⟨by decide +kernel, by decide +kernel⟩, List.mem_of_getElem? (i := 169) (by decide +kernel), List.mem_of_getElem? (i := 642) (by decide +kernel), List.mem_of_getElem? (i := 643) (by decide +kernel)⟩
theorem lw_p51 : lw_okq (⟨"SpillJoin$Seen", "bestQuestion", "()I"⟩, 2) := ⟨⟨by decide +kernel, by decide +kernel⟩, List.mem_of_getElem? (i := 169) (by decide +kernel), List.mem_of_getElem? (i := 658) (by decide +kernel), List.mem_of_getElem? (i := 659) (by decide +kernel)⟩
theorem lw_p52 : lw_okq (⟨"SpillJoin$Tables", "copy", "(LSpillJoin$Tables;)V"⟩, 4) := ⟨⟨by decide +kernel, by decide +kernel⟩, List.mem_of_getElem? (i := 48) (by decide +kernel), List.mem_of_getElem? (i := 681) (by decide +kernel), List.mem_of_getElem? (i := 682) (by decide +kernel)⟩
theorem lw_p53 : lw_okq (⟨"SpillJoin$Side", "copy", "(LSpillJoin$Side;)V"⟩, 2) := ⟨⟨by decide +kernel, by decide +kernel⟩, List.mem_of_getElem? (i := 54) (by decide +kernel), List.mem_of_getElem? (i := 685) (by decide +kernel), List.mem_of_getElem? (i := 686) (by decide +kernel)⟩
theorem lw_p54 : lw_okq (⟨"SpillJoin$Seen", "copy", "(LSpillJoin$Seen;)V"⟩, 2) := ⟨⟨by decide +kernel, by decide +kernel⟩, List.mem_of_getElem? (i := 169) (by decide +kernel), List.mem_of_getElem? (i := 691) (by decide +kernel), List.mem_of_getElem? (i := 692) (by decide +kernel)⟩
theorem lw_p55 : lw_okq (⟨"SpillJoin$Side", "keySet", "()I"⟩, 2) := ⟨⟨by decide +kernel, by decide +kernel⟩, List.mem_of_getElem? (i := 54) (by decide +kernel), List.mem_of_getElem? (i := 703) (by decide +kernel), List.mem_of_getElem? (i := 704) (by decide +kernel)⟩
theorem lw_p56 : lw_okq (⟨"SpillJoin$Tables", "pairs", "()I"⟩, 4) := ⟨⟨by decide +kernel, by decide +kernel⟩, List.mem_of_getElem? (i := 48) (by decide +kernel), List.mem_of_getElem? (i := 707) (by decide +kernel), List.mem_of_getElem? (i := 708) (by decide +kernel)⟩
theorem lw_p57 : lw_okq (⟨"SpillJoin", "mixRows", "(JI)J"⟩, 10) := ⟨⟨by decide +kernel, by decide +kernel⟩, List.mem_of_getElem? (i := 19) (by decide +kernel), List.mem_of_getElem? (i := 717) (by decide +kernel), List.mem_of_getElem? (i := 718) (by decide +kernel)⟩
theorem lw_p58 : lw_okq (⟨"SpillJoinModel", "clearTold", "()V"⟩, 62) := ⟨⟨by decide +kernel, by decide +kernel⟩, List.mem_of_getElem? (i := 732) (by decide +kernel), List.mem_of_getElem? (i := 738) (by decide +kernel), List.mem_of_getElem? (i := 739) (by decide +kernel)⟩
theorem lw_p59 : lw_okq (⟨"SpillJoinModel", "read", "()I"⟩, 62) := ⟨⟨by decide +kernel, by decide +kernel⟩, List.mem_of_getElem? (i := 732) (by decide +kernel), List.mem_of_getElem? (i := 944) (by decide +kernel), List.mem_of_getElem? (i := 945) (by decide +kernel)⟩
theorem lw_p60 : lw_okq (⟨"SpillJoinModel", "at", "(I)I"⟩, 62) := ⟨⟨by decide +kernel, by decide +kernel⟩, List.mem_of_getElem? (i := 732) (by decide +kernel), List.mem_of_getElem? (i := 948) (by decide +kernel), List.mem_of_getElem? (i := 949) (by decide +kernel)⟩
theorem lw_p61 : lw_okq (⟨"SpillJoinModel", "rowsFrom", "(I)I"⟩, 62) := ⟨⟨by decide +kernel, by decide +kernel⟩, List.mem_of_getElem? (i := 732) (by decide +kernel), List.mem_of_getElem? (i := 955) (by decide +kernel), List.mem_of_getElem? (i := 956) (by decide +kernel)⟩
theorem lw_p62 : lw_okq (⟨"SpillJoinModel", "isRowAt", "(I)Z"⟩, 62) := ⟨⟨by decide +kernel, by decide +kernel⟩, List.mem_of_getElem? (i := 732) (by decide +kernel), List.mem_of_getElem? (i := 959) (by decide +kernel), List.mem_of_getElem? (i := 960) (by decide +kernel)⟩
theorem lw_p63 : lw_okq (⟨"SpillJoinModel", "isRow", "(II)Z"⟩, 62) := ⟨⟨by decide +kernel, by decide +kernel⟩, List.mem_of_getElem? (i := 732) (by decide +kernel), List.mem_of_getElem? (i := 974) (by decide +kernel), List.mem_of_getElem? (i := 975) (by decide +kernel)⟩
def lw_privs_4 : List (MethodName × Nat) := [(⟨"SpillJoin$Log", "at", "(II)I"⟩, 8), (⟨"SpillJoin$Run", "lineAt", "(I)I"⟩, 5), (⟨"SpillJoin$Seen", "add", "(IZ)V"⟩, 2), (⟨"SpillJoin$Seen", "bestQuestion", "()I"⟩, 2), (⟨"SpillJoin$Tables", "copy", "(LSpillJoin$Tables;)V"⟩, 4), (⟨"SpillJoin$Side", "copy", "(LSpillJoin$Side;)V"⟩, 2), (⟨"SpillJoin$Seen", "copy", "(LSpillJoin$Seen;)V"⟩, 2), (⟨"SpillJoin$Side", "keySet", "()I"⟩, 2), (⟨"SpillJoin$Tables", "pairs", "()I"⟩, 4), (⟨"SpillJoin", "mixRows", "(JI)J"⟩, 10), (⟨"SpillJoinModel", "clearTold", "()V"⟩, 62), (⟨"SpillJoinModel", "read", "()I"⟩, 62), (⟨"SpillJoinModel", "at", "(I)I"⟩, 62), (⟨"SpillJoinModel", "rowsFrom", "(I)I"⟩, 62), (⟨"SpillJoinModel", "isRowAt", "(I)Z"⟩, 62), (⟨"SpillJoinModel", "isRow", "(II)Z"⟩, 62)]
theorem lw_r4 : ∀ q ∈ lw_privs_4, lw_okq q := List.forall_mem_cons.mpr ⟨lw_p48, List.forall_mem_cons.mpr ⟨lw_p49, List.forall_mem_cons.mpr ⟨lw_p50, List.forall_mem_cons.mpr ⟨lw_p51, List.forall_mem_cons.mpr ⟨lw_p52, List.forall_mem_cons.mpr ⟨lw_p53, List.forall_mem_cons.mpr ⟨lw_p54, List.forall_mem_cons.mpr ⟨lw_p55, List.forall_mem_cons.mpr ⟨lw_p56, List.forall_mem_cons.mpr ⟨lw_p57, List.forall_mem_cons.mpr ⟨lw_p58, List.forall_mem_cons.mpr ⟨lw_p59, List.forall_mem_cons.mpr ⟨lw_p60, List.forall_mem_cons.mpr ⟨lw_p61, List.forall_mem_cons.mpr ⟨lw_p62, List.forall_mem_cons.mpr ⟨lw_p63, fun _ h => absurd h List.not_mem_nil⟩⟩⟩⟩⟩⟩⟩⟩⟩⟩⟩⟩⟩⟩⟩⟩
theorem lw_p64 : lw_okq (⟨"SpillJoinModel", "rowNow", "(III)I"⟩, 62) := ⟨⟨by decide +kernel, by decide +kernel⟩, List.mem_of_getElem? (i := 732) (by decide +kernel), List.mem_of_getElem? (i := 981) (by decide +kernel), List.mem_of_getElem? (i := 982) (by decide +kernel)⟩
theorem lw_p65 : lw_okq (⟨"SpillJoinModel", "keyAt", "(II)I"⟩, 62) := ⟨⟨by decide +kernel, by decide +kernel⟩, List.mem_of_getElem? (i := 732) (by decide +kernel), List.mem_of_getElem? (i := 985) (by decide +kernel), List.mem_of_getElem? (i := 986) (by decide +kernel)⟩
theorem lw_p66 : lw_okq (⟨"SpillJoinModel", "partnersOf", "(II)I"⟩, 62) := ⟨⟨by decide +kernel, by decide +kernel⟩, List.mem_of_getElem? (i := 732) (by decide +kernel), List.mem_of_getElem? (i := 989) (by decide +kernel), List.mem_of_getElem? (i := 990) (by decide +kernel)⟩
theorem lw_p67 : lw_okq (⟨"SpillJoinModel", "runNow", "(I)V"⟩, 62) := ⟨⟨by decide +kernel, by decide +kernel⟩, List.mem_of_getElem? (i := 732) (by decide +kernel), List.mem_of_getElem? (i := 1024) (by decide +kernel), List.mem_of_getElem? (i := 1025) (by decide +kernel)⟩
theorem lw_p68 : lw_okq (⟨"SpillJoinModel", "clearRun", "()V"⟩, 62) := ⟨⟨by decide +kernel, by decide +kernel⟩, List.mem_of_getElem? (i := 732) (by decide +kernel), List.mem_of_getElem? (i := 1028) (by decide +kernel), List.mem_of_getElem? (i := 1029) (by decide +kernel)⟩
theorem lw_p69 : lw_okq (⟨"SpillJoinModel", "withKeys", "(IZ)I"⟩, 62) := ⟨⟨by decide +kernel, by decide +kernel⟩, List.mem_of_getElem? (i := 732) (by decide +kernel), List.mem_of_getElem? (i := 1032) (by decide +kernel), List.mem_of_getElem? (i := 1033) (by decide +kernel)⟩
theorem lw_p70 : lw_okq (⟨"SpillJoinModel", "turn", "(III)Z"⟩, 62) := ⟨⟨by decide +kernel, by decide +kernel⟩, List.mem_of_getElem? (i := 732) (by decide +kernel), List.mem_of_getElem? (i := 1036) (by decide +kernel), List.mem_of_getElem? (i := 1037) (by decide +kernel)⟩
theorem lw_p71 : lw_okq (⟨"SpillJoinModel", "openOne", "(I)V"⟩, 62) := ⟨⟨by decide +kernel, by decide +kernel⟩, List.mem_of_getElem? (i := 732) (by decide +kernel), List.mem_of_getElem? (i := 1043) (by decide +kernel), List.mem_of_getElem? (i := 1044) (by decide +kernel)⟩
theorem lw_p72 : lw_okq (⟨"SpillJoinModel", "noteLog", "(III)V"⟩, 62) := ⟨⟨by decide +kernel, by decide +kernel⟩, List.mem_of_getElem? (i := 732) (by decide +kernel), List.mem_of_getElem? (i := 1047) (by decide +kernel), List.mem_of_getElem? (i := 1048) (by decide +kernel)⟩
theorem lw_p73 : lw_okq (⟨"SpillJoinModel", "holdNow", "(III)V"⟩, 62) := ⟨⟨by decide +kernel, by decide +kernel⟩, List.mem_of_getElem? (i := 732) (by decide +kernel), List.mem_of_getElem? (i := 1051) (by decide +kernel), List.mem_of_getElem? (i := 1052) (by decide +kernel)⟩
theorem lw_p74 : lw_okq (⟨"SpillJoinModel", "inMemory", "(I)V"⟩, 62) := ⟨⟨by decide +kernel, by decide +kernel⟩, List.mem_of_getElem? (i := 732) (by decide +kernel), List.mem_of_getElem? (i := 1055) (by decide +kernel), List.mem_of_getElem? (i := 1056) (by decide +kernel)⟩
theorem lw_p75 : lw_okq (⟨"SpillJoinModel", "meetAll", "(III)V"⟩, 62) := ⟨⟨by decide +kernel, by decide +kernel⟩, List.mem_of_getElem? (i := 732) (by decide +kernel), List.mem_of_getElem? (i := 1062) (by decide +kernel), List.mem_of_getElem? (i := 1063) (by decide +kernel)⟩
theorem lw_p76 : lw_okq (⟨"SpillJoinModel", "meet", "(II)V"⟩, 62) := ⟨⟨by decide +kernel, by decide +kernel⟩, List.mem_of_getElem? (i := 732) (by decide +kernel), List.mem_of_getElem? (i := 1066) (by decide +kernel), List.mem_of_getElem? (i := 1067) (by decide +kernel)⟩
theorem lw_p77 : lw_okq (⟨"SpillJoinModel", "come", "(II)V"⟩, 62) := ⟨⟨by decide +kernel, by decide +kernel⟩, List.mem_of_getElem? (i := 732) (by decide +kernel), List.mem_of_getElem? (i := 1070) (by decide +kernel), List.mem_of_getElem? (i := 1071) (by decide +kernel)⟩
theorem lw_p78 : lw_okq (⟨"SpillJoinModel", "alone", "(II)V"⟩, 62) := ⟨⟨by decide +kernel, by decide +kernel⟩, List.mem_of_getElem? (i := 732) (by decide +kernel), List.mem_of_getElem? (i := 1074) (by decide +kernel), List.mem_of_getElem? (i := 1075) (by decide +kernel)⟩
theorem lw_p79 : lw_okq (⟨"SpillJoinModel", "comesAlone", "(I)Z"⟩, 62) := ⟨⟨by decide +kernel, by decide +kernel⟩, List.mem_of_getElem? (i := 732) (by decide +kernel), List.mem_of_getElem? (i := 1078) (by decide +kernel), List.mem_of_getElem? (i := 1079) (by decide +kernel)⟩
def lw_privs_5 : List (MethodName × Nat) := [(⟨"SpillJoinModel", "rowNow", "(III)I"⟩, 62), (⟨"SpillJoinModel", "keyAt", "(II)I"⟩, 62), (⟨"SpillJoinModel", "partnersOf", "(II)I"⟩, 62), (⟨"SpillJoinModel", "runNow", "(I)V"⟩, 62), (⟨"SpillJoinModel", "clearRun", "()V"⟩, 62), (⟨"SpillJoinModel", "withKeys", "(IZ)I"⟩, 62), (⟨"SpillJoinModel", "turn", "(III)Z"⟩, 62), (⟨"SpillJoinModel", "openOne", "(I)V"⟩, 62), (⟨"SpillJoinModel", "noteLog", "(III)V"⟩, 62), (⟨"SpillJoinModel", "holdNow", "(III)V"⟩, 62), (⟨"SpillJoinModel", "inMemory", "(I)V"⟩, 62), (⟨"SpillJoinModel", "meetAll", "(III)V"⟩, 62), (⟨"SpillJoinModel", "meet", "(II)V"⟩, 62), (⟨"SpillJoinModel", "come", "(II)V"⟩, 62), (⟨"SpillJoinModel", "alone", "(II)V"⟩, 62), (⟨"SpillJoinModel", "comesAlone", "(I)Z"⟩, 62)]
theorem lw_r5 : ∀ q ∈ lw_privs_5, lw_okq q := List.forall_mem_cons.mpr ⟨lw_p64, List.forall_mem_cons.mpr ⟨lw_p65, List.forall_mem_cons.mpr ⟨lw_p66, List.forall_mem_cons.mpr ⟨lw_p67, List.forall_mem_cons.mpr ⟨lw_p68, List.forall_mem_cons.mpr ⟨lw_p69, List.forall_mem_cons.mpr ⟨lw_p70, List.forall_mem_cons.mpr ⟨lw_p71, List.forall_mem_cons.mpr ⟨lw_p72, List.forall_mem_cons.mpr ⟨lw_p73, List.forall_mem_cons.mpr ⟨lw_p74, List.forall_mem_cons.mpr ⟨lw_p75, List.forall_mem_cons.mpr ⟨lw_p76, List.forall_mem_cons.mpr ⟨lw_p77, List.forall_mem_cons.mpr ⟨lw_p78, List.forall_mem_cons.mpr ⟨lw_p79, fun _ h => absurd h List.not_mem_nil⟩⟩⟩⟩⟩⟩⟩⟩⟩⟩⟩⟩⟩⟩⟩⟩
theorem lw_p80 : lw_okq (⟨"SpillJoinModel", "aloneOnes", "(II)V"⟩, 62) := ⟨⟨by decide +kernel, by decide +kernel⟩, List.mem_of_getElem? (i := 732) (by decide +kernel), List.mem_of_getElem? (i := 1082) (by decide +kernel), List.mem_of_getElem? (i := 1083) (by decide +kernel)⟩
theorem lw_p81 : lw_okq (⟨"SpillJoinModel", "isOneKey", "(II)Z"⟩, 62) := ⟨⟨by decide +kernel, by decide +kernel⟩, List.mem_of_getElem? (i := 732) (by decide +kernel), List.mem_of_getElem? (i := 1086) (by decide +kernel), List.mem_of_getElem? (i := 1087) (by decide +kernel)⟩
theorem lw_p82 : lw_okq (⟨"SpillJoinModel", "blocksNow", "(III)V"⟩, 62) := ⟨⟨by decide +kernel, by decide +kernel⟩, List.mem_of_getElem? (i := 732) (by decide +kernel), List.mem_of_getElem? (i := 1090) (by decide +kernel), List.mem_of_getElem? (i := 1091) (by decide +kernel)⟩
theorem lw_p83 : lw_okq (⟨"SpillJoinModel", "firstOf", "(II)I"⟩, 62) := ⟨⟨by decide +kernel, by decide +kernel⟩, List.mem_of_getElem? (i := 732) (by decide +kernel), List.mem_of_getElem? (i := 1094) (by decide +kernel), List.mem_of_getElem? (i := 1095) (by decide +kernel)⟩
theorem lw_p84 : lw_okq (⟨"SpillJoinModel", "splitNow", "(II)V"⟩, 62) := ⟨⟨by decide +kernel, by decide +kernel⟩, List.mem_of_getElem? (i := 732) (by decide +kernel), List.mem_of_getElem? (i := 1098) (by decide +kernel), List.mem_of_getElem? (i := 1099) (by decide +kernel)⟩
theorem lw_p85 : lw_okq (⟨"SpillJoinModel", "resident", "(II)I"⟩, 62) := ⟨⟨by decide +kernel, by decide +kernel⟩, List.mem_of_getElem? (i := 732) (by decide +kernel), List.mem_of_getElem? (i := 1102) (by decide +kernel), List.mem_of_getElem? (i := 1103) (by decide +kernel)⟩
theorem lw_p86 : lw_okq (⟨"SpillJoinModel", "halfOf", "(III)I"⟩, 62) := ⟨⟨by decide +kernel, by decide +kernel⟩, List.mem_of_getElem? (i := 732) (by decide +kernel), List.mem_of_getElem? (i := 1106) (by decide +kernel), List.mem_of_getElem? (i := 1107) (by decide +kernel)⟩
theorem lw_p87 : lw_okq (⟨"SpillJoinModel", "half", "(IIII)I"⟩, 62) := ⟨⟨by decide +kernel, by decide +kernel⟩, List.mem_of_getElem? (i := 732) (by decide +kernel), List.mem_of_getElem? (i := 1110) (by decide +kernel), List.mem_of_getElem? (i := 1111) (by decide +kernel)⟩
theorem lw_p88 : lw_okq (⟨"SpillJoinModel", "rowsOfHalf", "(II)I"⟩, 62) := ⟨⟨by decide +kernel, by decide +kernel⟩, List.mem_of_getElem? (i := 732) (by decide +kernel), List.mem_of_getElem? (i := 1114) (by decide +kernel), List.mem_of_getElem? (i := 1115) (by decide +kernel)⟩
theorem lw_p89 : lw_okq (⟨"SpillJoinModel", "shutOne", "()V"⟩, 62) := ⟨⟨by decide +kernel, by decide +kernel⟩, List.mem_of_getElem? (i := 732) (by decide +kernel), List.mem_of_getElem? (i := 1118) (by decide +kernel), List.mem_of_getElem? (i := 1119) (by decide +kernel)⟩
theorem lw_p90 : lw_okq (⟨"SpillJoinModel", "nextHalf", "(I)I"⟩, 62) := ⟨⟨by decide +kernel, by decide +kernel⟩, List.mem_of_getElem? (i := 732) (by decide +kernel), List.mem_of_getElem? (i := 1122) (by decide +kernel), List.mem_of_getElem? (i := 1123) (by decide +kernel)⟩
theorem lw_p91 : lw_okq (⟨"SpillJoinModel", "shutPart", "(I)V"⟩, 62) := ⟨⟨by decide +kernel, by decide +kernel⟩, List.mem_of_getElem? (i := 732) (by decide +kernel), List.mem_of_getElem? (i := 1126) (by decide +kernel), List.mem_of_getElem? (i := 1127) (by decide +kernel)⟩
theorem lw_p92 : lw_okq (⟨"SpillJoinModel", "tell", "()V"⟩, 62) := ⟨⟨by decide +kernel, by decide +kernel⟩, List.mem_of_getElem? (i := 732) (by decide +kernel), List.mem_of_getElem? (i := 1130) (by decide +kernel), List.mem_of_getElem? (i := 1131) (by decide +kernel)⟩
theorem lw_p93 : lw_okq (⟨"SpillJoinModel", "outNow", "(II)I"⟩, 62) := ⟨⟨by decide +kernel, by decide +kernel⟩, List.mem_of_getElem? (i := 732) (by decide +kernel), List.mem_of_getElem? (i := 1138) (by decide +kernel), List.mem_of_getElem? (i := 1139) (by decide +kernel)⟩
theorem lw_p94 : lw_okq (⟨"SpillJoinModel", "logNow", "(II)I"⟩, 62) := ⟨⟨by decide +kernel, by decide +kernel⟩, List.mem_of_getElem? (i := 732) (by decide +kernel), List.mem_of_getElem? (i := 1146) (by decide +kernel), List.mem_of_getElem? (i := 1147) (by decide +kernel)⟩
theorem lw_p95 : lw_okq (⟨"SpillJoinModel", "spareNow", "()I"⟩, 62) := ⟨⟨by decide +kernel, by decide +kernel⟩, List.mem_of_getElem? (i := 732) (by decide +kernel), List.mem_of_getElem? (i := 1158) (by decide +kernel), List.mem_of_getElem? (i := 1159) (by decide +kernel)⟩
def lw_privs_6 : List (MethodName × Nat) := [(⟨"SpillJoinModel", "aloneOnes", "(II)V"⟩, 62), (⟨"SpillJoinModel", "isOneKey", "(II)Z"⟩, 62), (⟨"SpillJoinModel", "blocksNow", "(III)V"⟩, 62), (⟨"SpillJoinModel", "firstOf", "(II)I"⟩, 62), (⟨"SpillJoinModel", "splitNow", "(II)V"⟩, 62), (⟨"SpillJoinModel", "resident", "(II)I"⟩, 62), (⟨"SpillJoinModel", "halfOf", "(III)I"⟩, 62), (⟨"SpillJoinModel", "half", "(IIII)I"⟩, 62), (⟨"SpillJoinModel", "rowsOfHalf", "(II)I"⟩, 62), (⟨"SpillJoinModel", "shutOne", "()V"⟩, 62), (⟨"SpillJoinModel", "nextHalf", "(I)I"⟩, 62), (⟨"SpillJoinModel", "shutPart", "(I)V"⟩, 62), (⟨"SpillJoinModel", "tell", "()V"⟩, 62), (⟨"SpillJoinModel", "outNow", "(II)I"⟩, 62), (⟨"SpillJoinModel", "logNow", "(II)I"⟩, 62), (⟨"SpillJoinModel", "spareNow", "()I"⟩, 62)]
theorem lw_r6 : ∀ q ∈ lw_privs_6, lw_okq q := List.forall_mem_cons.mpr ⟨lw_p80, List.forall_mem_cons.mpr ⟨lw_p81, List.forall_mem_cons.mpr ⟨lw_p82, List.forall_mem_cons.mpr ⟨lw_p83, List.forall_mem_cons.mpr ⟨lw_p84, List.forall_mem_cons.mpr ⟨lw_p85, List.forall_mem_cons.mpr ⟨lw_p86, List.forall_mem_cons.mpr ⟨lw_p87, List.forall_mem_cons.mpr ⟨lw_p88, List.forall_mem_cons.mpr ⟨lw_p89, List.forall_mem_cons.mpr ⟨lw_p90, List.forall_mem_cons.mpr ⟨lw_p91, List.forall_mem_cons.mpr ⟨lw_p92, List.forall_mem_cons.mpr ⟨lw_p93, List.forall_mem_cons.mpr ⟨lw_p94, List.forall_mem_cons.mpr ⟨lw_p95, fun _ h => absurd h List.not_mem_nil⟩⟩⟩⟩⟩⟩⟩⟩⟩⟩⟩⟩⟩⟩⟩⟩
theorem lw_p96 : lw_okq (⟨"SpillJoinModel", "sortsNow", "()I"⟩, 62) := ⟨⟨by decide +kernel, by decide +kernel⟩, List.mem_of_getElem? (i := 732) (by decide +kernel), List.mem_of_getElem? (i := 1175) (by decide +kernel), List.mem_of_getElem? (i := 1176) (by decide +kernel)⟩
theorem lw_p97 : lw_okq (⟨"SpillJoinModel", "askNow", "()I"⟩, 62) := ⟨⟨by decide +kernel, by decide +kernel⟩, List.mem_of_getElem? (i := 732) (by decide +kernel), List.mem_of_getElem? (i := 1182) (by decide +kernel), List.mem_of_getElem? (i := 1183) (by decide +kernel)⟩
theorem lw_p98 : lw_okq (⟨"SpillJoinModel", "drawnNow", "(III)I"⟩, 62) := ⟨⟨by decide +kernel, by decide +kernel⟩, List.mem_of_getElem? (i := 732) (by decide +kernel), List.mem_of_getElem? (i := 1190) (by decide +kernel), List.mem_of_getElem? (i := 1191) (by decide +kernel)⟩
theorem lw_p99 : lw_okq (⟨"SpillJoinModel", "draw", "(I)I"⟩, 62) := ⟨⟨by decide +kernel, by decide +kernel⟩, List.mem_of_getElem? (i := 732) (by decide +kernel), List.mem_of_getElem? (i := 1194) (by decide +kernel), List.mem_of_getElem? (i := 1195) (by decide +kernel)⟩
theorem lw_p100 : lw_okq (⟨"SpillJoinModel", "howMany", "(I)I"⟩, 62) := ⟨⟨by decide +kernel, by decide +kernel⟩, List.mem_of_getElem? (i := 732) (by decide +kernel), List.mem_of_getElem? (i := 1214) (by decide +kernel), List.mem_of_getElem? (i := 1215) (by decide +kernel)⟩
theorem lw_p101 : lw_okq (⟨"SpillJoinModel", "keysOfAll", "()I"⟩, 62) := ⟨⟨by decide +kernel, by decide +kernel⟩, List.mem_of_getElem? (i := 732) (by decide +kernel), List.mem_of_getElem? (i := 1218) (by decide +kernel), List.mem_of_getElem? (i := 1219) (by decide +kernel)⟩
theorem lw_p102 : lw_okq (⟨"SpillJoinModel", "pairs", "()I"⟩, 62) := ⟨⟨by decide +kernel, by decide +kernel⟩, List.mem_of_getElem? (i := 732) (by decide +kernel), List.mem_of_getElem? (i := 1222) (by decide +kernel), List.mem_of_getElem? (i := 1223) (by decide +kernel)⟩
theorem lw_p103 : lw_okq (⟨"SpillJoinModel", "mixRows", "()V"⟩, 62) := ⟨⟨by decide +kernel, by decide +kernel⟩, List.mem_of_getElem? (i := 732) (by decide +kernel), List.mem_of_getElem? (i := 1231) (by decide +kernel), List.mem_of_getElem? (i := 1232) (by decide +kernel)⟩
theorem lw_p104 : lw_okq (⟨"SpillJoinModel", "mix", "(J)V"⟩, 62) := ⟨⟨by decide +kernel, by decide +kernel⟩, List.mem_of_getElem? (i := 732) (by decide +kernel), List.mem_of_getElem? (i := 1235) (by decide +kernel), List.mem_of_getElem? (i := 1236) (by decide +kernel)⟩
theorem lw_p105 : lw_okq (⟨"SpillJoinModel", "mixTold", "()V"⟩, 62) := ⟨⟨by decide +kernel, by decide +kernel⟩, List.mem_of_getElem? (i := 732) (by decide +kernel), List.mem_of_getElem? (i := 1240) (by decide +kernel), List.mem_of_getElem? (i := 1241) (by decide +kernel)⟩
def lw_privs_7 : List (MethodName × Nat) := [(⟨"SpillJoinModel", "sortsNow", "()I"⟩, 62), (⟨"SpillJoinModel", "askNow", "()I"⟩, 62), (⟨"SpillJoinModel", "drawnNow", "(III)I"⟩, 62), (⟨"SpillJoinModel", "draw", "(I)I"⟩, 62), (⟨"SpillJoinModel", "howMany", "(I)I"⟩, 62), (⟨"SpillJoinModel", "keysOfAll", "()I"⟩, 62), (⟨"SpillJoinModel", "pairs", "()I"⟩, 62), (⟨"SpillJoinModel", "mixRows", "()V"⟩, 62), (⟨"SpillJoinModel", "mix", "(J)V"⟩, 62), (⟨"SpillJoinModel", "mixTold", "()V"⟩, 62)]
theorem lw_r7 : ∀ q ∈ lw_privs_7, lw_okq q := List.forall_mem_cons.mpr ⟨lw_p96, List.forall_mem_cons.mpr ⟨lw_p97, List.forall_mem_cons.mpr ⟨lw_p98, List.forall_mem_cons.mpr ⟨lw_p99, List.forall_mem_cons.mpr ⟨lw_p100, List.forall_mem_cons.mpr ⟨lw_p101, List.forall_mem_cons.mpr ⟨lw_p102, List.forall_mem_cons.mpr ⟨lw_p103, List.forall_mem_cons.mpr ⟨lw_p104, List.forall_mem_cons.mpr ⟨lw_p105, fun _ h => absurd h List.not_mem_nil⟩⟩⟩⟩⟩⟩⟩⟩⟩⟩
def lw_privs : List (MethodName × Nat) := lw_privs_1 ++ (lw_privs_2 ++ (lw_privs_3 ++ (lw_privs_4 ++ (lw_privs_5 ++ (lw_privs_6 ++ (lw_privs_7))))))
def lw_tbl : List Cond := k2_sels lw_privs ++ tables_1
theorem lw_privs_ok : ∀ q ∈ lw_privs, lw_okq q := by
  show ∀ q ∈ lw_privs_1 ++ (lw_privs_2 ++ (lw_privs_3 ++ (lw_privs_4 ++ (lw_privs_5 ++ (lw_privs_6 ++ (lw_privs_7)))))), lw_okq q
  exact List.forall_mem_append.mpr ⟨lw_r1, List.forall_mem_append.mpr ⟨lw_r2, List.forall_mem_append.mpr ⟨lw_r3, List.forall_mem_append.mpr ⟨lw_r4, List.forall_mem_append.mpr ⟨lw_r5, List.forall_mem_append.mpr ⟨lw_r6, lw_r7⟩⟩⟩⟩⟩⟩

def RX0 : String := "SpillJoin$Log"
def TX0 : u_T := fun k => match k with
  | 0 => ("SpillJoin$Log", "numbers", "[I", true)
  | 1 => ("SpillJoin$Log", "opened", "[I", true)
  | 2 => ("SpillJoin$Log", "natures", "[I", true)
  | 3 => ("SpillJoin$Log", "size", "I", false)
  | 4 => ("SpillJoin$Log", "openNumbers", "[I", true)
  | 5 => ("SpillJoin$Log", "openNatures", "[I", true)
  | 6 => ("SpillJoin$Log", "depth", "I", false)
  | _ => ("SpillJoin$Log", "nextNumber", "I", false)
def tyX0 : Nat → FieldType := fun k => match k with
  | 0 => .array .int
  | 1 => .array .int
  | 2 => .array .int
  | 3 => .int
  | 4 => .array .int
  | 5 => .array .int
  | 6 => .int
  | _ => .int
abbrev wsX00 : List Cond := u_ws RX0 TX0 8
theorem nmX0 : ∀ a, a < 8 → ∀ b, b < 8 → a ≠ b → (TX0 a).2.1 ≠ (TX0 b).2.1 := by decide +kernel
theorem tyX0_ok : ∀ k, k < 8 → parseFieldDescriptor (TX0 k).2.2.1 = some (tyX0 k) := by decide +kernel
abbrev cX0_init : ByteArray := prog_2_method_1_code
def yX0_init : MethodName := ⟨RX0, "<init>", "()V"⟩
abbrev cX0_clear : ByteArray := prog_2_method_2_code
def yX0_clear : MethodName := ⟨RX0, "clear", "()V"⟩
abbrev cX0_open : ByteArray := prog_2_method_3_code
def yX0_open : MethodName := ⟨RX0, "open", "(I)V"⟩
abbrev cX0_shutDownTo : ByteArray := prog_2_method_4_code
def yX0_shutDownTo : MethodName := ⟨RX0, "shutDownTo", "(I)V"⟩
abbrev cX0_add : ByteArray := prog_2_method_5_code
def yX0_add : MethodName := ⟨RX0, "add", "(III)V"⟩
abbrev cX0_at : ByteArray := prog_2_method_6_code
def yX0_at : MethodName := ⟨RX0, "at", "(II)I"⟩
def RX1 : String := "SpillJoin$Output"
def TX1 : u_T := fun k => match k with
  | 0 => ("SpillJoin$Output", "left", "[I", true)
  | 1 => ("SpillJoin$Output", "right", "[I", true)
  | 2 => ("SpillJoin$Output", "size", "I", false)
  | 3 => ("SpillJoin$Output", "limit", "I", false)
  | _ => ("SpillJoin$Output", "broken", "Z", false)
def tyX1 : Nat → FieldType := fun k => match k with
  | 0 => .array .int
  | 1 => .array .int
  | 2 => .int
  | 3 => .int
  | _ => .boolean
abbrev wsX10 : List Cond := u_ws RX1 TX1 5
theorem nmX1 : ∀ a, a < 5 → ∀ b, b < 5 → a ≠ b → (TX1 a).2.1 ≠ (TX1 b).2.1 := by decide +kernel
theorem tyX1_ok : ∀ k, k < 5 → parseFieldDescriptor (TX1 k).2.2.1 = some (tyX1 k) := by decide +kernel
abbrev cX1_init : ByteArray := prog_3_method_1_code
def yX1_init : MethodName := ⟨RX1, "<init>", "()V"⟩
abbrev cX1_clear : ByteArray := prog_3_method_2_code
def yX1_clear : MethodName := ⟨RX1, "clear", "(I)V"⟩
abbrev cX1_add : ByteArray := prog_3_method_3_code
def yX1_add : MethodName := ⟨RX1, "add", "(II)V"⟩
abbrev cX1_at : ByteArray := prog_3_method_4_code
def yX1_at : MethodName := ⟨RX1, "at", "(II)I"⟩
def RX2 : String := "SpillJoin$Page"
def TX2 : u_T := fun k => match k with
  | 0 => ("SpillJoin$Page", "codes", "[I", true)
  | _ => ("SpillJoin$Page", "size", "I", false)
def tyX2 : Nat → FieldType := fun k => match k with
  | 0 => .array .int
  | _ => .int
abbrev wsX20 : List Cond := u_ws RX2 TX2 2
theorem nmX2 : ∀ a, a < 2 → ∀ b, b < 2 → a ≠ b → (TX2 a).2.1 ≠ (TX2 b).2.1 := by decide +kernel
theorem tyX2_ok : ∀ k, k < 2 → parseFieldDescriptor (TX2 k).2.2.1 = some (tyX2 k) := by decide +kernel
abbrev cX2_init : ByteArray := prog_4_method_1_code
def yX2_init : MethodName := ⟨RX2, "<init>", "()V"⟩
abbrev cX2_kindOf : ByteArray := prog_4_method_2_code
def yX2_kindOf : MethodName := ⟨RX2, "kindOf", "(I)I"⟩
abbrev cX2_isRow : ByteArray := prog_4_method_3_code
def yX2_isRow : MethodName := ⟨RX2, "isRow", "(I)Z"⟩
abbrev cX2_isFull : ByteArray := prog_4_method_4_code
def yX2_isFull : MethodName := ⟨RX2, "isFull", "()Z"⟩
abbrev cX2_add : ByteArray := prog_4_method_5_code
def yX2_add : MethodName := ⟨RX2, "add", "(I)V"⟩
abbrev cX2_clear : ByteArray := prog_4_method_6_code
def yX2_clear : MethodName := ⟨RX2, "clear", "()V"⟩
abbrev cX2_codeAt : ByteArray := prog_4_method_7_code
def yX2_codeAt : MethodName := ⟨RX2, "codeAt", "(I)I"⟩
abbrev cX2_firstFault : ByteArray := prog_4_method_8_code
def yX2_firstFault : MethodName := ⟨RX2, "firstFault", "()I"⟩
abbrev cX2_isHead : ByteArray := prog_4_method_9_code
def yX2_isHead : MethodName := ⟨RX2, "isHead", "(II)Z"⟩
abbrev cX2_secondMark : ByteArray := prog_4_method_10_code
def yX2_secondMark : MethodName := ⟨RX2, "secondMark", "()I"⟩
abbrev cX2_isWhole : ByteArray := prog_4_method_11_code
def yX2_isWhole : MethodName := ⟨RX2, "isWhole", "()Z"⟩
abbrev cX2_readRows : ByteArray := prog_4_method_12_code
def yX2_readRows : MethodName := ⟨RX2, "readRows", "(LSpillJoin$Side;II)V"⟩
def RX3 : String := "SpillJoin$Run"
def TX3 : u_T := fun k => match k with
  | 0 => ("SpillJoin$Run", "tables", "LSpillJoin$Tables;", true)
  | 1 => ("SpillJoin$Run", "output", "LSpillJoin$Output;", true)
  | 2 => ("SpillJoin$Run", "log", "LSpillJoin$Log;", true)
  | 3 => ("SpillJoin$Run", "lines", "[I", true)
  | _ => ("SpillJoin$Run", "cameOnce", "I", false)
def tyX3 : Nat → FieldType := fun k => match k with
  | 0 => .object "SpillJoin$Tables"
  | 1 => .object "SpillJoin$Output"
  | 2 => .object "SpillJoin$Log"
  | 3 => .array .int
  | _ => .int
abbrev wsX30 : List Cond := u_ws RX3 TX3 5
theorem nmX3 : ∀ a, a < 5 → ∀ b, b < 5 → a ≠ b → (TX3 a).2.1 ≠ (TX3 b).2.1 := by decide +kernel
theorem tyX3_ok : ∀ k, k < 5 → parseFieldDescriptor (TX3 k).2.2.1 = some (tyX3 k) := by decide +kernel
abbrev cX3_init : ByteArray := prog_5_method_1_code
def yX3_init : MethodName := ⟨RX3, "<init>", "()V"⟩
abbrev cX3_clear : ByteArray := prog_5_method_2_code
def yX3_clear : MethodName := ⟨RX3, "clear", "(I)V"⟩
abbrev cX3_lineAt : ByteArray := prog_5_method_3_code
def yX3_lineAt : MethodName := ⟨RX3, "lineAt", "(I)I"⟩
abbrev cX3_go : ByteArray := prog_5_method_4_code
def yX3_go : MethodName := ⟨RX3, "go", "(I)V"⟩
abbrev cX3_turn : ByteArray := prog_5_method_5_code
def yX3_turn : MethodName := ⟨RX3, "turn", "(III)V"⟩
abbrev cX3_natureOf : ByteArray := prog_5_method_6_code
def yX3_natureOf : MethodName := ⟨RX3, "natureOf", "(III)I"⟩
abbrev cX3_enterPart : ByteArray := prog_5_method_7_code
def yX3_enterPart : MethodName := ⟨RX3, "enterPart", "(III)V"⟩
abbrev cX3_hold : ByteArray := prog_5_method_8_code
def yX3_hold : MethodName := ⟨RX3, "hold", "(III)V"⟩
abbrev cX3_goByBlocks : ByteArray := prog_5_method_9_code
def yX3_goByBlocks : MethodName := ⟨RX3, "goByBlocks", "(III)V"⟩
abbrev cX3_firstOf : ByteArray := prog_5_method_10_code
def yX3_firstOf : MethodName := ⟨RX3, "firstOf", "(II)I"⟩
abbrev cX3_split : ByteArray := prog_5_method_11_code
def yX3_split : MethodName := ⟨RX3, "split", "(IIII)V"⟩
abbrev cX3_residentHalf : ByteArray := prog_5_method_12_code
def yX3_residentHalf : MethodName := ⟨RX3, "residentHalf", "(II)I"⟩
abbrev cX3_spill : ByteArray := prog_5_method_13_code
def yX3_spill : MethodName := ⟨RX3, "spill", "(II)V"⟩
abbrev cX3_goOn : ByteArray := prog_5_method_14_code
def yX3_goOn : MethodName := ⟨RX3, "goOn", "(IIII)V"⟩
abbrev cX3_noteHeld : ByteArray := prog_5_method_15_code
def yX3_noteHeld : MethodName := ⟨RX3, "noteHeld", "(I)V"⟩
abbrev cX3_meetAll : ByteArray := prog_5_method_16_code
def yX3_meetAll : MethodName := ⟨RX3, "meetAll", "(III)V"⟩
abbrev cX3_meet : ByteArray := prog_5_method_17_code
def yX3_meet : MethodName := ⟨RX3, "meet", "(II)V"⟩
abbrev cX3_comeOutAlone : ByteArray := prog_5_method_18_code
def yX3_comeOutAlone : MethodName := ⟨RX3, "comeOutAlone", "(II)V"⟩
def RX4 : String := "SpillJoin$Seen"
def TX4 : u_T := fun k => match k with
  | 0 => ("SpillJoin$Seen", "size", "I", false)
  | _ => ("SpillJoin$Seen", "kindsLeft", "I", false)
def tyX4 : Nat → FieldType := fun k => match k with
  | 0 => .int
  | _ => .int
abbrev wsX40 : List Cond := u_ws RX4 TX4 2
theorem nmX4 : ∀ a, a < 2 → ∀ b, b < 2 → a ≠ b → (TX4 a).2.1 ≠ (TX4 b).2.1 := by decide +kernel
theorem tyX4_ok : ∀ k, k < 2 → parseFieldDescriptor (TX4 k).2.2.1 = some (tyX4 k) := by decide +kernel
abbrev cX4_init : ByteArray := prog_6_method_1_code
def yX4_init : MethodName := ⟨RX4, "<init>", "()V"⟩
abbrev cX4_clear : ByteArray := prog_6_method_2_code
def yX4_clear : MethodName := ⟨RX4, "clear", "()V"⟩
abbrev cX4_add : ByteArray := prog_6_method_3_code
def yX4_add : MethodName := ⟨RX4, "add", "(IZ)V"⟩
abbrev cX4_copy : ByteArray := prog_6_method_4_code
def yX4_copy : MethodName := ⟨RX4, "copy", "(LSpillJoin$Seen;)V"⟩
abbrev cX4_bestQuestion : ByteArray := prog_6_method_5_code
def yX4_bestQuestion : MethodName := ⟨RX4, "bestQuestion", "()I"⟩
abbrev cX4_kindsThatLetOut : ByteArray := prog_6_method_6_code
def yX4_kindsThatLetOut : MethodName := ⟨RX4, "kindsThatLetOut", "(I)I"⟩
def RX5 : String := "SpillJoin$Side"
def TX5 : u_T := fun k => match k with
  | 0 => ("SpillJoin$Side", "keys", "[I", true)
  | _ => ("SpillJoin$Side", "size", "I", false)
def tyX5 : Nat → FieldType := fun k => match k with
  | 0 => .array .int
  | _ => .int
abbrev wsX50 : List Cond := u_ws RX5 TX5 2
theorem nmX5 : ∀ a, a < 2 → ∀ b, b < 2 → a ≠ b → (TX5 a).2.1 ≠ (TX5 b).2.1 := by decide +kernel
theorem tyX5_ok : ∀ k, k < 2 → parseFieldDescriptor (TX5 k).2.2.1 = some (tyX5 k) := by decide +kernel
abbrev cX5_init : ByteArray := prog_7_method_1_code
def yX5_init : MethodName := ⟨RX5, "<init>", "()V"⟩
abbrev cX5_has : ByteArray := prog_7_method_2_code
def yX5_has : MethodName := ⟨RX5, "has", "(I)Z"⟩
abbrev cX5_keyAt : ByteArray := prog_7_method_3_code
def yX5_keyAt : MethodName := ⟨RX5, "keyAt", "(I)I"⟩
abbrev cX5_clear : ByteArray := prog_7_method_4_code
def yX5_clear : MethodName := ⟨RX5, "clear", "()V"⟩
abbrev cX5_add : ByteArray := prog_7_method_5_code
def yX5_add : MethodName := ⟨RX5, "add", "(I)V"⟩
abbrev cX5_change : ByteArray := prog_7_method_6_code
def yX5_change : MethodName := ⟨RX5, "change", "(II)V"⟩
abbrev cX5_remove : ByteArray := prog_7_method_7_code
def yX5_remove : MethodName := ⟨RX5, "remove", "(I)V"⟩
abbrev cX5_copy : ByteArray := prog_7_method_8_code
def yX5_copy : MethodName := ⟨RX5, "copy", "(LSpillJoin$Side;)V"⟩
abbrev cX5_rowsWithKey : ByteArray := prog_7_method_9_code
def yX5_rowsWithKey : MethodName := ⟨RX5, "rowsWithKey", "()I"⟩
abbrev cX5_rowsWithoutKey : ByteArray := prog_7_method_10_code
def yX5_rowsWithoutKey : MethodName := ⟨RX5, "rowsWithoutKey", "()I"⟩
abbrev cX5_rowsOfKey : ByteArray := prog_7_method_11_code
def yX5_rowsOfKey : MethodName := ⟨RX5, "rowsOfKey", "(I)I"⟩
abbrev cX5_rowsWithBit : ByteArray := prog_7_method_12_code
def yX5_rowsWithBit : MethodName := ⟨RX5, "rowsWithBit", "(I)I"⟩
abbrev cX5_haveOneKey : ByteArray := prog_7_method_13_code
def yX5_haveOneKey : MethodName := ⟨RX5, "haveOneKey", "(I)Z"⟩
abbrev cX5_keySet : ByteArray := prog_7_method_14_code
def yX5_keySet : MethodName := ⟨RX5, "keySet", "()I"⟩
def RX6 : String := "SpillJoin$Tables"
def TX6 : u_T := fun k => match k with
  | 0 => ("SpillJoin$Tables", "left", "LSpillJoin$Side;", true)
  | 1 => ("SpillJoin$Tables", "right", "LSpillJoin$Side;", true)
  | 2 => ("SpillJoin$Tables", "memory", "I", false)
  | _ => ("SpillJoin$Tables", "kind", "I", false)
def tyX6 : Nat → FieldType := fun k => match k with
  | 0 => .object "SpillJoin$Side"
  | 1 => .object "SpillJoin$Side"
  | 2 => .int
  | _ => .int
abbrev wsX60 : List Cond := u_ws RX6 TX6 4
theorem nmX6 : ∀ a, a < 4 → ∀ b, b < 4 → a ≠ b → (TX6 a).2.1 ≠ (TX6 b).2.1 := by decide +kernel
theorem tyX6_ok : ∀ k, k < 4 → parseFieldDescriptor (TX6 k).2.2.1 = some (tyX6 k) := by decide +kernel
abbrev cX6_init : ByteArray := prog_8_method_1_code
def yX6_init : MethodName := ⟨RX6, "<init>", "()V"⟩
abbrev cX6_areThere : ByteArray := prog_8_method_2_code
def yX6_areThere : MethodName := ⟨RX6, "areThere", "()Z"⟩
abbrev cX6_size : ByteArray := prog_8_method_3_code
def yX6_size : MethodName := ⟨RX6, "size", "()I"⟩
abbrev cX6_sideOf : ByteArray := prog_8_method_4_code
def yX6_sideOf : MethodName := ⟨RX6, "sideOf", "(I)LSpillJoin$Side;"⟩
abbrev cX6_hasRow : ByteArray := prog_8_method_5_code
def yX6_hasRow : MethodName := ⟨RX6, "hasRow", "(II)Z"⟩
abbrev cX6_partners : ByteArray := prog_8_method_6_code
def yX6_partners : MethodName := ⟨RX6, "partners", "(II)I"⟩
abbrev cX6_pairs : ByteArray := prog_8_method_7_code
def yX6_pairs : MethodName := ⟨RX6, "pairs", "()I"⟩
abbrev cX6_buildSide : ByteArray := prog_8_method_8_code
def yX6_buildSide : MethodName := ⟨RX6, "buildSide", "(II)I"⟩
abbrev cX6_copy : ByteArray := prog_8_method_9_code
def yX6_copy : MethodName := ⟨RX6, "copy", "(LSpillJoin$Tables;)V"⟩
def RX7 : String := "SpillJoin"
def TX7 : u_T := fun k => match k with
  | 0 => ("SpillJoin", "page", "LSpillJoin$Page;", true)
  | 1 => ("SpillJoin", "latest", "LSpillJoin$Run;", true)
  | 2 => ("SpillJoin", "current", "LSpillJoin$Tables;", true)
  | 3 => ("SpillJoin", "seen", "LSpillJoin$Seen;", true)
  | 4 => ("SpillJoin", "keptTables", "LSpillJoin$Tables;", true)
  | 5 => ("SpillJoin", "keptSeen", "LSpillJoin$Seen;", true)
  | 6 => ("SpillJoin", "imageKept", "Z", false)
  | 7 => ("SpillJoin", "drawnRun", "LSpillJoin$Run;", true)
  | 8 => ("SpillJoin", "runs", "I", false)
  | _ => ("SpillJoin", "reads", "I", false)
def tyX7 : Nat → FieldType := fun k => match k with
  | 0 => .object "SpillJoin$Page"
  | 1 => .object "SpillJoin$Run"
  | 2 => .object "SpillJoin$Tables"
  | 3 => .object "SpillJoin$Seen"
  | 4 => .object "SpillJoin$Tables"
  | 5 => .object "SpillJoin$Seen"
  | 6 => .boolean
  | 7 => .object "SpillJoin$Run"
  | 8 => .int
  | _ => .int
abbrev wsX70 : List Cond := u_ws RX7 TX7 10
theorem nmX7 : ∀ a, a < 10 → ∀ b, b < 10 → a ≠ b → (TX7 a).2.1 ≠ (TX7 b).2.1 := by decide +kernel
theorem tyX7_ok : ∀ k, k < 10 → parseFieldDescriptor (TX7 k).2.2.1 = some (tyX7 k) := by decide +kernel
abbrev cX7_init : ByteArray := prog_1_method_1_code
def yX7_init : MethodName := ⟨RX7, "<init>", "()V"⟩
abbrev cX7_letter : ByteArray := prog_1_method_2_code
def yX7_letter : MethodName := ⟨RX7, "letter", "(I)I"⟩
abbrev cX7_blank : ByteArray := prog_1_method_3_code
def yX7_blank : MethodName := ⟨RX7, "blank", "()I"⟩
abbrev cX7_fault : ByteArray := prog_1_method_4_code
def yX7_fault : MethodName := ⟨RX7, "fault", "()I"⟩
abbrev cX7_tables : ByteArray := prog_1_method_5_code
def yX7_tables : MethodName := ⟨RX7, "tables", "()I"⟩
abbrev cX7_row : ByteArray := prog_1_method_6_code
def yX7_row : MethodName := ⟨RX7, "row", "(III)I"⟩
abbrev cX7_as : ByteArray := prog_1_method_7_code
def yX7_as : MethodName := ⟨RX7, "as", "(I)I"⟩
abbrev cX7_put : ByteArray := prog_1_method_8_code
def yX7_put : MethodName := ⟨RX7, "put", "(II)I"⟩
abbrev cX7_take : ByteArray := prog_1_method_9_code
def yX7_take : MethodName := ⟨RX7, "take", "(II)I"⟩
abbrev cX7_key : ByteArray := prog_1_method_10_code
def yX7_key : MethodName := ⟨RX7, "key", "(III)I"⟩
abbrev cX7_memory : ByteArray := prog_1_method_11_code
def yX7_memory : MethodName := ⟨RX7, "memory", "(I)I"⟩
abbrev cX7_be : ByteArray := prog_1_method_12_code
def yX7_be : MethodName := ⟨RX7, "be", "(I)I"⟩
abbrev cX7_run : ByteArray := prog_1_method_13_code
def yX7_run : MethodName := ⟨RX7, "run", "(I)I"⟩
abbrev cX7_out : ByteArray := prog_1_method_14_code
def yX7_out : MethodName := ⟨RX7, "out", "(II)I"⟩
abbrev cX7_log : ByteArray := prog_1_method_15_code
def yX7_log : MethodName := ⟨RX7, "log", "(II)I"⟩
abbrev cX7_ledger : ByteArray := prog_1_method_16_code
def yX7_ledger : MethodName := ⟨RX7, "ledger", "(I)I"⟩
abbrev cX7_spare : ByteArray := prog_1_method_17_code
def yX7_spare : MethodName := ⟨RX7, "spare", "()I"⟩
abbrev cX7_see : ByteArray := prog_1_method_18_code
def yX7_see : MethodName := ⟨RX7, "see", "(IZ)I"⟩
abbrev cX7_forget : ByteArray := prog_1_method_19_code
def yX7_forget : MethodName := ⟨RX7, "forget", "()I"⟩
abbrev cX7_sorts : ByteArray := prog_1_method_20_code
def yX7_sorts : MethodName := ⟨RX7, "sorts", "(I)I"⟩
abbrev cX7_drawn : ByteArray := prog_1_method_21_code
def yX7_drawn : MethodName := ⟨RX7, "drawn", "(III)I"⟩
abbrev cX7_image : ByteArray := prog_1_method_22_code
def yX7_image : MethodName := ⟨RX7, "image", "()I"⟩
abbrev cX7_restore : ByteArray := prog_1_method_23_code
def yX7_restore : MethodName := ⟨RX7, "restore", "()I"⟩
abbrev cX7_count : ByteArray := prog_1_method_24_code
def yX7_count : MethodName := ⟨RX7, "count", "(I)I"⟩
abbrev cX7_digest : ByteArray := prog_1_method_25_code
def yX7_digest : MethodName := ⟨RX7, "digest", "()J"⟩
abbrev cX7_mixRows : ByteArray := prog_1_method_26_code
def yX7_mixRows : MethodName := ⟨RX7, "mixRows", "(JI)J"⟩
abbrev cX7_mix : ByteArray := prog_1_method_27_code
def yX7_mix : MethodName := ⟨RX7, "mix", "(JJ)J"⟩
abbrev cX7_isSide : ByteArray := prog_1_method_28_code
def yX7_isSide : MethodName := ⟨RX7, "isSide", "(I)Z"⟩
abbrev cX7_otherSide : ByteArray := prog_1_method_29_code
def yX7_otherSide : MethodName := ⟨RX7, "otherSide", "(I)I"⟩
abbrev cX7_isKind : ByteArray := prog_1_method_30_code
def yX7_isKind : MethodName := ⟨RX7, "isKind", "(I)Z"⟩
abbrev cX7_isKeyOrNone : ByteArray := prog_1_method_31_code
def yX7_isKeyOrNone : MethodName := ⟨RX7, "isKeyOrNone", "(I)Z"⟩
abbrev cX7_comesOutBy : ByteArray := prog_1_method_32_code
def yX7_comesOutBy : MethodName := ⟨RX7, "comesOutBy", "(II)Z"⟩
abbrev cX7_isIn : ByteArray := prog_1_method_33_code
def yX7_isIn : MethodName := ⟨RX7, "isIn", "(II)Z"⟩
abbrev cX7_drawRows : ByteArray := prog_1_method_34_code
def yX7_drawRows : MethodName := ⟨RX7, "drawRows", "(LSpillJoin$Side;I)I"⟩
def RX8 : String := "SpillJoinModel"
def TX8 : u_T := fun k => match k with
  | 0 => ("SpillJoinModel", "tables", "I", false)
  | 1 => ("SpillJoinModel", "memory", "I", false)
  | 2 => ("SpillJoinModel", "kind", "I", false)
  | 3 => ("SpillJoinModel", "keyOf", "[I", true)
  | 4 => ("SpillJoinModel", "rows", "[I", true)
  | 5 => ("SpillJoinModel", "runs", "I", false)
  | 6 => ("SpillJoinModel", "seen", "I", false)
  | 7 => ("SpillJoinModel", "seenWhat", "[I", true)
  | 8 => ("SpillJoinModel", "seenComes", "[I", true)
  | 9 => ("SpillJoinModel", "pageLength", "I", false)
  | 10 => ("SpillJoinModel", "page", "[B", true)
  | 11 => ("SpillJoinModel", "isWhole", "Z", false)
  | 12 => ("SpillJoinModel", "newLeft", "I", false)
  | 13 => ("SpillJoinModel", "newRight", "I", false)
  | 14 => ("SpillJoinModel", "limit", "I", false)
  | 15 => ("SpillJoinModel", "isOff", "Z", false)
  | 16 => ("SpillJoinModel", "semiOut", "I", false)
  | 17 => ("SpillJoinModel", "outs", "I", false)
  | 18 => ("SpillJoinModel", "written", "I", false)
  | 19 => ("SpillJoinModel", "readRows", "I", false)
  | 20 => ("SpillJoinModel", "peak", "I", false)
  | 21 => ("SpillJoinModel", "level", "I", false)
  | 22 => ("SpillJoinModel", "held", "I", false)
  | 23 => ("SpillJoinModel", "byBlocks", "I", false)
  | 24 => ("SpillJoinModel", "split", "I", false)
  | 25 => ("SpillJoinModel", "leftBuilds", "I", false)
  | 26 => ("SpillJoinModel", "logs", "I", false)
  | 27 => ("SpillJoinModel", "numbers", "I", false)
  | 28 => ("SpillJoinModel", "open", "I", false)
  | 29 => ("SpillJoinModel", "openNumber", "[I", true)
  | 30 => ("SpillJoinModel", "openWhat", "[I", true)
  | 31 => ("SpillJoinModel", "runLeft", "[I", true)
  | 32 => ("SpillJoinModel", "runRight", "[I", true)
  | 33 => ("SpillJoinModel", "runNumber", "[I", true)
  | 34 => ("SpillJoinModel", "runOpened", "[I", true)
  | 35 => ("SpillJoinModel", "runWhat", "[I", true)
  | 36 => ("SpillJoinModel", "partLeft", "[I", true)
  | 37 => ("SpillJoinModel", "partRight", "[I", true)
  | 38 => ("SpillJoinModel", "partNext", "[I", true)
  | 39 => ("SpillJoinModel", "partStays", "[I", true)
  | 40 => ("SpillJoinModel", "partFiles", "[I", true)
  | 41 => ("SpillJoinModel", "toldOuts", "I", false)
  | 42 => ("SpillJoinModel", "toldLogs", "I", false)
  | 43 => ("SpillJoinModel", "toldLedger", "[I", true)
  | 44 => ("SpillJoinModel", "toldLeft", "[I", true)
  | 45 => ("SpillJoinModel", "toldRight", "[I", true)
  | 46 => ("SpillJoinModel", "toldNumber", "[I", true)
  | 47 => ("SpillJoinModel", "toldOpened", "[I", true)
  | 48 => ("SpillJoinModel", "toldWhat", "[I", true)
  | 49 => ("SpillJoinModel", "seedNow", "J", false)
  | 50 => ("SpillJoinModel", "savedKey", "[I", true)
  | 51 => ("SpillJoinModel", "isKept", "Z", false)
  | 52 => ("SpillJoinModel", "keptTables", "I", false)
  | 53 => ("SpillJoinModel", "keptMemory", "I", false)
  | 54 => ("SpillJoinModel", "keptKind", "I", false)
  | 55 => ("SpillJoinModel", "keptLeft", "I", false)
  | 56 => ("SpillJoinModel", "keptRight", "I", false)
  | 57 => ("SpillJoinModel", "keptSeen", "I", false)
  | 58 => ("SpillJoinModel", "keptKey", "[I", true)
  | 59 => ("SpillJoinModel", "keptWhat", "[I", true)
  | 60 => ("SpillJoinModel", "keptComes", "[I", true)
  | _ => ("SpillJoinModel", "h", "J", false)
def tyX8 : Nat → FieldType := fun k => match k with
  | 0 => .int
  | 1 => .int
  | 2 => .int
  | 3 => .array .int
  | 4 => .array .int
  | 5 => .int
  | 6 => .int
  | 7 => .array .int
  | 8 => .array .int
  | 9 => .int
  | 10 => .array .byte
  | 11 => .boolean
  | 12 => .int
  | 13 => .int
  | 14 => .int
  | 15 => .boolean
  | 16 => .int
  | 17 => .int
  | 18 => .int
  | 19 => .int
  | 20 => .int
  | 21 => .int
  | 22 => .int
  | 23 => .int
  | 24 => .int
  | 25 => .int
  | 26 => .int
  | 27 => .int
  | 28 => .int
  | 29 => .array .int
  | 30 => .array .int
  | 31 => .array .int
  | 32 => .array .int
  | 33 => .array .int
  | 34 => .array .int
  | 35 => .array .int
  | 36 => .array .int
  | 37 => .array .int
  | 38 => .array .int
  | 39 => .array .int
  | 40 => .array .int
  | 41 => .int
  | 42 => .int
  | 43 => .array .int
  | 44 => .array .int
  | 45 => .array .int
  | 46 => .array .int
  | 47 => .array .int
  | 48 => .array .int
  | 49 => .long
  | 50 => .array .int
  | 51 => .boolean
  | 52 => .int
  | 53 => .int
  | 54 => .int
  | 55 => .int
  | 56 => .int
  | 57 => .int
  | 58 => .array .int
  | 59 => .array .int
  | 60 => .array .int
  | _ => .long
abbrev wsX80 : List Cond := u_ws RX8 TX8 62
theorem nmX8 : ∀ a, a < 62 → ∀ b, b < 62 → a ≠ b → (TX8 a).2.1 ≠ (TX8 b).2.1 := by decide +kernel
theorem tyX8_ok : ∀ k, k < 62 → parseFieldDescriptor (TX8 k).2.2.1 = some (tyX8 k) := by decide +kernel
abbrev cX8_init : ByteArray := prog_10_method_1_code
def yX8_init : MethodName := ⟨RX8, "<init>", "()V"⟩
abbrev cX8_within : ByteArray := prog_10_method_3_code
def yX8_within : MethodName := ⟨RX8, "within", "(III)Z"⟩
abbrev cX8_isIn : ByteArray := prog_10_method_4_code
def yX8_isIn : MethodName := ⟨RX8, "isIn", "(II)Z"⟩
abbrev cX8_size : ByteArray := prog_10_method_5_code
def yX8_size : MethodName := ⟨RX8, "size", "(I)I"⟩
abbrev cX8_letter : ByteArray := prog_10_method_6_code
def yX8_letter : MethodName := ⟨RX8, "letter", "(I)I"⟩
abbrev cX8_blank : ByteArray := prog_10_method_7_code
def yX8_blank : MethodName := ⟨RX8, "blank", "()I"⟩
abbrev cX8_kindBy : ByteArray := prog_10_method_8_code
def yX8_kindBy : MethodName := ⟨RX8, "kindBy", "(I)I"⟩
abbrev cX8_at : ByteArray := prog_10_method_9_code
def yX8_at : MethodName := ⟨RX8, "at", "(I)I"⟩
abbrev cX8_isRowAt : ByteArray := prog_10_method_10_code
def yX8_isRowAt : MethodName := ⟨RX8, "isRowAt", "(I)Z"⟩
abbrev cX8_rowsFrom : ByteArray := prog_10_method_11_code
def yX8_rowsFrom : MethodName := ⟨RX8, "rowsFrom", "(I)I"⟩
abbrev cX8_read : ByteArray := prog_10_method_12_code
def yX8_read : MethodName := ⟨RX8, "read", "()I"⟩
abbrev cX8_fault : ByteArray := prog_10_method_13_code
def yX8_fault : MethodName := ⟨RX8, "fault", "()I"⟩
abbrev cX8_keyBy : ByteArray := prog_10_method_14_code
def yX8_keyBy : MethodName := ⟨RX8, "keyBy", "(I)I"⟩
abbrev cX8_tables : ByteArray := prog_10_method_15_code
def yX8_tables : MethodName := ⟨RX8, "tables", "()I"⟩
abbrev cX8_isSide : ByteArray := prog_10_method_16_code
def yX8_isSide : MethodName := ⟨RX8, "isSide", "(I)Z"⟩
abbrev cX8_isRow : ByteArray := prog_10_method_17_code
def yX8_isRow : MethodName := ⟨RX8, "isRow", "(II)Z"⟩
abbrev cX8_keyAt : ByteArray := prog_10_method_18_code
def yX8_keyAt : MethodName := ⟨RX8, "keyAt", "(II)I"⟩
abbrev cX8_partnersOf : ByteArray := prog_10_method_19_code
def yX8_partnersOf : MethodName := ⟨RX8, "partnersOf", "(II)I"⟩
abbrev cX8_rowNow : ByteArray := prog_10_method_20_code
def yX8_rowNow : MethodName := ⟨RX8, "rowNow", "(III)I"⟩
abbrev cX8_row : ByteArray := prog_10_method_21_code
def yX8_row : MethodName := ⟨RX8, "row", "(III)I"⟩
abbrev cX8_as : ByteArray := prog_10_method_22_code
def yX8_as : MethodName := ⟨RX8, "as", "(I)I"⟩
abbrev cX8_isKey : ByteArray := prog_10_method_23_code
def yX8_isKey : MethodName := ⟨RX8, "isKey", "(I)Z"⟩
abbrev cX8_put : ByteArray := prog_10_method_24_code
def yX8_put : MethodName := ⟨RX8, "put", "(II)I"⟩
abbrev cX8_take : ByteArray := prog_10_method_25_code
def yX8_take : MethodName := ⟨RX8, "take", "(II)I"⟩
abbrev cX8_key : ByteArray := prog_10_method_26_code
def yX8_key : MethodName := ⟨RX8, "key", "(III)I"⟩
abbrev cX8_memory : ByteArray := prog_10_method_27_code
def yX8_memory : MethodName := ⟨RX8, "memory", "(I)I"⟩
abbrev cX8_be : ByteArray := prog_10_method_28_code
def yX8_be : MethodName := ⟨RX8, "be", "(I)I"⟩
abbrev cX8_noteLog : ByteArray := prog_10_method_29_code
def yX8_noteLog : MethodName := ⟨RX8, "noteLog", "(III)V"⟩
abbrev cX8_openOne : ByteArray := prog_10_method_30_code
def yX8_openOne : MethodName := ⟨RX8, "openOne", "(I)V"⟩
abbrev cX8_shutOne : ByteArray := prog_10_method_31_code
def yX8_shutOne : MethodName := ⟨RX8, "shutOne", "()V"⟩
abbrev cX8_come : ByteArray := prog_10_method_32_code
def yX8_come : MethodName := ⟨RX8, "come", "(II)V"⟩
abbrev cX8_comesAlone : ByteArray := prog_10_method_33_code
def yX8_comesAlone : MethodName := ⟨RX8, "comesAlone", "(I)Z"⟩
abbrev cX8_alone : ByteArray := prog_10_method_34_code
def yX8_alone : MethodName := ⟨RX8, "alone", "(II)V"⟩
abbrev cX8_meet : ByteArray := prog_10_method_35_code
def yX8_meet : MethodName := ⟨RX8, "meet", "(II)V"⟩
abbrev cX8_inMemory : ByteArray := prog_10_method_36_code
def yX8_inMemory : MethodName := ⟨RX8, "inMemory", "(I)V"⟩
abbrev cX8_meetAll : ByteArray := prog_10_method_37_code
def yX8_meetAll : MethodName := ⟨RX8, "meetAll", "(III)V"⟩
abbrev cX8_aloneOnes : ByteArray := prog_10_method_38_code
def yX8_aloneOnes : MethodName := ⟨RX8, "aloneOnes", "(II)V"⟩
abbrev cX8_holdNow : ByteArray := prog_10_method_39_code
def yX8_holdNow : MethodName := ⟨RX8, "holdNow", "(III)V"⟩
abbrev cX8_firstOf : ByteArray := prog_10_method_40_code
def yX8_firstOf : MethodName := ⟨RX8, "firstOf", "(II)I"⟩
abbrev cX8_blocksNow : ByteArray := prog_10_method_41_code
def yX8_blocksNow : MethodName := ⟨RX8, "blocksNow", "(III)V"⟩
abbrev cX8_isOneKey : ByteArray := prog_10_method_42_code
def yX8_isOneKey : MethodName := ⟨RX8, "isOneKey", "(II)Z"⟩
abbrev cX8_half : ByteArray := prog_10_method_43_code
def yX8_half : MethodName := ⟨RX8, "half", "(IIII)I"⟩
abbrev cX8_halfOf : ByteArray := prog_10_method_44_code
def yX8_halfOf : MethodName := ⟨RX8, "halfOf", "(III)I"⟩
abbrev cX8_rowsOfHalf : ByteArray := prog_10_method_45_code
def yX8_rowsOfHalf : MethodName := ⟨RX8, "rowsOfHalf", "(II)I"⟩
abbrev cX8_resident : ByteArray := prog_10_method_46_code
def yX8_resident : MethodName := ⟨RX8, "resident", "(II)I"⟩
abbrev cX8_splitNow : ByteArray := prog_10_method_47_code
def yX8_splitNow : MethodName := ⟨RX8, "splitNow", "(II)V"⟩
abbrev cX8_turn : ByteArray := prog_10_method_48_code
def yX8_turn : MethodName := ⟨RX8, "turn", "(III)Z"⟩
abbrev cX8_shutPart : ByteArray := prog_10_method_49_code
def yX8_shutPart : MethodName := ⟨RX8, "shutPart", "(I)V"⟩
abbrev cX8_nextHalf : ByteArray := prog_10_method_50_code
def yX8_nextHalf : MethodName := ⟨RX8, "nextHalf", "(I)I"⟩
abbrev cX8_withKeys : ByteArray := prog_10_method_51_code
def yX8_withKeys : MethodName := ⟨RX8, "withKeys", "(IZ)I"⟩
abbrev cX8_clearRun : ByteArray := prog_10_method_52_code
def yX8_clearRun : MethodName := ⟨RX8, "clearRun", "()V"⟩
abbrev cX8_runNow : ByteArray := prog_10_method_53_code
def yX8_runNow : MethodName := ⟨RX8, "runNow", "(I)V"⟩
abbrev cX8_clearTold : ByteArray := prog_10_method_54_code
def yX8_clearTold : MethodName := ⟨RX8, "clearTold", "()V"⟩
abbrev cX8_tell : ByteArray := prog_10_method_55_code
def yX8_tell : MethodName := ⟨RX8, "tell", "()V"⟩
abbrev cX8_run : ByteArray := prog_10_method_56_code
def yX8_run : MethodName := ⟨RX8, "run", "(I)I"⟩
abbrev cX8_outNow : ByteArray := prog_10_method_57_code
def yX8_outNow : MethodName := ⟨RX8, "outNow", "(II)I"⟩
abbrev cX8_out : ByteArray := prog_10_method_58_code
def yX8_out : MethodName := ⟨RX8, "out", "(II)I"⟩
abbrev cX8_logNow : ByteArray := prog_10_method_59_code
def yX8_logNow : MethodName := ⟨RX8, "logNow", "(II)I"⟩
abbrev cX8_log : ByteArray := prog_10_method_60_code
def yX8_log : MethodName := ⟨RX8, "log", "(II)I"⟩
abbrev cX8_ledger : ByteArray := prog_10_method_61_code
def yX8_ledger : MethodName := ⟨RX8, "ledger", "(I)I"⟩
abbrev cX8_spareNow : ByteArray := prog_10_method_62_code
def yX8_spareNow : MethodName := ⟨RX8, "spareNow", "()I"⟩
abbrev cX8_spare : ByteArray := prog_10_method_63_code
def yX8_spare : MethodName := ⟨RX8, "spare", "()I"⟩
abbrev cX8_could : ByteArray := prog_10_method_64_code
def yX8_could : MethodName := ⟨RX8, "could", "(II)Z"⟩
abbrev cX8_see : ByteArray := prog_10_method_65_code
def yX8_see : MethodName := ⟨RX8, "see", "(IZ)I"⟩
abbrev cX8_forget : ByteArray := prog_10_method_66_code
def yX8_forget : MethodName := ⟨RX8, "forget", "()I"⟩
abbrev cX8_sortsNow : ByteArray := prog_10_method_67_code
def yX8_sortsNow : MethodName := ⟨RX8, "sortsNow", "()I"⟩
abbrev cX8_askNow : ByteArray := prog_10_method_68_code
def yX8_askNow : MethodName := ⟨RX8, "askNow", "()I"⟩
abbrev cX8_sorts : ByteArray := prog_10_method_69_code
def yX8_sorts : MethodName := ⟨RX8, "sorts", "(I)I"⟩
abbrev cX8_draw : ByteArray := prog_10_method_70_code
def yX8_draw : MethodName := ⟨RX8, "draw", "(I)I"⟩
abbrev cX8_drawnNow : ByteArray := prog_10_method_71_code
def yX8_drawnNow : MethodName := ⟨RX8, "drawnNow", "(III)I"⟩
abbrev cX8_drawn : ByteArray := prog_10_method_72_code
def yX8_drawn : MethodName := ⟨RX8, "drawn", "(III)I"⟩
abbrev cX8_image : ByteArray := prog_10_method_73_code
def yX8_image : MethodName := ⟨RX8, "image", "()I"⟩
abbrev cX8_restore : ByteArray := prog_10_method_74_code
def yX8_restore : MethodName := ⟨RX8, "restore", "()I"⟩
abbrev cX8_keysOfAll : ByteArray := prog_10_method_75_code
def yX8_keysOfAll : MethodName := ⟨RX8, "keysOfAll", "()I"⟩
abbrev cX8_pairs : ByteArray := prog_10_method_76_code
def yX8_pairs : MethodName := ⟨RX8, "pairs", "()I"⟩
abbrev cX8_howMany : ByteArray := prog_10_method_77_code
def yX8_howMany : MethodName := ⟨RX8, "howMany", "(I)I"⟩
abbrev cX8_count : ByteArray := prog_10_method_78_code
def yX8_count : MethodName := ⟨RX8, "count", "(I)I"⟩
abbrev cX8_mix : ByteArray := prog_10_method_79_code
def yX8_mix : MethodName := ⟨RX8, "mix", "(J)V"⟩
abbrev cX8_mixRows : ByteArray := prog_10_method_80_code
def yX8_mixRows : MethodName := ⟨RX8, "mixRows", "()V"⟩
abbrev cX8_mixTold : ByteArray := prog_10_method_81_code
def yX8_mixTold : MethodName := ⟨RX8, "mixTold", "()V"⟩
abbrev cX8_digest : ByteArray := prog_10_method_82_code
def yX8_digest : MethodName := ⟨RX8, "digest", "()J"⟩
def RJ11 : String := "java/lang/Character"
def TJ11 : u_T := fun k => match k with
  | _ => ("", "", "", false)
def tyJ11 : Nat → FieldType := fun k => match k with
  | _ => .int
abbrev wsJ110 : List Cond := u_ws RJ11 TJ11 0
theorem nmJ11 : ∀ a, a < 0 → ∀ b, b < 0 → a ≠ b → (TJ11 a).2.1 ≠ (TJ11 b).2.1 := by decide +kernel
theorem tyJ11_ok : ∀ k, k < 0 → parseFieldDescriptor (TJ11 k).2.2.1 = some (tyJ11 k) := by decide +kernel
abbrev cJ11_isValidCodePoint_9a6ad : ByteArray := prog_11_method_11_code
def yJ11_isValidCodePoint_9a6ad : MethodName := ⟨RJ11, "isValidCodePoint", "(I)Z"⟩
abbrev cJ11_highSurrogate_5068e : ByteArray := prog_11_method_28_code
def yJ11_highSurrogate_5068e : MethodName := ⟨RJ11, "highSurrogate", "(I)C"⟩
abbrev cJ11_lowSurrogate_5068e : ByteArray := prog_11_method_29_code
def yJ11_lowSurrogate_5068e : MethodName := ⟨RJ11, "lowSurrogate", "(I)C"⟩
def RJ6 : String := "java/lang/Integer"
def TJ6 : u_T := fun k => match k with
  | _ => ("", "", "", false)
def tyJ6 : Nat → FieldType := fun k => match k with
  | _ => .int
abbrev wsJ60 : List Cond := u_ws RJ6 TJ6 0
theorem nmJ6 : ∀ a, a < 0 → ∀ b, b < 0 → a ≠ b → (TJ6 a).2.1 ≠ (TJ6 b).2.1 := by decide +kernel
theorem tyJ6_ok : ∀ k, k < 0 → parseFieldDescriptor (TJ6 k).2.2.1 = some (tyJ6 k) := by decide +kernel
abbrev cJ6_numberOfTrailingZeros_0f7a4 : ByteArray := prog_12_method_48_code
def yJ6_numberOfTrailingZeros_0f7a4 : MethodName := ⟨RJ6, "numberOfTrailingZeros", "(I)I"⟩
abbrev cJ6_bitCount_0f7a4 : ByteArray := prog_12_method_49_code
def yJ6_bitCount_0f7a4 : MethodName := ⟨RJ6, "bitCount", "(I)I"⟩
def RJ9 : String := "java/lang/Math"
def TJ9 : u_T := fun k => match k with
  | _ => ("", "", "", false)
def tyJ9 : Nat → FieldType := fun k => match k with
  | _ => .int
abbrev wsJ90 : List Cond := u_ws RJ9 TJ9 0
theorem nmJ9 : ∀ a, a < 0 → ∀ b, b < 0 → a ≠ b → (TJ9 a).2.1 ≠ (TJ9 b).2.1 := by decide +kernel
theorem tyJ9_ok : ∀ k, k < 0 → parseFieldDescriptor (TJ9 k).2.2.1 = some (tyJ9 k) := by decide +kernel
abbrev cJ9_max_7cf53 : ByteArray := prog_13_method_65_code
def yJ9_max_7cf53 : MethodName := ⟨RJ9, "max", "(II)I"⟩
abbrev cJ9_min_7cf53 : ByteArray := prog_13_method_69_code
def yJ9_min_7cf53 : MethodName := ⟨RJ9, "min", "(II)I"⟩
def RJ0 : String := "java/lang/String"
def TJ0 : u_T := fun k => match k with
  | _ => ("", "", "", false)
def tyJ0 : Nat → FieldType := fun k => match k with
  | _ => .int
abbrev wsJ00 : List Cond := u_ws RJ0 TJ0 0
theorem nmJ0 : ∀ a, a < 0 → ∀ b, b < 0 → a ≠ b → (TJ0 a).2.1 ≠ (TJ0 b).2.1 := by decide +kernel
theorem tyJ0_ok : ∀ k, k < 0 → parseFieldDescriptor (TJ0 k).2.2.1 = some (tyJ0 k) := by decide +kernel
abbrev cJ0_length_8abf5 : ByteArray := prog_14_method_54_code
def yJ0_length_8abf5 : MethodName := ⟨RJ0, "length", "()I"⟩
abbrev cJ0_indexOf_0f7a4 : ByteArray := prog_14_method_79_code
def yJ0_indexOf_0f7a4 : MethodName := ⟨RJ0, "indexOf", "(I)I"⟩
abbrev cJ0_indexOf_7cf53 : ByteArray := prog_14_method_80_code
def yJ0_indexOf_7cf53 : MethodName := ⟨RJ0, "indexOf", "(II)I"⟩
abbrev cJ0_coder_7d493 : ByteArray := prog_14_method_152_code
def yJ0_coder_7d493 : MethodName := ⟨RJ0, "coder", "()B"⟩
abbrev cJ0_isLatin1_aae02 : ByteArray := prog_14_method_154_code
def yJ0_isLatin1_aae02 : MethodName := ⟨RJ0, "isLatin1", "()Z"⟩
abbrev cJ0_checkBoundsBeginEnd_23922 : ByteArray := prog_14_method_158_code
def yJ0_checkBoundsBeginEnd_23922 : MethodName := ⟨RJ0, "checkBoundsBeginEnd", "(III)V"⟩
def RJ1 : String := "java/lang/StringLatin1"
def TJ1 : u_T := fun k => match k with
  | _ => ("", "", "", false)
def tyJ1 : Nat → FieldType := fun k => match k with
  | _ => .int
abbrev wsJ10 : List Cond := u_ws RJ1 TJ1 0
theorem nmJ1 : ∀ a, a < 0 → ∀ b, b < 0 → a ≠ b → (TJ1 a).2.1 ≠ (TJ1 b).2.1 := by decide +kernel
theorem tyJ1_ok : ∀ k, k < 0 → parseFieldDescriptor (TJ1 k).2.2.1 = some (tyJ1 k) := by decide +kernel
abbrev cJ1_canEncode_9a6ad : ByteArray := prog_15_method_4_code
def yJ1_canEncode_9a6ad : MethodName := ⟨RJ1, "canEncode", "(I)Z"⟩
abbrev cJ1_indexOf_4cfef : ByteArray := prog_15_method_22_code
def yJ1_indexOf_4cfef : MethodName := ⟨RJ1, "indexOf", "([BIII)I"⟩
abbrev cJ1_indexOfChar_4cfef : ByteArray := prog_15_method_23_code
def yJ1_indexOfChar_4cfef : MethodName := ⟨RJ1, "indexOfChar", "([BIII)I"⟩
def RJ2 : String := "java/lang/StringUTF16"
def TJ2 : u_T := fun k => match k with
  | _ => ("", "", "", false)
def tyJ2 : Nat → FieldType := fun k => match k with
  | _ => .int
abbrev wsJ20 : List Cond := u_ws RJ2 TJ2 0
theorem nmJ2 : ∀ a, a < 0 → ∀ b, b < 0 → a ≠ b → (TJ2 a).2.1 ≠ (TJ2 b).2.1 := by decide +kernel
theorem tyJ2_ok : ∀ k, k < 0 → parseFieldDescriptor (TJ2 k).2.2.1 = some (tyJ2 k) := by decide +kernel
abbrev cJ2_getChar_3b067 : ByteArray := prog_16_method_5_code
def yJ2_getChar_3b067 : MethodName := ⟨RJ2, "getChar", "([BI)C"⟩
abbrev cJ2_length_9d52b : ByteArray := prog_16_method_6_code
def yJ2_length_9d52b : MethodName := ⟨RJ2, "length", "([B)I"⟩
abbrev cJ2_indexOf_4cfef : ByteArray := prog_16_method_40_code
def yJ2_indexOf_4cfef : MethodName := ⟨RJ2, "indexOf", "([BIII)I"⟩
abbrev cJ2_indexOfChar_4cfef : ByteArray := prog_16_method_47_code
def yJ2_indexOfChar_4cfef : MethodName := ⟨RJ2, "indexOfChar", "([BIII)I"⟩
abbrev cJ2_indexOfCharUnsafe_4cfef : ByteArray := prog_16_method_48_code
def yJ2_indexOfCharUnsafe_4cfef : MethodName := ⟨RJ2, "indexOfCharUnsafe", "([BIII)I"⟩
abbrev cJ2_indexOfSupplementary_4cfef : ByteArray := prog_16_method_49_code
def yJ2_indexOfSupplementary_4cfef : MethodName := ⟨RJ2, "indexOfSupplementary", "([BIII)I"⟩
abbrev cJ2_checkBoundsBeginEnd_d044e : ByteArray := prog_16_method_93_code
def yJ2_checkBoundsBeginEnd_d044e : MethodName := ⟨RJ2, "checkBoundsBeginEnd", "(II[B)V"⟩
def RJ7 : String := "java/util/Arrays"
def TJ7 : u_T := fun k => match k with
  | _ => ("", "", "", false)
def tyJ7 : Nat → FieldType := fun k => match k with
  | _ => .int
abbrev wsJ70 : List Cond := u_ws RJ7 TJ7 0
theorem nmJ7 : ∀ a, a < 0 → ∀ b, b < 0 → a ≠ b → (TJ7 a).2.1 ≠ (TJ7 b).2.1 := by decide +kernel
theorem tyJ7_ok : ∀ k, k < 0 → parseFieldDescriptor (TJ7 k).2.2.1 = some (tyJ7 k) := by decide +kernel
abbrev cJ7_fill_53178 : ByteArray := prog_17_method_103_code
def yJ7_fill_53178 : MethodName := ⟨RJ7, "fill", "([II)V"⟩
def RJ3 : String := "jdk/internal/util/Preconditions"
def TJ3 : u_T := fun k => match k with
  | _ => ("", "", "", false)
def tyJ3 : Nat → FieldType := fun k => match k with
  | _ => .int
abbrev wsJ30 : List Cond := u_ws RJ3 TJ3 0
theorem nmJ3 : ∀ a, a < 0 → ∀ b, b < 0 → a ≠ b → (TJ3 a).2.1 ≠ (TJ3 b).2.1 := by decide +kernel
theorem tyJ3_ok : ∀ k, k < 0 → parseFieldDescriptor (TJ3 k).2.2.1 = some (tyJ3 k) := by decide +kernel
abbrev cJ3_checkFromToIndex_8c36e : ByteArray := prog_18_method_12_code
def yJ3_checkFromToIndex_8c36e : MethodName := ⟨RJ3, "checkFromToIndex", "(IIILjava/util/function/BiFunction;)I"⟩
def RL : String := "SpillJoinLaw"
abbrev cL_law : ByteArray := code
def yL_law : MethodName := ⟨RL, "law", "([I)Z"⟩
abbrev vwCl : List vw_C := [(RX0, TX0, 8), (RX1, TX1, 5), (RX2, TX2, 2), (RX3, TX3, 5), (RX4, TX4, 2), (RX5, TX5, 2), (RX6, TX6, 4), (RX7, TX7, 10), (RX8, TX8, 62)]
/-- the tables' words that hold on in every later state -/
def tb : List Cond := lw_tbl.filter goodWord
def isNst : Cond → Bool
  | .fieldLinkNest .. => true
  | .methodLinkNest .. => true
  | _ => false
/-- the tables' words on private members of nest mates -/
def nst : List Cond := lw_tbl.filter isNst
theorem tb_mem {w : Cond} (i : Nat) (h : lw_tbl[i]? = some w) (g : goodWord w = true) : w ∈ tb := List.mem_filter.mpr ⟨List.mem_of_getElem? h, g⟩
theorem nst_mem {w : Cond} (i : Nat) (h : lw_tbl[i]? = some w) (g : isNst w = true) : w ∈ nst := List.mem_filter.mpr ⟨List.mem_of_getElem? h, g⟩
theorem tb_places {ws : List Cond} (ps : List Nat) (hp : ws = ps.filterMap (fun i => lw_tbl[i]?)) (h : ws.all goodWord = true) : ∀ w ∈ ws, w ∈ tb := by
  intro w hw
  have h1 := List.all_eq_true.mp h w hw
  rw [hp] at hw
  obtain ⟨i, -, hi⟩ := List.mem_filterMap.mp hw
  exact tb_mem i hi h1
theorem inTX0 : ∀ w ∈ u_ws RX0 TX0 8, w ∈ tb := tb_places [238, 240, 242, 244, 246, 248, 250, 252] (by decide +kernel) (by decide +kernel)
theorem inTX1 : ∀ w ∈ u_ws RX1 TX1 5, w ∈ tb := tb_places [210, 212, 214, 216, 218] (by decide +kernel) (by decide +kernel)
theorem inTX2 : ∀ w ∈ u_ws RX2 TX2 2, w ∈ tb := tb_places [141, 143] (by decide +kernel) (by decide +kernel)
theorem inTX3 : ∀ w ∈ u_ws RX3 TX3 5, w ∈ tb := tb_places [263, 265, 267, 269, 271] (by decide +kernel) (by decide +kernel)
theorem inTX4 : ∀ w ∈ u_ws RX4 TX4 2, w ∈ tb := tb_places [284, 286] (by decide +kernel) (by decide +kernel)
theorem inTX5 : ∀ w ∈ u_ws RX5 TX5 2, w ∈ tb := tb_places [169, 171] (by decide +kernel) (by decide +kernel)
theorem inTX6 : ∀ w ∈ u_ws RX6 TX6 4, w ∈ tb := tb_places [186, 188, 190, 192] (by decide +kernel) (by decide +kernel)
theorem inTX7 : ∀ w ∈ u_ws RX7 TX7 10, w ∈ tb := tb_places [301, 303, 305, 307, 309, 311, 313, 315, 317, 319] (by decide +kernel) (by decide +kernel)
theorem inTX8 : ∀ w ∈ u_ws RX8 TX8 62, w ∈ tb := tb_places [909, 911, 913, 915, 917, 919, 921, 923, 925, 927, 929, 931, 933, 935, 937, 939, 941, 943, 945, 947, 949, 951, 953, 955, 957, 959, 961, 963, 965, 967, 969, 971, 973, 975, 977, 979, 981, 983, 985, 987, 989, 991, 993, 995, 997, 999, 1001, 1003, 1005, 1007, 1009, 1011, 1013, 1015, 1017, 1019, 1021, 1023, 1025, 1027, 1029, 1031] (by decide +kernel) (by decide +kernel)
end
section
theorem kw0 : (.selects RX2 yX2_isFull yX2_isFull : Cond) ∈ tb := tb_mem 0 (by decide +kernel) rfl
theorem kw1 : (.selects RX2 yX2_add yX2_add : Cond) ∈ tb := tb_mem 1 (by decide +kernel) rfl
theorem kw2 : (.selects RX2 yX2_clear yX2_clear : Cond) ∈ tb := tb_mem 2 (by decide +kernel) rfl
theorem kw3 : (.selects RX2 yX2_firstFault yX2_firstFault : Cond) ∈ tb := tb_mem 3 (by decide +kernel) rfl
theorem kw4 : (.selects RX2 yX2_codeAt yX2_codeAt : Cond) ∈ tb := tb_mem 4 (by decide +kernel) rfl
theorem kw5 : (.selects RX2 yX2_isWhole yX2_isWhole : Cond) ∈ tb := tb_mem 5 (by decide +kernel) rfl
theorem kw6 : (.selects RX2 yX2_secondMark yX2_secondMark : Cond) ∈ tb := tb_mem 6 (by decide +kernel) rfl
theorem kw7 : (.selects RX2 yX2_readRows yX2_readRows : Cond) ∈ tb := tb_mem 7 (by decide +kernel) rfl
theorem kw8 : (.selects RX5 yX5_clear yX5_clear : Cond) ∈ tb := tb_mem 8 (by decide +kernel) rfl
theorem kw9 : (.selects RX5 yX5_add yX5_add : Cond) ∈ tb := tb_mem 9 (by decide +kernel) rfl
theorem kw10 : (.selects RX4 yX4_clear yX4_clear : Cond) ∈ tb := tb_mem 10 (by decide +kernel) rfl
theorem kw11 : (.selects RX3 yX3_clear yX3_clear : Cond) ∈ tb := tb_mem 11 (by decide +kernel) rfl
theorem kw12 : (.selects RX1 yX1_clear yX1_clear : Cond) ∈ tb := tb_mem 12 (by decide +kernel) rfl
theorem kw13 : (.selects RX0 yX0_clear yX0_clear : Cond) ∈ tb := tb_mem 13 (by decide +kernel) rfl
theorem kw14 : (.selects RX6 yX6_size yX6_size : Cond) ∈ tb := tb_mem 14 (by decide +kernel) rfl
theorem kw15 : (.selects RX6 yX6_hasRow yX6_hasRow : Cond) ∈ tb := tb_mem 15 (by decide +kernel) rfl
theorem kw16 : (.selects RX6 yX6_sideOf yX6_sideOf : Cond) ∈ tb := tb_mem 16 (by decide +kernel) rfl
theorem kw17 : (.selects RX5 yX5_has yX5_has : Cond) ∈ tb := tb_mem 17 (by decide +kernel) rfl
theorem kw18 : (.selects RX5 yX5_keyAt yX5_keyAt : Cond) ∈ tb := tb_mem 18 (by decide +kernel) rfl
theorem kw19 : (.selects RX6 yX6_partners yX6_partners : Cond) ∈ tb := tb_mem 19 (by decide +kernel) rfl
theorem kw20 : (.selects RX5 yX5_rowsOfKey yX5_rowsOfKey : Cond) ∈ tb := tb_mem 20 (by decide +kernel) rfl
theorem kw21 : (.selects RX6 yX6_areThere yX6_areThere : Cond) ∈ tb := tb_mem 21 (by decide +kernel) rfl
theorem kw22 : (.selects RX5 yX5_remove yX5_remove : Cond) ∈ tb := tb_mem 22 (by decide +kernel) rfl
theorem kw23 : (.selects RX5 yX5_change yX5_change : Cond) ∈ tb := tb_mem 23 (by decide +kernel) rfl
theorem kw24 : (.selects RX3 yX3_go yX3_go : Cond) ∈ tb := tb_mem 24 (by decide +kernel) rfl
theorem kw25 : (.selects RX5 yX5_rowsWithKey yX5_rowsWithKey : Cond) ∈ tb := tb_mem 25 (by decide +kernel) rfl
theorem kw26 : (.selects RX3 yX3_turn yX3_turn : Cond) ∈ tb := tb_mem 26 (by decide +kernel) rfl
theorem kw27 : (.selects RX6 yX6_buildSide yX6_buildSide : Cond) ∈ tb := tb_mem 27 (by decide +kernel) rfl
theorem kw28 : (.selects RX3 yX3_natureOf yX3_natureOf : Cond) ∈ tb := tb_mem 28 (by decide +kernel) rfl
theorem kw29 : (.selects RX5 yX5_haveOneKey yX5_haveOneKey : Cond) ∈ tb := tb_mem 29 (by decide +kernel) rfl
theorem kw30 : (.selects RX0 yX0_open yX0_open : Cond) ∈ tb := tb_mem 30 (by decide +kernel) rfl
theorem kw31 : (.selects RX0 yX0_add yX0_add : Cond) ∈ tb := tb_mem 31 (by decide +kernel) rfl
theorem kw32 : (.selects RX3 yX3_enterPart yX3_enterPart : Cond) ∈ tb := tb_mem 32 (by decide +kernel) rfl
theorem kw33 : (.selects RX3 yX3_hold yX3_hold : Cond) ∈ tb := tb_mem 33 (by decide +kernel) rfl
theorem kw34 : (.selects RX3 yX3_noteHeld yX3_noteHeld : Cond) ∈ tb := tb_mem 34 (by decide +kernel) rfl
theorem kw35 : (.selects RX3 yX3_meetAll yX3_meetAll : Cond) ∈ tb := tb_mem 35 (by decide +kernel) rfl
theorem kw36 : (.selects RX3 yX3_meet yX3_meet : Cond) ∈ tb := tb_mem 36 (by decide +kernel) rfl
theorem kw37 : (.selects RX1 yX1_add yX1_add : Cond) ∈ tb := tb_mem 37 (by decide +kernel) rfl
theorem kw38 : (.selects RX3 yX3_comeOutAlone yX3_comeOutAlone : Cond) ∈ tb := tb_mem 38 (by decide +kernel) rfl
theorem kw39 : (.selects RX3 yX3_goByBlocks yX3_goByBlocks : Cond) ∈ tb := tb_mem 39 (by decide +kernel) rfl
theorem kw40 : (.selects RX3 yX3_split yX3_split : Cond) ∈ tb := tb_mem 40 (by decide +kernel) rfl
theorem kw41 : (.selects RX5 yX5_rowsWithBit yX5_rowsWithBit : Cond) ∈ tb := tb_mem 41 (by decide +kernel) rfl
theorem kw42 : (.selects RX3 yX3_residentHalf yX3_residentHalf : Cond) ∈ tb := tb_mem 42 (by decide +kernel) rfl
theorem kw43 : (.selects RX3 yX3_spill yX3_spill : Cond) ∈ tb := tb_mem 43 (by decide +kernel) rfl
theorem kw44 : (.selects RX3 yX3_goOn yX3_goOn : Cond) ∈ tb := tb_mem 44 (by decide +kernel) rfl
theorem kw45 : (.selects RX0 yX0_shutDownTo yX0_shutDownTo : Cond) ∈ tb := tb_mem 45 (by decide +kernel) rfl
theorem kw46 : (.selects RX5 yX5_rowsWithoutKey yX5_rowsWithoutKey : Cond) ∈ tb := tb_mem 46 (by decide +kernel) rfl
theorem kw47 : (.selects RX1 yX1_at yX1_at : Cond) ∈ tb := tb_mem 47 (by decide +kernel) rfl
theorem kw48 : (.selects RX0 yX0_at yX0_at : Cond) ∈ tb := tb_mem 48 (by decide +kernel) rfl
theorem kw49 : (.selects RX3 yX3_lineAt yX3_lineAt : Cond) ∈ tb := tb_mem 49 (by decide +kernel) rfl
theorem kw50 : (.selects RX4 yX4_add yX4_add : Cond) ∈ tb := tb_mem 50 (by decide +kernel) rfl
theorem kw51 : (.selects RX4 yX4_bestQuestion yX4_bestQuestion : Cond) ∈ tb := tb_mem 51 (by decide +kernel) rfl
theorem kw52 : (.selects RX6 yX6_copy yX6_copy : Cond) ∈ tb := tb_mem 52 (by decide +kernel) rfl
theorem kw53 : (.selects RX5 yX5_copy yX5_copy : Cond) ∈ tb := tb_mem 53 (by decide +kernel) rfl
theorem kw54 : (.selects RX4 yX4_copy yX4_copy : Cond) ∈ tb := tb_mem 54 (by decide +kernel) rfl
theorem kw55 : (.selects RX5 yX5_keySet yX5_keySet : Cond) ∈ tb := tb_mem 55 (by decide +kernel) rfl
theorem kw56 : (.selects RX6 yX6_pairs yX6_pairs : Cond) ∈ tb := tb_mem 56 (by decide +kernel) rfl
theorem kw57 : (.selects RX7 yX7_mixRows yX7_mixRows : Cond) ∈ tb := tb_mem 57 (by decide +kernel) rfl
theorem kw58 : (.selects RX8 yX8_clearTold yX8_clearTold : Cond) ∈ tb := tb_mem 58 (by decide +kernel) rfl
theorem kw59 : (.selects RX8 yX8_read yX8_read : Cond) ∈ tb := tb_mem 59 (by decide +kernel) rfl
theorem kw60 : (.selects RX8 yX8_at yX8_at : Cond) ∈ tb := tb_mem 60 (by decide +kernel) rfl
theorem kw61 : (.selects RX8 yX8_rowsFrom yX8_rowsFrom : Cond) ∈ tb := tb_mem 61 (by decide +kernel) rfl
theorem kw62 : (.selects RX8 yX8_isRowAt yX8_isRowAt : Cond) ∈ tb := tb_mem 62 (by decide +kernel) rfl
theorem kw63 : (.selects RX8 yX8_isRow yX8_isRow : Cond) ∈ tb := tb_mem 63 (by decide +kernel) rfl
theorem kw64 : (.selects RX8 yX8_rowNow yX8_rowNow : Cond) ∈ tb := tb_mem 64 (by decide +kernel) rfl
theorem kw65 : (.selects RX8 yX8_keyAt yX8_keyAt : Cond) ∈ tb := tb_mem 65 (by decide +kernel) rfl
theorem kw66 : (.selects RX8 yX8_partnersOf yX8_partnersOf : Cond) ∈ tb := tb_mem 66 (by decide +kernel) rfl
theorem kw67 : (.selects RX8 yX8_runNow yX8_runNow : Cond) ∈ tb := tb_mem 67 (by decide +kernel) rfl
theorem kw68 : (.selects RX8 yX8_clearRun yX8_clearRun : Cond) ∈ tb := tb_mem 68 (by decide +kernel) rfl
theorem kw69 : (.selects RX8 yX8_withKeys yX8_withKeys : Cond) ∈ tb := tb_mem 69 (by decide +kernel) rfl
theorem kw70 : (.selects RX8 yX8_turn yX8_turn : Cond) ∈ tb := tb_mem 70 (by decide +kernel) rfl
theorem kw71 : (.selects RX8 yX8_openOne yX8_openOne : Cond) ∈ tb := tb_mem 71 (by decide +kernel) rfl
theorem kw72 : (.selects RX8 yX8_noteLog yX8_noteLog : Cond) ∈ tb := tb_mem 72 (by decide +kernel) rfl
theorem kw73 : (.selects RX8 yX8_holdNow yX8_holdNow : Cond) ∈ tb := tb_mem 73 (by decide +kernel) rfl
theorem kw74 : (.selects RX8 yX8_inMemory yX8_inMemory : Cond) ∈ tb := tb_mem 74 (by decide +kernel) rfl
theorem kw75 : (.selects RX8 yX8_meetAll yX8_meetAll : Cond) ∈ tb := tb_mem 75 (by decide +kernel) rfl
theorem kw76 : (.selects RX8 yX8_meet yX8_meet : Cond) ∈ tb := tb_mem 76 (by decide +kernel) rfl
theorem kw77 : (.selects RX8 yX8_come yX8_come : Cond) ∈ tb := tb_mem 77 (by decide +kernel) rfl
theorem kw78 : (.selects RX8 yX8_alone yX8_alone : Cond) ∈ tb := tb_mem 78 (by decide +kernel) rfl
theorem kw79 : (.selects RX8 yX8_comesAlone yX8_comesAlone : Cond) ∈ tb := tb_mem 79 (by decide +kernel) rfl
theorem kw80 : (.selects RX8 yX8_aloneOnes yX8_aloneOnes : Cond) ∈ tb := tb_mem 80 (by decide +kernel) rfl
theorem kw81 : (.selects RX8 yX8_isOneKey yX8_isOneKey : Cond) ∈ tb := tb_mem 81 (by decide +kernel) rfl
theorem kw82 : (.selects RX8 yX8_blocksNow yX8_blocksNow : Cond) ∈ tb := tb_mem 82 (by decide +kernel) rfl
theorem kw83 : (.selects RX8 yX8_firstOf yX8_firstOf : Cond) ∈ tb := tb_mem 83 (by decide +kernel) rfl
theorem kw84 : (.selects RX8 yX8_splitNow yX8_splitNow : Cond) ∈ tb := tb_mem 84 (by decide +kernel) rfl
theorem kw85 : (.selects RX8 yX8_resident yX8_resident : Cond) ∈ tb := tb_mem 85 (by decide +kernel) rfl
theorem kw86 : (.selects RX8 yX8_halfOf yX8_halfOf : Cond) ∈ tb := tb_mem 86 (by decide +kernel) rfl
theorem kw87 : (.selects RX8 yX8_half yX8_half : Cond) ∈ tb := tb_mem 87 (by decide +kernel) rfl
theorem kw88 : (.selects RX8 yX8_rowsOfHalf yX8_rowsOfHalf : Cond) ∈ tb := tb_mem 88 (by decide +kernel) rfl
theorem kw89 : (.selects RX8 yX8_shutOne yX8_shutOne : Cond) ∈ tb := tb_mem 89 (by decide +kernel) rfl
theorem kw90 : (.selects RX8 yX8_nextHalf yX8_nextHalf : Cond) ∈ tb := tb_mem 90 (by decide +kernel) rfl
theorem kw91 : (.selects RX8 yX8_shutPart yX8_shutPart : Cond) ∈ tb := tb_mem 91 (by decide +kernel) rfl
theorem kw92 : (.selects RX8 yX8_tell yX8_tell : Cond) ∈ tb := tb_mem 92 (by decide +kernel) rfl
theorem kw93 : (.selects RX8 yX8_outNow yX8_outNow : Cond) ∈ tb := tb_mem 93 (by decide +kernel) rfl
theorem kw94 : (.selects RX8 yX8_logNow yX8_logNow : Cond) ∈ tb := tb_mem 94 (by decide +kernel) rfl
theorem kw95 : (.selects RX8 yX8_spareNow yX8_spareNow : Cond) ∈ tb := tb_mem 95 (by decide +kernel) rfl
theorem kw96 : (.selects RX8 yX8_sortsNow yX8_sortsNow : Cond) ∈ tb := tb_mem 96 (by decide +kernel) rfl
theorem kw97 : (.selects RX8 yX8_askNow yX8_askNow : Cond) ∈ tb := tb_mem 97 (by decide +kernel) rfl
theorem kw98 : (.selects RX8 yX8_drawnNow yX8_drawnNow : Cond) ∈ tb := tb_mem 98 (by decide +kernel) rfl
theorem kw99 : (.selects RX8 yX8_draw yX8_draw : Cond) ∈ tb := tb_mem 99 (by decide +kernel) rfl
theorem kw100 : (.selects RX8 yX8_howMany yX8_howMany : Cond) ∈ tb := tb_mem 100 (by decide +kernel) rfl
theorem kw101 : (.selects RX8 yX8_keysOfAll yX8_keysOfAll : Cond) ∈ tb := tb_mem 101 (by decide +kernel) rfl
theorem kw102 : (.selects RX8 yX8_pairs yX8_pairs : Cond) ∈ tb := tb_mem 102 (by decide +kernel) rfl
theorem kw103 : (.selects RX8 yX8_mixRows yX8_mixRows : Cond) ∈ tb := tb_mem 103 (by decide +kernel) rfl
theorem kw104 : (.selects RX8 yX8_mix yX8_mix : Cond) ∈ tb := tb_mem 104 (by decide +kernel) rfl
theorem kw105 : (.selects RX8 yX8_mixTold yX8_mixTold : Cond) ∈ tb := tb_mem 105 (by decide +kernel) rfl
theorem kw106 : (.initialized RL : Cond) ∈ tb := tb_mem 106 (by decide +kernel) rfl
theorem kw107 : (.initialized RX7 : Cond) ∈ tb := tb_mem 107 (by decide +kernel) rfl
theorem kw108 : (.initialized RX2 : Cond) ∈ tb := tb_mem 108 (by decide +kernel) rfl
theorem kw109 : (.initialized RX3 : Cond) ∈ tb := tb_mem 109 (by decide +kernel) rfl
theorem kw110 : (.initialized RX6 : Cond) ∈ tb := tb_mem 110 (by decide +kernel) rfl
theorem kw111 : (.initialized RX5 : Cond) ∈ tb := tb_mem 111 (by decide +kernel) rfl
theorem kw112 : (.initialized RX1 : Cond) ∈ tb := tb_mem 112 (by decide +kernel) rfl
theorem kw113 : (.initialized RX0 : Cond) ∈ tb := tb_mem 113 (by decide +kernel) rfl
theorem kw114 : (.initialized RX4 : Cond) ∈ tb := tb_mem 114 (by decide +kernel) rfl
theorem kw115 : (.initialized RX8 : Cond) ∈ tb := tb_mem 115 (by decide +kernel) rfl
theorem kw116 : (.initialized RJ0 : Cond) ∈ tb := tb_mem 116 (by decide +kernel) rfl
theorem kw117 : (.initialized RJ1 : Cond) ∈ tb := tb_mem 117 (by decide +kernel) rfl
theorem kw118 : (.initialized RJ9 : Cond) ∈ tb := tb_mem 118 (by decide +kernel) rfl
theorem kw119 : (.initialized RJ2 : Cond) ∈ tb := tb_mem 119 (by decide +kernel) rfl
theorem kw120 : (.initialized RJ3 : Cond) ∈ tb := tb_mem 120 (by decide +kernel) rfl
theorem kw121 : (.initialized RJ11 : Cond) ∈ tb := tb_mem 121 (by decide +kernel) rfl
theorem kw122 : (.initialized RJ7 : Cond) ∈ tb := tb_mem 122 (by decide +kernel) rfl
theorem kw123 : (.initialized RJ6 : Cond) ∈ tb := tb_mem 123 (by decide +kernel) rfl
theorem kw124 : (.classLink RL 7 RX7 : Cond) ∈ tb := tb_mem 124 (by decide +kernel) rfl
theorem kw125 : (.instantiable RX7 10 : Cond) ∈ tb := tb_mem 125 (by decide +kernel) rfl
theorem kw126 : (.methodLink RL 9 yX7_init : Cond) ∈ tb := tb_mem 126 (by decide +kernel) rfl
theorem kw127 : (.instanceMethod yX7_init : Cond) ∈ tb := tb_mem 127 (by decide +kernel) rfl
theorem kw128 : (.code yX7_init cX7_init 1 none : Cond) ∈ tb := tb_mem 128 (by decide +kernel) rfl
theorem kw129 : (.methodLink RX7 1 objectInit : Cond) ∈ tb := tb_mem 129 (by decide +kernel) rfl
theorem kw130 : (.instanceMethod objectInit : Cond) ∈ tb := tb_mem 130 (by decide +kernel) rfl
theorem kw131 : (.code objectInit object_method_1_code 1 none : Cond) ∈ tb := tb_mem 131 (by decide +kernel) rfl
theorem kw132 : (.classLink RX7 7 RX2 : Cond) ∈ tb := tb_mem 132 (by decide +kernel) rfl
theorem kw133 : (.instantiable RX2 2 : Cond) ∈ tb := tb_mem 133 (by decide +kernel) rfl
theorem kn134 : (.methodLinkNest RX7 9 yX2_init "SpillJoin" : Cond) ∈ nst := nst_mem 134 (by decide +kernel) rfl
theorem kw135 : (.instanceMethod yX2_init : Cond) ∈ tb := tb_mem 135 (by decide +kernel) rfl
theorem kw136 : (.code yX2_init cX2_init 1 none : Cond) ∈ tb := tb_mem 136 (by decide +kernel) rfl
theorem kw137 : (.methodLink RX2 3 objectInit : Cond) ∈ tb := tb_mem 137 (by decide +kernel) rfl
theorem kw138 : (.fieldLink RX2 11 "SpillJoin$Page" "codes" "[I" : Cond) ∈ tb := tb_mem 138 (by decide +kernel) rfl
theorem kn139 : (.fieldLinkNest RX7 57 "SpillJoin$Page" "size" "I" "SpillJoin" : Cond) ∈ nst := nst_mem 139 (by decide +kernel) rfl
theorem kw140 : (.fieldLink RX2 23 "SpillJoin$Page" "size" "I" : Cond) ∈ tb := tb_mem 140 (by decide +kernel) rfl
theorem kw146 : (.arrayClass .int : Cond) ∈ tb := tb_mem 146 (by decide +kernel) rfl
theorem kw147 : (.classLink RX7 16 RX3 : Cond) ∈ tb := tb_mem 147 (by decide +kernel) rfl
theorem kw148 : (.instantiable RX3 5 : Cond) ∈ tb := tb_mem 148 (by decide +kernel) rfl
theorem kn149 : (.methodLinkNest RX7 18 yX3_init "SpillJoin" : Cond) ∈ nst := nst_mem 149 (by decide +kernel) rfl
theorem kw150 : (.instanceMethod yX3_init : Cond) ∈ tb := tb_mem 150 (by decide +kernel) rfl
theorem kw151 : (.code yX3_init cX3_init 1 none : Cond) ∈ tb := tb_mem 151 (by decide +kernel) rfl
theorem kw152 : (.methodLink RX3 3 objectInit : Cond) ∈ tb := tb_mem 152 (by decide +kernel) rfl
theorem kw153 : (.classLink RX3 9 RX6 : Cond) ∈ tb := tb_mem 153 (by decide +kernel) rfl
theorem kw154 : (.instantiable RX6 4 : Cond) ∈ tb := tb_mem 154 (by decide +kernel) rfl
theorem kn155 : (.methodLinkNest RX3 11 yX6_init "SpillJoin" : Cond) ∈ nst := nst_mem 155 (by decide +kernel) rfl
theorem kw156 : (.instanceMethod yX6_init : Cond) ∈ tb := tb_mem 156 (by decide +kernel) rfl
theorem kw157 : (.code yX6_init cX6_init 1 none : Cond) ∈ tb := tb_mem 157 (by decide +kernel) rfl
theorem kw158 : (.methodLink RX6 3 objectInit : Cond) ∈ tb := tb_mem 158 (by decide +kernel) rfl
theorem kw159 : (.classLink RX6 9 RX5 : Cond) ∈ tb := tb_mem 159 (by decide +kernel) rfl
theorem kw160 : (.instantiable RX5 2 : Cond) ∈ tb := tb_mem 160 (by decide +kernel) rfl
theorem kn161 : (.methodLinkNest RX6 11 yX5_init "SpillJoin" : Cond) ∈ nst := nst_mem 161 (by decide +kernel) rfl
theorem kw162 : (.instanceMethod yX5_init : Cond) ∈ tb := tb_mem 162 (by decide +kernel) rfl
theorem kw163 : (.code yX5_init cX5_init 1 none : Cond) ∈ tb := tb_mem 163 (by decide +kernel) rfl
theorem kw164 : (.methodLink RX5 3 objectInit : Cond) ∈ tb := tb_mem 164 (by decide +kernel) rfl
theorem kw165 : (.fieldLink RX5 9 "SpillJoin$Side" "keys" "[I" : Cond) ∈ tb := tb_mem 165 (by decide +kernel) rfl
theorem kw166 : (.fieldLink RX5 15 "SpillJoin$Side" "size" "I" : Cond) ∈ tb := tb_mem 166 (by decide +kernel) rfl
theorem kn167 : (.fieldLinkNest RX6 28 "SpillJoin$Side" "size" "I" "SpillJoin" : Cond) ∈ nst := nst_mem 167 (by decide +kernel) rfl
theorem kn168 : (.fieldLinkNest RX7 148 "SpillJoin$Side" "size" "I" "SpillJoin" : Cond) ∈ nst := nst_mem 168 (by decide +kernel) rfl
theorem kw174 : (.fieldLink RX6 12 "SpillJoin$Tables" "left" "LSpillJoin$Side;" : Cond) ∈ tb := tb_mem 174 (by decide +kernel) rfl
theorem kn175 : (.fieldLinkNest RX3 53 "SpillJoin$Tables" "left" "LSpillJoin$Side;" "SpillJoin" : Cond) ∈ nst := nst_mem 175 (by decide +kernel) rfl
theorem kn176 : (.fieldLinkNest RX7 87 "SpillJoin$Tables" "left" "LSpillJoin$Side;" "SpillJoin" : Cond) ∈ nst := nst_mem 176 (by decide +kernel) rfl
theorem kw177 : (.fieldLink RX6 18 "SpillJoin$Tables" "right" "LSpillJoin$Side;" : Cond) ∈ tb := tb_mem 177 (by decide +kernel) rfl
theorem kn178 : (.fieldLinkNest RX3 63 "SpillJoin$Tables" "right" "LSpillJoin$Side;" "SpillJoin" : Cond) ∈ nst := nst_mem 178 (by decide +kernel) rfl
theorem kn179 : (.fieldLinkNest RX7 95 "SpillJoin$Tables" "right" "LSpillJoin$Side;" "SpillJoin" : Cond) ∈ nst := nst_mem 179 (by decide +kernel) rfl
theorem kw180 : (.fieldLink RX6 25 "SpillJoin$Tables" "memory" "I" : Cond) ∈ tb := tb_mem 180 (by decide +kernel) rfl
theorem kn181 : (.fieldLinkNest RX7 78 "SpillJoin$Tables" "memory" "I" "SpillJoin" : Cond) ∈ nst := nst_mem 181 (by decide +kernel) rfl
theorem kn182 : (.fieldLinkNest RX3 117 "SpillJoin$Tables" "memory" "I" "SpillJoin" : Cond) ∈ nst := nst_mem 182 (by decide +kernel) rfl
theorem kw183 : (.fieldLink RX6 21 "SpillJoin$Tables" "kind" "I" : Cond) ∈ tb := tb_mem 183 (by decide +kernel) rfl
theorem kn184 : (.fieldLinkNest RX7 84 "SpillJoin$Tables" "kind" "I" "SpillJoin" : Cond) ∈ nst := nst_mem 184 (by decide +kernel) rfl
theorem kn185 : (.fieldLinkNest RX3 171 "SpillJoin$Tables" "kind" "I" "SpillJoin" : Cond) ∈ nst := nst_mem 185 (by decide +kernel) rfl
theorem kw195 : (.classLink RX3 18 RX1 : Cond) ∈ tb := tb_mem 195 (by decide +kernel) rfl
theorem kw196 : (.instantiable RX1 5 : Cond) ∈ tb := tb_mem 196 (by decide +kernel) rfl
theorem kn197 : (.methodLinkNest RX3 20 yX1_init "SpillJoin" : Cond) ∈ nst := nst_mem 197 (by decide +kernel) rfl
theorem kw198 : (.instanceMethod yX1_init : Cond) ∈ tb := tb_mem 198 (by decide +kernel) rfl
theorem kw199 : (.code yX1_init cX1_init 1 none : Cond) ∈ tb := tb_mem 199 (by decide +kernel) rfl
theorem kw200 : (.methodLink RX1 3 objectInit : Cond) ∈ tb := tb_mem 200 (by decide +kernel) rfl
theorem kw201 : (.fieldLink RX1 9 "SpillJoin$Output" "left" "[I" : Cond) ∈ tb := tb_mem 201 (by decide +kernel) rfl
theorem kw202 : (.fieldLink RX1 15 "SpillJoin$Output" "right" "[I" : Cond) ∈ tb := tb_mem 202 (by decide +kernel) rfl
theorem kw203 : (.fieldLink RX1 18 "SpillJoin$Output" "size" "I" : Cond) ∈ tb := tb_mem 203 (by decide +kernel) rfl
theorem kn204 : (.fieldLinkNest RX3 77 "SpillJoin$Output" "size" "I" "SpillJoin" : Cond) ∈ nst := nst_mem 204 (by decide +kernel) rfl
theorem kn205 : (.fieldLinkNest RX7 169 "SpillJoin$Output" "size" "I" "SpillJoin" : Cond) ∈ nst := nst_mem 205 (by decide +kernel) rfl
theorem kw206 : (.fieldLink RX1 22 "SpillJoin$Output" "limit" "I" : Cond) ∈ tb := tb_mem 206 (by decide +kernel) rfl
theorem kw207 : (.fieldLink RX1 25 "SpillJoin$Output" "broken" "Z" : Cond) ∈ tb := tb_mem 207 (by decide +kernel) rfl
theorem kn208 : (.fieldLinkNest RX3 139 "SpillJoin$Output" "broken" "Z" "SpillJoin" : Cond) ∈ nst := nst_mem 208 (by decide +kernel) rfl
theorem kn209 : (.fieldLinkNest RX7 164 "SpillJoin$Output" "broken" "Z" "SpillJoin" : Cond) ∈ nst := nst_mem 209 (by decide +kernel) rfl
theorem kw221 : (.classLink RX3 25 RX0 : Cond) ∈ tb := tb_mem 221 (by decide +kernel) rfl
theorem kw222 : (.instantiable RX0 8 : Cond) ∈ tb := tb_mem 222 (by decide +kernel) rfl
theorem kn223 : (.methodLinkNest RX3 27 yX0_init "SpillJoin" : Cond) ∈ nst := nst_mem 223 (by decide +kernel) rfl
theorem kw224 : (.instanceMethod yX0_init : Cond) ∈ tb := tb_mem 224 (by decide +kernel) rfl
theorem kw225 : (.code yX0_init cX0_init 1 none : Cond) ∈ tb := tb_mem 225 (by decide +kernel) rfl
theorem kw226 : (.methodLink RX0 3 objectInit : Cond) ∈ tb := tb_mem 226 (by decide +kernel) rfl
theorem kw227 : (.fieldLink RX0 11 "SpillJoin$Log" "numbers" "[I" : Cond) ∈ tb := tb_mem 227 (by decide +kernel) rfl
theorem kw228 : (.fieldLink RX0 15 "SpillJoin$Log" "opened" "[I" : Cond) ∈ tb := tb_mem 228 (by decide +kernel) rfl
theorem kw229 : (.fieldLink RX0 18 "SpillJoin$Log" "natures" "[I" : Cond) ∈ tb := tb_mem 229 (by decide +kernel) rfl
theorem kw230 : (.fieldLink RX0 27 "SpillJoin$Log" "size" "I" : Cond) ∈ tb := tb_mem 230 (by decide +kernel) rfl
theorem kn231 : (.fieldLinkNest RX3 80 "SpillJoin$Log" "size" "I" "SpillJoin" : Cond) ∈ nst := nst_mem 231 (by decide +kernel) rfl
theorem kn232 : (.fieldLinkNest RX7 177 "SpillJoin$Log" "size" "I" "SpillJoin" : Cond) ∈ nst := nst_mem 232 (by decide +kernel) rfl
theorem kw233 : (.fieldLink RX0 21 "SpillJoin$Log" "openNumbers" "[I" : Cond) ∈ tb := tb_mem 233 (by decide +kernel) rfl
theorem kw234 : (.fieldLink RX0 24 "SpillJoin$Log" "openNatures" "[I" : Cond) ∈ tb := tb_mem 234 (by decide +kernel) rfl
theorem kw235 : (.fieldLink RX0 31 "SpillJoin$Log" "depth" "I" : Cond) ∈ tb := tb_mem 235 (by decide +kernel) rfl
theorem kn236 : (.fieldLinkNest RX3 89 "SpillJoin$Log" "depth" "I" "SpillJoin" : Cond) ∈ nst := nst_mem 236 (by decide +kernel) rfl
theorem kw237 : (.fieldLink RX0 34 "SpillJoin$Log" "nextNumber" "I" : Cond) ∈ tb := tb_mem 237 (by decide +kernel) rfl
theorem kw255 : (.fieldLink RX3 12 "SpillJoin$Run" "tables" "LSpillJoin$Tables;" : Cond) ∈ tb := tb_mem 255 (by decide +kernel) rfl
theorem kn256 : (.fieldLinkNest RX7 23 "SpillJoin$Run" "tables" "LSpillJoin$Tables;" "SpillJoin" : Cond) ∈ nst := nst_mem 256 (by decide +kernel) rfl
theorem kw257 : (.fieldLink RX3 21 "SpillJoin$Run" "output" "LSpillJoin$Output;" : Cond) ∈ tb := tb_mem 257 (by decide +kernel) rfl
theorem kn258 : (.fieldLinkNest RX7 160 "SpillJoin$Run" "output" "LSpillJoin$Output;" "SpillJoin" : Cond) ∈ nst := nst_mem 258 (by decide +kernel) rfl
theorem kw259 : (.fieldLink RX3 28 "SpillJoin$Run" "log" "LSpillJoin$Log;" : Cond) ∈ tb := tb_mem 259 (by decide +kernel) rfl
theorem kn260 : (.fieldLinkNest RX7 173 "SpillJoin$Run" "log" "LSpillJoin$Log;" "SpillJoin" : Cond) ∈ nst := nst_mem 260 (by decide +kernel) rfl
theorem kw261 : (.fieldLink RX3 32 "SpillJoin$Run" "lines" "[I" : Cond) ∈ tb := tb_mem 261 (by decide +kernel) rfl
theorem kw262 : (.fieldLink RX3 48 "SpillJoin$Run" "cameOnce" "I" : Cond) ∈ tb := tb_mem 262 (by decide +kernel) rfl
theorem kw274 : (.classLink RX7 30 RX4 : Cond) ∈ tb := tb_mem 274 (by decide +kernel) rfl
theorem kw275 : (.instantiable RX4 2 : Cond) ∈ tb := tb_mem 275 (by decide +kernel) rfl
theorem kn276 : (.methodLinkNest RX7 32 yX4_init "SpillJoin" : Cond) ∈ nst := nst_mem 276 (by decide +kernel) rfl
theorem kw277 : (.instanceMethod yX4_init : Cond) ∈ tb := tb_mem 277 (by decide +kernel) rfl
theorem kw278 : (.code yX4_init cX4_init 1 none : Cond) ∈ tb := tb_mem 278 (by decide +kernel) rfl
theorem kw279 : (.methodLink RX4 3 objectInit : Cond) ∈ tb := tb_mem 279 (by decide +kernel) rfl
theorem kw280 : (.fieldLink RX4 15 "SpillJoin$Seen" "size" "I" : Cond) ∈ tb := tb_mem 280 (by decide +kernel) rfl
theorem kn281 : (.fieldLinkNest RX7 198 "SpillJoin$Seen" "size" "I" "SpillJoin" : Cond) ∈ nst := nst_mem 281 (by decide +kernel) rfl
theorem kw282 : (.fieldLink RX4 11 "SpillJoin$Seen" "kindsLeft" "I" : Cond) ∈ tb := tb_mem 282 (by decide +kernel) rfl
theorem kn283 : (.fieldLinkNest RX7 202 "SpillJoin$Seen" "kindsLeft" "I" "SpillJoin" : Cond) ∈ nst := nst_mem 283 (by decide +kernel) rfl
theorem kw289 : (.classLink RX7 37 RX6 : Cond) ∈ tb := tb_mem 289 (by decide +kernel) rfl
theorem kn290 : (.methodLinkNest RX7 39 yX6_init "SpillJoin" : Cond) ∈ nst := nst_mem 290 (by decide +kernel) rfl
theorem kw291 : (.fieldLink RX7 10 "SpillJoin" "page" "LSpillJoin$Page;" : Cond) ∈ tb := tb_mem 291 (by decide +kernel) rfl
theorem kw292 : (.fieldLink RX7 19 "SpillJoin" "latest" "LSpillJoin$Run;" : Cond) ∈ tb := tb_mem 292 (by decide +kernel) rfl
theorem kw293 : (.fieldLink RX7 27 "SpillJoin" "current" "LSpillJoin$Tables;" : Cond) ∈ tb := tb_mem 293 (by decide +kernel) rfl
theorem kw294 : (.fieldLink RX7 33 "SpillJoin" "seen" "LSpillJoin$Seen;" : Cond) ∈ tb := tb_mem 294 (by decide +kernel) rfl
theorem kw295 : (.fieldLink RX7 40 "SpillJoin" "keptTables" "LSpillJoin$Tables;" : Cond) ∈ tb := tb_mem 295 (by decide +kernel) rfl
theorem kw296 : (.fieldLink RX7 43 "SpillJoin" "keptSeen" "LSpillJoin$Seen;" : Cond) ∈ tb := tb_mem 296 (by decide +kernel) rfl
theorem kw297 : (.fieldLink RX7 101 "SpillJoin" "imageKept" "Z" : Cond) ∈ tb := tb_mem 297 (by decide +kernel) rfl
theorem kw298 : (.fieldLink RX7 46 "SpillJoin" "drawnRun" "LSpillJoin$Run;" : Cond) ∈ tb := tb_mem 298 (by decide +kernel) rfl
theorem kw299 : (.fieldLink RX7 105 "SpillJoin" "runs" "I" : Cond) ∈ tb := tb_mem 299 (by decide +kernel) rfl
theorem kw300 : (.fieldLink RX7 108 "SpillJoin" "reads" "I" : Cond) ∈ tb := tb_mem 300 (by decide +kernel) rfl
theorem kw322 : (.methodLink RL 13 yX7_letter : Cond) ∈ tb := tb_mem 322 (by decide +kernel) rfl
theorem kw323 : (.instanceMethod yX7_letter : Cond) ∈ tb := tb_mem 323 (by decide +kernel) rfl
theorem kw324 : (.selects RX7 yX7_letter yX7_letter : Cond) ∈ tb := tb_mem 324 (by decide +kernel) rfl
theorem kw325 : (.code yX7_letter cX7_letter 2 (some .int) : Cond) ∈ tb := tb_mem 325 (by decide +kernel) rfl
theorem kn326 : (.methodLinkNest RX7 49 yX2_isFull "SpillJoin" : Cond) ∈ nst := nst_mem 326 (by decide +kernel) rfl
theorem kw328 : (.instanceMethod yX2_isFull : Cond) ∈ tb := tb_mem 328 (by decide +kernel) rfl
theorem kw329 : (.code yX2_isFull cX2_isFull 1 (some .boolean) : Cond) ∈ tb := tb_mem 329 (by decide +kernel) rfl
theorem kn330 : (.methodLinkNest RX7 53 yX2_add "SpillJoin" : Cond) ∈ nst := nst_mem 330 (by decide +kernel) rfl
theorem kw332 : (.instanceMethod yX2_add : Cond) ∈ tb := tb_mem 332 (by decide +kernel) rfl
theorem kw333 : (.code yX2_add cX2_add 2 none : Cond) ∈ tb := tb_mem 333 (by decide +kernel) rfl
theorem kw334 : (.methodLink RL 18 yX7_blank : Cond) ∈ tb := tb_mem 334 (by decide +kernel) rfl
theorem kw335 : (.instanceMethod yX7_blank : Cond) ∈ tb := tb_mem 335 (by decide +kernel) rfl
theorem kw336 : (.selects RX7 yX7_blank yX7_blank : Cond) ∈ tb := tb_mem 336 (by decide +kernel) rfl
theorem kw337 : (.code yX7_blank cX7_blank 2 (some .int) : Cond) ∈ tb := tb_mem 337 (by decide +kernel) rfl
theorem kn338 : (.methodLinkNest RX7 61 yX2_clear "SpillJoin" : Cond) ∈ nst := nst_mem 338 (by decide +kernel) rfl
theorem kw340 : (.instanceMethod yX2_clear : Cond) ∈ tb := tb_mem 340 (by decide +kernel) rfl
theorem kw341 : (.code yX2_clear cX2_clear 1 none : Cond) ∈ tb := tb_mem 341 (by decide +kernel) rfl
theorem kw342 : (.methodLink RL 23 yX7_fault : Cond) ∈ tb := tb_mem 342 (by decide +kernel) rfl
theorem kw343 : (.instanceMethod yX7_fault : Cond) ∈ tb := tb_mem 343 (by decide +kernel) rfl
theorem kw344 : (.selects RX7 yX7_fault yX7_fault : Cond) ∈ tb := tb_mem 344 (by decide +kernel) rfl
theorem kw345 : (.code yX7_fault cX7_fault 1 (some .int) : Cond) ∈ tb := tb_mem 345 (by decide +kernel) rfl
theorem kn346 : (.methodLinkNest RX7 64 yX2_firstFault "SpillJoin" : Cond) ∈ nst := nst_mem 346 (by decide +kernel) rfl
theorem kw348 : (.instanceMethod yX2_firstFault : Cond) ∈ tb := tb_mem 348 (by decide +kernel) rfl
theorem kw349 : (.code yX2_firstFault cX2_firstFault 5 (some .int) : Cond) ∈ tb := tb_mem 349 (by decide +kernel) rfl
theorem kw350 : (.methodLink RX2 27 yX2_codeAt : Cond) ∈ tb := tb_mem 350 (by decide +kernel) rfl
theorem kw352 : (.instanceMethod yX2_codeAt : Cond) ∈ tb := tb_mem 352 (by decide +kernel) rfl
theorem kw353 : (.code yX2_codeAt cX2_codeAt 2 (some .int) : Cond) ∈ tb := tb_mem 353 (by decide +kernel) rfl
theorem kw354 : (.methodLink RX2 30 yX2_isHead : Cond) ∈ tb := tb_mem 354 (by decide +kernel) rfl
theorem kw355 : (.static yX2_isHead : Cond) ∈ tb := tb_mem 355 (by decide +kernel) rfl
theorem kw356 : (.code yX2_isHead cX2_isHead 2 (some .boolean) : Cond) ∈ tb := tb_mem 356 (by decide +kernel) rfl
theorem kw357 : (.methodLink RX2 38 yX2_kindOf : Cond) ∈ tb := tb_mem 357 (by decide +kernel) rfl
theorem kw358 : (.static yX2_kindOf : Cond) ∈ tb := tb_mem 358 (by decide +kernel) rfl
theorem kw359 : (.code yX2_kindOf cX2_kindOf 1 (some .int) : Cond) ∈ tb := tb_mem 359 (by decide +kernel) rfl
theorem kw361 : (.methodLink RX2 17 yJ0_indexOf_0f7a4 : Cond) ∈ tb := tb_mem 361 (by decide +kernel) rfl
theorem kw362 : (.instanceMethod yJ0_indexOf_0f7a4 : Cond) ∈ tb := tb_mem 362 (by decide +kernel) rfl
theorem kw363 : (.selects RJ0 yJ0_indexOf_0f7a4 yJ0_indexOf_0f7a4 : Cond) ∈ tb := tb_mem 363 (by decide +kernel) rfl
theorem kw364 : (.code yJ0_indexOf_0f7a4 cJ0_indexOf_0f7a4 2 (some .int) : Cond) ∈ tb := tb_mem 364 (by decide +kernel) rfl
theorem kw365 : (.methodLink RJ0 633 yJ0_indexOf_7cf53 : Cond) ∈ tb := tb_mem 365 (by decide +kernel) rfl
theorem kw366 : (.instanceMethod yJ0_indexOf_7cf53 : Cond) ∈ tb := tb_mem 366 (by decide +kernel) rfl
theorem kw367 : (.selects RJ0 yJ0_indexOf_7cf53 yJ0_indexOf_7cf53 : Cond) ∈ tb := tb_mem 367 (by decide +kernel) rfl
theorem kw368 : (.code yJ0_indexOf_7cf53 cJ0_indexOf_7cf53 3 (some .int) : Cond) ∈ tb := tb_mem 368 (by decide +kernel) rfl
theorem kw369 : (.methodLink RJ0 492 yJ0_isLatin1_aae02 : Cond) ∈ tb := tb_mem 369 (by decide +kernel) rfl
theorem kw370 : (.instanceMethod yJ0_isLatin1_aae02 : Cond) ∈ tb := tb_mem 370 (by decide +kernel) rfl
theorem kw371 : (.selects RJ0 yJ0_isLatin1_aae02 yJ0_isLatin1_aae02 : Cond) ∈ tb := tb_mem 371 (by decide +kernel) rfl
theorem kw372 : (.code yJ0_isLatin1_aae02 cJ0_isLatin1_aae02 1 (some .boolean) : Cond) ∈ tb := tb_mem 372 (by decide +kernel) rfl
theorem kw373 : (.fieldLink RJ0 38 "java/lang/String" "COMPACT_STRINGS" "Z" : Cond) ∈ tb := tb_mem 373 (by decide +kernel) rfl
theorem kw375 : (.methodLink RJ0 505 yJ0_length_8abf5 : Cond) ∈ tb := tb_mem 375 (by decide +kernel) rfl
theorem kw376 : (.instanceMethod yJ0_length_8abf5 : Cond) ∈ tb := tb_mem 376 (by decide +kernel) rfl
theorem kw377 : (.selects RJ0 yJ0_length_8abf5 yJ0_length_8abf5 : Cond) ∈ tb := tb_mem 377 (by decide +kernel) rfl
theorem kw378 : (.code yJ0_length_8abf5 cJ0_length_8abf5 1 (some .int) : Cond) ∈ tb := tb_mem 378 (by decide +kernel) rfl
theorem kw379 : (.methodLink RJ0 335 yJ0_coder_7d493 : Cond) ∈ tb := tb_mem 379 (by decide +kernel) rfl
theorem kw380 : (.instanceMethod yJ0_coder_7d493 : Cond) ∈ tb := tb_mem 380 (by decide +kernel) rfl
theorem kw381 : (.selects RJ0 yJ0_coder_7d493 yJ0_coder_7d493 : Cond) ∈ tb := tb_mem 381 (by decide +kernel) rfl
theorem kw382 : (.code yJ0_coder_7d493 cJ0_coder_7d493 1 (some .byte) : Cond) ∈ tb := tb_mem 382 (by decide +kernel) rfl
theorem kw383 : (.methodLink RJ0 637 yJ1_indexOf_4cfef : Cond) ∈ tb := tb_mem 383 (by decide +kernel) rfl
theorem kw384 : (.static yJ1_indexOf_4cfef : Cond) ∈ tb := tb_mem 384 (by decide +kernel) rfl
theorem kw385 : (.code yJ1_indexOf_4cfef cJ1_indexOf_4cfef 4 (some .int) : Cond) ∈ tb := tb_mem 385 (by decide +kernel) rfl
theorem kw386 : (.methodLink RJ1 88 yJ1_canEncode_9a6ad : Cond) ∈ tb := tb_mem 386 (by decide +kernel) rfl
theorem kw387 : (.static yJ1_canEncode_9a6ad : Cond) ∈ tb := tb_mem 387 (by decide +kernel) rfl
theorem kw388 : (.code yJ1_canEncode_9a6ad cJ1_canEncode_9a6ad 1 (some .boolean) : Cond) ∈ tb := tb_mem 388 (by decide +kernel) rfl
theorem kw389 : (.methodLink RJ1 92 yJ9_max_7cf53 : Cond) ∈ tb := tb_mem 389 (by decide +kernel) rfl
theorem kw390 : (.static yJ9_max_7cf53 : Cond) ∈ tb := tb_mem 390 (by decide +kernel) rfl
theorem kw391 : (.code yJ9_max_7cf53 cJ9_max_7cf53 2 (some .int) : Cond) ∈ tb := tb_mem 391 (by decide +kernel) rfl
theorem kw392 : (.methodLink RJ1 38 yJ9_min_7cf53 : Cond) ∈ tb := tb_mem 392 (by decide +kernel) rfl
theorem kw393 : (.static yJ9_min_7cf53 : Cond) ∈ tb := tb_mem 393 (by decide +kernel) rfl
theorem kw394 : (.code yJ9_min_7cf53 cJ9_min_7cf53 2 (some .int) : Cond) ∈ tb := tb_mem 394 (by decide +kernel) rfl
theorem kw395 : (.methodLink RJ1 95 yJ1_indexOfChar_4cfef : Cond) ∈ tb := tb_mem 395 (by decide +kernel) rfl
theorem kw396 : (.static yJ1_indexOfChar_4cfef : Cond) ∈ tb := tb_mem 396 (by decide +kernel) rfl
theorem kw397 : (.code yJ1_indexOfChar_4cfef cJ1_indexOfChar_4cfef 6 (some .int) : Cond) ∈ tb := tb_mem 397 (by decide +kernel) rfl
theorem kw398 : (.methodLink RJ0 640 yJ2_indexOf_4cfef : Cond) ∈ tb := tb_mem 398 (by decide +kernel) rfl
theorem kw399 : (.static yJ2_indexOf_4cfef : Cond) ∈ tb := tb_mem 399 (by decide +kernel) rfl
theorem kw400 : (.code yJ2_indexOf_4cfef cJ2_indexOf_4cfef 4 (some .int) : Cond) ∈ tb := tb_mem 400 (by decide +kernel) rfl
theorem kw401 : (.methodLink RJ2 224 yJ9_max_7cf53 : Cond) ∈ tb := tb_mem 401 (by decide +kernel) rfl
theorem kw402 : (.methodLink RJ2 183 yJ9_min_7cf53 : Cond) ∈ tb := tb_mem 402 (by decide +kernel) rfl
theorem kw403 : (.constant RJ2 227 (65536) : Cond) ∈ tb := tb_mem 403 (by decide +kernel) rfl
theorem kw404 : (.methodLink RJ2 228 yJ2_indexOfChar_4cfef : Cond) ∈ tb := tb_mem 404 (by decide +kernel) rfl
theorem kw405 : (.static yJ2_indexOfChar_4cfef : Cond) ∈ tb := tb_mem 405 (by decide +kernel) rfl
theorem kw406 : (.code yJ2_indexOfChar_4cfef cJ2_indexOfChar_4cfef 4 (some .int) : Cond) ∈ tb := tb_mem 406 (by decide +kernel) rfl
theorem kw407 : (.methodLink RJ2 96 yJ2_checkBoundsBeginEnd_d044e : Cond) ∈ tb := tb_mem 407 (by decide +kernel) rfl
theorem kw408 : (.static yJ2_checkBoundsBeginEnd_d044e : Cond) ∈ tb := tb_mem 408 (by decide +kernel) rfl
theorem kw409 : (.code yJ2_checkBoundsBeginEnd_d044e cJ2_checkBoundsBeginEnd_d044e 3 none : Cond) ∈ tb := tb_mem 409 (by decide +kernel) rfl
theorem kw410 : (.methodLink RJ2 48 yJ2_length_9d52b : Cond) ∈ tb := tb_mem 410 (by decide +kernel) rfl
theorem kw411 : (.static yJ2_length_9d52b : Cond) ∈ tb := tb_mem 411 (by decide +kernel) rfl
theorem kw412 : (.code yJ2_length_9d52b cJ2_length_9d52b 1 (some .int) : Cond) ∈ tb := tb_mem 412 (by decide +kernel) rfl
theorem kw413 : (.methodLink RJ2 241 yJ0_checkBoundsBeginEnd_23922 : Cond) ∈ tb := tb_mem 413 (by decide +kernel) rfl
theorem kw414 : (.static yJ0_checkBoundsBeginEnd_23922 : Cond) ∈ tb := tb_mem 414 (by decide +kernel) rfl
theorem kw415 : (.code yJ0_checkBoundsBeginEnd_23922 cJ0_checkBoundsBeginEnd_23922 3 none : Cond) ∈ tb := tb_mem 415 (by decide +kernel) rfl
theorem kw416 : (.fieldLink RJ0 1053 "jdk/internal/util/Preconditions" "SIOOBE_FORMATTER" "Ljava/util/function/BiFunction;" : Cond) ∈ tb := tb_mem 416 (by decide +kernel) rfl
theorem kw418 : (.methodLink RJ0 1062 yJ3_checkFromToIndex_8c36e : Cond) ∈ tb := tb_mem 418 (by decide +kernel) rfl
theorem kw419 : (.static yJ3_checkFromToIndex_8c36e : Cond) ∈ tb := tb_mem 419 (by decide +kernel) rfl
theorem kw420 : (.code yJ3_checkFromToIndex_8c36e cJ3_checkFromToIndex_8c36e 4 (some .int) : Cond) ∈ tb := tb_mem 420 (by decide +kernel) rfl
theorem kw421 : (.methodLink RJ2 244 yJ2_indexOfCharUnsafe_4cfef : Cond) ∈ tb := tb_mem 421 (by decide +kernel) rfl
theorem kw422 : (.static yJ2_indexOfCharUnsafe_4cfef : Cond) ∈ tb := tb_mem 422 (by decide +kernel) rfl
theorem kw423 : (.code yJ2_indexOfCharUnsafe_4cfef cJ2_indexOfCharUnsafe_4cfef 5 (some .int) : Cond) ∈ tb := tb_mem 423 (by decide +kernel) rfl
theorem kw424 : (.methodLink RJ2 71 yJ2_getChar_3b067 : Cond) ∈ tb := tb_mem 424 (by decide +kernel) rfl
theorem kw425 : (.static yJ2_getChar_3b067 : Cond) ∈ tb := tb_mem 425 (by decide +kernel) rfl
theorem kw426 : (.code yJ2_getChar_3b067 cJ2_getChar_3b067 2 (some .char) : Cond) ∈ tb := tb_mem 426 (by decide +kernel) rfl
theorem kw427 : (.fieldLink RJ2 44 "java/lang/StringUTF16" "$assertionsDisabled" "Z" : Cond) ∈ tb := tb_mem 427 (by decide +kernel) rfl
theorem kw429 : (.fieldLink RJ2 59 "java/lang/StringUTF16" "HI_BYTE_SHIFT" "I" : Cond) ∈ tb := tb_mem 429 (by decide +kernel) rfl
theorem kw431 : (.fieldLink RJ2 63 "java/lang/StringUTF16" "LO_BYTE_SHIFT" "I" : Cond) ∈ tb := tb_mem 431 (by decide +kernel) rfl
theorem kw433 : (.methodLink RJ2 232 yJ2_indexOfSupplementary_4cfef : Cond) ∈ tb := tb_mem 433 (by decide +kernel) rfl
theorem kw434 : (.static yJ2_indexOfSupplementary_4cfef : Cond) ∈ tb := tb_mem 434 (by decide +kernel) rfl
theorem kw435 : (.code yJ2_indexOfSupplementary_4cfef cJ2_indexOfSupplementary_4cfef 7 (some .int) : Cond) ∈ tb := tb_mem 435 (by decide +kernel) rfl
theorem kw436 : (.methodLink RJ2 164 yJ11_isValidCodePoint_9a6ad : Cond) ∈ tb := tb_mem 436 (by decide +kernel) rfl
theorem kw437 : (.static yJ11_isValidCodePoint_9a6ad : Cond) ∈ tb := tb_mem 437 (by decide +kernel) rfl
theorem kw438 : (.code yJ11_isValidCodePoint_9a6ad cJ11_isValidCodePoint_9a6ad 2 (some .boolean) : Cond) ∈ tb := tb_mem 438 (by decide +kernel) rfl
theorem kw439 : (.methodLink RJ2 157 yJ11_highSurrogate_5068e : Cond) ∈ tb := tb_mem 439 (by decide +kernel) rfl
theorem kw440 : (.static yJ11_highSurrogate_5068e : Cond) ∈ tb := tb_mem 440 (by decide +kernel) rfl
theorem kw441 : (.code yJ11_highSurrogate_5068e cJ11_highSurrogate_5068e 1 (some .char) : Cond) ∈ tb := tb_mem 441 (by decide +kernel) rfl
theorem kw442 : (.constant RJ11 110 (55232) : Cond) ∈ tb := tb_mem 442 (by decide +kernel) rfl
theorem kw443 : (.methodLink RJ2 161 yJ11_lowSurrogate_5068e : Cond) ∈ tb := tb_mem 443 (by decide +kernel) rfl
theorem kw444 : (.static yJ11_lowSurrogate_5068e : Cond) ∈ tb := tb_mem 444 (by decide +kernel) rfl
theorem kw445 : (.code yJ11_lowSurrogate_5068e cJ11_lowSurrogate_5068e 1 (some .char) : Cond) ∈ tb := tb_mem 445 (by decide +kernel) rfl
theorem kw446 : (.constant RJ11 76 (56320) : Cond) ∈ tb := tb_mem 446 (by decide +kernel) rfl
theorem kw447 : (.methodLink RX2 34 yX2_isRow : Cond) ∈ tb := tb_mem 447 (by decide +kernel) rfl
theorem kw448 : (.static yX2_isRow : Cond) ∈ tb := tb_mem 448 (by decide +kernel) rfl
theorem kw449 : (.code yX2_isRow cX2_isRow 1 (some .boolean) : Cond) ∈ tb := tb_mem 449 (by decide +kernel) rfl
theorem kw450 : (.arrayClass .byte : Cond) ∈ tb := tb_mem 450 (by decide +kernel) rfl
theorem kw451 : (.methodLink RL 27 yX7_tables : Cond) ∈ tb := tb_mem 451 (by decide +kernel) rfl
theorem kw452 : (.instanceMethod yX7_tables : Cond) ∈ tb := tb_mem 452 (by decide +kernel) rfl
theorem kw453 : (.selects RX7 yX7_tables yX7_tables : Cond) ∈ tb := tb_mem 453 (by decide +kernel) rfl
theorem kw454 : (.code yX7_tables cX7_tables 2 (some .int) : Cond) ∈ tb := tb_mem 454 (by decide +kernel) rfl
theorem kn455 : (.methodLinkNest RX7 68 yX2_isWhole "SpillJoin" : Cond) ∈ nst := nst_mem 455 (by decide +kernel) rfl
theorem kw457 : (.instanceMethod yX2_isWhole : Cond) ∈ tb := tb_mem 457 (by decide +kernel) rfl
theorem kw458 : (.code yX2_isWhole cX2_isWhole 1 (some .boolean) : Cond) ∈ tb := tb_mem 458 (by decide +kernel) rfl
theorem kw459 : (.methodLink RX2 41 yX2_firstFault : Cond) ∈ tb := tb_mem 459 (by decide +kernel) rfl
theorem kw460 : (.methodLink RX2 45 yX2_secondMark : Cond) ∈ tb := tb_mem 460 (by decide +kernel) rfl
theorem kw462 : (.instanceMethod yX2_secondMark : Cond) ∈ tb := tb_mem 462 (by decide +kernel) rfl
theorem kw463 : (.code yX2_secondMark cX2_secondMark 2 (some .int) : Cond) ∈ tb := tb_mem 463 (by decide +kernel) rfl
theorem kn464 : (.methodLinkNest RX7 71 yX2_secondMark "SpillJoin" : Cond) ∈ nst := nst_mem 464 (by decide +kernel) rfl
theorem kn465 : (.methodLinkNest RX7 74 yX2_codeAt "SpillJoin" : Cond) ∈ nst := nst_mem 465 (by decide +kernel) rfl
theorem kn466 : (.methodLinkNest RX7 81 yX2_kindOf "SpillJoin" : Cond) ∈ nst := nst_mem 466 (by decide +kernel) rfl
theorem kn467 : (.methodLinkNest RX7 91 yX2_readRows "SpillJoin" : Cond) ∈ nst := nst_mem 467 (by decide +kernel) rfl
theorem kw469 : (.instanceMethod yX2_readRows : Cond) ∈ tb := tb_mem 469 (by decide +kernel) rfl
theorem kw470 : (.code yX2_readRows cX2_readRows 6 none : Cond) ∈ tb := tb_mem 470 (by decide +kernel) rfl
theorem kn471 : (.methodLinkNest RX2 48 yX5_clear "SpillJoin" : Cond) ∈ nst := nst_mem 471 (by decide +kernel) rfl
theorem kw473 : (.instanceMethod yX5_clear : Cond) ∈ tb := tb_mem 473 (by decide +kernel) rfl
theorem kw474 : (.code yX5_clear cX5_clear 1 none : Cond) ∈ tb := tb_mem 474 (by decide +kernel) rfl
theorem kn475 : (.methodLinkNest RX2 53 yX5_add "SpillJoin" : Cond) ∈ nst := nst_mem 475 (by decide +kernel) rfl
theorem kw477 : (.instanceMethod yX5_add : Cond) ∈ tb := tb_mem 477 (by decide +kernel) rfl
theorem kw478 : (.code yX5_add cX5_add 2 none : Cond) ∈ tb := tb_mem 478 (by decide +kernel) rfl
theorem kn479 : (.methodLinkNest RX7 98 yX4_clear "SpillJoin" : Cond) ∈ nst := nst_mem 479 (by decide +kernel) rfl
theorem kw481 : (.instanceMethod yX4_clear : Cond) ∈ tb := tb_mem 481 (by decide +kernel) rfl
theorem kw482 : (.code yX4_clear cX4_clear 1 none : Cond) ∈ tb := tb_mem 482 (by decide +kernel) rfl
theorem kn483 : (.methodLinkNest RX7 99 yX3_clear "SpillJoin" : Cond) ∈ nst := nst_mem 483 (by decide +kernel) rfl
theorem kw485 : (.instanceMethod yX3_clear : Cond) ∈ tb := tb_mem 485 (by decide +kernel) rfl
theorem kw486 : (.code yX3_clear cX3_clear 2 none : Cond) ∈ tb := tb_mem 486 (by decide +kernel) rfl
theorem kn487 : (.methodLinkNest RX3 36 yX1_clear "SpillJoin" : Cond) ∈ nst := nst_mem 487 (by decide +kernel) rfl
theorem kw489 : (.instanceMethod yX1_clear : Cond) ∈ tb := tb_mem 489 (by decide +kernel) rfl
theorem kw490 : (.code yX1_clear cX1_clear 2 none : Cond) ∈ tb := tb_mem 490 (by decide +kernel) rfl
theorem kn491 : (.methodLinkNest RX3 40 yX0_clear "SpillJoin" : Cond) ∈ nst := nst_mem 491 (by decide +kernel) rfl
theorem kw493 : (.instanceMethod yX0_clear : Cond) ∈ tb := tb_mem 493 (by decide +kernel) rfl
theorem kw494 : (.code yX0_clear cX0_clear 1 none : Cond) ∈ tb := tb_mem 494 (by decide +kernel) rfl
theorem kw495 : (.methodLink RX3 42 yJ7_fill_53178 : Cond) ∈ tb := tb_mem 495 (by decide +kernel) rfl
theorem kw496 : (.static yJ7_fill_53178 : Cond) ∈ tb := tb_mem 496 (by decide +kernel) rfl
theorem kw497 : (.code yJ7_fill_53178 cJ7_fill_53178 4 none : Cond) ∈ tb := tb_mem 497 (by decide +kernel) rfl
theorem kn498 : (.methodLinkNest RX7 111 yX6_size "SpillJoin" : Cond) ∈ nst := nst_mem 498 (by decide +kernel) rfl
theorem kw500 : (.instanceMethod yX6_size : Cond) ∈ tb := tb_mem 500 (by decide +kernel) rfl
theorem kw501 : (.code yX6_size cX6_size 1 (some .int) : Cond) ∈ tb := tb_mem 501 (by decide +kernel) rfl
theorem kw502 : (.methodLink RL 31 yX7_row : Cond) ∈ tb := tb_mem 502 (by decide +kernel) rfl
theorem kw503 : (.instanceMethod yX7_row : Cond) ∈ tb := tb_mem 503 (by decide +kernel) rfl
theorem kw504 : (.selects RX7 yX7_row yX7_row : Cond) ∈ tb := tb_mem 504 (by decide +kernel) rfl
theorem kw505 : (.code yX7_row cX7_row 4 (some .int) : Cond) ∈ tb := tb_mem 505 (by decide +kernel) rfl
theorem kn506 : (.methodLinkNest RX7 113 yX6_hasRow "SpillJoin" : Cond) ∈ nst := nst_mem 506 (by decide +kernel) rfl
theorem kw508 : (.instanceMethod yX6_hasRow : Cond) ∈ tb := tb_mem 508 (by decide +kernel) rfl
theorem kw509 : (.code yX6_hasRow cX6_hasRow 3 (some .boolean) : Cond) ∈ tb := tb_mem 509 (by decide +kernel) rfl
theorem kn510 : (.methodLinkNest RX6 31 yX7_isSide "SpillJoin" : Cond) ∈ nst := nst_mem 510 (by decide +kernel) rfl
theorem kw511 : (.static yX7_isSide : Cond) ∈ tb := tb_mem 511 (by decide +kernel) rfl
theorem kw512 : (.code yX7_isSide cX7_isSide 1 (some .boolean) : Cond) ∈ tb := tb_mem 512 (by decide +kernel) rfl
theorem kw513 : (.methodLink RX6 35 yX6_sideOf : Cond) ∈ tb := tb_mem 513 (by decide +kernel) rfl
theorem kw515 : (.instanceMethod yX6_sideOf : Cond) ∈ tb := tb_mem 515 (by decide +kernel) rfl
theorem kw516 : (.code yX6_sideOf cX6_sideOf 2 (some (.object "SpillJoin$Side")) : Cond) ∈ tb := tb_mem 516 (by decide +kernel) rfl
theorem kn517 : (.methodLinkNest RX6 39 yX5_has "SpillJoin" : Cond) ∈ nst := nst_mem 517 (by decide +kernel) rfl
theorem kw519 : (.instanceMethod yX5_has : Cond) ∈ tb := tb_mem 519 (by decide +kernel) rfl
theorem kw520 : (.code yX5_has cX5_has 2 (some .boolean) : Cond) ∈ tb := tb_mem 520 (by decide +kernel) rfl
theorem kn521 : (.methodLinkNest RX7 117 yX6_sideOf "SpillJoin" : Cond) ∈ nst := nst_mem 521 (by decide +kernel) rfl
theorem kn522 : (.methodLinkNest RX7 121 yX5_keyAt "SpillJoin" : Cond) ∈ nst := nst_mem 522 (by decide +kernel) rfl
theorem kw524 : (.instanceMethod yX5_keyAt : Cond) ∈ tb := tb_mem 524 (by decide +kernel) rfl
theorem kw525 : (.code yX5_keyAt cX5_keyAt 2 (some .int) : Cond) ∈ tb := tb_mem 525 (by decide +kernel) rfl
theorem kn526 : (.methodLinkNest RX7 126 yX6_partners "SpillJoin" : Cond) ∈ nst := nst_mem 526 (by decide +kernel) rfl
theorem kw528 : (.instanceMethod yX6_partners : Cond) ∈ tb := tb_mem 528 (by decide +kernel) rfl
theorem kw529 : (.code yX6_partners cX6_partners 4 (some .int) : Cond) ∈ tb := tb_mem 529 (by decide +kernel) rfl
theorem kn530 : (.methodLinkNest RX6 42 yX5_keyAt "SpillJoin" : Cond) ∈ nst := nst_mem 530 (by decide +kernel) rfl
theorem kn531 : (.methodLinkNest RX6 46 yX7_otherSide "SpillJoin" : Cond) ∈ nst := nst_mem 531 (by decide +kernel) rfl
theorem kw532 : (.static yX7_otherSide : Cond) ∈ tb := tb_mem 532 (by decide +kernel) rfl
theorem kw533 : (.code yX7_otherSide cX7_otherSide 1 (some .int) : Cond) ∈ tb := tb_mem 533 (by decide +kernel) rfl
theorem kn534 : (.methodLinkNest RX6 49 yX5_rowsOfKey "SpillJoin" : Cond) ∈ nst := nst_mem 534 (by decide +kernel) rfl
theorem kw536 : (.instanceMethod yX5_rowsOfKey : Cond) ∈ tb := tb_mem 536 (by decide +kernel) rfl
theorem kw537 : (.code yX5_rowsOfKey cX5_rowsOfKey 4 (some .int) : Cond) ∈ tb := tb_mem 537 (by decide +kernel) rfl
theorem kw538 : (.methodLink RX7 130 yJ6_bitCount_0f7a4 : Cond) ∈ tb := tb_mem 538 (by decide +kernel) rfl
theorem kw539 : (.static yJ6_bitCount_0f7a4 : Cond) ∈ tb := tb_mem 539 (by decide +kernel) rfl
theorem kw540 : (.code yJ6_bitCount_0f7a4 cJ6_bitCount_0f7a4 1 (some .int) : Cond) ∈ tb := tb_mem 540 (by decide +kernel) rfl
theorem kw541 : (.constant RJ6 265 (1431655765) : Cond) ∈ tb := tb_mem 541 (by decide +kernel) rfl
theorem kw542 : (.constant RJ6 266 (858993459) : Cond) ∈ tb := tb_mem 542 (by decide +kernel) rfl
theorem kw543 : (.constant RJ6 267 (252645135) : Cond) ∈ tb := tb_mem 543 (by decide +kernel) rfl
theorem kw544 : (.methodLink RL 36 yX7_as : Cond) ∈ tb := tb_mem 544 (by decide +kernel) rfl
theorem kw545 : (.instanceMethod yX7_as : Cond) ∈ tb := tb_mem 545 (by decide +kernel) rfl
theorem kw546 : (.selects RX7 yX7_as yX7_as : Cond) ∈ tb := tb_mem 546 (by decide +kernel) rfl
theorem kw547 : (.code yX7_as cX7_as 3 (some .int) : Cond) ∈ tb := tb_mem 547 (by decide +kernel) rfl
theorem kw548 : (.methodLink RX7 135 yX7_isKind : Cond) ∈ tb := tb_mem 548 (by decide +kernel) rfl
theorem kw549 : (.static yX7_isKind : Cond) ∈ tb := tb_mem 549 (by decide +kernel) rfl
theorem kw550 : (.code yX7_isKind cX7_isKind 1 (some .boolean) : Cond) ∈ tb := tb_mem 550 (by decide +kernel) rfl
theorem kn551 : (.methodLinkNest RX7 139 yX6_areThere "SpillJoin" : Cond) ∈ nst := nst_mem 551 (by decide +kernel) rfl
theorem kw553 : (.instanceMethod yX6_areThere : Cond) ∈ tb := tb_mem 553 (by decide +kernel) rfl
theorem kw554 : (.code yX6_areThere cX6_areThere 1 (some .boolean) : Cond) ∈ tb := tb_mem 554 (by decide +kernel) rfl
theorem kw555 : (.methodLink RL 40 yX7_put : Cond) ∈ tb := tb_mem 555 (by decide +kernel) rfl
theorem kw556 : (.instanceMethod yX7_put : Cond) ∈ tb := tb_mem 556 (by decide +kernel) rfl
theorem kw557 : (.selects RX7 yX7_put yX7_put : Cond) ∈ tb := tb_mem 557 (by decide +kernel) rfl
theorem kw558 : (.code yX7_put cX7_put 4 (some .int) : Cond) ∈ tb := tb_mem 558 (by decide +kernel) rfl
theorem kw559 : (.methodLink RX7 142 yX7_isSide : Cond) ∈ tb := tb_mem 559 (by decide +kernel) rfl
theorem kw560 : (.methodLink RX7 145 yX7_isKeyOrNone : Cond) ∈ tb := tb_mem 560 (by decide +kernel) rfl
theorem kw561 : (.static yX7_isKeyOrNone : Cond) ∈ tb := tb_mem 561 (by decide +kernel) rfl
theorem kw562 : (.code yX7_isKeyOrNone cX7_isKeyOrNone 1 (some .boolean) : Cond) ∈ tb := tb_mem 562 (by decide +kernel) rfl
theorem kn563 : (.methodLinkNest RX7 149 yX5_add "SpillJoin" : Cond) ∈ nst := nst_mem 563 (by decide +kernel) rfl
theorem kw564 : (.methodLink RL 45 yX7_take : Cond) ∈ tb := tb_mem 564 (by decide +kernel) rfl
theorem kw565 : (.instanceMethod yX7_take : Cond) ∈ tb := tb_mem 565 (by decide +kernel) rfl
theorem kw566 : (.selects RX7 yX7_take yX7_take : Cond) ∈ tb := tb_mem 566 (by decide +kernel) rfl
theorem kw567 : (.code yX7_take cX7_take 5 (some .int) : Cond) ∈ tb := tb_mem 567 (by decide +kernel) rfl
theorem kn568 : (.methodLinkNest RX7 150 yX5_remove "SpillJoin" : Cond) ∈ nst := nst_mem 568 (by decide +kernel) rfl
theorem kw570 : (.instanceMethod yX5_remove : Cond) ∈ tb := tb_mem 570 (by decide +kernel) rfl
theorem kw571 : (.code yX5_remove cX5_remove 3 none : Cond) ∈ tb := tb_mem 571 (by decide +kernel) rfl
theorem kw572 : (.methodLink RX5 19 yX5_has : Cond) ∈ tb := tb_mem 572 (by decide +kernel) rfl
theorem kw573 : (.methodLink RX5 23 yX5_keyAt : Cond) ∈ tb := tb_mem 573 (by decide +kernel) rfl
theorem kw574 : (.methodLink RX5 27 yX5_change : Cond) ∈ tb := tb_mem 574 (by decide +kernel) rfl
theorem kw576 : (.instanceMethod yX5_change : Cond) ∈ tb := tb_mem 576 (by decide +kernel) rfl
theorem kw577 : (.code yX5_change cX5_change 3 none : Cond) ∈ tb := tb_mem 577 (by decide +kernel) rfl
theorem kw578 : (.methodLink RL 49 yX7_key : Cond) ∈ tb := tb_mem 578 (by decide +kernel) rfl
theorem kw579 : (.instanceMethod yX7_key : Cond) ∈ tb := tb_mem 579 (by decide +kernel) rfl
theorem kw580 : (.selects RX7 yX7_key yX7_key : Cond) ∈ tb := tb_mem 580 (by decide +kernel) rfl
theorem kw581 : (.code yX7_key cX7_key 6 (some .int) : Cond) ∈ tb := tb_mem 581 (by decide +kernel) rfl
theorem kn582 : (.methodLinkNest RX7 153 yX5_change "SpillJoin" : Cond) ∈ nst := nst_mem 582 (by decide +kernel) rfl
theorem kw583 : (.methodLink RL 53 yX7_memory : Cond) ∈ tb := tb_mem 583 (by decide +kernel) rfl
theorem kw584 : (.instanceMethod yX7_memory : Cond) ∈ tb := tb_mem 584 (by decide +kernel) rfl
theorem kw585 : (.selects RX7 yX7_memory yX7_memory : Cond) ∈ tb := tb_mem 585 (by decide +kernel) rfl
theorem kw586 : (.code yX7_memory cX7_memory 3 (some .int) : Cond) ∈ tb := tb_mem 586 (by decide +kernel) rfl
theorem kw587 : (.methodLink RL 57 yX7_be : Cond) ∈ tb := tb_mem 587 (by decide +kernel) rfl
theorem kw588 : (.instanceMethod yX7_be : Cond) ∈ tb := tb_mem 588 (by decide +kernel) rfl
theorem kw589 : (.selects RX7 yX7_be yX7_be : Cond) ∈ tb := tb_mem 589 (by decide +kernel) rfl
theorem kw590 : (.code yX7_be cX7_be 3 (some .int) : Cond) ∈ tb := tb_mem 590 (by decide +kernel) rfl
theorem kw591 : (.methodLink RL 61 yX7_run : Cond) ∈ tb := tb_mem 591 (by decide +kernel) rfl
theorem kw592 : (.instanceMethod yX7_run : Cond) ∈ tb := tb_mem 592 (by decide +kernel) rfl
theorem kw593 : (.selects RX7 yX7_run yX7_run : Cond) ∈ tb := tb_mem 593 (by decide +kernel) rfl
theorem kw594 : (.code yX7_run cX7_run 2 (some .int) : Cond) ∈ tb := tb_mem 594 (by decide +kernel) rfl
theorem kn595 : (.methodLinkNest RX7 157 yX3_go "SpillJoin" : Cond) ∈ nst := nst_mem 595 (by decide +kernel) rfl
theorem kw597 : (.instanceMethod yX3_go : Cond) ∈ tb := tb_mem 597 (by decide +kernel) rfl
theorem kw598 : (.code yX3_go cX3_go 4 none : Cond) ∈ tb := tb_mem 598 (by decide +kernel) rfl
theorem kw599 : (.methodLink RX3 52 yX3_clear : Cond) ∈ tb := tb_mem 599 (by decide +kernel) rfl
theorem kn600 : (.methodLinkNest RX3 57 yX5_rowsWithKey "SpillJoin" : Cond) ∈ nst := nst_mem 600 (by decide +kernel) rfl
theorem kw602 : (.instanceMethod yX5_rowsWithKey : Cond) ∈ tb := tb_mem 602 (by decide +kernel) rfl
theorem kw603 : (.code yX5_rowsWithKey cX5_rowsWithKey 3 (some .int) : Cond) ∈ tb := tb_mem 603 (by decide +kernel) rfl
theorem kw604 : (.methodLink RX3 66 yX3_turn : Cond) ∈ tb := tb_mem 604 (by decide +kernel) rfl
theorem kw606 : (.instanceMethod yX3_turn : Cond) ∈ tb := tb_mem 606 (by decide +kernel) rfl
theorem kw607 : (.code yX3_turn cX3_turn 9 none : Cond) ∈ tb := tb_mem 607 (by decide +kernel) rfl
theorem kn608 : (.methodLinkNest RX3 81 yX6_buildSide "SpillJoin" : Cond) ∈ nst := nst_mem 608 (by decide +kernel) rfl
theorem kw610 : (.instanceMethod yX6_buildSide : Cond) ∈ tb := tb_mem 610 (by decide +kernel) rfl
theorem kw611 : (.code yX6_buildSide cX6_buildSide 3 (some .int) : Cond) ∈ tb := tb_mem 611 (by decide +kernel) rfl
theorem kw612 : (.methodLink RX6 56 yJ6_bitCount_0f7a4 : Cond) ∈ tb := tb_mem 612 (by decide +kernel) rfl
theorem kw613 : (.methodLink RX3 85 yX3_natureOf : Cond) ∈ tb := tb_mem 613 (by decide +kernel) rfl
theorem kw615 : (.instanceMethod yX3_natureOf : Cond) ∈ tb := tb_mem 615 (by decide +kernel) rfl
theorem kw616 : (.code yX3_natureOf cX3_natureOf 4 (some .int) : Cond) ∈ tb := tb_mem 616 (by decide +kernel) rfl
theorem kw617 : (.methodLink RX3 111 yJ6_bitCount_0f7a4 : Cond) ∈ tb := tb_mem 617 (by decide +kernel) rfl
theorem kn618 : (.methodLinkNest RX3 120 yX6_sideOf "SpillJoin" : Cond) ∈ nst := nst_mem 618 (by decide +kernel) rfl
theorem kn619 : (.methodLinkNest RX3 124 yX5_haveOneKey "SpillJoin" : Cond) ∈ nst := nst_mem 619 (by decide +kernel) rfl
theorem kw621 : (.instanceMethod yX5_haveOneKey : Cond) ∈ tb := tb_mem 621 (by decide +kernel) rfl
theorem kw622 : (.code yX5_haveOneKey cX5_haveOneKey 3 (some .boolean) : Cond) ∈ tb := tb_mem 622 (by decide +kernel) rfl
theorem kw623 : (.methodLink RX5 42 yJ6_numberOfTrailingZeros_0f7a4 : Cond) ∈ tb := tb_mem 623 (by decide +kernel) rfl
theorem kw624 : (.static yJ6_numberOfTrailingZeros_0f7a4 : Cond) ∈ tb := tb_mem 624 (by decide +kernel) rfl
theorem kw625 : (.code yJ6_numberOfTrailingZeros_0f7a4 cJ6_numberOfTrailingZeros_0f7a4 2 (some .int) : Cond) ∈ tb := tb_mem 625 (by decide +kernel) rfl
theorem kw626 : (.constant RJ6 264 (65536) : Cond) ∈ tb := tb_mem 626 (by decide +kernel) rfl
theorem kw627 : (.methodLink RX5 47 yX5_rowsOfKey : Cond) ∈ tb := tb_mem 627 (by decide +kernel) rfl
theorem kn628 : (.methodLinkNest RX3 92 yX0_open "SpillJoin" : Cond) ∈ nst := nst_mem 628 (by decide +kernel) rfl
theorem kw630 : (.instanceMethod yX0_open : Cond) ∈ tb := tb_mem 630 (by decide +kernel) rfl
theorem kw631 : (.code yX0_open cX0_open 2 none : Cond) ∈ tb := tb_mem 631 (by decide +kernel) rfl
theorem kw632 : (.methodLink RX0 37 yX0_add : Cond) ∈ tb := tb_mem 632 (by decide +kernel) rfl
theorem kw634 : (.instanceMethod yX0_add : Cond) ∈ tb := tb_mem 634 (by decide +kernel) rfl
theorem kw635 : (.code yX0_add cX0_add 4 none : Cond) ∈ tb := tb_mem 635 (by decide +kernel) rfl
theorem kw636 : (.methodLink RX3 95 yX3_enterPart : Cond) ∈ tb := tb_mem 636 (by decide +kernel) rfl
theorem kw638 : (.instanceMethod yX3_enterPart : Cond) ∈ tb := tb_mem 638 (by decide +kernel) rfl
theorem kw639 : (.code yX3_enterPart cX3_enterPart 4 none : Cond) ∈ tb := tb_mem 639 (by decide +kernel) rfl
theorem kw640 : (.methodLink RX3 128 yJ9_max_7cf53 : Cond) ∈ tb := tb_mem 640 (by decide +kernel) rfl
theorem kw641 : (.methodLink RX3 98 yX3_hold : Cond) ∈ tb := tb_mem 641 (by decide +kernel) rfl
theorem kw643 : (.instanceMethod yX3_hold : Cond) ∈ tb := tb_mem 643 (by decide +kernel) rfl
theorem kw644 : (.code yX3_hold cX3_hold 6 none : Cond) ∈ tb := tb_mem 644 (by decide +kernel) rfl
theorem kw645 : (.methodLink RX3 133 yX3_noteHeld : Cond) ∈ tb := tb_mem 645 (by decide +kernel) rfl
theorem kw647 : (.instanceMethod yX3_noteHeld : Cond) ∈ tb := tb_mem 647 (by decide +kernel) rfl
theorem kw648 : (.code yX3_noteHeld cX3_noteHeld 2 none : Cond) ∈ tb := tb_mem 648 (by decide +kernel) rfl
theorem kn649 : (.methodLinkNest RX3 136 yX7_otherSide "SpillJoin" : Cond) ∈ nst := nst_mem 649 (by decide +kernel) rfl
theorem kn650 : (.methodLinkNest RX3 143 yX7_isIn "SpillJoin" : Cond) ∈ nst := nst_mem 650 (by decide +kernel) rfl
theorem kw651 : (.static yX7_isIn : Cond) ∈ tb := tb_mem 651 (by decide +kernel) rfl
theorem kw652 : (.code yX7_isIn cX7_isIn 2 (some .boolean) : Cond) ∈ tb := tb_mem 652 (by decide +kernel) rfl
theorem kw653 : (.methodLink RX3 147 yX3_meetAll : Cond) ∈ tb := tb_mem 653 (by decide +kernel) rfl
theorem kw655 : (.instanceMethod yX3_meetAll : Cond) ∈ tb := tb_mem 655 (by decide +kernel) rfl
theorem kw656 : (.code yX3_meetAll cX3_meetAll 6 none : Cond) ∈ tb := tb_mem 656 (by decide +kernel) rfl
theorem kn657 : (.methodLinkNest RX3 165 yX6_partners "SpillJoin" : Cond) ∈ nst := nst_mem 657 (by decide +kernel) rfl
theorem kw658 : (.methodLink RX3 168 yX3_meet : Cond) ∈ tb := tb_mem 658 (by decide +kernel) rfl
theorem kw660 : (.instanceMethod yX3_meet : Cond) ∈ tb := tb_mem 660 (by decide +kernel) rfl
theorem kw661 : (.code yX3_meet cX3_meet 3 none : Cond) ∈ tb := tb_mem 661 (by decide +kernel) rfl
theorem kn662 : (.methodLinkNest RX3 174 yX7_comesOutBy "SpillJoin" : Cond) ∈ nst := nst_mem 662 (by decide +kernel) rfl
theorem kw663 : (.static yX7_comesOutBy : Cond) ∈ tb := tb_mem 663 (by decide +kernel) rfl
theorem kw664 : (.code yX7_comesOutBy cX7_comesOutBy 2 (some .boolean) : Cond) ∈ tb := tb_mem 664 (by decide +kernel) rfl
theorem kw665 : (.fieldLink RX7 258 "SpillJoin" "COMES_OUT" "[I" : Cond) ∈ tb := tb_mem 665 (by decide +kernel) rfl
theorem kn667 : (.methodLinkNest RX3 177 yX1_add "SpillJoin" : Cond) ∈ nst := nst_mem 667 (by decide +kernel) rfl
theorem kw669 : (.instanceMethod yX1_add : Cond) ∈ tb := tb_mem 669 (by decide +kernel) rfl
theorem kw670 : (.code yX1_add cX1_add 3 none : Cond) ∈ tb := tb_mem 670 (by decide +kernel) rfl
theorem kw671 : (.methodLink RX3 73 yX3_comeOutAlone : Cond) ∈ tb := tb_mem 671 (by decide +kernel) rfl
theorem kw673 : (.instanceMethod yX3_comeOutAlone : Cond) ∈ tb := tb_mem 673 (by decide +kernel) rfl
theorem kw674 : (.code yX3_comeOutAlone cX3_comeOutAlone 4 none : Cond) ∈ tb := tb_mem 674 (by decide +kernel) rfl
theorem kw675 : (.methodLink RX3 101 yX3_goByBlocks : Cond) ∈ tb := tb_mem 675 (by decide +kernel) rfl
theorem kw677 : (.instanceMethod yX3_goByBlocks : Cond) ∈ tb := tb_mem 677 (by decide +kernel) rfl
theorem kw678 : (.code yX3_goByBlocks cX3_goByBlocks 8 none : Cond) ∈ tb := tb_mem 678 (by decide +kernel) rfl
theorem kw679 : (.methodLink RX3 150 yX3_firstOf : Cond) ∈ tb := tb_mem 679 (by decide +kernel) rfl
theorem kw680 : (.static yX3_firstOf : Cond) ∈ tb := tb_mem 680 (by decide +kernel) rfl
theorem kw681 : (.code yX3_firstOf cX3_firstOf 4 (some .int) : Cond) ∈ tb := tb_mem 681 (by decide +kernel) rfl
theorem kw682 : (.methodLink RX3 104 yX3_split : Cond) ∈ tb := tb_mem 682 (by decide +kernel) rfl
theorem kw684 : (.instanceMethod yX3_split : Cond) ∈ tb := tb_mem 684 (by decide +kernel) rfl
theorem kw685 : (.code yX3_split cX3_split 12 none : Cond) ∈ tb := tb_mem 685 (by decide +kernel) rfl
theorem kn686 : (.methodLinkNest RX3 153 yX5_rowsWithBit "SpillJoin" : Cond) ∈ nst := nst_mem 686 (by decide +kernel) rfl
theorem kw688 : (.instanceMethod yX5_rowsWithBit : Cond) ∈ tb := tb_mem 688 (by decide +kernel) rfl
theorem kw689 : (.code yX5_rowsWithBit cX5_rowsWithBit 4 (some .int) : Cond) ∈ tb := tb_mem 689 (by decide +kernel) rfl
theorem kw690 : (.methodLink RX3 156 yX3_residentHalf : Cond) ∈ tb := tb_mem 690 (by decide +kernel) rfl
theorem kw692 : (.instanceMethod yX3_residentHalf : Cond) ∈ tb := tb_mem 692 (by decide +kernel) rfl
theorem kw693 : (.code yX3_residentHalf cX3_residentHalf 5 (some .int) : Cond) ∈ tb := tb_mem 693 (by decide +kernel) rfl
theorem kw694 : (.methodLink RX3 159 yX3_spill : Cond) ∈ tb := tb_mem 694 (by decide +kernel) rfl
theorem kw696 : (.instanceMethod yX3_spill : Cond) ∈ tb := tb_mem 696 (by decide +kernel) rfl
theorem kw697 : (.code yX3_spill cX3_spill 3 none : Cond) ∈ tb := tb_mem 697 (by decide +kernel) rfl
theorem kw698 : (.methodLink RX3 162 yX3_goOn : Cond) ∈ tb := tb_mem 698 (by decide +kernel) rfl
theorem kw700 : (.instanceMethod yX3_goOn : Cond) ∈ tb := tb_mem 700 (by decide +kernel) rfl
theorem kw701 : (.code yX3_goOn cX3_goOn 5 none : Cond) ∈ tb := tb_mem 701 (by decide +kernel) rfl
theorem kn702 : (.methodLinkNest RX3 108 yX0_shutDownTo "SpillJoin" : Cond) ∈ nst := nst_mem 702 (by decide +kernel) rfl
theorem kw704 : (.instanceMethod yX0_shutDownTo : Cond) ∈ tb := tb_mem 704 (by decide +kernel) rfl
theorem kw705 : (.code yX0_shutDownTo cX0_shutDownTo 3 none : Cond) ∈ tb := tb_mem 705 (by decide +kernel) rfl
theorem kn706 : (.methodLinkNest RX3 70 yX5_rowsWithoutKey "SpillJoin" : Cond) ∈ nst := nst_mem 706 (by decide +kernel) rfl
theorem kw708 : (.instanceMethod yX5_rowsWithoutKey : Cond) ∈ tb := tb_mem 708 (by decide +kernel) rfl
theorem kw709 : (.code yX5_rowsWithoutKey cX5_rowsWithoutKey 1 (some .int) : Cond) ∈ tb := tb_mem 709 (by decide +kernel) rfl
theorem kw710 : (.methodLink RX5 38 yX5_rowsWithKey : Cond) ∈ tb := tb_mem 710 (by decide +kernel) rfl
theorem kw711 : (.methodLink RL 65 yX7_out : Cond) ∈ tb := tb_mem 711 (by decide +kernel) rfl
theorem kw712 : (.instanceMethod yX7_out : Cond) ∈ tb := tb_mem 712 (by decide +kernel) rfl
theorem kw713 : (.selects RX7 yX7_out yX7_out : Cond) ∈ tb := tb_mem 713 (by decide +kernel) rfl
theorem kw714 : (.code yX7_out cX7_out 3 (some .int) : Cond) ∈ tb := tb_mem 714 (by decide +kernel) rfl
theorem kn715 : (.methodLinkNest RX7 170 yX1_at "SpillJoin" : Cond) ∈ nst := nst_mem 715 (by decide +kernel) rfl
theorem kw717 : (.instanceMethod yX1_at : Cond) ∈ tb := tb_mem 717 (by decide +kernel) rfl
theorem kw718 : (.code yX1_at cX1_at 3 (some .int) : Cond) ∈ tb := tb_mem 718 (by decide +kernel) rfl
theorem kw719 : (.methodLink RL 69 yX7_log : Cond) ∈ tb := tb_mem 719 (by decide +kernel) rfl
theorem kw720 : (.instanceMethod yX7_log : Cond) ∈ tb := tb_mem 720 (by decide +kernel) rfl
theorem kw721 : (.selects RX7 yX7_log yX7_log : Cond) ∈ tb := tb_mem 721 (by decide +kernel) rfl
theorem kw722 : (.code yX7_log cX7_log 3 (some .int) : Cond) ∈ tb := tb_mem 722 (by decide +kernel) rfl
theorem kn723 : (.methodLinkNest RX7 180 yX0_at "SpillJoin" : Cond) ∈ nst := nst_mem 723 (by decide +kernel) rfl
theorem kw725 : (.instanceMethod yX0_at : Cond) ∈ tb := tb_mem 725 (by decide +kernel) rfl
theorem kw726 : (.code yX0_at cX0_at 3 (some .int) : Cond) ∈ tb := tb_mem 726 (by decide +kernel) rfl
theorem kw727 : (.methodLink RL 73 yX7_ledger : Cond) ∈ tb := tb_mem 727 (by decide +kernel) rfl
theorem kw728 : (.instanceMethod yX7_ledger : Cond) ∈ tb := tb_mem 728 (by decide +kernel) rfl
theorem kw729 : (.selects RX7 yX7_ledger yX7_ledger : Cond) ∈ tb := tb_mem 729 (by decide +kernel) rfl
theorem kw730 : (.code yX7_ledger cX7_ledger 2 (some .int) : Cond) ∈ tb := tb_mem 730 (by decide +kernel) rfl
theorem kn731 : (.methodLinkNest RX7 181 yX3_lineAt "SpillJoin" : Cond) ∈ nst := nst_mem 731 (by decide +kernel) rfl
theorem kw733 : (.instanceMethod yX3_lineAt : Cond) ∈ tb := tb_mem 733 (by decide +kernel) rfl
theorem kw734 : (.code yX3_lineAt cX3_lineAt 2 (some .int) : Cond) ∈ tb := tb_mem 734 (by decide +kernel) rfl
theorem kw735 : (.methodLink RL 77 yX7_spare : Cond) ∈ tb := tb_mem 735 (by decide +kernel) rfl
theorem kw736 : (.instanceMethod yX7_spare : Cond) ∈ tb := tb_mem 736 (by decide +kernel) rfl
theorem kw737 : (.selects RX7 yX7_spare yX7_spare : Cond) ∈ tb := tb_mem 737 (by decide +kernel) rfl
theorem kw738 : (.code yX7_spare cX7_spare 4 (some .int) : Cond) ∈ tb := tb_mem 738 (by decide +kernel) rfl
theorem kn739 : (.methodLinkNest RX7 184 yX5_rowsWithKey "SpillJoin" : Cond) ∈ nst := nst_mem 739 (by decide +kernel) rfl
theorem kn740 : (.methodLinkNest RX7 187 yX6_buildSide "SpillJoin" : Cond) ∈ nst := nst_mem 740 (by decide +kernel) rfl
theorem kn741 : (.methodLinkNest RX7 190 yX5_haveOneKey "SpillJoin" : Cond) ∈ nst := nst_mem 741 (by decide +kernel) rfl
theorem kw742 : (.methodLink RX7 193 yJ9_max_7cf53 : Cond) ∈ tb := tb_mem 742 (by decide +kernel) rfl
theorem kw743 : (.methodLink RL 81 yX7_see : Cond) ∈ tb := tb_mem 743 (by decide +kernel) rfl
theorem kw744 : (.instanceMethod yX7_see : Cond) ∈ tb := tb_mem 744 (by decide +kernel) rfl
theorem kw745 : (.selects RX7 yX7_see yX7_see : Cond) ∈ tb := tb_mem 745 (by decide +kernel) rfl
theorem kw746 : (.code yX7_see cX7_see 3 (some .int) : Cond) ∈ tb := tb_mem 746 (by decide +kernel) rfl
theorem kn747 : (.methodLinkNest RX7 199 yX4_add "SpillJoin" : Cond) ∈ nst := nst_mem 747 (by decide +kernel) rfl
theorem kw749 : (.instanceMethod yX4_add : Cond) ∈ tb := tb_mem 749 (by decide +kernel) rfl
theorem kw750 : (.code yX4_add cX4_add 4 none : Cond) ∈ tb := tb_mem 750 (by decide +kernel) rfl
theorem kw751 : (.methodLink RX4 18 yX4_kindsThatLetOut : Cond) ∈ tb := tb_mem 751 (by decide +kernel) rfl
theorem kw752 : (.static yX4_kindsThatLetOut : Cond) ∈ tb := tb_mem 752 (by decide +kernel) rfl
theorem kw753 : (.code yX4_kindsThatLetOut cX4_kindsThatLetOut 3 (some .int) : Cond) ∈ tb := tb_mem 753 (by decide +kernel) rfl
theorem kn754 : (.methodLinkNest RX4 33 yX7_comesOutBy "SpillJoin" : Cond) ∈ nst := nst_mem 754 (by decide +kernel) rfl
theorem kw755 : (.methodLink RL 86 yX7_forget : Cond) ∈ tb := tb_mem 755 (by decide +kernel) rfl
theorem kw756 : (.instanceMethod yX7_forget : Cond) ∈ tb := tb_mem 756 (by decide +kernel) rfl
theorem kw757 : (.selects RX7 yX7_forget yX7_forget : Cond) ∈ tb := tb_mem 757 (by decide +kernel) rfl
theorem kw758 : (.code yX7_forget cX7_forget 2 (some .int) : Cond) ∈ tb := tb_mem 758 (by decide +kernel) rfl
theorem kw759 : (.methodLink RL 90 yX7_sorts : Cond) ∈ tb := tb_mem 759 (by decide +kernel) rfl
theorem kw760 : (.instanceMethod yX7_sorts : Cond) ∈ tb := tb_mem 760 (by decide +kernel) rfl
theorem kw761 : (.selects RX7 yX7_sorts yX7_sorts : Cond) ∈ tb := tb_mem 761 (by decide +kernel) rfl
theorem kw762 : (.code yX7_sorts cX7_sorts 2 (some .int) : Cond) ∈ tb := tb_mem 762 (by decide +kernel) rfl
theorem kn763 : (.methodLinkNest RX7 205 yX4_bestQuestion "SpillJoin" : Cond) ∈ nst := nst_mem 763 (by decide +kernel) rfl
theorem kw765 : (.instanceMethod yX4_bestQuestion : Cond) ∈ tb := tb_mem 765 (by decide +kernel) rfl
theorem kw766 : (.code yX4_bestQuestion cX4_bestQuestion 7 (some .int) : Cond) ∈ tb := tb_mem 766 (by decide +kernel) rfl
theorem kw767 : (.methodLink RX4 22 yJ6_bitCount_0f7a4 : Cond) ∈ tb := tb_mem 767 (by decide +kernel) rfl
theorem kw768 : (.methodLink RX4 27 yJ9_max_7cf53 : Cond) ∈ tb := tb_mem 768 (by decide +kernel) rfl
theorem kw769 : (.methodLink RL 94 yX7_drawn : Cond) ∈ tb := tb_mem 769 (by decide +kernel) rfl
theorem kw770 : (.instanceMethod yX7_drawn : Cond) ∈ tb := tb_mem 770 (by decide +kernel) rfl
theorem kw771 : (.selects RX7 yX7_drawn yX7_drawn : Cond) ∈ tb := tb_mem 771 (by decide +kernel) rfl
theorem kw772 : (.code yX7_drawn cX7_drawn 8 (some .int) : Cond) ∈ tb := tb_mem 772 (by decide +kernel) rfl
theorem kw773 : (.methodLink RX7 208 yX7_drawRows : Cond) ∈ tb := tb_mem 773 (by decide +kernel) rfl
theorem kw774 : (.static yX7_drawRows : Cond) ∈ tb := tb_mem 774 (by decide +kernel) rfl
theorem kw775 : (.code yX7_drawRows cX7_drawRows 6 (some .int) : Cond) ∈ tb := tb_mem 775 (by decide +kernel) rfl
theorem kn776 : (.methodLinkNest RX7 262 yX5_clear "SpillJoin" : Cond) ∈ nst := nst_mem 776 (by decide +kernel) rfl
theorem kw777 : (.constantLong RX7 263 (1103515245) : Cond) ∈ tb := tb_mem 777 (by decide +kernel) rfl
theorem kw778 : (.constantLong RX7 265 (12345) : Cond) ∈ tb := tb_mem 778 (by decide +kernel) rfl
theorem kw779 : (.constantLong RX7 267 (2147483648) : Cond) ∈ tb := tb_mem 779 (by decide +kernel) rfl
theorem kw780 : (.constantLong RX7 269 (65536) : Cond) ∈ tb := tb_mem 780 (by decide +kernel) rfl
theorem kw781 : (.constantLong RX7 271 (17) : Cond) ∈ tb := tb_mem 781 (by decide +kernel) rfl
theorem kw782 : (.methodLink RL 98 yX7_image : Cond) ∈ tb := tb_mem 782 (by decide +kernel) rfl
theorem kw783 : (.instanceMethod yX7_image : Cond) ∈ tb := tb_mem 783 (by decide +kernel) rfl
theorem kw784 : (.selects RX7 yX7_image yX7_image : Cond) ∈ tb := tb_mem 784 (by decide +kernel) rfl
theorem kw785 : (.code yX7_image cX7_image 1 (some .int) : Cond) ∈ tb := tb_mem 785 (by decide +kernel) rfl
theorem kn786 : (.methodLinkNest RX7 212 yX6_copy "SpillJoin" : Cond) ∈ nst := nst_mem 786 (by decide +kernel) rfl
theorem kw788 : (.instanceMethod yX6_copy : Cond) ∈ tb := tb_mem 788 (by decide +kernel) rfl
theorem kw789 : (.code yX6_copy cX6_copy 2 none : Cond) ∈ tb := tb_mem 789 (by decide +kernel) rfl
theorem kn790 : (.methodLinkNest RX6 61 yX5_copy "SpillJoin" : Cond) ∈ nst := nst_mem 790 (by decide +kernel) rfl
theorem kw792 : (.instanceMethod yX5_copy : Cond) ∈ tb := tb_mem 792 (by decide +kernel) rfl
theorem kw793 : (.code yX5_copy cX5_copy 3 none : Cond) ∈ tb := tb_mem 793 (by decide +kernel) rfl
theorem kw794 : (.methodLink RX5 31 yX5_clear : Cond) ∈ tb := tb_mem 794 (by decide +kernel) rfl
theorem kw795 : (.methodLink RX5 34 yX5_add : Cond) ∈ tb := tb_mem 795 (by decide +kernel) rfl
theorem kn796 : (.methodLinkNest RX7 216 yX4_copy "SpillJoin" : Cond) ∈ nst := nst_mem 796 (by decide +kernel) rfl
theorem kw798 : (.instanceMethod yX4_copy : Cond) ∈ tb := tb_mem 798 (by decide +kernel) rfl
theorem kw799 : (.code yX4_copy cX4_copy 2 none : Cond) ∈ tb := tb_mem 799 (by decide +kernel) rfl
theorem kw800 : (.methodLink RL 102 yX7_restore : Cond) ∈ tb := tb_mem 800 (by decide +kernel) rfl
theorem kw801 : (.instanceMethod yX7_restore : Cond) ∈ tb := tb_mem 801 (by decide +kernel) rfl
theorem kw802 : (.selects RX7 yX7_restore yX7_restore : Cond) ∈ tb := tb_mem 802 (by decide +kernel) rfl
theorem kw803 : (.code yX7_restore cX7_restore 1 (some .int) : Cond) ∈ tb := tb_mem 803 (by decide +kernel) rfl
theorem kw804 : (.methodLink RL 106 yX7_count : Cond) ∈ tb := tb_mem 804 (by decide +kernel) rfl
theorem kw805 : (.instanceMethod yX7_count : Cond) ∈ tb := tb_mem 805 (by decide +kernel) rfl
theorem kw806 : (.selects RX7 yX7_count yX7_count : Cond) ∈ tb := tb_mem 806 (by decide +kernel) rfl
theorem kw807 : (.code yX7_count cX7_count 2 (some .int) : Cond) ∈ tb := tb_mem 807 (by decide +kernel) rfl
theorem kn808 : (.methodLinkNest RX7 219 yX5_keySet "SpillJoin" : Cond) ∈ nst := nst_mem 808 (by decide +kernel) rfl
theorem kw810 : (.instanceMethod yX5_keySet : Cond) ∈ tb := tb_mem 810 (by decide +kernel) rfl
theorem kw811 : (.code yX5_keySet cX5_keySet 3 (some .int) : Cond) ∈ tb := tb_mem 811 (by decide +kernel) rfl
theorem kn812 : (.methodLinkNest RX7 222 yX6_pairs "SpillJoin" : Cond) ∈ nst := nst_mem 812 (by decide +kernel) rfl
theorem kw814 : (.instanceMethod yX6_pairs : Cond) ∈ tb := tb_mem 814 (by decide +kernel) rfl
theorem kw815 : (.code yX6_pairs cX6_pairs 3 (some .int) : Cond) ∈ tb := tb_mem 815 (by decide +kernel) rfl
theorem kw816 : (.methodLink RX6 52 yX6_partners : Cond) ∈ tb := tb_mem 816 (by decide +kernel) rfl
theorem kw817 : (.methodLink RL 110 yX7_digest : Cond) ∈ tb := tb_mem 817 (by decide +kernel) rfl
theorem kw818 : (.instanceMethod yX7_digest : Cond) ∈ tb := tb_mem 818 (by decide +kernel) rfl
theorem kw819 : (.selects RX7 yX7_digest yX7_digest : Cond) ∈ tb := tb_mem 819 (by decide +kernel) rfl
theorem kw820 : (.code yX7_digest cX7_digest 4 (some .long) : Cond) ∈ tb := tb_mem 820 (by decide +kernel) rfl
theorem kw821 : (.constantLong RX7 225 (1373) : Cond) ∈ tb := tb_mem 821 (by decide +kernel) rfl
theorem kw822 : (.methodLink RX7 227 yX7_mixRows : Cond) ∈ tb := tb_mem 822 (by decide +kernel) rfl
theorem kw824 : (.instanceMethod yX7_mixRows : Cond) ∈ tb := tb_mem 824 (by decide +kernel) rfl
theorem kw825 : (.code yX7_mixRows cX7_mixRows 7 (some .long) : Cond) ∈ tb := tb_mem 825 (by decide +kernel) rfl
theorem kw826 : (.methodLink RX7 252 yX7_row : Cond) ∈ tb := tb_mem 826 (by decide +kernel) rfl
theorem kw827 : (.methodLink RX7 234 yX7_mix : Cond) ∈ tb := tb_mem 827 (by decide +kernel) rfl
theorem kw828 : (.static yX7_mix : Cond) ∈ tb := tb_mem 828 (by decide +kernel) rfl
theorem kw829 : (.code yX7_mix cX7_mix 4 (some .long) : Cond) ∈ tb := tb_mem 829 (by decide +kernel) rfl
theorem kw830 : (.constantLong RX7 256 (31) : Cond) ∈ tb := tb_mem 830 (by decide +kernel) rfl
theorem kw831 : (.methodLink RX7 231 yX7_ledger : Cond) ∈ tb := tb_mem 831 (by decide +kernel) rfl
theorem kw832 : (.methodLink RX7 238 yX7_out : Cond) ∈ tb := tb_mem 832 (by decide +kernel) rfl
theorem kw833 : (.methodLink RX7 241 yX7_log : Cond) ∈ tb := tb_mem 833 (by decide +kernel) rfl
theorem kw834 : (.methodLink RX7 243 yX7_spare : Cond) ∈ tb := tb_mem 834 (by decide +kernel) rfl
theorem kw835 : (.methodLink RX7 246 yX7_sorts : Cond) ∈ tb := tb_mem 835 (by decide +kernel) rfl
theorem kw836 : (.methodLink RX7 249 yX7_count : Cond) ∈ tb := tb_mem 836 (by decide +kernel) rfl
theorem kw837 : (.classLink RL 10 RX8 : Cond) ∈ tb := tb_mem 837 (by decide +kernel) rfl
theorem kw838 : (.instantiable RX8 62 : Cond) ∈ tb := tb_mem 838 (by decide +kernel) rfl
theorem kw839 : (.methodLink RL 12 yX8_init : Cond) ∈ tb := tb_mem 839 (by decide +kernel) rfl
theorem kw840 : (.instanceMethod yX8_init : Cond) ∈ tb := tb_mem 840 (by decide +kernel) rfl
theorem kw841 : (.code yX8_init cX8_init 1 none : Cond) ∈ tb := tb_mem 841 (by decide +kernel) rfl
theorem kw842 : (.methodLink RX8 1 objectInit : Cond) ∈ tb := tb_mem 842 (by decide +kernel) rfl
theorem kw843 : (.methodLink RX8 96 yX8_clearTold : Cond) ∈ tb := tb_mem 843 (by decide +kernel) rfl
theorem kw845 : (.instanceMethod yX8_clearTold : Cond) ∈ tb := tb_mem 845 (by decide +kernel) rfl
theorem kw846 : (.code yX8_clearTold cX8_clearTold 2 none : Cond) ∈ tb := tb_mem 846 (by decide +kernel) rfl
theorem kw847 : (.fieldLink RX8 143 "SpillJoinModel" "tables" "I" : Cond) ∈ tb := tb_mem 847 (by decide +kernel) rfl
theorem kw848 : (.fieldLink RX8 134 "SpillJoinModel" "memory" "I" : Cond) ∈ tb := tb_mem 848 (by decide +kernel) rfl
theorem kw849 : (.fieldLink RX8 9 "SpillJoinModel" "kind" "I" : Cond) ∈ tb := tb_mem 849 (by decide +kernel) rfl
theorem kw850 : (.fieldLink RX8 13 "SpillJoinModel" "keyOf" "[I" : Cond) ∈ tb := tb_mem 850 (by decide +kernel) rfl
theorem kw851 : (.fieldLink RX8 17 "SpillJoinModel" "rows" "[I" : Cond) ∈ tb := tb_mem 851 (by decide +kernel) rfl
theorem kw852 : (.fieldLink RX8 140 "SpillJoinModel" "runs" "I" : Cond) ∈ tb := tb_mem 852 (by decide +kernel) rfl
theorem kw853 : (.fieldLink RX8 146 "SpillJoinModel" "seen" "I" : Cond) ∈ tb := tb_mem 853 (by decide +kernel) rfl
theorem kw854 : (.fieldLink RX8 20 "SpillJoinModel" "seenWhat" "[I" : Cond) ∈ tb := tb_mem 854 (by decide +kernel) rfl
theorem kw855 : (.fieldLink RX8 23 "SpillJoinModel" "seenComes" "[I" : Cond) ∈ tb := tb_mem 855 (by decide +kernel) rfl
theorem kw856 : (.fieldLink RX8 103 "SpillJoinModel" "pageLength" "I" : Cond) ∈ tb := tb_mem 856 (by decide +kernel) rfl
theorem kw857 : (.fieldLink RX8 26 "SpillJoinModel" "page" "[B" : Cond) ∈ tb := tb_mem 857 (by decide +kernel) rfl
theorem kw858 : (.fieldLink RX8 114 "SpillJoinModel" "isWhole" "Z" : Cond) ∈ tb := tb_mem 858 (by decide +kernel) rfl
theorem kw859 : (.fieldLink RX8 124 "SpillJoinModel" "newLeft" "I" : Cond) ∈ tb := tb_mem 859 (by decide +kernel) rfl
theorem kw860 : (.fieldLink RX8 127 "SpillJoinModel" "newRight" "I" : Cond) ∈ tb := tb_mem 860 (by decide +kernel) rfl
theorem kw861 : (.fieldLink RX8 189 "SpillJoinModel" "limit" "I" : Cond) ∈ tb := tb_mem 861 (by decide +kernel) rfl
theorem kw862 : (.fieldLink RX8 183 "SpillJoinModel" "isOff" "Z" : Cond) ∈ tb := tb_mem 862 (by decide +kernel) rfl
theorem kw863 : (.fieldLink RX8 199 "SpillJoinModel" "semiOut" "I" : Cond) ∈ tb := tb_mem 863 (by decide +kernel) rfl
theorem kw864 : (.fieldLink RX8 186 "SpillJoinModel" "outs" "I" : Cond) ∈ tb := tb_mem 864 (by decide +kernel) rfl
theorem kw865 : (.fieldLink RX8 252 "SpillJoinModel" "written" "I" : Cond) ∈ tb := tb_mem 865 (by decide +kernel) rfl
theorem kw866 : (.fieldLink RX8 230 "SpillJoinModel" "readRows" "I" : Cond) ∈ tb := tb_mem 866 (by decide +kernel) rfl
theorem kw867 : (.fieldLink RX8 205 "SpillJoinModel" "peak" "I" : Cond) ∈ tb := tb_mem 867 (by decide +kernel) rfl
theorem kw868 : (.fieldLink RX8 258 "SpillJoinModel" "level" "I" : Cond) ∈ tb := tb_mem 868 (by decide +kernel) rfl
theorem kw869 : (.fieldLink RX8 264 "SpillJoinModel" "held" "I" : Cond) ∈ tb := tb_mem 869 (by decide +kernel) rfl
theorem kw870 : (.fieldLink RX8 270 "SpillJoinModel" "byBlocks" "I" : Cond) ∈ tb := tb_mem 870 (by decide +kernel) rfl
theorem kw871 : (.fieldLink RX8 243 "SpillJoinModel" "split" "I" : Cond) ∈ tb := tb_mem 871 (by decide +kernel) rfl
theorem kw872 : (.fieldLink RX8 261 "SpillJoinModel" "leftBuilds" "I" : Cond) ∈ tb := tb_mem 872 (by decide +kernel) rfl
theorem kw873 : (.fieldLink RX8 170 "SpillJoinModel" "logs" "I" : Cond) ∈ tb := tb_mem 873 (by decide +kernel) rfl
theorem kw874 : (.fieldLink RX8 176 "SpillJoinModel" "numbers" "I" : Cond) ∈ tb := tb_mem 874 (by decide +kernel) rfl
theorem kw875 : (.fieldLink RX8 173 "SpillJoinModel" "open" "I" : Cond) ∈ tb := tb_mem 875 (by decide +kernel) rfl
theorem kw876 : (.fieldLink RX8 30 "SpillJoinModel" "openNumber" "[I" : Cond) ∈ tb := tb_mem 876 (by decide +kernel) rfl
theorem kw877 : (.fieldLink RX8 33 "SpillJoinModel" "openWhat" "[I" : Cond) ∈ tb := tb_mem 877 (by decide +kernel) rfl
theorem kw878 : (.fieldLink RX8 36 "SpillJoinModel" "runLeft" "[I" : Cond) ∈ tb := tb_mem 878 (by decide +kernel) rfl
theorem kw879 : (.fieldLink RX8 39 "SpillJoinModel" "runRight" "[I" : Cond) ∈ tb := tb_mem 879 (by decide +kernel) rfl
theorem kw880 : (.fieldLink RX8 42 "SpillJoinModel" "runNumber" "[I" : Cond) ∈ tb := tb_mem 880 (by decide +kernel) rfl
theorem kw881 : (.fieldLink RX8 45 "SpillJoinModel" "runOpened" "[I" : Cond) ∈ tb := tb_mem 881 (by decide +kernel) rfl
theorem kw882 : (.fieldLink RX8 48 "SpillJoinModel" "runWhat" "[I" : Cond) ∈ tb := tb_mem 882 (by decide +kernel) rfl
theorem kw883 : (.fieldLink RX8 51 "SpillJoinModel" "partLeft" "[I" : Cond) ∈ tb := tb_mem 883 (by decide +kernel) rfl
theorem kw884 : (.fieldLink RX8 54 "SpillJoinModel" "partRight" "[I" : Cond) ∈ tb := tb_mem 884 (by decide +kernel) rfl
theorem kw885 : (.fieldLink RX8 57 "SpillJoinModel" "partNext" "[I" : Cond) ∈ tb := tb_mem 885 (by decide +kernel) rfl
theorem kw886 : (.fieldLink RX8 60 "SpillJoinModel" "partStays" "[I" : Cond) ∈ tb := tb_mem 886 (by decide +kernel) rfl
theorem kw887 : (.fieldLink RX8 63 "SpillJoinModel" "partFiles" "[I" : Cond) ∈ tb := tb_mem 887 (by decide +kernel) rfl
theorem kw888 : (.fieldLink RX8 298 "SpillJoinModel" "toldOuts" "I" : Cond) ∈ tb := tb_mem 888 (by decide +kernel) rfl
theorem kw889 : (.fieldLink RX8 301 "SpillJoinModel" "toldLogs" "I" : Cond) ∈ tb := tb_mem 889 (by decide +kernel) rfl
theorem kw890 : (.fieldLink RX8 66 "SpillJoinModel" "toldLedger" "[I" : Cond) ∈ tb := tb_mem 890 (by decide +kernel) rfl
theorem kw891 : (.fieldLink RX8 69 "SpillJoinModel" "toldLeft" "[I" : Cond) ∈ tb := tb_mem 891 (by decide +kernel) rfl
theorem kw892 : (.fieldLink RX8 72 "SpillJoinModel" "toldRight" "[I" : Cond) ∈ tb := tb_mem 892 (by decide +kernel) rfl
theorem kw893 : (.fieldLink RX8 75 "SpillJoinModel" "toldNumber" "[I" : Cond) ∈ tb := tb_mem 893 (by decide +kernel) rfl
theorem kw894 : (.fieldLink RX8 78 "SpillJoinModel" "toldOpened" "[I" : Cond) ∈ tb := tb_mem 894 (by decide +kernel) rfl
theorem kw895 : (.fieldLink RX8 81 "SpillJoinModel" "toldWhat" "[I" : Cond) ∈ tb := tb_mem 895 (by decide +kernel) rfl
theorem kw896 : (.fieldLink RX8 331 "SpillJoinModel" "seedNow" "J" : Cond) ∈ tb := tb_mem 896 (by decide +kernel) rfl
theorem kw897 : (.fieldLink RX8 84 "SpillJoinModel" "savedKey" "[I" : Cond) ∈ tb := tb_mem 897 (by decide +kernel) rfl
theorem kw898 : (.fieldLink RX8 347 "SpillJoinModel" "isKept" "Z" : Cond) ∈ tb := tb_mem 898 (by decide +kernel) rfl
theorem kw899 : (.fieldLink RX8 350 "SpillJoinModel" "keptTables" "I" : Cond) ∈ tb := tb_mem 899 (by decide +kernel) rfl
theorem kw900 : (.fieldLink RX8 353 "SpillJoinModel" "keptMemory" "I" : Cond) ∈ tb := tb_mem 900 (by decide +kernel) rfl
theorem kw901 : (.fieldLink RX8 356 "SpillJoinModel" "keptKind" "I" : Cond) ∈ tb := tb_mem 901 (by decide +kernel) rfl
theorem kw902 : (.fieldLink RX8 359 "SpillJoinModel" "keptLeft" "I" : Cond) ∈ tb := tb_mem 902 (by decide +kernel) rfl
theorem kw903 : (.fieldLink RX8 362 "SpillJoinModel" "keptRight" "I" : Cond) ∈ tb := tb_mem 903 (by decide +kernel) rfl
theorem kw904 : (.fieldLink RX8 365 "SpillJoinModel" "keptSeen" "I" : Cond) ∈ tb := tb_mem 904 (by decide +kernel) rfl
theorem kw905 : (.fieldLink RX8 87 "SpillJoinModel" "keptKey" "[I" : Cond) ∈ tb := tb_mem 905 (by decide +kernel) rfl
theorem kw906 : (.fieldLink RX8 90 "SpillJoinModel" "keptWhat" "[I" : Cond) ∈ tb := tb_mem 906 (by decide +kernel) rfl
theorem kw907 : (.fieldLink RX8 93 "SpillJoinModel" "keptComes" "[I" : Cond) ∈ tb := tb_mem 907 (by decide +kernel) rfl
theorem kw908 : (.fieldLink RX8 379 "SpillJoinModel" "h" "J" : Cond) ∈ tb := tb_mem 908 (by decide +kernel) rfl
theorem kw1034 : (.methodLink RL 17 yX8_letter : Cond) ∈ tb := tb_mem 1034 (by decide +kernel) rfl
theorem kw1035 : (.instanceMethod yX8_letter : Cond) ∈ tb := tb_mem 1035 (by decide +kernel) rfl
theorem kw1036 : (.selects RX8 yX8_letter yX8_letter : Cond) ∈ tb := tb_mem 1036 (by decide +kernel) rfl
theorem kw1037 : (.code yX8_letter cX8_letter 2 (some .int) : Cond) ∈ tb := tb_mem 1037 (by decide +kernel) rfl
theorem kw1038 : (.methodLink RX8 99 yX8_within : Cond) ∈ tb := tb_mem 1038 (by decide +kernel) rfl
theorem kw1039 : (.static yX8_within : Cond) ∈ tb := tb_mem 1039 (by decide +kernel) rfl
theorem kw1040 : (.code yX8_within cX8_within 3 (some .boolean) : Cond) ∈ tb := tb_mem 1040 (by decide +kernel) rfl
theorem kw1041 : (.methodLink RL 22 yX8_blank : Cond) ∈ tb := tb_mem 1041 (by decide +kernel) rfl
theorem kw1042 : (.instanceMethod yX8_blank : Cond) ∈ tb := tb_mem 1042 (by decide +kernel) rfl
theorem kw1043 : (.selects RX8 yX8_blank yX8_blank : Cond) ∈ tb := tb_mem 1043 (by decide +kernel) rfl
theorem kw1044 : (.code yX8_blank cX8_blank 2 (some .int) : Cond) ∈ tb := tb_mem 1044 (by decide +kernel) rfl
theorem kw1045 : (.methodLink RL 26 yX8_fault : Cond) ∈ tb := tb_mem 1045 (by decide +kernel) rfl
theorem kw1046 : (.instanceMethod yX8_fault : Cond) ∈ tb := tb_mem 1046 (by decide +kernel) rfl
theorem kw1047 : (.selects RX8 yX8_fault yX8_fault : Cond) ∈ tb := tb_mem 1047 (by decide +kernel) rfl
theorem kw1048 : (.code yX8_fault cX8_fault 1 (some .int) : Cond) ∈ tb := tb_mem 1048 (by decide +kernel) rfl
theorem kw1049 : (.methodLink RX8 130 yX8_read : Cond) ∈ tb := tb_mem 1049 (by decide +kernel) rfl
theorem kw1051 : (.instanceMethod yX8_read : Cond) ∈ tb := tb_mem 1051 (by decide +kernel) rfl
theorem kw1052 : (.code yX8_read cX8_read 2 (some .int) : Cond) ∈ tb := tb_mem 1052 (by decide +kernel) rfl
theorem kw1053 : (.methodLink RX8 106 yX8_at : Cond) ∈ tb := tb_mem 1053 (by decide +kernel) rfl
theorem kw1055 : (.instanceMethod yX8_at : Cond) ∈ tb := tb_mem 1055 (by decide +kernel) rfl
theorem kw1056 : (.code yX8_at cX8_at 2 (some .int) : Cond) ∈ tb := tb_mem 1056 (by decide +kernel) rfl
theorem kw1057 : (.methodLink RX8 118 yX8_kindBy : Cond) ∈ tb := tb_mem 1057 (by decide +kernel) rfl
theorem kw1058 : (.static yX8_kindBy : Cond) ∈ tb := tb_mem 1058 (by decide +kernel) rfl
theorem kw1059 : (.code yX8_kindBy cX8_kindBy 1 (some .int) : Cond) ∈ tb := tb_mem 1059 (by decide +kernel) rfl
theorem kw1060 : (.methodLink RX8 121 yX8_rowsFrom : Cond) ∈ tb := tb_mem 1060 (by decide +kernel) rfl
theorem kw1062 : (.instanceMethod yX8_rowsFrom : Cond) ∈ tb := tb_mem 1062 (by decide +kernel) rfl
theorem kw1063 : (.code yX8_rowsFrom cX8_rowsFrom 3 (some .int) : Cond) ∈ tb := tb_mem 1063 (by decide +kernel) rfl
theorem kw1064 : (.methodLink RX8 110 yX8_isRowAt : Cond) ∈ tb := tb_mem 1064 (by decide +kernel) rfl
theorem kw1066 : (.instanceMethod yX8_isRowAt : Cond) ∈ tb := tb_mem 1066 (by decide +kernel) rfl
theorem kw1067 : (.code yX8_isRowAt cX8_isRowAt 2 (some .boolean) : Cond) ∈ tb := tb_mem 1067 (by decide +kernel) rfl
theorem kw1068 : (.methodLink RL 30 yX8_tables : Cond) ∈ tb := tb_mem 1068 (by decide +kernel) rfl
theorem kw1069 : (.instanceMethod yX8_tables : Cond) ∈ tb := tb_mem 1069 (by decide +kernel) rfl
theorem kw1070 : (.selects RX8 yX8_tables yX8_tables : Cond) ∈ tb := tb_mem 1070 (by decide +kernel) rfl
theorem kw1071 : (.code yX8_tables cX8_tables 2 (some .int) : Cond) ∈ tb := tb_mem 1071 (by decide +kernel) rfl
theorem kw1072 : (.methodLink RX8 137 yX8_keyBy : Cond) ∈ tb := tb_mem 1072 (by decide +kernel) rfl
theorem kw1073 : (.static yX8_keyBy : Cond) ∈ tb := tb_mem 1073 (by decide +kernel) rfl
theorem kw1074 : (.code yX8_keyBy cX8_keyBy 1 (some .int) : Cond) ∈ tb := tb_mem 1074 (by decide +kernel) rfl
theorem kw1075 : (.methodLink RL 35 yX8_row : Cond) ∈ tb := tb_mem 1075 (by decide +kernel) rfl
theorem kw1076 : (.instanceMethod yX8_row : Cond) ∈ tb := tb_mem 1076 (by decide +kernel) rfl
theorem kw1077 : (.selects RX8 yX8_row yX8_row : Cond) ∈ tb := tb_mem 1077 (by decide +kernel) rfl
theorem kw1078 : (.code yX8_row cX8_row 4 (some .int) : Cond) ∈ tb := tb_mem 1078 (by decide +kernel) rfl
theorem kw1079 : (.methodLink RX8 159 yX8_isRow : Cond) ∈ tb := tb_mem 1079 (by decide +kernel) rfl
theorem kw1081 : (.instanceMethod yX8_isRow : Cond) ∈ tb := tb_mem 1081 (by decide +kernel) rfl
theorem kw1082 : (.code yX8_isRow cX8_isRow 3 (some .boolean) : Cond) ∈ tb := tb_mem 1082 (by decide +kernel) rfl
theorem kw1083 : (.methodLink RX8 149 yX8_isSide : Cond) ∈ tb := tb_mem 1083 (by decide +kernel) rfl
theorem kw1084 : (.static yX8_isSide : Cond) ∈ tb := tb_mem 1084 (by decide +kernel) rfl
theorem kw1085 : (.code yX8_isSide cX8_isSide 1 (some .boolean) : Cond) ∈ tb := tb_mem 1085 (by decide +kernel) rfl
theorem kw1086 : (.methodLink RX8 163 yX8_rowNow : Cond) ∈ tb := tb_mem 1086 (by decide +kernel) rfl
theorem kw1088 : (.instanceMethod yX8_rowNow : Cond) ∈ tb := tb_mem 1088 (by decide +kernel) rfl
theorem kw1089 : (.code yX8_rowNow cX8_rowNow 4 (some .int) : Cond) ∈ tb := tb_mem 1089 (by decide +kernel) rfl
theorem kw1090 : (.methodLink RX8 152 yX8_keyAt : Cond) ∈ tb := tb_mem 1090 (by decide +kernel) rfl
theorem kw1092 : (.instanceMethod yX8_keyAt : Cond) ∈ tb := tb_mem 1092 (by decide +kernel) rfl
theorem kw1093 : (.code yX8_keyAt cX8_keyAt 3 (some .int) : Cond) ∈ tb := tb_mem 1093 (by decide +kernel) rfl
theorem kw1094 : (.methodLink RX8 156 yX8_partnersOf : Cond) ∈ tb := tb_mem 1094 (by decide +kernel) rfl
theorem kw1096 : (.instanceMethod yX8_partnersOf : Cond) ∈ tb := tb_mem 1096 (by decide +kernel) rfl
theorem kw1097 : (.code yX8_partnersOf cX8_partnersOf 5 (some .int) : Cond) ∈ tb := tb_mem 1097 (by decide +kernel) rfl
theorem kw1098 : (.methodLink RL 39 yX8_as : Cond) ∈ tb := tb_mem 1098 (by decide +kernel) rfl
theorem kw1099 : (.instanceMethod yX8_as : Cond) ∈ tb := tb_mem 1099 (by decide +kernel) rfl
theorem kw1100 : (.selects RX8 yX8_as yX8_as : Cond) ∈ tb := tb_mem 1100 (by decide +kernel) rfl
theorem kw1101 : (.code yX8_as cX8_as 2 (some .int) : Cond) ∈ tb := tb_mem 1101 (by decide +kernel) rfl
theorem kw1102 : (.methodLink RL 44 yX8_put : Cond) ∈ tb := tb_mem 1102 (by decide +kernel) rfl
theorem kw1103 : (.instanceMethod yX8_put : Cond) ∈ tb := tb_mem 1103 (by decide +kernel) rfl
theorem kw1104 : (.selects RX8 yX8_put yX8_put : Cond) ∈ tb := tb_mem 1104 (by decide +kernel) rfl
theorem kw1105 : (.code yX8_put cX8_put 3 (some .int) : Cond) ∈ tb := tb_mem 1105 (by decide +kernel) rfl
theorem kw1106 : (.methodLink RX8 167 yX8_isKey : Cond) ∈ tb := tb_mem 1106 (by decide +kernel) rfl
theorem kw1107 : (.static yX8_isKey : Cond) ∈ tb := tb_mem 1107 (by decide +kernel) rfl
theorem kw1108 : (.code yX8_isKey cX8_isKey 1 (some .boolean) : Cond) ∈ tb := tb_mem 1108 (by decide +kernel) rfl
theorem kw1109 : (.methodLink RL 48 yX8_take : Cond) ∈ tb := tb_mem 1109 (by decide +kernel) rfl
theorem kw1110 : (.instanceMethod yX8_take : Cond) ∈ tb := tb_mem 1110 (by decide +kernel) rfl
theorem kw1111 : (.selects RX8 yX8_take yX8_take : Cond) ∈ tb := tb_mem 1111 (by decide +kernel) rfl
theorem kw1112 : (.code yX8_take cX8_take 5 (some .int) : Cond) ∈ tb := tb_mem 1112 (by decide +kernel) rfl
theorem kw1113 : (.methodLink RL 52 yX8_key : Cond) ∈ tb := tb_mem 1113 (by decide +kernel) rfl
theorem kw1114 : (.instanceMethod yX8_key : Cond) ∈ tb := tb_mem 1114 (by decide +kernel) rfl
theorem kw1115 : (.selects RX8 yX8_key yX8_key : Cond) ∈ tb := tb_mem 1115 (by decide +kernel) rfl
theorem kw1116 : (.code yX8_key cX8_key 5 (some .int) : Cond) ∈ tb := tb_mem 1116 (by decide +kernel) rfl
theorem kw1117 : (.methodLink RL 56 yX8_memory : Cond) ∈ tb := tb_mem 1117 (by decide +kernel) rfl
theorem kw1118 : (.instanceMethod yX8_memory : Cond) ∈ tb := tb_mem 1118 (by decide +kernel) rfl
theorem kw1119 : (.selects RX8 yX8_memory yX8_memory : Cond) ∈ tb := tb_mem 1119 (by decide +kernel) rfl
theorem kw1120 : (.code yX8_memory cX8_memory 3 (some .int) : Cond) ∈ tb := tb_mem 1120 (by decide +kernel) rfl
theorem kw1121 : (.methodLink RL 60 yX8_be : Cond) ∈ tb := tb_mem 1121 (by decide +kernel) rfl
theorem kw1122 : (.instanceMethod yX8_be : Cond) ∈ tb := tb_mem 1122 (by decide +kernel) rfl
theorem kw1123 : (.selects RX8 yX8_be yX8_be : Cond) ∈ tb := tb_mem 1123 (by decide +kernel) rfl
theorem kw1124 : (.code yX8_be cX8_be 3 (some .int) : Cond) ∈ tb := tb_mem 1124 (by decide +kernel) rfl
theorem kw1125 : (.methodLink RL 64 yX8_run : Cond) ∈ tb := tb_mem 1125 (by decide +kernel) rfl
theorem kw1126 : (.instanceMethod yX8_run : Cond) ∈ tb := tb_mem 1126 (by decide +kernel) rfl
theorem kw1127 : (.selects RX8 yX8_run yX8_run : Cond) ∈ tb := tb_mem 1127 (by decide +kernel) rfl
theorem kw1128 : (.code yX8_run cX8_run 2 (some .int) : Cond) ∈ tb := tb_mem 1128 (by decide +kernel) rfl
theorem kw1129 : (.methodLink RX8 304 yX8_runNow : Cond) ∈ tb := tb_mem 1129 (by decide +kernel) rfl
theorem kw1131 : (.instanceMethod yX8_runNow : Cond) ∈ tb := tb_mem 1131 (by decide +kernel) rfl
theorem kw1132 : (.code yX8_runNow cX8_runNow 6 none : Cond) ∈ tb := tb_mem 1132 (by decide +kernel) rfl
theorem kw1133 : (.methodLink RX8 282 yX8_clearRun : Cond) ∈ tb := tb_mem 1133 (by decide +kernel) rfl
theorem kw1135 : (.instanceMethod yX8_clearRun : Cond) ∈ tb := tb_mem 1135 (by decide +kernel) rfl
theorem kw1136 : (.code yX8_clearRun cX8_clearRun 1 none : Cond) ∈ tb := tb_mem 1136 (by decide +kernel) rfl
theorem kw1137 : (.methodLink RX8 285 yX8_withKeys : Cond) ∈ tb := tb_mem 1137 (by decide +kernel) rfl
theorem kw1139 : (.instanceMethod yX8_withKeys : Cond) ∈ tb := tb_mem 1139 (by decide +kernel) rfl
theorem kw1140 : (.code yX8_withKeys cX8_withKeys 5 (some .int) : Cond) ∈ tb := tb_mem 1140 (by decide +kernel) rfl
theorem kw1141 : (.methodLink RX8 289 yX8_turn : Cond) ∈ tb := tb_mem 1141 (by decide +kernel) rfl
theorem kw1143 : (.instanceMethod yX8_turn : Cond) ∈ tb := tb_mem 1143 (by decide +kernel) rfl
theorem kw1144 : (.code yX8_turn cX8_turn 7 (some .boolean) : Cond) ∈ tb := tb_mem 1144 (by decide +kernel) rfl
theorem kw1145 : (.methodLink RX8 214 yX8_size : Cond) ∈ tb := tb_mem 1145 (by decide +kernel) rfl
theorem kw1146 : (.static yX8_size : Cond) ∈ tb := tb_mem 1146 (by decide +kernel) rfl
theorem kw1147 : (.code yX8_size cX8_size 3 (some .int) : Cond) ∈ tb := tb_mem 1147 (by decide +kernel) rfl
theorem kw1148 : (.methodLink RX8 246 yX8_openOne : Cond) ∈ tb := tb_mem 1148 (by decide +kernel) rfl
theorem kw1150 : (.instanceMethod yX8_openOne : Cond) ∈ tb := tb_mem 1150 (by decide +kernel) rfl
theorem kw1151 : (.code yX8_openOne cX8_openOne 2 none : Cond) ∈ tb := tb_mem 1151 (by decide +kernel) rfl
theorem kw1152 : (.methodLink RX8 179 yX8_noteLog : Cond) ∈ tb := tb_mem 1152 (by decide +kernel) rfl
theorem kw1154 : (.instanceMethod yX8_noteLog : Cond) ∈ tb := tb_mem 1154 (by decide +kernel) rfl
theorem kw1155 : (.code yX8_noteLog cX8_noteLog 4 none : Cond) ∈ tb := tb_mem 1155 (by decide +kernel) rfl
theorem kw1156 : (.methodLink RX8 255 yX8_holdNow : Cond) ∈ tb := tb_mem 1156 (by decide +kernel) rfl
theorem kw1158 : (.instanceMethod yX8_holdNow : Cond) ∈ tb := tb_mem 1158 (by decide +kernel) rfl
theorem kw1159 : (.code yX8_holdNow cX8_holdNow 5 none : Cond) ∈ tb := tb_mem 1159 (by decide +kernel) rfl
theorem kw1160 : (.methodLink RX8 217 yX8_inMemory : Cond) ∈ tb := tb_mem 1160 (by decide +kernel) rfl
theorem kw1162 : (.instanceMethod yX8_inMemory : Cond) ∈ tb := tb_mem 1162 (by decide +kernel) rfl
theorem kw1163 : (.code yX8_inMemory cX8_inMemory 2 none : Cond) ∈ tb := tb_mem 1163 (by decide +kernel) rfl
theorem kw1164 : (.methodLink RX8 202 yX8_isIn : Cond) ∈ tb := tb_mem 1164 (by decide +kernel) rfl
theorem kw1165 : (.static yX8_isIn : Cond) ∈ tb := tb_mem 1165 (by decide +kernel) rfl
theorem kw1166 : (.code yX8_isIn cX8_isIn 2 (some .boolean) : Cond) ∈ tb := tb_mem 1166 (by decide +kernel) rfl
theorem kw1167 : (.methodLink RX8 221 yX8_meetAll : Cond) ∈ tb := tb_mem 1167 (by decide +kernel) rfl
theorem kw1169 : (.instanceMethod yX8_meetAll : Cond) ∈ tb := tb_mem 1169 (by decide +kernel) rfl
theorem kw1170 : (.code yX8_meetAll cX8_meetAll 6 none : Cond) ∈ tb := tb_mem 1170 (by decide +kernel) rfl
theorem kw1171 : (.methodLink RX8 208 yX8_meet : Cond) ∈ tb := tb_mem 1171 (by decide +kernel) rfl
theorem kw1173 : (.instanceMethod yX8_meet : Cond) ∈ tb := tb_mem 1173 (by decide +kernel) rfl
theorem kw1174 : (.code yX8_meet cX8_meet 3 none : Cond) ∈ tb := tb_mem 1174 (by decide +kernel) rfl
theorem kw1175 : (.methodLink RX8 195 yX8_come : Cond) ∈ tb := tb_mem 1175 (by decide +kernel) rfl
theorem kw1177 : (.instanceMethod yX8_come : Cond) ∈ tb := tb_mem 1177 (by decide +kernel) rfl
theorem kw1178 : (.code yX8_come cX8_come 3 none : Cond) ∈ tb := tb_mem 1178 (by decide +kernel) rfl
theorem kw1179 : (.methodLink RX8 211 yX8_alone : Cond) ∈ tb := tb_mem 1179 (by decide +kernel) rfl
theorem kw1181 : (.instanceMethod yX8_alone : Cond) ∈ tb := tb_mem 1181 (by decide +kernel) rfl
theorem kw1182 : (.code yX8_alone cX8_alone 3 none : Cond) ∈ tb := tb_mem 1182 (by decide +kernel) rfl
theorem kw1183 : (.methodLink RX8 192 yX8_comesAlone : Cond) ∈ tb := tb_mem 1183 (by decide +kernel) rfl
theorem kw1185 : (.instanceMethod yX8_comesAlone : Cond) ∈ tb := tb_mem 1185 (by decide +kernel) rfl
theorem kw1186 : (.code yX8_comesAlone cX8_comesAlone 2 (some .boolean) : Cond) ∈ tb := tb_mem 1186 (by decide +kernel) rfl
theorem kw1187 : (.methodLink RX8 224 yX8_aloneOnes : Cond) ∈ tb := tb_mem 1187 (by decide +kernel) rfl
theorem kw1189 : (.instanceMethod yX8_aloneOnes : Cond) ∈ tb := tb_mem 1189 (by decide +kernel) rfl
theorem kw1190 : (.code yX8_aloneOnes cX8_aloneOnes 4 none : Cond) ∈ tb := tb_mem 1190 (by decide +kernel) rfl
theorem kw1191 : (.methodLink RX8 267 yX8_isOneKey : Cond) ∈ tb := tb_mem 1191 (by decide +kernel) rfl
theorem kw1193 : (.instanceMethod yX8_isOneKey : Cond) ∈ tb := tb_mem 1193 (by decide +kernel) rfl
theorem kw1194 : (.code yX8_isOneKey cX8_isOneKey 6 (some .boolean) : Cond) ∈ tb := tb_mem 1194 (by decide +kernel) rfl
theorem kw1195 : (.methodLink RX8 273 yX8_blocksNow : Cond) ∈ tb := tb_mem 1195 (by decide +kernel) rfl
theorem kw1197 : (.instanceMethod yX8_blocksNow : Cond) ∈ tb := tb_mem 1197 (by decide +kernel) rfl
theorem kw1198 : (.code yX8_blocksNow cX8_blocksNow 7 none : Cond) ∈ tb := tb_mem 1198 (by decide +kernel) rfl
theorem kw1199 : (.methodLink RX8 227 yX8_firstOf : Cond) ∈ tb := tb_mem 1199 (by decide +kernel) rfl
theorem kw1201 : (.instanceMethod yX8_firstOf : Cond) ∈ tb := tb_mem 1201 (by decide +kernel) rfl
theorem kw1202 : (.code yX8_firstOf cX8_firstOf 6 (some .int) : Cond) ∈ tb := tb_mem 1202 (by decide +kernel) rfl
theorem kw1203 : (.methodLink RX8 276 yX8_splitNow : Cond) ∈ tb := tb_mem 1203 (by decide +kernel) rfl
theorem kw1205 : (.instanceMethod yX8_splitNow : Cond) ∈ tb := tb_mem 1205 (by decide +kernel) rfl
theorem kw1206 : (.code yX8_splitNow cX8_splitNow 4 none : Cond) ∈ tb := tb_mem 1206 (by decide +kernel) rfl
theorem kw1207 : (.methodLink RX8 249 yX8_resident : Cond) ∈ tb := tb_mem 1207 (by decide +kernel) rfl
theorem kw1209 : (.instanceMethod yX8_resident : Cond) ∈ tb := tb_mem 1209 (by decide +kernel) rfl
theorem kw1210 : (.code yX8_resident cX8_resident 6 (some .int) : Cond) ∈ tb := tb_mem 1210 (by decide +kernel) rfl
theorem kw1211 : (.methodLink RX8 237 yX8_halfOf : Cond) ∈ tb := tb_mem 1211 (by decide +kernel) rfl
theorem kw1213 : (.instanceMethod yX8_halfOf : Cond) ∈ tb := tb_mem 1213 (by decide +kernel) rfl
theorem kw1214 : (.code yX8_halfOf cX8_halfOf 4 (some .int) : Cond) ∈ tb := tb_mem 1214 (by decide +kernel) rfl
theorem kw1215 : (.methodLink RX8 233 yX8_half : Cond) ∈ tb := tb_mem 1215 (by decide +kernel) rfl
theorem kw1217 : (.instanceMethod yX8_half : Cond) ∈ tb := tb_mem 1217 (by decide +kernel) rfl
theorem kw1218 : (.code yX8_half cX8_half 7 (some .int) : Cond) ∈ tb := tb_mem 1218 (by decide +kernel) rfl
theorem kw1219 : (.methodLink RX8 240 yX8_rowsOfHalf : Cond) ∈ tb := tb_mem 1219 (by decide +kernel) rfl
theorem kw1221 : (.instanceMethod yX8_rowsOfHalf : Cond) ∈ tb := tb_mem 1221 (by decide +kernel) rfl
theorem kw1222 : (.code yX8_rowsOfHalf cX8_rowsOfHalf 3 (some .int) : Cond) ∈ tb := tb_mem 1222 (by decide +kernel) rfl
theorem kw1223 : (.methodLink RX8 279 yX8_shutOne : Cond) ∈ tb := tb_mem 1223 (by decide +kernel) rfl
theorem kw1225 : (.instanceMethod yX8_shutOne : Cond) ∈ tb := tb_mem 1225 (by decide +kernel) rfl
theorem kw1226 : (.code yX8_shutOne cX8_shutOne 1 none : Cond) ∈ tb := tb_mem 1226 (by decide +kernel) rfl
theorem kw1227 : (.methodLink RX8 292 yX8_nextHalf : Cond) ∈ tb := tb_mem 1227 (by decide +kernel) rfl
theorem kw1229 : (.instanceMethod yX8_nextHalf : Cond) ∈ tb := tb_mem 1229 (by decide +kernel) rfl
theorem kw1230 : (.code yX8_nextHalf cX8_nextHalf 3 (some .int) : Cond) ∈ tb := tb_mem 1230 (by decide +kernel) rfl
theorem kw1231 : (.methodLink RX8 295 yX8_shutPart : Cond) ∈ tb := tb_mem 1231 (by decide +kernel) rfl
theorem kw1233 : (.instanceMethod yX8_shutPart : Cond) ∈ tb := tb_mem 1233 (by decide +kernel) rfl
theorem kw1234 : (.code yX8_shutPart cX8_shutPart 3 none : Cond) ∈ tb := tb_mem 1234 (by decide +kernel) rfl
theorem kw1235 : (.methodLink RX8 307 yX8_tell : Cond) ∈ tb := tb_mem 1235 (by decide +kernel) rfl
theorem kw1237 : (.instanceMethod yX8_tell : Cond) ∈ tb := tb_mem 1237 (by decide +kernel) rfl
theorem kw1238 : (.code yX8_tell cX8_tell 2 none : Cond) ∈ tb := tb_mem 1238 (by decide +kernel) rfl
theorem kw1239 : (.methodLink RL 68 yX8_out : Cond) ∈ tb := tb_mem 1239 (by decide +kernel) rfl
theorem kw1240 : (.instanceMethod yX8_out : Cond) ∈ tb := tb_mem 1240 (by decide +kernel) rfl
theorem kw1241 : (.selects RX8 yX8_out yX8_out : Cond) ∈ tb := tb_mem 1241 (by decide +kernel) rfl
theorem kw1242 : (.code yX8_out cX8_out 3 (some .int) : Cond) ∈ tb := tb_mem 1242 (by decide +kernel) rfl
theorem kw1243 : (.methodLink RX8 310 yX8_outNow : Cond) ∈ tb := tb_mem 1243 (by decide +kernel) rfl
theorem kw1245 : (.instanceMethod yX8_outNow : Cond) ∈ tb := tb_mem 1245 (by decide +kernel) rfl
theorem kw1246 : (.code yX8_outNow cX8_outNow 3 (some .int) : Cond) ∈ tb := tb_mem 1246 (by decide +kernel) rfl
theorem kw1247 : (.methodLink RL 72 yX8_log : Cond) ∈ tb := tb_mem 1247 (by decide +kernel) rfl
theorem kw1248 : (.instanceMethod yX8_log : Cond) ∈ tb := tb_mem 1248 (by decide +kernel) rfl
theorem kw1249 : (.selects RX8 yX8_log yX8_log : Cond) ∈ tb := tb_mem 1249 (by decide +kernel) rfl
theorem kw1250 : (.code yX8_log cX8_log 3 (some .int) : Cond) ∈ tb := tb_mem 1250 (by decide +kernel) rfl
theorem kw1251 : (.methodLink RX8 313 yX8_logNow : Cond) ∈ tb := tb_mem 1251 (by decide +kernel) rfl
theorem kw1253 : (.instanceMethod yX8_logNow : Cond) ∈ tb := tb_mem 1253 (by decide +kernel) rfl
theorem kw1254 : (.code yX8_logNow cX8_logNow 3 (some .int) : Cond) ∈ tb := tb_mem 1254 (by decide +kernel) rfl
theorem kw1255 : (.methodLink RL 76 yX8_ledger : Cond) ∈ tb := tb_mem 1255 (by decide +kernel) rfl
theorem kw1256 : (.instanceMethod yX8_ledger : Cond) ∈ tb := tb_mem 1256 (by decide +kernel) rfl
theorem kw1257 : (.selects RX8 yX8_ledger yX8_ledger : Cond) ∈ tb := tb_mem 1257 (by decide +kernel) rfl
theorem kw1258 : (.code yX8_ledger cX8_ledger 2 (some .int) : Cond) ∈ tb := tb_mem 1258 (by decide +kernel) rfl
theorem kw1259 : (.methodLink RL 80 yX8_spare : Cond) ∈ tb := tb_mem 1259 (by decide +kernel) rfl
theorem kw1260 : (.instanceMethod yX8_spare : Cond) ∈ tb := tb_mem 1260 (by decide +kernel) rfl
theorem kw1261 : (.selects RX8 yX8_spare yX8_spare : Cond) ∈ tb := tb_mem 1261 (by decide +kernel) rfl
theorem kw1262 : (.code yX8_spare cX8_spare 1 (some .int) : Cond) ∈ tb := tb_mem 1262 (by decide +kernel) rfl
theorem kw1263 : (.methodLink RX8 317 yX8_spareNow : Cond) ∈ tb := tb_mem 1263 (by decide +kernel) rfl
theorem kw1265 : (.instanceMethod yX8_spareNow : Cond) ∈ tb := tb_mem 1265 (by decide +kernel) rfl
theorem kw1266 : (.code yX8_spareNow cX8_spareNow 4 (some .int) : Cond) ∈ tb := tb_mem 1266 (by decide +kernel) rfl
theorem kw1267 : (.constant RX8 316 (268435456) : Cond) ∈ tb := tb_mem 1267 (by decide +kernel) rfl
theorem kw1268 : (.methodLink RL 85 yX8_see : Cond) ∈ tb := tb_mem 1268 (by decide +kernel) rfl
theorem kw1269 : (.instanceMethod yX8_see : Cond) ∈ tb := tb_mem 1269 (by decide +kernel) rfl
theorem kw1270 : (.selects RX8 yX8_see yX8_see : Cond) ∈ tb := tb_mem 1270 (by decide +kernel) rfl
theorem kw1271 : (.code yX8_see cX8_see 3 (some .int) : Cond) ∈ tb := tb_mem 1271 (by decide +kernel) rfl
theorem kw1272 : (.methodLink RL 89 yX8_forget : Cond) ∈ tb := tb_mem 1272 (by decide +kernel) rfl
theorem kw1273 : (.instanceMethod yX8_forget : Cond) ∈ tb := tb_mem 1273 (by decide +kernel) rfl
theorem kw1274 : (.selects RX8 yX8_forget yX8_forget : Cond) ∈ tb := tb_mem 1274 (by decide +kernel) rfl
theorem kw1275 : (.code yX8_forget cX8_forget 2 (some .int) : Cond) ∈ tb := tb_mem 1275 (by decide +kernel) rfl
theorem kw1276 : (.methodLink RL 93 yX8_sorts : Cond) ∈ tb := tb_mem 1276 (by decide +kernel) rfl
theorem kw1277 : (.instanceMethod yX8_sorts : Cond) ∈ tb := tb_mem 1277 (by decide +kernel) rfl
theorem kw1278 : (.selects RX8 yX8_sorts yX8_sorts : Cond) ∈ tb := tb_mem 1278 (by decide +kernel) rfl
theorem kw1279 : (.code yX8_sorts cX8_sorts 2 (some .int) : Cond) ∈ tb := tb_mem 1279 (by decide +kernel) rfl
theorem kw1280 : (.methodLink RX8 323 yX8_sortsNow : Cond) ∈ tb := tb_mem 1280 (by decide +kernel) rfl
theorem kw1282 : (.instanceMethod yX8_sortsNow : Cond) ∈ tb := tb_mem 1282 (by decide +kernel) rfl
theorem kw1283 : (.code yX8_sortsNow cX8_sortsNow 5 (some .int) : Cond) ∈ tb := tb_mem 1283 (by decide +kernel) rfl
theorem kw1284 : (.methodLink RX8 320 yX8_could : Cond) ∈ tb := tb_mem 1284 (by decide +kernel) rfl
theorem kw1285 : (.static yX8_could : Cond) ∈ tb := tb_mem 1285 (by decide +kernel) rfl
theorem kw1286 : (.code yX8_could cX8_could 2 (some .boolean) : Cond) ∈ tb := tb_mem 1286 (by decide +kernel) rfl
theorem kw1287 : (.methodLink RX8 326 yX8_askNow : Cond) ∈ tb := tb_mem 1287 (by decide +kernel) rfl
theorem kw1289 : (.instanceMethod yX8_askNow : Cond) ∈ tb := tb_mem 1289 (by decide +kernel) rfl
theorem kw1290 : (.code yX8_askNow cX8_askNow 8 (some .int) : Cond) ∈ tb := tb_mem 1290 (by decide +kernel) rfl
theorem kw1291 : (.methodLink RL 97 yX8_drawn : Cond) ∈ tb := tb_mem 1291 (by decide +kernel) rfl
theorem kw1292 : (.instanceMethod yX8_drawn : Cond) ∈ tb := tb_mem 1292 (by decide +kernel) rfl
theorem kw1293 : (.selects RX8 yX8_drawn yX8_drawn : Cond) ∈ tb := tb_mem 1293 (by decide +kernel) rfl
theorem kw1294 : (.code yX8_drawn cX8_drawn 4 (some .int) : Cond) ∈ tb := tb_mem 1294 (by decide +kernel) rfl
theorem kw1295 : (.methodLink RX8 344 yX8_drawnNow : Cond) ∈ tb := tb_mem 1295 (by decide +kernel) rfl
theorem kw1297 : (.instanceMethod yX8_drawnNow : Cond) ∈ tb := tb_mem 1297 (by decide +kernel) rfl
theorem kw1298 : (.code yX8_drawnNow cX8_drawnNow 11 (some .int) : Cond) ∈ tb := tb_mem 1298 (by decide +kernel) rfl
theorem kw1299 : (.methodLink RX8 341 yX8_draw : Cond) ∈ tb := tb_mem 1299 (by decide +kernel) rfl
theorem kw1301 : (.instanceMethod yX8_draw : Cond) ∈ tb := tb_mem 1301 (by decide +kernel) rfl
theorem kw1302 : (.code yX8_draw cX8_draw 2 (some .int) : Cond) ∈ tb := tb_mem 1302 (by decide +kernel) rfl
theorem kw1303 : (.constantLong RX8 329 (1103515245) : Cond) ∈ tb := tb_mem 1303 (by decide +kernel) rfl
theorem kw1304 : (.constantLong RX8 335 (12345) : Cond) ∈ tb := tb_mem 1304 (by decide +kernel) rfl
theorem kw1305 : (.constantLong RX8 337 (2147483647) : Cond) ∈ tb := tb_mem 1305 (by decide +kernel) rfl
theorem kw1306 : (.constantLong RX8 339 (65536) : Cond) ∈ tb := tb_mem 1306 (by decide +kernel) rfl
theorem kw1307 : (.methodLink RL 101 yX8_image : Cond) ∈ tb := tb_mem 1307 (by decide +kernel) rfl
theorem kw1308 : (.instanceMethod yX8_image : Cond) ∈ tb := tb_mem 1308 (by decide +kernel) rfl
theorem kw1309 : (.selects RX8 yX8_image yX8_image : Cond) ∈ tb := tb_mem 1309 (by decide +kernel) rfl
theorem kw1310 : (.code yX8_image cX8_image 2 (some .int) : Cond) ∈ tb := tb_mem 1310 (by decide +kernel) rfl
theorem kw1311 : (.methodLink RL 105 yX8_restore : Cond) ∈ tb := tb_mem 1311 (by decide +kernel) rfl
theorem kw1312 : (.instanceMethod yX8_restore : Cond) ∈ tb := tb_mem 1312 (by decide +kernel) rfl
theorem kw1313 : (.selects RX8 yX8_restore yX8_restore : Cond) ∈ tb := tb_mem 1313 (by decide +kernel) rfl
theorem kw1314 : (.code yX8_restore cX8_restore 2 (some .int) : Cond) ∈ tb := tb_mem 1314 (by decide +kernel) rfl
theorem kw1315 : (.methodLink RL 109 yX8_count : Cond) ∈ tb := tb_mem 1315 (by decide +kernel) rfl
theorem kw1316 : (.instanceMethod yX8_count : Cond) ∈ tb := tb_mem 1316 (by decide +kernel) rfl
theorem kw1317 : (.selects RX8 yX8_count yX8_count : Cond) ∈ tb := tb_mem 1317 (by decide +kernel) rfl
theorem kw1318 : (.code yX8_count cX8_count 2 (some .int) : Cond) ∈ tb := tb_mem 1318 (by decide +kernel) rfl
theorem kw1319 : (.methodLink RX8 374 yX8_howMany : Cond) ∈ tb := tb_mem 1319 (by decide +kernel) rfl
theorem kw1321 : (.instanceMethod yX8_howMany : Cond) ∈ tb := tb_mem 1321 (by decide +kernel) rfl
theorem kw1322 : (.code yX8_howMany cX8_howMany 2 (some .int) : Cond) ∈ tb := tb_mem 1322 (by decide +kernel) rfl
theorem kw1323 : (.methodLink RX8 368 yX8_keysOfAll : Cond) ∈ tb := tb_mem 1323 (by decide +kernel) rfl
theorem kw1325 : (.instanceMethod yX8_keysOfAll : Cond) ∈ tb := tb_mem 1325 (by decide +kernel) rfl
theorem kw1326 : (.code yX8_keysOfAll cX8_keysOfAll 4 (some .int) : Cond) ∈ tb := tb_mem 1326 (by decide +kernel) rfl
theorem kw1327 : (.methodLink RX8 371 yX8_pairs : Cond) ∈ tb := tb_mem 1327 (by decide +kernel) rfl
theorem kw1329 : (.instanceMethod yX8_pairs : Cond) ∈ tb := tb_mem 1329 (by decide +kernel) rfl
theorem kw1330 : (.code yX8_pairs cX8_pairs 3 (some .int) : Cond) ∈ tb := tb_mem 1330 (by decide +kernel) rfl
theorem kw1331 : (.methodLink RL 114 yX8_digest : Cond) ∈ tb := tb_mem 1331 (by decide +kernel) rfl
theorem kw1332 : (.instanceMethod yX8_digest : Cond) ∈ tb := tb_mem 1332 (by decide +kernel) rfl
theorem kw1333 : (.selects RX8 yX8_digest yX8_digest : Cond) ∈ tb := tb_mem 1333 (by decide +kernel) rfl
theorem kw1334 : (.code yX8_digest cX8_digest 2 (some .long) : Cond) ∈ tb := tb_mem 1334 (by decide +kernel) rfl
theorem kw1335 : (.constantLong RX8 386 (1373) : Cond) ∈ tb := tb_mem 1335 (by decide +kernel) rfl
theorem kw1336 : (.methodLink RX8 388 yX8_mixRows : Cond) ∈ tb := tb_mem 1336 (by decide +kernel) rfl
theorem kw1338 : (.instanceMethod yX8_mixRows : Cond) ∈ tb := tb_mem 1338 (by decide +kernel) rfl
theorem kw1339 : (.code yX8_mixRows cX8_mixRows 3 none : Cond) ∈ tb := tb_mem 1339 (by decide +kernel) rfl
theorem kw1340 : (.methodLink RX8 382 yX8_mix : Cond) ∈ tb := tb_mem 1340 (by decide +kernel) rfl
theorem kw1342 : (.instanceMethod yX8_mix : Cond) ∈ tb := tb_mem 1342 (by decide +kernel) rfl
theorem kw1343 : (.code yX8_mix cX8_mix 3 none : Cond) ∈ tb := tb_mem 1343 (by decide +kernel) rfl
theorem kw1344 : (.constantLong RX8 377 (31) : Cond) ∈ tb := tb_mem 1344 (by decide +kernel) rfl
theorem kw1345 : (.methodLink RX8 391 yX8_mixTold : Cond) ∈ tb := tb_mem 1345 (by decide +kernel) rfl
theorem kw1347 : (.instanceMethod yX8_mixTold : Cond) ∈ tb := tb_mem 1347 (by decide +kernel) rfl
theorem kw1348 : (.code yX8_mixTold cX8_mixTold 3 none : Cond) ∈ tb := tb_mem 1348 (by decide +kernel) rfl
theorem kw1349 : (.fieldLink RJ0 15 "java/lang/String" "coder" "B" : Cond) ∈ tb := tb_mem 1349 (by decide +kernel) rfl
theorem kw1350 : (.fieldLink RJ0 9 "java/lang/String" "value" "[B" : Cond) ∈ tb := tb_mem 1350 (by decide +kernel) rfl
end
section
theorem dX0_init_0 : decode cX0_init 0 = .ok (.aload_n 0, 1) := by decide +kernel
theorem dX0_init_1 : decode cX0_init 1 = .ok (.invokespecial 3, 3) := by decide +kernel
theorem dX0_init_4 : decode cX0_init 4 = .ok (.aload_n 0, 1) := by decide +kernel
theorem dX0_init_5 : decode cX0_init 5 = .ok (.sipush 200, 3) := by decide +kernel
theorem dX0_init_8 : decode cX0_init 8 = .ok (.newarray .int, 2) := by decide +kernel
theorem dX0_init_10 : decode cX0_init 10 = .ok (.putfield 11, 3) := by decide +kernel
theorem dX0_init_13 : decode cX0_init 13 = .ok (.aload_n 0, 1) := by decide +kernel
theorem dX0_init_14 : decode cX0_init 14 = .ok (.sipush 200, 3) := by decide +kernel
theorem dX0_init_17 : decode cX0_init 17 = .ok (.newarray .int, 2) := by decide +kernel
theorem dX0_init_19 : decode cX0_init 19 = .ok (.putfield 15, 3) := by decide +kernel
theorem dX0_init_22 : decode cX0_init 22 = .ok (.aload_n 0, 1) := by decide +kernel
theorem dX0_init_23 : decode cX0_init 23 = .ok (.sipush 200, 3) := by decide +kernel
theorem dX0_init_26 : decode cX0_init 26 = .ok (.newarray .int, 2) := by decide +kernel
theorem dX0_init_28 : decode cX0_init 28 = .ok (.putfield 18, 3) := by decide +kernel
theorem dX0_init_31 : decode cX0_init 31 = .ok (.aload_n 0, 1) := by decide +kernel
theorem dX0_init_32 : decode cX0_init 32 = .ok (.bipush 30, 2) := by decide +kernel
theorem dX0_init_34 : decode cX0_init 34 = .ok (.newarray .int, 2) := by decide +kernel
theorem dX0_init_36 : decode cX0_init 36 = .ok (.putfield 21, 3) := by decide +kernel
theorem dX0_init_39 : decode cX0_init 39 = .ok (.aload_n 0, 1) := by decide +kernel
theorem dX0_init_40 : decode cX0_init 40 = .ok (.bipush 30, 2) := by decide +kernel
theorem dX0_init_42 : decode cX0_init 42 = .ok (.newarray .int, 2) := by decide +kernel
theorem dX0_init_44 : decode cX0_init 44 = .ok (.putfield 24, 3) := by decide +kernel
theorem dX0_init_47 : decode cX0_init 47 = .ok (.return_, 1) := by decide +kernel
theorem dX0_clear_0 : decode cX0_clear 0 = .ok (.aload_n 0, 1) := by decide +kernel
theorem dX0_clear_1 : decode cX0_clear 1 = .ok (.iconst 0, 1) := by decide +kernel
theorem dX0_clear_2 : decode cX0_clear 2 = .ok (.putfield 27, 3) := by decide +kernel
theorem dX0_clear_5 : decode cX0_clear 5 = .ok (.aload_n 0, 1) := by decide +kernel
theorem dX0_clear_6 : decode cX0_clear 6 = .ok (.iconst 0, 1) := by decide +kernel
theorem dX0_clear_7 : decode cX0_clear 7 = .ok (.putfield 31, 3) := by decide +kernel
theorem dX0_clear_10 : decode cX0_clear 10 = .ok (.aload_n 0, 1) := by decide +kernel
theorem dX0_clear_11 : decode cX0_clear 11 = .ok (.iconst 0, 1) := by decide +kernel
theorem dX0_clear_12 : decode cX0_clear 12 = .ok (.putfield 34, 3) := by decide +kernel
theorem dX0_clear_15 : decode cX0_clear 15 = .ok (.return_, 1) := by decide +kernel
theorem dX0_open_0 : decode cX0_open 0 = .ok (.aload_n 0, 1) := by decide +kernel
theorem dX0_open_1 : decode cX0_open 1 = .ok (.getfield 31, 3) := by decide +kernel
theorem dX0_open_4 : decode cX0_open 4 = .ok (.ifCond .lt 65, 3) := by decide +kernel
theorem dX0_open_7 : decode cX0_open 7 = .ok (.aload_n 0, 1) := by decide +kernel
theorem dX0_open_8 : decode cX0_open 8 = .ok (.getfield 31, 3) := by decide +kernel
theorem dX0_open_11 : decode cX0_open 11 = .ok (.bipush 30, 2) := by decide +kernel
theorem dX0_open_13 : decode cX0_open 13 = .ok (.if_icmp .ge 56, 3) := by decide +kernel
theorem dX0_open_16 : decode cX0_open 16 = .ok (.aload_n 0, 1) := by decide +kernel
theorem dX0_open_17 : decode cX0_open 17 = .ok (.getfield 21, 3) := by decide +kernel
theorem dX0_open_20 : decode cX0_open 20 = .ok (.aload_n 0, 1) := by decide +kernel
theorem dX0_open_21 : decode cX0_open 21 = .ok (.getfield 31, 3) := by decide +kernel
theorem dX0_open_24 : decode cX0_open 24 = .ok (.aload_n 0, 1) := by decide +kernel
theorem dX0_open_25 : decode cX0_open 25 = .ok (.getfield 34, 3) := by decide +kernel
theorem dX0_open_28 : decode cX0_open 28 = .ok (.iastore, 1) := by decide +kernel
theorem dX0_open_29 : decode cX0_open 29 = .ok (.aload_n 0, 1) := by decide +kernel
theorem dX0_open_30 : decode cX0_open 30 = .ok (.getfield 24, 3) := by decide +kernel
theorem dX0_open_33 : decode cX0_open 33 = .ok (.aload_n 0, 1) := by decide +kernel
theorem dX0_open_34 : decode cX0_open 34 = .ok (.getfield 31, 3) := by decide +kernel
theorem dX0_open_37 : decode cX0_open 37 = .ok (.iload_n 1, 1) := by decide +kernel
theorem dX0_open_38 : decode cX0_open 38 = .ok (.iastore, 1) := by decide +kernel
theorem dX0_open_39 : decode cX0_open 39 = .ok (.aload_n 0, 1) := by decide +kernel
theorem dX0_open_40 : decode cX0_open 40 = .ok (.dup, 1) := by decide +kernel
theorem dX0_open_41 : decode cX0_open 41 = .ok (.getfield 31, 3) := by decide +kernel
theorem dX0_open_44 : decode cX0_open 44 = .ok (.iconst 1, 1) := by decide +kernel
theorem dX0_open_45 : decode cX0_open 45 = .ok (.iadd, 1) := by decide +kernel
theorem dX0_open_46 : decode cX0_open 46 = .ok (.putfield 31, 3) := by decide +kernel
theorem dX0_open_49 : decode cX0_open 49 = .ok (.aload_n 0, 1) := by decide +kernel
theorem dX0_open_50 : decode cX0_open 50 = .ok (.aload_n 0, 1) := by decide +kernel
theorem dX0_open_51 : decode cX0_open 51 = .ok (.getfield 34, 3) := by decide +kernel
theorem dX0_open_54 : decode cX0_open 54 = .ok (.iconst 1, 1) := by decide +kernel
theorem dX0_open_55 : decode cX0_open 55 = .ok (.iload_n 1, 1) := by decide +kernel
theorem dX0_open_56 : decode cX0_open 56 = .ok (.invokevirtual 37, 3) := by decide +kernel
theorem dX0_open_59 : decode cX0_open 59 = .ok (.aload_n 0, 1) := by decide +kernel
theorem dX0_open_60 : decode cX0_open 60 = .ok (.dup, 1) := by decide +kernel
theorem dX0_open_61 : decode cX0_open 61 = .ok (.getfield 34, 3) := by decide +kernel
theorem dX0_open_64 : decode cX0_open 64 = .ok (.iconst 1, 1) := by decide +kernel
theorem dX0_open_65 : decode cX0_open 65 = .ok (.iadd, 1) := by decide +kernel
theorem dX0_open_66 : decode cX0_open 66 = .ok (.putfield 34, 3) := by decide +kernel
theorem dX0_open_69 : decode cX0_open 69 = .ok (.return_, 1) := by decide +kernel
theorem dX0_shutDownTo_0 : decode cX0_shutDownTo 0 = .ok (.aload_n 0, 1) := by decide +kernel
theorem dX0_shutDownTo_1 : decode cX0_shutDownTo 1 = .ok (.getfield 31, 3) := by decide +kernel
theorem dX0_shutDownTo_4 : decode cX0_shutDownTo 4 = .ok (.iconst 1, 1) := by decide +kernel
theorem dX0_shutDownTo_5 : decode cX0_shutDownTo 5 = .ok (.isub, 1) := by decide +kernel
theorem dX0_shutDownTo_6 : decode cX0_shutDownTo 6 = .ok (.istore_n 2, 1) := by decide +kernel
theorem dX0_shutDownTo_7 : decode cX0_shutDownTo 7 = .ok (.iload_n 2, 1) := by decide +kernel
theorem dX0_shutDownTo_8 : decode cX0_shutDownTo 8 = .ok (.iload_n 1, 1) := by decide +kernel
theorem dX0_shutDownTo_9 : decode cX0_shutDownTo 9 = .ok (.if_icmp .lt 41, 3) := by decide +kernel
theorem dX0_shutDownTo_12 : decode cX0_shutDownTo 12 = .ok (.iload_n 2, 1) := by decide +kernel
theorem dX0_shutDownTo_13 : decode cX0_shutDownTo 13 = .ok (.ifCond .lt 37, 3) := by decide +kernel
theorem dX0_shutDownTo_16 : decode cX0_shutDownTo 16 = .ok (.iload_n 2, 1) := by decide +kernel
theorem dX0_shutDownTo_17 : decode cX0_shutDownTo 17 = .ok (.bipush 30, 2) := by decide +kernel
theorem dX0_shutDownTo_19 : decode cX0_shutDownTo 19 = .ok (.if_icmp .ge 31, 3) := by decide +kernel
theorem dX0_shutDownTo_22 : decode cX0_shutDownTo 22 = .ok (.aload_n 0, 1) := by decide +kernel
theorem dX0_shutDownTo_23 : decode cX0_shutDownTo 23 = .ok (.aload_n 0, 1) := by decide +kernel
theorem dX0_shutDownTo_24 : decode cX0_shutDownTo 24 = .ok (.getfield 21, 3) := by decide +kernel
theorem dX0_shutDownTo_27 : decode cX0_shutDownTo 27 = .ok (.iload_n 2, 1) := by decide +kernel
theorem dX0_shutDownTo_28 : decode cX0_shutDownTo 28 = .ok (.iaload, 1) := by decide +kernel
theorem dX0_shutDownTo_29 : decode cX0_shutDownTo 29 = .ok (.iconst 0, 1) := by decide +kernel
theorem dX0_shutDownTo_30 : decode cX0_shutDownTo 30 = .ok (.aload_n 0, 1) := by decide +kernel
theorem dX0_shutDownTo_31 : decode cX0_shutDownTo 31 = .ok (.getfield 24, 3) := by decide +kernel
theorem dX0_shutDownTo_34 : decode cX0_shutDownTo 34 = .ok (.iload_n 2, 1) := by decide +kernel
theorem dX0_shutDownTo_35 : decode cX0_shutDownTo 35 = .ok (.iaload, 1) := by decide +kernel
theorem dX0_shutDownTo_36 : decode cX0_shutDownTo 36 = .ok (.invokevirtual 37, 3) := by decide +kernel
theorem dX0_shutDownTo_39 : decode cX0_shutDownTo 39 = .ok (.aload_n 0, 1) := by decide +kernel
theorem dX0_shutDownTo_40 : decode cX0_shutDownTo 40 = .ok (.iload_n 2, 1) := by decide +kernel
theorem dX0_shutDownTo_41 : decode cX0_shutDownTo 41 = .ok (.putfield 31, 3) := by decide +kernel
theorem dX0_shutDownTo_44 : decode cX0_shutDownTo 44 = .ok (.iinc 2 (-1), 3) := by decide +kernel
theorem dX0_shutDownTo_47 : decode cX0_shutDownTo 47 = .ok (.goto (-40), 3) := by decide +kernel
theorem dX0_shutDownTo_50 : decode cX0_shutDownTo 50 = .ok (.return_, 1) := by decide +kernel
theorem dX0_add_0 : decode cX0_add 0 = .ok (.aload_n 0, 1) := by decide +kernel
theorem dX0_add_1 : decode cX0_add 1 = .ok (.getfield 27, 3) := by decide +kernel
theorem dX0_add_4 : decode cX0_add 4 = .ok (.ifCond .lt 53, 3) := by decide +kernel
theorem dX0_add_7 : decode cX0_add 7 = .ok (.aload_n 0, 1) := by decide +kernel
theorem dX0_add_8 : decode cX0_add 8 = .ok (.getfield 27, 3) := by decide +kernel
theorem dX0_add_11 : decode cX0_add 11 = .ok (.sipush 200, 3) := by decide +kernel
theorem dX0_add_14 : decode cX0_add 14 = .ok (.if_icmp .ge 43, 3) := by decide +kernel
theorem dX0_add_17 : decode cX0_add 17 = .ok (.aload_n 0, 1) := by decide +kernel
theorem dX0_add_18 : decode cX0_add 18 = .ok (.getfield 11, 3) := by decide +kernel
theorem dX0_add_21 : decode cX0_add 21 = .ok (.aload_n 0, 1) := by decide +kernel
theorem dX0_add_22 : decode cX0_add 22 = .ok (.getfield 27, 3) := by decide +kernel
theorem dX0_add_25 : decode cX0_add 25 = .ok (.iload_n 1, 1) := by decide +kernel
theorem dX0_add_26 : decode cX0_add 26 = .ok (.iastore, 1) := by decide +kernel
theorem dX0_add_27 : decode cX0_add 27 = .ok (.aload_n 0, 1) := by decide +kernel
theorem dX0_add_28 : decode cX0_add 28 = .ok (.getfield 15, 3) := by decide +kernel
theorem dX0_add_31 : decode cX0_add 31 = .ok (.aload_n 0, 1) := by decide +kernel
theorem dX0_add_32 : decode cX0_add 32 = .ok (.getfield 27, 3) := by decide +kernel
theorem dX0_add_35 : decode cX0_add 35 = .ok (.iload_n 2, 1) := by decide +kernel
theorem dX0_add_36 : decode cX0_add 36 = .ok (.iastore, 1) := by decide +kernel
theorem dX0_add_37 : decode cX0_add 37 = .ok (.aload_n 0, 1) := by decide +kernel
theorem dX0_add_38 : decode cX0_add 38 = .ok (.getfield 18, 3) := by decide +kernel
theorem dX0_add_41 : decode cX0_add 41 = .ok (.aload_n 0, 1) := by decide +kernel
theorem dX0_add_42 : decode cX0_add 42 = .ok (.getfield 27, 3) := by decide +kernel
theorem dX0_add_45 : decode cX0_add 45 = .ok (.iload_n 3, 1) := by decide +kernel
theorem dX0_add_46 : decode cX0_add 46 = .ok (.iastore, 1) := by decide +kernel
theorem dX0_add_47 : decode cX0_add 47 = .ok (.aload_n 0, 1) := by decide +kernel
theorem dX0_add_48 : decode cX0_add 48 = .ok (.dup, 1) := by decide +kernel
theorem dX0_add_49 : decode cX0_add 49 = .ok (.getfield 27, 3) := by decide +kernel
theorem dX0_add_52 : decode cX0_add 52 = .ok (.iconst 1, 1) := by decide +kernel
theorem dX0_add_53 : decode cX0_add 53 = .ok (.iadd, 1) := by decide +kernel
theorem dX0_add_54 : decode cX0_add 54 = .ok (.putfield 27, 3) := by decide +kernel
theorem dX0_add_57 : decode cX0_add 57 = .ok (.return_, 1) := by decide +kernel
theorem dX0_at_0 : decode cX0_at 0 = .ok (.iload_n 1, 1) := by decide +kernel
theorem dX0_at_1 : decode cX0_at 1 = .ok (.ifCond .lt 18, 3) := by decide +kernel
theorem dX0_at_4 : decode cX0_at 4 = .ok (.iload_n 1, 1) := by decide +kernel
theorem dX0_at_5 : decode cX0_at 5 = .ok (.aload_n 0, 1) := by decide +kernel
theorem dX0_at_6 : decode cX0_at 6 = .ok (.getfield 27, 3) := by decide +kernel
theorem dX0_at_9 : decode cX0_at 9 = .ok (.if_icmp .ge 10, 3) := by decide +kernel
theorem dX0_at_12 : decode cX0_at 12 = .ok (.iload_n 1, 1) := by decide +kernel
theorem dX0_at_13 : decode cX0_at 13 = .ok (.sipush 200, 3) := by decide +kernel
theorem dX0_at_16 : decode cX0_at 16 = .ok (.if_icmp .lt 6, 3) := by decide +kernel
theorem dX0_at_19 : decode cX0_at 19 = .ok (.bipush (-101), 2) := by decide +kernel
theorem dX0_at_21 : decode cX0_at 21 = .ok (.ireturn, 1) := by decide +kernel
theorem dX0_at_22 : decode cX0_at 22 = .ok (.iload_n 2, 1) := by decide +kernel
theorem dX0_at_23 : decode cX0_at 23 = .ok (.ifCond .ne 10, 3) := by decide +kernel
theorem dX0_at_26 : decode cX0_at 26 = .ok (.aload_n 0, 1) := by decide +kernel
theorem dX0_at_27 : decode cX0_at 27 = .ok (.getfield 11, 3) := by decide +kernel
theorem dX0_at_30 : decode cX0_at 30 = .ok (.iload_n 1, 1) := by decide +kernel
theorem dX0_at_31 : decode cX0_at 31 = .ok (.iaload, 1) := by decide +kernel
theorem dX0_at_32 : decode cX0_at 32 = .ok (.ireturn, 1) := by decide +kernel
theorem dX0_at_33 : decode cX0_at 33 = .ok (.iload_n 2, 1) := by decide +kernel
theorem dX0_at_34 : decode cX0_at 34 = .ok (.iconst 1, 1) := by decide +kernel
theorem dX0_at_35 : decode cX0_at 35 = .ok (.if_icmp .ne 12, 3) := by decide +kernel
theorem dX0_at_38 : decode cX0_at 38 = .ok (.aload_n 0, 1) := by decide +kernel
theorem dX0_at_39 : decode cX0_at 39 = .ok (.getfield 15, 3) := by decide +kernel
theorem dX0_at_42 : decode cX0_at 42 = .ok (.iload_n 1, 1) := by decide +kernel
theorem dX0_at_43 : decode cX0_at 43 = .ok (.iaload, 1) := by decide +kernel
theorem dX0_at_44 : decode cX0_at 44 = .ok (.goto 9, 3) := by decide +kernel
theorem dX0_at_47 : decode cX0_at 47 = .ok (.aload_n 0, 1) := by decide +kernel
theorem dX0_at_48 : decode cX0_at 48 = .ok (.getfield 18, 3) := by decide +kernel
theorem dX0_at_51 : decode cX0_at 51 = .ok (.iload_n 1, 1) := by decide +kernel
theorem dX0_at_52 : decode cX0_at 52 = .ok (.iaload, 1) := by decide +kernel
theorem dX0_at_53 : decode cX0_at 53 = .ok (.ireturn, 1) := by decide +kernel
theorem dX1_init_0 : decode cX1_init 0 = .ok (.aload_n 0, 1) := by decide +kernel
theorem dX1_init_1 : decode cX1_init 1 = .ok (.invokespecial 3, 3) := by decide +kernel
theorem dX1_init_4 : decode cX1_init 4 = .ok (.aload_n 0, 1) := by decide +kernel
theorem dX1_init_5 : decode cX1_init 5 = .ok (.sipush 250, 3) := by decide +kernel
theorem dX1_init_8 : decode cX1_init 8 = .ok (.newarray .int, 2) := by decide +kernel
theorem dX1_init_10 : decode cX1_init 10 = .ok (.putfield 9, 3) := by decide +kernel
theorem dX1_init_13 : decode cX1_init 13 = .ok (.aload_n 0, 1) := by decide +kernel
theorem dX1_init_14 : decode cX1_init 14 = .ok (.sipush 250, 3) := by decide +kernel
theorem dX1_init_17 : decode cX1_init 17 = .ok (.newarray .int, 2) := by decide +kernel
theorem dX1_init_19 : decode cX1_init 19 = .ok (.putfield 15, 3) := by decide +kernel
theorem dX1_init_22 : decode cX1_init 22 = .ok (.return_, 1) := by decide +kernel
theorem dX1_clear_0 : decode cX1_clear 0 = .ok (.aload_n 0, 1) := by decide +kernel
theorem dX1_clear_1 : decode cX1_clear 1 = .ok (.iconst 0, 1) := by decide +kernel
theorem dX1_clear_2 : decode cX1_clear 2 = .ok (.putfield 18, 3) := by decide +kernel
theorem dX1_clear_5 : decode cX1_clear 5 = .ok (.aload_n 0, 1) := by decide +kernel
theorem dX1_clear_6 : decode cX1_clear 6 = .ok (.iload_n 1, 1) := by decide +kernel
theorem dX1_clear_7 : decode cX1_clear 7 = .ok (.putfield 22, 3) := by decide +kernel
theorem dX1_clear_10 : decode cX1_clear 10 = .ok (.aload_n 0, 1) := by decide +kernel
theorem dX1_clear_11 : decode cX1_clear 11 = .ok (.iconst 0, 1) := by decide +kernel
theorem dX1_clear_12 : decode cX1_clear 12 = .ok (.putfield 25, 3) := by decide +kernel
theorem dX1_clear_15 : decode cX1_clear 15 = .ok (.return_, 1) := by decide +kernel
theorem dX1_add_0 : decode cX1_add 0 = .ok (.aload_n 0, 1) := by decide +kernel
theorem dX1_add_1 : decode cX1_add 1 = .ok (.getfield 18, 3) := by decide +kernel
theorem dX1_add_4 : decode cX1_add 4 = .ok (.ifCond .lt 24, 3) := by decide +kernel
theorem dX1_add_7 : decode cX1_add 7 = .ok (.aload_n 0, 1) := by decide +kernel
theorem dX1_add_8 : decode cX1_add 8 = .ok (.getfield 18, 3) := by decide +kernel
theorem dX1_add_11 : decode cX1_add 11 = .ok (.aload_n 0, 1) := by decide +kernel
theorem dX1_add_12 : decode cX1_add 12 = .ok (.getfield 22, 3) := by decide +kernel
theorem dX1_add_15 : decode cX1_add 15 = .ok (.if_icmp .ge 13, 3) := by decide +kernel
theorem dX1_add_18 : decode cX1_add 18 = .ok (.aload_n 0, 1) := by decide +kernel
theorem dX1_add_19 : decode cX1_add 19 = .ok (.getfield 18, 3) := by decide +kernel
theorem dX1_add_22 : decode cX1_add 22 = .ok (.sipush 250, 3) := by decide +kernel
theorem dX1_add_25 : decode cX1_add 25 = .ok (.if_icmp .lt 9, 3) := by decide +kernel
theorem dX1_add_28 : decode cX1_add 28 = .ok (.aload_n 0, 1) := by decide +kernel
theorem dX1_add_29 : decode cX1_add 29 = .ok (.iconst 1, 1) := by decide +kernel
theorem dX1_add_30 : decode cX1_add 30 = .ok (.putfield 25, 3) := by decide +kernel
theorem dX1_add_33 : decode cX1_add 33 = .ok (.return_, 1) := by decide +kernel
theorem dX1_add_34 : decode cX1_add 34 = .ok (.aload_n 0, 1) := by decide +kernel
theorem dX1_add_35 : decode cX1_add 35 = .ok (.getfield 9, 3) := by decide +kernel
theorem dX1_add_38 : decode cX1_add 38 = .ok (.aload_n 0, 1) := by decide +kernel
theorem dX1_add_39 : decode cX1_add 39 = .ok (.getfield 18, 3) := by decide +kernel
theorem dX1_add_42 : decode cX1_add 42 = .ok (.iload_n 1, 1) := by decide +kernel
theorem dX1_add_43 : decode cX1_add 43 = .ok (.iastore, 1) := by decide +kernel
theorem dX1_add_44 : decode cX1_add 44 = .ok (.aload_n 0, 1) := by decide +kernel
theorem dX1_add_45 : decode cX1_add 45 = .ok (.getfield 15, 3) := by decide +kernel
theorem dX1_add_48 : decode cX1_add 48 = .ok (.aload_n 0, 1) := by decide +kernel
theorem dX1_add_49 : decode cX1_add 49 = .ok (.getfield 18, 3) := by decide +kernel
theorem dX1_add_52 : decode cX1_add 52 = .ok (.iload_n 2, 1) := by decide +kernel
theorem dX1_add_53 : decode cX1_add 53 = .ok (.iastore, 1) := by decide +kernel
theorem dX1_add_54 : decode cX1_add 54 = .ok (.aload_n 0, 1) := by decide +kernel
theorem dX1_add_55 : decode cX1_add 55 = .ok (.dup, 1) := by decide +kernel
theorem dX1_add_56 : decode cX1_add 56 = .ok (.getfield 18, 3) := by decide +kernel
theorem dX1_add_59 : decode cX1_add 59 = .ok (.iconst 1, 1) := by decide +kernel
theorem dX1_add_60 : decode cX1_add 60 = .ok (.iadd, 1) := by decide +kernel
theorem dX1_add_61 : decode cX1_add 61 = .ok (.putfield 18, 3) := by decide +kernel
theorem dX1_add_64 : decode cX1_add 64 = .ok (.return_, 1) := by decide +kernel
theorem dX1_at_0 : decode cX1_at 0 = .ok (.iload_n 1, 1) := by decide +kernel
theorem dX1_at_1 : decode cX1_at 1 = .ok (.ifCond .lt 18, 3) := by decide +kernel
theorem dX1_at_4 : decode cX1_at 4 = .ok (.iload_n 1, 1) := by decide +kernel
theorem dX1_at_5 : decode cX1_at 5 = .ok (.aload_n 0, 1) := by decide +kernel
theorem dX1_at_6 : decode cX1_at 6 = .ok (.getfield 18, 3) := by decide +kernel
theorem dX1_at_9 : decode cX1_at 9 = .ok (.if_icmp .ge 10, 3) := by decide +kernel
theorem dX1_at_12 : decode cX1_at 12 = .ok (.iload_n 1, 1) := by decide +kernel
theorem dX1_at_13 : decode cX1_at 13 = .ok (.sipush 250, 3) := by decide +kernel
theorem dX1_at_16 : decode cX1_at 16 = .ok (.if_icmp .lt 6, 3) := by decide +kernel
theorem dX1_at_19 : decode cX1_at 19 = .ok (.bipush (-101), 2) := by decide +kernel
theorem dX1_at_21 : decode cX1_at 21 = .ok (.ireturn, 1) := by decide +kernel
theorem dX1_at_22 : decode cX1_at 22 = .ok (.iload_n 2, 1) := by decide +kernel
theorem dX1_at_23 : decode cX1_at 23 = .ok (.ifCond .ne 12, 3) := by decide +kernel
theorem dX1_at_26 : decode cX1_at 26 = .ok (.aload_n 0, 1) := by decide +kernel
theorem dX1_at_27 : decode cX1_at 27 = .ok (.getfield 9, 3) := by decide +kernel
theorem dX1_at_30 : decode cX1_at 30 = .ok (.iload_n 1, 1) := by decide +kernel
theorem dX1_at_31 : decode cX1_at 31 = .ok (.iaload, 1) := by decide +kernel
theorem dX1_at_32 : decode cX1_at 32 = .ok (.goto 9, 3) := by decide +kernel
theorem dX1_at_35 : decode cX1_at 35 = .ok (.aload_n 0, 1) := by decide +kernel
theorem dX1_at_36 : decode cX1_at 36 = .ok (.getfield 15, 3) := by decide +kernel
theorem dX1_at_39 : decode cX1_at 39 = .ok (.iload_n 1, 1) := by decide +kernel
theorem dX1_at_40 : decode cX1_at 40 = .ok (.iaload, 1) := by decide +kernel
theorem dX1_at_41 : decode cX1_at 41 = .ok (.ireturn, 1) := by decide +kernel
theorem dX2_init_0 : decode cX2_init 0 = .ok (.aload_n 0, 1) := by decide +kernel
theorem dX2_init_1 : decode cX2_init 1 = .ok (.invokespecial 3, 3) := by decide +kernel
theorem dX2_init_4 : decode cX2_init 4 = .ok (.aload_n 0, 1) := by decide +kernel
theorem dX2_init_5 : decode cX2_init 5 = .ok (.bipush 36, 2) := by decide +kernel
theorem dX2_init_7 : decode cX2_init 7 = .ok (.newarray .int, 2) := by decide +kernel
theorem dX2_init_9 : decode cX2_init 9 = .ok (.putfield 11, 3) := by decide +kernel
theorem dX2_init_12 : decode cX2_init 12 = .ok (.return_, 1) := by decide +kernel
theorem dX2_kindOf_0 : decode cX2_kindOf 0 = .ok (.ldc 15, 2) := by decide +kernel
theorem dX2_kindOf_2 : decode cX2_kindOf 2 = .ok (.iload_n 0, 1) := by decide +kernel
theorem dX2_kindOf_3 : decode cX2_kindOf 3 = .ok (.i2c, 1) := by decide +kernel
theorem dX2_kindOf_4 : decode cX2_kindOf 4 = .ok (.invokevirtual 17, 3) := by decide +kernel
theorem dX2_kindOf_7 : decode cX2_kindOf 7 = .ok (.ireturn, 1) := by decide +kernel
theorem dX2_isRow_0 : decode cX2_isRow 0 = .ok (.iload_n 0, 1) := by decide +kernel
theorem dX2_isRow_1 : decode cX2_isRow 1 = .ok (.bipush 45, 2) := by decide +kernel
theorem dX2_isRow_3 : decode cX2_isRow 3 = .ok (.if_icmp .eq 15, 3) := by decide +kernel
theorem dX2_isRow_6 : decode cX2_isRow 6 = .ok (.iload_n 0, 1) := by decide +kernel
theorem dX2_isRow_7 : decode cX2_isRow 7 = .ok (.bipush 97, 2) := by decide +kernel
theorem dX2_isRow_9 : decode cX2_isRow 9 = .ok (.if_icmp .lt 13, 3) := by decide +kernel
theorem dX2_isRow_12 : decode cX2_isRow 12 = .ok (.iload_n 0, 1) := by decide +kernel
theorem dX2_isRow_13 : decode cX2_isRow 13 = .ok (.bipush 112, 2) := by decide +kernel
theorem dX2_isRow_15 : decode cX2_isRow 15 = .ok (.if_icmp .gt 7, 3) := by decide +kernel
theorem dX2_isRow_18 : decode cX2_isRow 18 = .ok (.iconst 1, 1) := by decide +kernel
theorem dX2_isRow_19 : decode cX2_isRow 19 = .ok (.goto 4, 3) := by decide +kernel
theorem dX2_isRow_22 : decode cX2_isRow 22 = .ok (.iconst 0, 1) := by decide +kernel
theorem dX2_isRow_23 : decode cX2_isRow 23 = .ok (.ireturn, 1) := by decide +kernel
theorem dX2_isFull_0 : decode cX2_isFull 0 = .ok (.aload_n 0, 1) := by decide +kernel
theorem dX2_isFull_1 : decode cX2_isFull 1 = .ok (.getfield 23, 3) := by decide +kernel
theorem dX2_isFull_4 : decode cX2_isFull 4 = .ok (.bipush 36, 2) := by decide +kernel
theorem dX2_isFull_6 : decode cX2_isFull 6 = .ok (.if_icmp .lt 7, 3) := by decide +kernel
theorem dX2_isFull_9 : decode cX2_isFull 9 = .ok (.iconst 1, 1) := by decide +kernel
theorem dX2_isFull_10 : decode cX2_isFull 10 = .ok (.goto 4, 3) := by decide +kernel
theorem dX2_isFull_13 : decode cX2_isFull 13 = .ok (.iconst 0, 1) := by decide +kernel
theorem dX2_isFull_14 : decode cX2_isFull 14 = .ok (.ireturn, 1) := by decide +kernel
theorem dX2_add_0 : decode cX2_add 0 = .ok (.aload_n 0, 1) := by decide +kernel
theorem dX2_add_1 : decode cX2_add 1 = .ok (.getfield 23, 3) := by decide +kernel
theorem dX2_add_4 : decode cX2_add 4 = .ok (.ifCond .lt 32, 3) := by decide +kernel
theorem dX2_add_7 : decode cX2_add 7 = .ok (.aload_n 0, 1) := by decide +kernel
theorem dX2_add_8 : decode cX2_add 8 = .ok (.getfield 23, 3) := by decide +kernel
theorem dX2_add_11 : decode cX2_add 11 = .ok (.bipush 36, 2) := by decide +kernel
theorem dX2_add_13 : decode cX2_add 13 = .ok (.if_icmp .ge 23, 3) := by decide +kernel
theorem dX2_add_16 : decode cX2_add 16 = .ok (.aload_n 0, 1) := by decide +kernel
theorem dX2_add_17 : decode cX2_add 17 = .ok (.getfield 11, 3) := by decide +kernel
theorem dX2_add_20 : decode cX2_add 20 = .ok (.aload_n 0, 1) := by decide +kernel
theorem dX2_add_21 : decode cX2_add 21 = .ok (.getfield 23, 3) := by decide +kernel
theorem dX2_add_24 : decode cX2_add 24 = .ok (.iload_n 1, 1) := by decide +kernel
theorem dX2_add_25 : decode cX2_add 25 = .ok (.iastore, 1) := by decide +kernel
theorem dX2_add_26 : decode cX2_add 26 = .ok (.aload_n 0, 1) := by decide +kernel
theorem dX2_add_27 : decode cX2_add 27 = .ok (.dup, 1) := by decide +kernel
theorem dX2_add_28 : decode cX2_add 28 = .ok (.getfield 23, 3) := by decide +kernel
theorem dX2_add_31 : decode cX2_add 31 = .ok (.iconst 1, 1) := by decide +kernel
theorem dX2_add_32 : decode cX2_add 32 = .ok (.iadd, 1) := by decide +kernel
theorem dX2_add_33 : decode cX2_add 33 = .ok (.putfield 23, 3) := by decide +kernel
theorem dX2_add_36 : decode cX2_add 36 = .ok (.return_, 1) := by decide +kernel
theorem dX2_clear_0 : decode cX2_clear 0 = .ok (.aload_n 0, 1) := by decide +kernel
theorem dX2_clear_1 : decode cX2_clear 1 = .ok (.iconst 0, 1) := by decide +kernel
theorem dX2_clear_2 : decode cX2_clear 2 = .ok (.putfield 23, 3) := by decide +kernel
theorem dX2_clear_5 : decode cX2_clear 5 = .ok (.return_, 1) := by decide +kernel
theorem dX2_codeAt_0 : decode cX2_codeAt 0 = .ok (.iload_n 1, 1) := by decide +kernel
theorem dX2_codeAt_1 : decode cX2_codeAt 1 = .ok (.ifCond .lt 26, 3) := by decide +kernel
theorem dX2_codeAt_4 : decode cX2_codeAt 4 = .ok (.iload_n 1, 1) := by decide +kernel
theorem dX2_codeAt_5 : decode cX2_codeAt 5 = .ok (.aload_n 0, 1) := by decide +kernel
theorem dX2_codeAt_6 : decode cX2_codeAt 6 = .ok (.getfield 23, 3) := by decide +kernel
theorem dX2_codeAt_9 : decode cX2_codeAt 9 = .ok (.if_icmp .ge 18, 3) := by decide +kernel
theorem dX2_codeAt_12 : decode cX2_codeAt 12 = .ok (.iload_n 1, 1) := by decide +kernel
theorem dX2_codeAt_13 : decode cX2_codeAt 13 = .ok (.bipush 36, 2) := by decide +kernel
theorem dX2_codeAt_15 : decode cX2_codeAt 15 = .ok (.if_icmp .ge 12, 3) := by decide +kernel
theorem dX2_codeAt_18 : decode cX2_codeAt 18 = .ok (.aload_n 0, 1) := by decide +kernel
theorem dX2_codeAt_19 : decode cX2_codeAt 19 = .ok (.getfield 11, 3) := by decide +kernel
theorem dX2_codeAt_22 : decode cX2_codeAt 22 = .ok (.iload_n 1, 1) := by decide +kernel
theorem dX2_codeAt_23 : decode cX2_codeAt 23 = .ok (.iaload, 1) := by decide +kernel
theorem dX2_codeAt_24 : decode cX2_codeAt 24 = .ok (.goto 4, 3) := by decide +kernel
theorem dX2_codeAt_27 : decode cX2_codeAt 27 = .ok (.iconst (-1), 1) := by decide +kernel
theorem dX2_codeAt_28 : decode cX2_codeAt 28 = .ok (.ireturn, 1) := by decide +kernel
theorem dX2_firstFault_0 : decode cX2_firstFault 0 = .ok (.iconst 0, 1) := by decide +kernel
theorem dX2_firstFault_1 : decode cX2_firstFault 1 = .ok (.istore_n 1, 1) := by decide +kernel
theorem dX2_firstFault_2 : decode cX2_firstFault 2 = .ok (.iconst 0, 1) := by decide +kernel
theorem dX2_firstFault_3 : decode cX2_firstFault 3 = .ok (.istore_n 2, 1) := by decide +kernel
theorem dX2_firstFault_4 : decode cX2_firstFault 4 = .ok (.iconst 0, 1) := by decide +kernel
theorem dX2_firstFault_5 : decode cX2_firstFault 5 = .ok (.istore_n 3, 1) := by decide +kernel
theorem dX2_firstFault_6 : decode cX2_firstFault 6 = .ok (.iload_n 3, 1) := by decide +kernel
theorem dX2_firstFault_7 : decode cX2_firstFault 7 = .ok (.aload_n 0, 1) := by decide +kernel
theorem dX2_firstFault_8 : decode cX2_firstFault 8 = .ok (.getfield 23, 3) := by decide +kernel
theorem dX2_firstFault_11 : decode cX2_firstFault 11 = .ok (.if_icmp .ge 72, 3) := by decide +kernel
theorem dX2_firstFault_14 : decode cX2_firstFault 14 = .ok (.aload_n 0, 1) := by decide +kernel
theorem dX2_firstFault_15 : decode cX2_firstFault 15 = .ok (.iload_n 3, 1) := by decide +kernel
theorem dX2_firstFault_16 : decode cX2_firstFault 16 = .ok (.invokevirtual 27, 3) := by decide +kernel
theorem dX2_firstFault_19 : decode cX2_firstFault 19 = .ok (.istore 4, 2) := by decide +kernel
theorem dX2_firstFault_21 : decode cX2_firstFault 21 = .ok (.iload_n 3, 1) := by decide +kernel
theorem dX2_firstFault_22 : decode cX2_firstFault 22 = .ok (.iconst 3, 1) := by decide +kernel
theorem dX2_firstFault_23 : decode cX2_firstFault 23 = .ok (.if_icmp .ge 14, 3) := by decide +kernel
theorem dX2_firstFault_26 : decode cX2_firstFault 26 = .ok (.iload_n 3, 1) := by decide +kernel
theorem dX2_firstFault_27 : decode cX2_firstFault 27 = .ok (.iload 4, 2) := by decide +kernel
theorem dX2_firstFault_29 : decode cX2_firstFault 29 = .ok (.invokestatic 30, 3) := by decide +kernel
theorem dX2_firstFault_32 : decode cX2_firstFault 32 = .ok (.ifCond .ne 45, 3) := by decide +kernel
theorem dX2_firstFault_35 : decode cX2_firstFault 35 = .ok (.iload_n 3, 1) := by decide +kernel
theorem dX2_firstFault_36 : decode cX2_firstFault 36 = .ok (.ireturn, 1) := by decide +kernel
theorem dX2_firstFault_37 : decode cX2_firstFault 37 = .ok (.iload 4, 2) := by decide +kernel
theorem dX2_firstFault_39 : decode cX2_firstFault 39 = .ok (.bipush 59, 2) := by decide +kernel
theorem dX2_firstFault_41 : decode cX2_firstFault 41 = .ok (.if_icmp .ne 14, 3) := by decide +kernel
theorem dX2_firstFault_44 : decode cX2_firstFault 44 = .ok (.iload_n 1, 1) := by decide +kernel
theorem dX2_firstFault_45 : decode cX2_firstFault 45 = .ok (.ifCond .ne 10, 3) := by decide +kernel
theorem dX2_firstFault_48 : decode cX2_firstFault 48 = .ok (.iconst 1, 1) := by decide +kernel
theorem dX2_firstFault_49 : decode cX2_firstFault 49 = .ok (.istore_n 1, 1) := by decide +kernel
theorem dX2_firstFault_50 : decode cX2_firstFault 50 = .ok (.iconst 0, 1) := by decide +kernel
theorem dX2_firstFault_51 : decode cX2_firstFault 51 = .ok (.istore_n 2, 1) := by decide +kernel
theorem dX2_firstFault_52 : decode cX2_firstFault 52 = .ok (.goto 25, 3) := by decide +kernel
theorem dX2_firstFault_55 : decode cX2_firstFault 55 = .ok (.iload 4, 2) := by decide +kernel
theorem dX2_firstFault_57 : decode cX2_firstFault 57 = .ok (.invokestatic 34, 3) := by decide +kernel
theorem dX2_firstFault_60 : decode cX2_firstFault 60 = .ok (.ifCond .eq 15, 3) := by decide +kernel
theorem dX2_firstFault_63 : decode cX2_firstFault 63 = .ok (.iload_n 2, 1) := by decide +kernel
theorem dX2_firstFault_64 : decode cX2_firstFault 64 = .ok (.bipush 14, 2) := by decide +kernel
theorem dX2_firstFault_66 : decode cX2_firstFault 66 = .ok (.if_icmp .ge 9, 3) := by decide +kernel
theorem dX2_firstFault_69 : decode cX2_firstFault 69 = .ok (.iinc 2 1, 3) := by decide +kernel
theorem dX2_firstFault_72 : decode cX2_firstFault 72 = .ok (.goto 5, 3) := by decide +kernel
theorem dX2_firstFault_75 : decode cX2_firstFault 75 = .ok (.iload_n 3, 1) := by decide +kernel
theorem dX2_firstFault_76 : decode cX2_firstFault 76 = .ok (.ireturn, 1) := by decide +kernel
theorem dX2_firstFault_77 : decode cX2_firstFault 77 = .ok (.iinc 3 1, 3) := by decide +kernel
theorem dX2_firstFault_80 : decode cX2_firstFault 80 = .ok (.goto (-74), 3) := by decide +kernel
theorem dX2_firstFault_83 : decode cX2_firstFault 83 = .ok (.aload_n 0, 1) := by decide +kernel
theorem dX2_firstFault_84 : decode cX2_firstFault 84 = .ok (.getfield 23, 3) := by decide +kernel
theorem dX2_firstFault_87 : decode cX2_firstFault 87 = .ok (.ireturn, 1) := by decide +kernel
theorem dX2_isHead_0 : decode cX2_isHead 0 = .ok (.iload_n 0, 1) := by decide +kernel
theorem dX2_isHead_1 : decode cX2_isHead 1 = .ok (.ifCond .ne 21, 3) := by decide +kernel
theorem dX2_isHead_4 : decode cX2_isHead 4 = .ok (.iload_n 1, 1) := by decide +kernel
theorem dX2_isHead_5 : decode cX2_isHead 5 = .ok (.bipush 49, 2) := by decide +kernel
theorem dX2_isHead_7 : decode cX2_isHead 7 = .ok (.if_icmp .lt 13, 3) := by decide +kernel
theorem dX2_isHead_10 : decode cX2_isHead 10 = .ok (.iload_n 1, 1) := by decide +kernel
theorem dX2_isHead_11 : decode cX2_isHead 11 = .ok (.bipush 57, 2) := by decide +kernel
theorem dX2_isHead_13 : decode cX2_isHead 13 = .ok (.if_icmp .gt 7, 3) := by decide +kernel
theorem dX2_isHead_16 : decode cX2_isHead 16 = .ok (.iconst 1, 1) := by decide +kernel
theorem dX2_isHead_17 : decode cX2_isHead 17 = .ok (.goto 4, 3) := by decide +kernel
theorem dX2_isHead_20 : decode cX2_isHead 20 = .ok (.iconst 0, 1) := by decide +kernel
theorem dX2_isHead_21 : decode cX2_isHead 21 = .ok (.ireturn, 1) := by decide +kernel
theorem dX2_isHead_22 : decode cX2_isHead 22 = .ok (.iload_n 0, 1) := by decide +kernel
theorem dX2_isHead_23 : decode cX2_isHead 23 = .ok (.iconst 1, 1) := by decide +kernel
theorem dX2_isHead_24 : decode cX2_isHead 24 = .ok (.if_icmp .ne 18, 3) := by decide +kernel
theorem dX2_isHead_27 : decode cX2_isHead 27 = .ok (.iload_n 1, 1) := by decide +kernel
theorem dX2_isHead_28 : decode cX2_isHead 28 = .ok (.invokestatic 38, 3) := by decide +kernel
theorem dX2_isHead_31 : decode cX2_isHead 31 = .ok (.ifCond .lt 7, 3) := by decide +kernel
theorem dX2_isHead_34 : decode cX2_isHead 34 = .ok (.iconst 1, 1) := by decide +kernel
theorem dX2_isHead_35 : decode cX2_isHead 35 = .ok (.goto 18, 3) := by decide +kernel
theorem dX2_isHead_38 : decode cX2_isHead 38 = .ok (.iconst 0, 1) := by decide +kernel
theorem dX2_isHead_39 : decode cX2_isHead 39 = .ok (.goto 14, 3) := by decide +kernel
theorem dX2_isHead_42 : decode cX2_isHead 42 = .ok (.iload_n 1, 1) := by decide +kernel
theorem dX2_isHead_43 : decode cX2_isHead 43 = .ok (.bipush 59, 2) := by decide +kernel
theorem dX2_isHead_45 : decode cX2_isHead 45 = .ok (.if_icmp .ne 7, 3) := by decide +kernel
theorem dX2_isHead_48 : decode cX2_isHead 48 = .ok (.iconst 1, 1) := by decide +kernel
theorem dX2_isHead_49 : decode cX2_isHead 49 = .ok (.goto 4, 3) := by decide +kernel
theorem dX2_isHead_52 : decode cX2_isHead 52 = .ok (.iconst 0, 1) := by decide +kernel
theorem dX2_isHead_53 : decode cX2_isHead 53 = .ok (.ireturn, 1) := by decide +kernel
theorem dX2_secondMark_0 : decode cX2_secondMark 0 = .ok (.iconst 3, 1) := by decide +kernel
theorem dX2_secondMark_1 : decode cX2_secondMark 1 = .ok (.istore_n 1, 1) := by decide +kernel
theorem dX2_secondMark_2 : decode cX2_secondMark 2 = .ok (.iload_n 1, 1) := by decide +kernel
theorem dX2_secondMark_3 : decode cX2_secondMark 3 = .ok (.aload_n 0, 1) := by decide +kernel
theorem dX2_secondMark_4 : decode cX2_secondMark 4 = .ok (.getfield 23, 3) := by decide +kernel
theorem dX2_secondMark_7 : decode cX2_secondMark 7 = .ok (.if_icmp .ge 21, 3) := by decide +kernel
theorem dX2_secondMark_10 : decode cX2_secondMark 10 = .ok (.aload_n 0, 1) := by decide +kernel
theorem dX2_secondMark_11 : decode cX2_secondMark 11 = .ok (.iload_n 1, 1) := by decide +kernel
theorem dX2_secondMark_12 : decode cX2_secondMark 12 = .ok (.invokevirtual 27, 3) := by decide +kernel
theorem dX2_secondMark_15 : decode cX2_secondMark 15 = .ok (.bipush 59, 2) := by decide +kernel
theorem dX2_secondMark_17 : decode cX2_secondMark 17 = .ok (.if_icmp .ne 5, 3) := by decide +kernel
theorem dX2_secondMark_20 : decode cX2_secondMark 20 = .ok (.iload_n 1, 1) := by decide +kernel
theorem dX2_secondMark_21 : decode cX2_secondMark 21 = .ok (.ireturn, 1) := by decide +kernel
theorem dX2_secondMark_22 : decode cX2_secondMark 22 = .ok (.iinc 1 1, 3) := by decide +kernel
theorem dX2_secondMark_25 : decode cX2_secondMark 25 = .ok (.goto (-23), 3) := by decide +kernel
theorem dX2_secondMark_28 : decode cX2_secondMark 28 = .ok (.iconst (-1), 1) := by decide +kernel
theorem dX2_secondMark_29 : decode cX2_secondMark 29 = .ok (.ireturn, 1) := by decide +kernel
theorem dX2_isWhole_0 : decode cX2_isWhole 0 = .ok (.aload_n 0, 1) := by decide +kernel
theorem dX2_isWhole_1 : decode cX2_isWhole 1 = .ok (.invokevirtual 41, 3) := by decide +kernel
theorem dX2_isWhole_4 : decode cX2_isWhole 4 = .ok (.aload_n 0, 1) := by decide +kernel
theorem dX2_isWhole_5 : decode cX2_isWhole 5 = .ok (.getfield 23, 3) := by decide +kernel
theorem dX2_isWhole_8 : decode cX2_isWhole 8 = .ok (.if_icmp .ne 15, 3) := by decide +kernel
theorem dX2_isWhole_11 : decode cX2_isWhole 11 = .ok (.aload_n 0, 1) := by decide +kernel
theorem dX2_isWhole_12 : decode cX2_isWhole 12 = .ok (.invokevirtual 45, 3) := by decide +kernel
theorem dX2_isWhole_15 : decode cX2_isWhole 15 = .ok (.iconst (-1), 1) := by decide +kernel
theorem dX2_isWhole_16 : decode cX2_isWhole 16 = .ok (.if_icmp .eq 7, 3) := by decide +kernel
theorem dX2_isWhole_19 : decode cX2_isWhole 19 = .ok (.iconst 1, 1) := by decide +kernel
theorem dX2_isWhole_20 : decode cX2_isWhole 20 = .ok (.goto 4, 3) := by decide +kernel
theorem dX2_isWhole_23 : decode cX2_isWhole 23 = .ok (.iconst 0, 1) := by decide +kernel
theorem dX2_isWhole_24 : decode cX2_isWhole 24 = .ok (.ireturn, 1) := by decide +kernel
theorem dX2_readRows_0 : decode cX2_readRows 0 = .ok (.aload_n 1, 1) := by decide +kernel
theorem dX2_readRows_1 : decode cX2_readRows 1 = .ok (.invokevirtual 48, 3) := by decide +kernel
theorem dX2_readRows_4 : decode cX2_readRows 4 = .ok (.iload_n 2, 1) := by decide +kernel
theorem dX2_readRows_5 : decode cX2_readRows 5 = .ok (.istore 4, 2) := by decide +kernel
theorem dX2_readRows_7 : decode cX2_readRows 7 = .ok (.iload 4, 2) := by decide +kernel
theorem dX2_readRows_9 : decode cX2_readRows 9 = .ok (.iload_n 3, 1) := by decide +kernel
theorem dX2_readRows_10 : decode cX2_readRows 10 = .ok (.if_icmp .ge 37, 3) := by decide +kernel
theorem dX2_readRows_13 : decode cX2_readRows 13 = .ok (.aload_n 0, 1) := by decide +kernel
theorem dX2_readRows_14 : decode cX2_readRows 14 = .ok (.iload 4, 2) := by decide +kernel
theorem dX2_readRows_16 : decode cX2_readRows 16 = .ok (.invokevirtual 27, 3) := by decide +kernel
theorem dX2_readRows_19 : decode cX2_readRows 19 = .ok (.istore 5, 2) := by decide +kernel
theorem dX2_readRows_21 : decode cX2_readRows 21 = .ok (.aload_n 1, 1) := by decide +kernel
theorem dX2_readRows_22 : decode cX2_readRows 22 = .ok (.iload 5, 2) := by decide +kernel
theorem dX2_readRows_24 : decode cX2_readRows 24 = .ok (.bipush 45, 2) := by decide +kernel
theorem dX2_readRows_26 : decode cX2_readRows 26 = .ok (.if_icmp .ne 7, 3) := by decide +kernel
theorem dX2_readRows_29 : decode cX2_readRows 29 = .ok (.iconst (-1), 1) := by decide +kernel
theorem dX2_readRows_30 : decode cX2_readRows 30 = .ok (.goto 8, 3) := by decide +kernel
theorem dX2_readRows_33 : decode cX2_readRows 33 = .ok (.iload 5, 2) := by decide +kernel
theorem dX2_readRows_35 : decode cX2_readRows 35 = .ok (.bipush 97, 2) := by decide +kernel
theorem dX2_readRows_37 : decode cX2_readRows 37 = .ok (.isub, 1) := by decide +kernel
theorem dX2_readRows_38 : decode cX2_readRows 38 = .ok (.invokevirtual 53, 3) := by decide +kernel
theorem dX2_readRows_41 : decode cX2_readRows 41 = .ok (.iinc 4 1, 3) := by decide +kernel
theorem dX2_readRows_44 : decode cX2_readRows 44 = .ok (.goto (-37), 3) := by decide +kernel
theorem dX2_readRows_47 : decode cX2_readRows 47 = .ok (.return_, 1) := by decide +kernel
theorem dX3_init_0 : decode cX3_init 0 = .ok (.aload_n 0, 1) := by decide +kernel
theorem dX3_init_1 : decode cX3_init 1 = .ok (.invokespecial 3, 3) := by decide +kernel
theorem dX3_init_4 : decode cX3_init 4 = .ok (.aload_n 0, 1) := by decide +kernel
theorem dX3_init_5 : decode cX3_init 5 = .ok (.new 9, 3) := by decide +kernel
theorem dX3_init_8 : decode cX3_init 8 = .ok (.dup, 1) := by decide +kernel
theorem dX3_init_9 : decode cX3_init 9 = .ok (.invokespecial 11, 3) := by decide +kernel
theorem dX3_init_12 : decode cX3_init 12 = .ok (.putfield 12, 3) := by decide +kernel
theorem dX3_init_15 : decode cX3_init 15 = .ok (.aload_n 0, 1) := by decide +kernel
theorem dX3_init_16 : decode cX3_init 16 = .ok (.new 18, 3) := by decide +kernel
theorem dX3_init_19 : decode cX3_init 19 = .ok (.dup, 1) := by decide +kernel
theorem dX3_init_20 : decode cX3_init 20 = .ok (.invokespecial 20, 3) := by decide +kernel
theorem dX3_init_23 : decode cX3_init 23 = .ok (.putfield 21, 3) := by decide +kernel
theorem dX3_init_26 : decode cX3_init 26 = .ok (.aload_n 0, 1) := by decide +kernel
theorem dX3_init_27 : decode cX3_init 27 = .ok (.new 25, 3) := by decide +kernel
theorem dX3_init_30 : decode cX3_init 30 = .ok (.dup, 1) := by decide +kernel
theorem dX3_init_31 : decode cX3_init 31 = .ok (.invokespecial 27, 3) := by decide +kernel
theorem dX3_init_34 : decode cX3_init 34 = .ok (.putfield 28, 3) := by decide +kernel
theorem dX3_init_37 : decode cX3_init 37 = .ok (.aload_n 0, 1) := by decide +kernel
theorem dX3_init_38 : decode cX3_init 38 = .ok (.bipush 10, 2) := by decide +kernel
theorem dX3_init_40 : decode cX3_init 40 = .ok (.newarray .int, 2) := by decide +kernel
theorem dX3_init_42 : decode cX3_init 42 = .ok (.putfield 32, 3) := by decide +kernel
theorem dX3_init_45 : decode cX3_init 45 = .ok (.aload_n 0, 1) := by decide +kernel
theorem dX3_init_46 : decode cX3_init 46 = .ok (.getfield 32, 3) := by decide +kernel
theorem dX3_init_49 : decode cX3_init 49 = .ok (.iconst 4, 1) := by decide +kernel
theorem dX3_init_50 : decode cX3_init 50 = .ok (.iconst (-1), 1) := by decide +kernel
theorem dX3_init_51 : decode cX3_init 51 = .ok (.iastore, 1) := by decide +kernel
theorem dX3_init_52 : decode cX3_init 52 = .ok (.return_, 1) := by decide +kernel
theorem dX3_clear_0 : decode cX3_clear 0 = .ok (.aload_n 0, 1) := by decide +kernel
theorem dX3_clear_1 : decode cX3_clear 1 = .ok (.getfield 21, 3) := by decide +kernel
theorem dX3_clear_4 : decode cX3_clear 4 = .ok (.iload_n 1, 1) := by decide +kernel
theorem dX3_clear_5 : decode cX3_clear 5 = .ok (.invokevirtual 36, 3) := by decide +kernel
theorem dX3_clear_8 : decode cX3_clear 8 = .ok (.aload_n 0, 1) := by decide +kernel
theorem dX3_clear_9 : decode cX3_clear 9 = .ok (.getfield 28, 3) := by decide +kernel
theorem dX3_clear_12 : decode cX3_clear 12 = .ok (.invokevirtual 40, 3) := by decide +kernel
theorem dX3_clear_15 : decode cX3_clear 15 = .ok (.aload_n 0, 1) := by decide +kernel
theorem dX3_clear_16 : decode cX3_clear 16 = .ok (.getfield 32, 3) := by decide +kernel
theorem dX3_clear_19 : decode cX3_clear 19 = .ok (.iconst 0, 1) := by decide +kernel
theorem dX3_clear_20 : decode cX3_clear 20 = .ok (.invokestatic 42, 3) := by decide +kernel
theorem dX3_clear_23 : decode cX3_clear 23 = .ok (.aload_n 0, 1) := by decide +kernel
theorem dX3_clear_24 : decode cX3_clear 24 = .ok (.getfield 32, 3) := by decide +kernel
theorem dX3_clear_27 : decode cX3_clear 27 = .ok (.iconst 4, 1) := by decide +kernel
theorem dX3_clear_28 : decode cX3_clear 28 = .ok (.iconst (-1), 1) := by decide +kernel
theorem dX3_clear_29 : decode cX3_clear 29 = .ok (.iastore, 1) := by decide +kernel
theorem dX3_clear_30 : decode cX3_clear 30 = .ok (.aload_n 0, 1) := by decide +kernel
theorem dX3_clear_31 : decode cX3_clear 31 = .ok (.iconst 0, 1) := by decide +kernel
theorem dX3_clear_32 : decode cX3_clear 32 = .ok (.putfield 48, 3) := by decide +kernel
theorem dX3_clear_35 : decode cX3_clear 35 = .ok (.return_, 1) := by decide +kernel
theorem dX3_lineAt_0 : decode cX3_lineAt 0 = .ok (.iload_n 1, 1) := by decide +kernel
theorem dX3_lineAt_1 : decode cX3_lineAt 1 = .ok (.ifCond .lt 18, 3) := by decide +kernel
theorem dX3_lineAt_4 : decode cX3_lineAt 4 = .ok (.iload_n 1, 1) := by decide +kernel
theorem dX3_lineAt_5 : decode cX3_lineAt 5 = .ok (.bipush 10, 2) := by decide +kernel
theorem dX3_lineAt_7 : decode cX3_lineAt 7 = .ok (.if_icmp .ge 12, 3) := by decide +kernel
theorem dX3_lineAt_10 : decode cX3_lineAt 10 = .ok (.aload_n 0, 1) := by decide +kernel
theorem dX3_lineAt_11 : decode cX3_lineAt 11 = .ok (.getfield 32, 3) := by decide +kernel
theorem dX3_lineAt_14 : decode cX3_lineAt 14 = .ok (.iload_n 1, 1) := by decide +kernel
theorem dX3_lineAt_15 : decode cX3_lineAt 15 = .ok (.iaload, 1) := by decide +kernel
theorem dX3_lineAt_16 : decode cX3_lineAt 16 = .ok (.goto 5, 3) := by decide +kernel
theorem dX3_lineAt_19 : decode cX3_lineAt 19 = .ok (.bipush (-102), 2) := by decide +kernel
theorem dX3_lineAt_21 : decode cX3_lineAt 21 = .ok (.ireturn, 1) := by decide +kernel
theorem dX3_go_0 : decode cX3_go 0 = .ok (.aload_n 0, 1) := by decide +kernel
theorem dX3_go_1 : decode cX3_go 1 = .ok (.iload_n 1, 1) := by decide +kernel
theorem dX3_go_2 : decode cX3_go 2 = .ok (.invokevirtual 52, 3) := by decide +kernel
theorem dX3_go_5 : decode cX3_go 5 = .ok (.aload_n 0, 1) := by decide +kernel
theorem dX3_go_6 : decode cX3_go 6 = .ok (.getfield 12, 3) := by decide +kernel
theorem dX3_go_9 : decode cX3_go 9 = .ok (.getfield 53, 3) := by decide +kernel
theorem dX3_go_12 : decode cX3_go 12 = .ok (.invokevirtual 57, 3) := by decide +kernel
theorem dX3_go_15 : decode cX3_go 15 = .ok (.istore_n 2, 1) := by decide +kernel
theorem dX3_go_16 : decode cX3_go 16 = .ok (.aload_n 0, 1) := by decide +kernel
theorem dX3_go_17 : decode cX3_go 17 = .ok (.getfield 12, 3) := by decide +kernel
theorem dX3_go_20 : decode cX3_go 20 = .ok (.getfield 63, 3) := by decide +kernel
theorem dX3_go_23 : decode cX3_go 23 = .ok (.invokevirtual 57, 3) := by decide +kernel
theorem dX3_go_26 : decode cX3_go 26 = .ok (.istore_n 3, 1) := by decide +kernel
theorem dX3_go_27 : decode cX3_go 27 = .ok (.iload_n 2, 1) := by decide +kernel
theorem dX3_go_28 : decode cX3_go 28 = .ok (.iload_n 3, 1) := by decide +kernel
theorem dX3_go_29 : decode cX3_go 29 = .ok (.ior, 1) := by decide +kernel
theorem dX3_go_30 : decode cX3_go 30 = .ok (.ifCond .eq 10, 3) := by decide +kernel
theorem dX3_go_33 : decode cX3_go 33 = .ok (.aload_n 0, 1) := by decide +kernel
theorem dX3_go_34 : decode cX3_go 34 = .ok (.iload_n 2, 1) := by decide +kernel
theorem dX3_go_35 : decode cX3_go 35 = .ok (.iload_n 3, 1) := by decide +kernel
theorem dX3_go_36 : decode cX3_go 36 = .ok (.iconst 0, 1) := by decide +kernel
theorem dX3_go_37 : decode cX3_go 37 = .ok (.invokevirtual 66, 3) := by decide +kernel
theorem dX3_go_40 : decode cX3_go 40 = .ok (.aload_n 0, 1) := by decide +kernel
theorem dX3_go_41 : decode cX3_go 41 = .ok (.iconst 0, 1) := by decide +kernel
theorem dX3_go_42 : decode cX3_go 42 = .ok (.aload_n 0, 1) := by decide +kernel
theorem dX3_go_43 : decode cX3_go 43 = .ok (.getfield 12, 3) := by decide +kernel
theorem dX3_go_46 : decode cX3_go 46 = .ok (.getfield 53, 3) := by decide +kernel
theorem dX3_go_49 : decode cX3_go 49 = .ok (.invokevirtual 70, 3) := by decide +kernel
theorem dX3_go_52 : decode cX3_go 52 = .ok (.invokevirtual 73, 3) := by decide +kernel
theorem dX3_go_55 : decode cX3_go 55 = .ok (.aload_n 0, 1) := by decide +kernel
theorem dX3_go_56 : decode cX3_go 56 = .ok (.iconst 1, 1) := by decide +kernel
theorem dX3_go_57 : decode cX3_go 57 = .ok (.aload_n 0, 1) := by decide +kernel
theorem dX3_go_58 : decode cX3_go 58 = .ok (.getfield 12, 3) := by decide +kernel
theorem dX3_go_61 : decode cX3_go 61 = .ok (.getfield 63, 3) := by decide +kernel
theorem dX3_go_64 : decode cX3_go 64 = .ok (.invokevirtual 70, 3) := by decide +kernel
theorem dX3_go_67 : decode cX3_go 67 = .ok (.invokevirtual 73, 3) := by decide +kernel
theorem dX3_go_70 : decode cX3_go 70 = .ok (.aload_n 0, 1) := by decide +kernel
theorem dX3_go_71 : decode cX3_go 71 = .ok (.getfield 32, 3) := by decide +kernel
theorem dX3_go_74 : decode cX3_go 74 = .ok (.iconst 0, 1) := by decide +kernel
theorem dX3_go_75 : decode cX3_go 75 = .ok (.aload_n 0, 1) := by decide +kernel
theorem dX3_go_76 : decode cX3_go 76 = .ok (.getfield 21, 3) := by decide +kernel
theorem dX3_go_79 : decode cX3_go 79 = .ok (.getfield 77, 3) := by decide +kernel
theorem dX3_go_82 : decode cX3_go 82 = .ok (.iastore, 1) := by decide +kernel
theorem dX3_go_83 : decode cX3_go 83 = .ok (.aload_n 0, 1) := by decide +kernel
theorem dX3_go_84 : decode cX3_go 84 = .ok (.getfield 32, 3) := by decide +kernel
theorem dX3_go_87 : decode cX3_go 87 = .ok (.bipush 9, 2) := by decide +kernel
theorem dX3_go_89 : decode cX3_go 89 = .ok (.aload_n 0, 1) := by decide +kernel
theorem dX3_go_90 : decode cX3_go 90 = .ok (.getfield 28, 3) := by decide +kernel
theorem dX3_go_93 : decode cX3_go 93 = .ok (.getfield 80, 3) := by decide +kernel
theorem dX3_go_96 : decode cX3_go 96 = .ok (.iastore, 1) := by decide +kernel
theorem dX3_go_97 : decode cX3_go 97 = .ok (.return_, 1) := by decide +kernel
theorem dX3_turn_0 : decode cX3_turn 0 = .ok (.aload_n 0, 1) := by decide +kernel
theorem dX3_turn_1 : decode cX3_turn 1 = .ok (.getfield 12, 3) := by decide +kernel
theorem dX3_turn_4 : decode cX3_turn 4 = .ok (.iload_n 1, 1) := by decide +kernel
theorem dX3_turn_5 : decode cX3_turn 5 = .ok (.iload_n 2, 1) := by decide +kernel
theorem dX3_turn_6 : decode cX3_turn 6 = .ok (.invokevirtual 81, 3) := by decide +kernel
theorem dX3_turn_9 : decode cX3_turn 9 = .ok (.istore 4, 2) := by decide +kernel
theorem dX3_turn_11 : decode cX3_turn 11 = .ok (.iload 4, 2) := by decide +kernel
theorem dX3_turn_13 : decode cX3_turn 13 = .ok (.ifCond .ne 7, 3) := by decide +kernel
theorem dX3_turn_16 : decode cX3_turn 16 = .ok (.iload_n 1, 1) := by decide +kernel
theorem dX3_turn_17 : decode cX3_turn 17 = .ok (.goto 4, 3) := by decide +kernel
theorem dX3_turn_20 : decode cX3_turn 20 = .ok (.iload_n 2, 1) := by decide +kernel
theorem dX3_turn_21 : decode cX3_turn 21 = .ok (.istore 5, 2) := by decide +kernel
theorem dX3_turn_23 : decode cX3_turn 23 = .ok (.iload 4, 2) := by decide +kernel
theorem dX3_turn_25 : decode cX3_turn 25 = .ok (.ifCond .ne 7, 3) := by decide +kernel
theorem dX3_turn_28 : decode cX3_turn 28 = .ok (.iload_n 2, 1) := by decide +kernel
theorem dX3_turn_29 : decode cX3_turn 29 = .ok (.goto 4, 3) := by decide +kernel
theorem dX3_turn_32 : decode cX3_turn 32 = .ok (.iload_n 1, 1) := by decide +kernel
theorem dX3_turn_33 : decode cX3_turn 33 = .ok (.istore 6, 2) := by decide +kernel
theorem dX3_turn_35 : decode cX3_turn 35 = .ok (.aload_n 0, 1) := by decide +kernel
theorem dX3_turn_36 : decode cX3_turn 36 = .ok (.iload 4, 2) := by decide +kernel
theorem dX3_turn_38 : decode cX3_turn 38 = .ok (.iload 5, 2) := by decide +kernel
theorem dX3_turn_40 : decode cX3_turn 40 = .ok (.iload_n 3, 1) := by decide +kernel
theorem dX3_turn_41 : decode cX3_turn 41 = .ok (.invokevirtual 85, 3) := by decide +kernel
theorem dX3_turn_44 : decode cX3_turn 44 = .ok (.istore 7, 2) := by decide +kernel
theorem dX3_turn_46 : decode cX3_turn 46 = .ok (.aload_n 0, 1) := by decide +kernel
theorem dX3_turn_47 : decode cX3_turn 47 = .ok (.getfield 28, 3) := by decide +kernel
theorem dX3_turn_50 : decode cX3_turn 50 = .ok (.getfield 89, 3) := by decide +kernel
theorem dX3_turn_53 : decode cX3_turn 53 = .ok (.istore 8, 2) := by decide +kernel
theorem dX3_turn_55 : decode cX3_turn 55 = .ok (.aload_n 0, 1) := by decide +kernel
theorem dX3_turn_56 : decode cX3_turn 56 = .ok (.getfield 28, 3) := by decide +kernel
theorem dX3_turn_59 : decode cX3_turn 59 = .ok (.iload 7, 2) := by decide +kernel
theorem dX3_turn_61 : decode cX3_turn 61 = .ok (.invokevirtual 92, 3) := by decide +kernel
theorem dX3_turn_64 : decode cX3_turn 64 = .ok (.aload_n 0, 1) := by decide +kernel
theorem dX3_turn_65 : decode cX3_turn 65 = .ok (.iload 4, 2) := by decide +kernel
theorem dX3_turn_67 : decode cX3_turn 67 = .ok (.iload 7, 2) := by decide +kernel
theorem dX3_turn_69 : decode cX3_turn 69 = .ok (.iload_n 3, 1) := by decide +kernel
theorem dX3_turn_70 : decode cX3_turn 70 = .ok (.invokevirtual 95, 3) := by decide +kernel
theorem dX3_turn_73 : decode cX3_turn 73 = .ok (.iload 7, 2) := by decide +kernel
theorem dX3_turn_75 : decode cX3_turn 75 = .ok (.ifCond .ne 16, 3) := by decide +kernel
theorem dX3_turn_78 : decode cX3_turn 78 = .ok (.aload_n 0, 1) := by decide +kernel
theorem dX3_turn_79 : decode cX3_turn 79 = .ok (.iload 4, 2) := by decide +kernel
theorem dX3_turn_81 : decode cX3_turn 81 = .ok (.iload 5, 2) := by decide +kernel
theorem dX3_turn_83 : decode cX3_turn 83 = .ok (.iload 6, 2) := by decide +kernel
theorem dX3_turn_85 : decode cX3_turn 85 = .ok (.invokevirtual 98, 3) := by decide +kernel
theorem dX3_turn_88 : decode cX3_turn 88 = .ok (.goto 33, 3) := by decide +kernel
theorem dX3_turn_91 : decode cX3_turn 91 = .ok (.iload 7, 2) := by decide +kernel
theorem dX3_turn_93 : decode cX3_turn 93 = .ok (.iconst 1, 1) := by decide +kernel
theorem dX3_turn_94 : decode cX3_turn 94 = .ok (.if_icmp .ne 16, 3) := by decide +kernel
theorem dX3_turn_97 : decode cX3_turn 97 = .ok (.aload_n 0, 1) := by decide +kernel
theorem dX3_turn_98 : decode cX3_turn 98 = .ok (.iload 4, 2) := by decide +kernel
theorem dX3_turn_100 : decode cX3_turn 100 = .ok (.iload 5, 2) := by decide +kernel
theorem dX3_turn_102 : decode cX3_turn 102 = .ok (.iload 6, 2) := by decide +kernel
theorem dX3_turn_104 : decode cX3_turn 104 = .ok (.invokevirtual 101, 3) := by decide +kernel
theorem dX3_turn_107 : decode cX3_turn 107 = .ok (.goto 14, 3) := by decide +kernel
theorem dX3_turn_110 : decode cX3_turn 110 = .ok (.aload_n 0, 1) := by decide +kernel
theorem dX3_turn_111 : decode cX3_turn 111 = .ok (.iload 4, 2) := by decide +kernel
theorem dX3_turn_113 : decode cX3_turn 113 = .ok (.iload 5, 2) := by decide +kernel
theorem dX3_turn_115 : decode cX3_turn 115 = .ok (.iload 6, 2) := by decide +kernel
theorem dX3_turn_117 : decode cX3_turn 117 = .ok (.iload_n 3, 1) := by decide +kernel
theorem dX3_turn_118 : decode cX3_turn 118 = .ok (.invokevirtual 104, 3) := by decide +kernel
theorem dX3_turn_121 : decode cX3_turn 121 = .ok (.aload_n 0, 1) := by decide +kernel
theorem dX3_turn_122 : decode cX3_turn 122 = .ok (.getfield 28, 3) := by decide +kernel
theorem dX3_turn_125 : decode cX3_turn 125 = .ok (.iload 8, 2) := by decide +kernel
theorem dX3_turn_127 : decode cX3_turn 127 = .ok (.invokevirtual 108, 3) := by decide +kernel
theorem dX3_turn_130 : decode cX3_turn 130 = .ok (.return_, 1) := by decide +kernel
theorem dX3_natureOf_0 : decode cX3_natureOf 0 = .ok (.iload_n 2, 1) := by decide +kernel
theorem dX3_natureOf_1 : decode cX3_natureOf 1 = .ok (.invokestatic 111, 3) := by decide +kernel
theorem dX3_natureOf_4 : decode cX3_natureOf 4 = .ok (.aload_n 0, 1) := by decide +kernel
theorem dX3_natureOf_5 : decode cX3_natureOf 5 = .ok (.getfield 12, 3) := by decide +kernel
theorem dX3_natureOf_8 : decode cX3_natureOf 8 = .ok (.getfield 117, 3) := by decide +kernel
theorem dX3_natureOf_11 : decode cX3_natureOf 11 = .ok (.if_icmp .gt 5, 3) := by decide +kernel
theorem dX3_natureOf_14 : decode cX3_natureOf 14 = .ok (.iconst 0, 1) := by decide +kernel
theorem dX3_natureOf_15 : decode cX3_natureOf 15 = .ok (.ireturn, 1) := by decide +kernel
theorem dX3_natureOf_16 : decode cX3_natureOf 16 = .ok (.iload_n 3, 1) := by decide +kernel
theorem dX3_natureOf_17 : decode cX3_natureOf 17 = .ok (.iconst 4, 1) := by decide +kernel
theorem dX3_natureOf_18 : decode cX3_natureOf 18 = .ok (.if_icmp .ge 18, 3) := by decide +kernel
theorem dX3_natureOf_21 : decode cX3_natureOf 21 = .ok (.aload_n 0, 1) := by decide +kernel
theorem dX3_natureOf_22 : decode cX3_natureOf 22 = .ok (.getfield 12, 3) := by decide +kernel
theorem dX3_natureOf_25 : decode cX3_natureOf 25 = .ok (.iload_n 1, 1) := by decide +kernel
theorem dX3_natureOf_26 : decode cX3_natureOf 26 = .ok (.invokevirtual 120, 3) := by decide +kernel
theorem dX3_natureOf_29 : decode cX3_natureOf 29 = .ok (.iload_n 2, 1) := by decide +kernel
theorem dX3_natureOf_30 : decode cX3_natureOf 30 = .ok (.invokevirtual 124, 3) := by decide +kernel
theorem dX3_natureOf_33 : decode cX3_natureOf 33 = .ok (.ifCond .eq 7, 3) := by decide +kernel
theorem dX3_natureOf_36 : decode cX3_natureOf 36 = .ok (.iconst 1, 1) := by decide +kernel
theorem dX3_natureOf_37 : decode cX3_natureOf 37 = .ok (.goto 4, 3) := by decide +kernel
theorem dX3_natureOf_40 : decode cX3_natureOf 40 = .ok (.iconst 2, 1) := by decide +kernel
theorem dX3_natureOf_41 : decode cX3_natureOf 41 = .ok (.ireturn, 1) := by decide +kernel
theorem dX3_enterPart_0 : decode cX3_enterPart 0 = .ok (.iload_n 2, 1) := by decide +kernel
theorem dX3_enterPart_1 : decode cX3_enterPart 1 = .ok (.ifCond .lt 20, 3) := by decide +kernel
theorem dX3_enterPart_4 : decode cX3_enterPart 4 = .ok (.iload_n 2, 1) := by decide +kernel
theorem dX3_enterPart_5 : decode cX3_enterPart 5 = .ok (.iconst 2, 1) := by decide +kernel
theorem dX3_enterPart_6 : decode cX3_enterPart 6 = .ok (.if_icmp .gt 15, 3) := by decide +kernel
theorem dX3_enterPart_9 : decode cX3_enterPart 9 = .ok (.aload_n 0, 1) := by decide +kernel
theorem dX3_enterPart_10 : decode cX3_enterPart 10 = .ok (.getfield 32, 3) := by decide +kernel
theorem dX3_enterPart_13 : decode cX3_enterPart 13 = .ok (.iconst 5, 1) := by decide +kernel
theorem dX3_enterPart_14 : decode cX3_enterPart 14 = .ok (.iload_n 2, 1) := by decide +kernel
theorem dX3_enterPart_15 : decode cX3_enterPart 15 = .ok (.iadd, 1) := by decide +kernel
theorem dX3_enterPart_16 : decode cX3_enterPart 16 = .ok (.dup2, 1) := by decide +kernel
theorem dX3_enterPart_17 : decode cX3_enterPart 17 = .ok (.iaload, 1) := by decide +kernel
theorem dX3_enterPart_18 : decode cX3_enterPart 18 = .ok (.iconst 1, 1) := by decide +kernel
theorem dX3_enterPart_19 : decode cX3_enterPart 19 = .ok (.iadd, 1) := by decide +kernel
theorem dX3_enterPart_20 : decode cX3_enterPart 20 = .ok (.iastore, 1) := by decide +kernel
theorem dX3_enterPart_21 : decode cX3_enterPart 21 = .ok (.iload_n 1, 1) := by decide +kernel
theorem dX3_enterPart_22 : decode cX3_enterPart 22 = .ok (.ifCond .ne 14, 3) := by decide +kernel
theorem dX3_enterPart_25 : decode cX3_enterPart 25 = .ok (.aload_n 0, 1) := by decide +kernel
theorem dX3_enterPart_26 : decode cX3_enterPart 26 = .ok (.getfield 32, 3) := by decide +kernel
theorem dX3_enterPart_29 : decode cX3_enterPart 29 = .ok (.bipush 8, 2) := by decide +kernel
theorem dX3_enterPart_31 : decode cX3_enterPart 31 = .ok (.dup2, 1) := by decide +kernel
theorem dX3_enterPart_32 : decode cX3_enterPart 32 = .ok (.iaload, 1) := by decide +kernel
theorem dX3_enterPart_33 : decode cX3_enterPart 33 = .ok (.iconst 1, 1) := by decide +kernel
theorem dX3_enterPart_34 : decode cX3_enterPart 34 = .ok (.iadd, 1) := by decide +kernel
theorem dX3_enterPart_35 : decode cX3_enterPart 35 = .ok (.iastore, 1) := by decide +kernel
theorem dX3_enterPart_36 : decode cX3_enterPart 36 = .ok (.aload_n 0, 1) := by decide +kernel
theorem dX3_enterPart_37 : decode cX3_enterPart 37 = .ok (.getfield 32, 3) := by decide +kernel
theorem dX3_enterPart_40 : decode cX3_enterPart 40 = .ok (.iconst 4, 1) := by decide +kernel
theorem dX3_enterPart_41 : decode cX3_enterPart 41 = .ok (.aload_n 0, 1) := by decide +kernel
theorem dX3_enterPart_42 : decode cX3_enterPart 42 = .ok (.getfield 32, 3) := by decide +kernel
theorem dX3_enterPart_45 : decode cX3_enterPart 45 = .ok (.iconst 4, 1) := by decide +kernel
theorem dX3_enterPart_46 : decode cX3_enterPart 46 = .ok (.iaload, 1) := by decide +kernel
theorem dX3_enterPart_47 : decode cX3_enterPart 47 = .ok (.iload_n 3, 1) := by decide +kernel
theorem dX3_enterPart_48 : decode cX3_enterPart 48 = .ok (.invokestatic 128, 3) := by decide +kernel
theorem dX3_enterPart_51 : decode cX3_enterPart 51 = .ok (.iastore, 1) := by decide +kernel
theorem dX3_enterPart_52 : decode cX3_enterPart 52 = .ok (.return_, 1) := by decide +kernel
theorem dX3_hold_0 : decode cX3_hold 0 = .ok (.aload_n 0, 1) := by decide +kernel
theorem dX3_hold_1 : decode cX3_hold 1 = .ok (.iload_n 2, 1) := by decide +kernel
theorem dX3_hold_2 : decode cX3_hold 2 = .ok (.invokevirtual 133, 3) := by decide +kernel
theorem dX3_hold_5 : decode cX3_hold 5 = .ok (.iload_n 1, 1) := by decide +kernel
theorem dX3_hold_6 : decode cX3_hold 6 = .ok (.invokestatic 136, 3) := by decide +kernel
theorem dX3_hold_9 : decode cX3_hold 9 = .ok (.istore 4, 2) := by decide +kernel
theorem dX3_hold_11 : decode cX3_hold 11 = .ok (.iconst 0, 1) := by decide +kernel
theorem dX3_hold_12 : decode cX3_hold 12 = .ok (.istore 5, 2) := by decide +kernel
theorem dX3_hold_14 : decode cX3_hold 14 = .ok (.iload 5, 2) := by decide +kernel
theorem dX3_hold_16 : decode cX3_hold 16 = .ok (.bipush 14, 2) := by decide +kernel
theorem dX3_hold_18 : decode cX3_hold 18 = .ok (.if_icmp .ge 46, 3) := by decide +kernel
theorem dX3_hold_21 : decode cX3_hold 21 = .ok (.aload_n 0, 1) := by decide +kernel
theorem dX3_hold_22 : decode cX3_hold 22 = .ok (.getfield 21, 3) := by decide +kernel
theorem dX3_hold_25 : decode cX3_hold 25 = .ok (.getfield 139, 3) := by decide +kernel
theorem dX3_hold_28 : decode cX3_hold 28 = .ok (.ifCond .ne 36, 3) := by decide +kernel
theorem dX3_hold_31 : decode cX3_hold 31 = .ok (.iload_n 3, 1) := by decide +kernel
theorem dX3_hold_32 : decode cX3_hold 32 = .ok (.iload 5, 2) := by decide +kernel
theorem dX3_hold_34 : decode cX3_hold 34 = .ok (.invokestatic 143, 3) := by decide +kernel
theorem dX3_hold_37 : decode cX3_hold 37 = .ok (.ifCond .eq 21, 3) := by decide +kernel
theorem dX3_hold_40 : decode cX3_hold 40 = .ok (.aload_n 0, 1) := by decide +kernel
theorem dX3_hold_41 : decode cX3_hold 41 = .ok (.iload_n 1, 1) := by decide +kernel
theorem dX3_hold_42 : decode cX3_hold 42 = .ok (.iload_n 2, 1) := by decide +kernel
theorem dX3_hold_43 : decode cX3_hold 43 = .ok (.iload 5, 2) := by decide +kernel
theorem dX3_hold_45 : decode cX3_hold 45 = .ok (.invokevirtual 147, 3) := by decide +kernel
theorem dX3_hold_48 : decode cX3_hold 48 = .ok (.aload_n 0, 1) := by decide +kernel
theorem dX3_hold_49 : decode cX3_hold 49 = .ok (.iload 4, 2) := by decide +kernel
theorem dX3_hold_51 : decode cX3_hold 51 = .ok (.iconst 1, 1) := by decide +kernel
theorem dX3_hold_52 : decode cX3_hold 52 = .ok (.iload 5, 2) := by decide +kernel
theorem dX3_hold_54 : decode cX3_hold 54 = .ok (.ishl, 1) := by decide +kernel
theorem dX3_hold_55 : decode cX3_hold 55 = .ok (.invokevirtual 73, 3) := by decide +kernel
theorem dX3_hold_58 : decode cX3_hold 58 = .ok (.iinc 5 1, 3) := by decide +kernel
theorem dX3_hold_61 : decode cX3_hold 61 = .ok (.goto (-47), 3) := by decide +kernel
theorem dX3_hold_64 : decode cX3_hold 64 = .ok (.aload_n 0, 1) := by decide +kernel
theorem dX3_hold_65 : decode cX3_hold 65 = .ok (.iload_n 1, 1) := by decide +kernel
theorem dX3_hold_66 : decode cX3_hold 66 = .ok (.iload_n 2, 1) := by decide +kernel
theorem dX3_hold_67 : decode cX3_hold 67 = .ok (.invokevirtual 73, 3) := by decide +kernel
theorem dX3_hold_70 : decode cX3_hold 70 = .ok (.return_, 1) := by decide +kernel
theorem dX3_goByBlocks_0 : decode cX3_goByBlocks 0 = .ok (.iload_n 2, 1) := by decide +kernel
theorem dX3_goByBlocks_1 : decode cX3_goByBlocks 1 = .ok (.istore 4, 2) := by decide +kernel
theorem dX3_goByBlocks_3 : decode cX3_goByBlocks 3 = .ok (.iconst 0, 1) := by decide +kernel
theorem dX3_goByBlocks_4 : decode cX3_goByBlocks 4 = .ok (.istore 5, 2) := by decide +kernel
theorem dX3_goByBlocks_6 : decode cX3_goByBlocks 6 = .ok (.iload 5, 2) := by decide +kernel
theorem dX3_goByBlocks_8 : decode cX3_goByBlocks 8 = .ok (.bipush 14, 2) := by decide +kernel
theorem dX3_goByBlocks_10 : decode cX3_goByBlocks 10 = .ok (.if_icmp .ge 110, 3) := by decide +kernel
theorem dX3_goByBlocks_13 : decode cX3_goByBlocks 13 = .ok (.iload 4, 2) := by decide +kernel
theorem dX3_goByBlocks_15 : decode cX3_goByBlocks 15 = .ok (.ifCond .eq 105, 3) := by decide +kernel
theorem dX3_goByBlocks_18 : decode cX3_goByBlocks 18 = .ok (.aload_n 0, 1) := by decide +kernel
theorem dX3_goByBlocks_19 : decode cX3_goByBlocks 19 = .ok (.getfield 21, 3) := by decide +kernel
theorem dX3_goByBlocks_22 : decode cX3_goByBlocks 22 = .ok (.getfield 139, 3) := by decide +kernel
theorem dX3_goByBlocks_25 : decode cX3_goByBlocks 25 = .ok (.ifCond .ne 95, 3) := by decide +kernel
theorem dX3_goByBlocks_28 : decode cX3_goByBlocks 28 = .ok (.iload 4, 2) := by decide +kernel
theorem dX3_goByBlocks_30 : decode cX3_goByBlocks 30 = .ok (.aload_n 0, 1) := by decide +kernel
theorem dX3_goByBlocks_31 : decode cX3_goByBlocks 31 = .ok (.getfield 12, 3) := by decide +kernel
theorem dX3_goByBlocks_34 : decode cX3_goByBlocks 34 = .ok (.getfield 117, 3) := by decide +kernel
theorem dX3_goByBlocks_37 : decode cX3_goByBlocks 37 = .ok (.invokestatic 150, 3) := by decide +kernel
theorem dX3_goByBlocks_40 : decode cX3_goByBlocks 40 = .ok (.istore 6, 2) := by decide +kernel
theorem dX3_goByBlocks_42 : decode cX3_goByBlocks 42 = .ok (.iload 4, 2) := by decide +kernel
theorem dX3_goByBlocks_44 : decode cX3_goByBlocks 44 = .ok (.iload 6, 2) := by decide +kernel
theorem dX3_goByBlocks_46 : decode cX3_goByBlocks 46 = .ok (.iconst (-1), 1) := by decide +kernel
theorem dX3_goByBlocks_47 : decode cX3_goByBlocks 47 = .ok (.ixor, 1) := by decide +kernel
theorem dX3_goByBlocks_48 : decode cX3_goByBlocks 48 = .ok (.iand, 1) := by decide +kernel
theorem dX3_goByBlocks_49 : decode cX3_goByBlocks 49 = .ok (.istore 4, 2) := by decide +kernel
theorem dX3_goByBlocks_51 : decode cX3_goByBlocks 51 = .ok (.aload_n 0, 1) := by decide +kernel
theorem dX3_goByBlocks_52 : decode cX3_goByBlocks 52 = .ok (.iload 6, 2) := by decide +kernel
theorem dX3_goByBlocks_54 : decode cX3_goByBlocks 54 = .ok (.invokevirtual 133, 3) := by decide +kernel
theorem dX3_goByBlocks_57 : decode cX3_goByBlocks 57 = .ok (.aload_n 0, 1) := by decide +kernel
theorem dX3_goByBlocks_58 : decode cX3_goByBlocks 58 = .ok (.getfield 32, 3) := by decide +kernel
theorem dX3_goByBlocks_61 : decode cX3_goByBlocks 61 = .ok (.iconst 2, 1) := by decide +kernel
theorem dX3_goByBlocks_62 : decode cX3_goByBlocks 62 = .ok (.dup2, 1) := by decide +kernel
theorem dX3_goByBlocks_63 : decode cX3_goByBlocks 63 = .ok (.iaload, 1) := by decide +kernel
theorem dX3_goByBlocks_64 : decode cX3_goByBlocks 64 = .ok (.iload_n 3, 1) := by decide +kernel
theorem dX3_goByBlocks_65 : decode cX3_goByBlocks 65 = .ok (.invokestatic 111, 3) := by decide +kernel
theorem dX3_goByBlocks_68 : decode cX3_goByBlocks 68 = .ok (.iadd, 1) := by decide +kernel
theorem dX3_goByBlocks_69 : decode cX3_goByBlocks 69 = .ok (.iastore, 1) := by decide +kernel
theorem dX3_goByBlocks_70 : decode cX3_goByBlocks 70 = .ok (.iconst 0, 1) := by decide +kernel
theorem dX3_goByBlocks_71 : decode cX3_goByBlocks 71 = .ok (.istore 7, 2) := by decide +kernel
theorem dX3_goByBlocks_73 : decode cX3_goByBlocks 73 = .ok (.iload 7, 2) := by decide +kernel
theorem dX3_goByBlocks_75 : decode cX3_goByBlocks 75 = .ok (.bipush 14, 2) := by decide +kernel
theorem dX3_goByBlocks_77 : decode cX3_goByBlocks 77 = .ok (.if_icmp .ge 37, 3) := by decide +kernel
theorem dX3_goByBlocks_80 : decode cX3_goByBlocks 80 = .ok (.aload_n 0, 1) := by decide +kernel
theorem dX3_goByBlocks_81 : decode cX3_goByBlocks 81 = .ok (.getfield 21, 3) := by decide +kernel
theorem dX3_goByBlocks_84 : decode cX3_goByBlocks 84 = .ok (.getfield 139, 3) := by decide +kernel
theorem dX3_goByBlocks_87 : decode cX3_goByBlocks 87 = .ok (.ifCond .ne 27, 3) := by decide +kernel
theorem dX3_goByBlocks_90 : decode cX3_goByBlocks 90 = .ok (.iload_n 3, 1) := by decide +kernel
theorem dX3_goByBlocks_91 : decode cX3_goByBlocks 91 = .ok (.iload 7, 2) := by decide +kernel
theorem dX3_goByBlocks_93 : decode cX3_goByBlocks 93 = .ok (.invokestatic 143, 3) := by decide +kernel
theorem dX3_goByBlocks_96 : decode cX3_goByBlocks 96 = .ok (.ifCond .eq 12, 3) := by decide +kernel
theorem dX3_goByBlocks_99 : decode cX3_goByBlocks 99 = .ok (.aload_n 0, 1) := by decide +kernel
theorem dX3_goByBlocks_100 : decode cX3_goByBlocks 100 = .ok (.iload_n 1, 1) := by decide +kernel
theorem dX3_goByBlocks_101 : decode cX3_goByBlocks 101 = .ok (.iload 6, 2) := by decide +kernel
theorem dX3_goByBlocks_103 : decode cX3_goByBlocks 103 = .ok (.iload 7, 2) := by decide +kernel
theorem dX3_goByBlocks_105 : decode cX3_goByBlocks 105 = .ok (.invokevirtual 147, 3) := by decide +kernel
theorem dX3_goByBlocks_108 : decode cX3_goByBlocks 108 = .ok (.iinc 7 1, 3) := by decide +kernel
theorem dX3_goByBlocks_111 : decode cX3_goByBlocks 111 = .ok (.goto (-38), 3) := by decide +kernel
theorem dX3_goByBlocks_114 : decode cX3_goByBlocks 114 = .ok (.iinc 5 1, 3) := by decide +kernel
theorem dX3_goByBlocks_117 : decode cX3_goByBlocks 117 = .ok (.goto (-111), 3) := by decide +kernel
theorem dX3_goByBlocks_120 : decode cX3_goByBlocks 120 = .ok (.aload_n 0, 1) := by decide +kernel
theorem dX3_goByBlocks_121 : decode cX3_goByBlocks 121 = .ok (.iload_n 1, 1) := by decide +kernel
theorem dX3_goByBlocks_122 : decode cX3_goByBlocks 122 = .ok (.invokestatic 136, 3) := by decide +kernel
theorem dX3_goByBlocks_125 : decode cX3_goByBlocks 125 = .ok (.iload_n 3, 1) := by decide +kernel
theorem dX3_goByBlocks_126 : decode cX3_goByBlocks 126 = .ok (.invokevirtual 73, 3) := by decide +kernel
theorem dX3_goByBlocks_129 : decode cX3_goByBlocks 129 = .ok (.aload_n 0, 1) := by decide +kernel
theorem dX3_goByBlocks_130 : decode cX3_goByBlocks 130 = .ok (.iload_n 1, 1) := by decide +kernel
theorem dX3_goByBlocks_131 : decode cX3_goByBlocks 131 = .ok (.iload_n 2, 1) := by decide +kernel
theorem dX3_goByBlocks_132 : decode cX3_goByBlocks 132 = .ok (.invokevirtual 73, 3) := by decide +kernel
theorem dX3_goByBlocks_135 : decode cX3_goByBlocks 135 = .ok (.return_, 1) := by decide +kernel
theorem dX3_firstOf_0 : decode cX3_firstOf 0 = .ok (.iconst 0, 1) := by decide +kernel
theorem dX3_firstOf_1 : decode cX3_firstOf 1 = .ok (.istore_n 2, 1) := by decide +kernel
theorem dX3_firstOf_2 : decode cX3_firstOf 2 = .ok (.iconst 0, 1) := by decide +kernel
theorem dX3_firstOf_3 : decode cX3_firstOf 3 = .ok (.istore_n 3, 1) := by decide +kernel
theorem dX3_firstOf_4 : decode cX3_firstOf 4 = .ok (.iload_n 3, 1) := by decide +kernel
theorem dX3_firstOf_5 : decode cX3_firstOf 5 = .ok (.bipush 14, 2) := by decide +kernel
theorem dX3_firstOf_7 : decode cX3_firstOf 7 = .ok (.if_icmp .ge 25, 3) := by decide +kernel
theorem dX3_firstOf_10 : decode cX3_firstOf 10 = .ok (.iload_n 2, 1) := by decide +kernel
theorem dX3_firstOf_11 : decode cX3_firstOf 11 = .ok (.invokestatic 111, 3) := by decide +kernel
theorem dX3_firstOf_14 : decode cX3_firstOf 14 = .ok (.iload_n 1, 1) := by decide +kernel
theorem dX3_firstOf_15 : decode cX3_firstOf 15 = .ok (.if_icmp .ge 17, 3) := by decide +kernel
theorem dX3_firstOf_18 : decode cX3_firstOf 18 = .ok (.iload_n 2, 1) := by decide +kernel
theorem dX3_firstOf_19 : decode cX3_firstOf 19 = .ok (.iload_n 0, 1) := by decide +kernel
theorem dX3_firstOf_20 : decode cX3_firstOf 20 = .ok (.iconst 1, 1) := by decide +kernel
theorem dX3_firstOf_21 : decode cX3_firstOf 21 = .ok (.iload_n 3, 1) := by decide +kernel
theorem dX3_firstOf_22 : decode cX3_firstOf 22 = .ok (.ishl, 1) := by decide +kernel
theorem dX3_firstOf_23 : decode cX3_firstOf 23 = .ok (.iand, 1) := by decide +kernel
theorem dX3_firstOf_24 : decode cX3_firstOf 24 = .ok (.ior, 1) := by decide +kernel
theorem dX3_firstOf_25 : decode cX3_firstOf 25 = .ok (.istore_n 2, 1) := by decide +kernel
theorem dX3_firstOf_26 : decode cX3_firstOf 26 = .ok (.iinc 3 1, 3) := by decide +kernel
theorem dX3_firstOf_29 : decode cX3_firstOf 29 = .ok (.goto (-25), 3) := by decide +kernel
theorem dX3_firstOf_32 : decode cX3_firstOf 32 = .ok (.iload_n 2, 1) := by decide +kernel
theorem dX3_firstOf_33 : decode cX3_firstOf 33 = .ok (.ireturn, 1) := by decide +kernel
theorem dX3_split_0 : decode cX3_split 0 = .ok (.aload_n 0, 1) := by decide +kernel
theorem dX3_split_1 : decode cX3_split 1 = .ok (.getfield 12, 3) := by decide +kernel
theorem dX3_split_4 : decode cX3_split 4 = .ok (.iload_n 1, 1) := by decide +kernel
theorem dX3_split_5 : decode cX3_split 5 = .ok (.invokevirtual 120, 3) := by decide +kernel
theorem dX3_split_8 : decode cX3_split 8 = .ok (.iload 4, 2) := by decide +kernel
theorem dX3_split_10 : decode cX3_split 10 = .ok (.invokevirtual 153, 3) := by decide +kernel
theorem dX3_split_13 : decode cX3_split 13 = .ok (.istore 5, 2) := by decide +kernel
theorem dX3_split_15 : decode cX3_split 15 = .ok (.aload_n 0, 1) := by decide +kernel
theorem dX3_split_16 : decode cX3_split 16 = .ok (.getfield 12, 3) := by decide +kernel
theorem dX3_split_19 : decode cX3_split 19 = .ok (.iload_n 1, 1) := by decide +kernel
theorem dX3_split_20 : decode cX3_split 20 = .ok (.invokestatic 136, 3) := by decide +kernel
theorem dX3_split_23 : decode cX3_split 23 = .ok (.invokevirtual 120, 3) := by decide +kernel
theorem dX3_split_26 : decode cX3_split 26 = .ok (.iload 4, 2) := by decide +kernel
theorem dX3_split_28 : decode cX3_split 28 = .ok (.invokevirtual 153, 3) := by decide +kernel
theorem dX3_split_31 : decode cX3_split 31 = .ok (.istore 6, 2) := by decide +kernel
theorem dX3_split_33 : decode cX3_split 33 = .ok (.iload_n 2, 1) := by decide +kernel
theorem dX3_split_34 : decode cX3_split 34 = .ok (.iload 5, 2) := by decide +kernel
theorem dX3_split_36 : decode cX3_split 36 = .ok (.iconst (-1), 1) := by decide +kernel
theorem dX3_split_37 : decode cX3_split 37 = .ok (.ixor, 1) := by decide +kernel
theorem dX3_split_38 : decode cX3_split 38 = .ok (.iand, 1) := by decide +kernel
theorem dX3_split_39 : decode cX3_split 39 = .ok (.istore 7, 2) := by decide +kernel
theorem dX3_split_41 : decode cX3_split 41 = .ok (.iload_n 2, 1) := by decide +kernel
theorem dX3_split_42 : decode cX3_split 42 = .ok (.iload 5, 2) := by decide +kernel
theorem dX3_split_44 : decode cX3_split 44 = .ok (.iand, 1) := by decide +kernel
theorem dX3_split_45 : decode cX3_split 45 = .ok (.istore 8, 2) := by decide +kernel
theorem dX3_split_47 : decode cX3_split 47 = .ok (.iload_n 3, 1) := by decide +kernel
theorem dX3_split_48 : decode cX3_split 48 = .ok (.iload 6, 2) := by decide +kernel
theorem dX3_split_50 : decode cX3_split 50 = .ok (.iconst (-1), 1) := by decide +kernel
theorem dX3_split_51 : decode cX3_split 51 = .ok (.ixor, 1) := by decide +kernel
theorem dX3_split_52 : decode cX3_split 52 = .ok (.iand, 1) := by decide +kernel
theorem dX3_split_53 : decode cX3_split 53 = .ok (.istore 9, 2) := by decide +kernel
theorem dX3_split_55 : decode cX3_split 55 = .ok (.iload_n 3, 1) := by decide +kernel
theorem dX3_split_56 : decode cX3_split 56 = .ok (.iload 6, 2) := by decide +kernel
theorem dX3_split_58 : decode cX3_split 58 = .ok (.iand, 1) := by decide +kernel
theorem dX3_split_59 : decode cX3_split 59 = .ok (.istore 10, 2) := by decide +kernel
theorem dX3_split_61 : decode cX3_split 61 = .ok (.aload_n 0, 1) := by decide +kernel
theorem dX3_split_62 : decode cX3_split 62 = .ok (.iload 7, 2) := by decide +kernel
theorem dX3_split_64 : decode cX3_split 64 = .ok (.invokestatic 111, 3) := by decide +kernel
theorem dX3_split_67 : decode cX3_split 67 = .ok (.iload 8, 2) := by decide +kernel
theorem dX3_split_69 : decode cX3_split 69 = .ok (.invokestatic 111, 3) := by decide +kernel
theorem dX3_split_72 : decode cX3_split 72 = .ok (.invokevirtual 156, 3) := by decide +kernel
theorem dX3_split_75 : decode cX3_split 75 = .ok (.istore 11, 2) := by decide +kernel
theorem dX3_split_77 : decode cX3_split 77 = .ok (.iload 11, 2) := by decide +kernel
theorem dX3_split_79 : decode cX3_split 79 = .ok (.ifCond .eq 11, 3) := by decide +kernel
theorem dX3_split_82 : decode cX3_split 82 = .ok (.aload_n 0, 1) := by decide +kernel
theorem dX3_split_83 : decode cX3_split 83 = .ok (.iload 7, 2) := by decide +kernel
theorem dX3_split_85 : decode cX3_split 85 = .ok (.iload 9, 2) := by decide +kernel
theorem dX3_split_87 : decode cX3_split 87 = .ok (.invokevirtual 159, 3) := by decide +kernel
theorem dX3_split_90 : decode cX3_split 90 = .ok (.iload 11, 2) := by decide +kernel
theorem dX3_split_92 : decode cX3_split 92 = .ok (.iconst 1, 1) := by decide +kernel
theorem dX3_split_93 : decode cX3_split 93 = .ok (.if_icmp .eq 11, 3) := by decide +kernel
theorem dX3_split_96 : decode cX3_split 96 = .ok (.aload_n 0, 1) := by decide +kernel
theorem dX3_split_97 : decode cX3_split 97 = .ok (.iload 8, 2) := by decide +kernel
theorem dX3_split_99 : decode cX3_split 99 = .ok (.iload 10, 2) := by decide +kernel
theorem dX3_split_101 : decode cX3_split 101 = .ok (.invokevirtual 159, 3) := by decide +kernel
theorem dX3_split_104 : decode cX3_split 104 = .ok (.iload 11, 2) := by decide +kernel
theorem dX3_split_106 : decode cX3_split 106 = .ok (.iconst (-1), 1) := by decide +kernel
theorem dX3_split_107 : decode cX3_split 107 = .ok (.if_icmp .eq 32, 3) := by decide +kernel
theorem dX3_split_110 : decode cX3_split 110 = .ok (.aload_n 0, 1) := by decide +kernel
theorem dX3_split_111 : decode cX3_split 111 = .ok (.iload_n 1, 1) := by decide +kernel
theorem dX3_split_112 : decode cX3_split 112 = .ok (.iload 11, 2) := by decide +kernel
theorem dX3_split_114 : decode cX3_split 114 = .ok (.ifCond .ne 8, 3) := by decide +kernel
theorem dX3_split_117 : decode cX3_split 117 = .ok (.iload 7, 2) := by decide +kernel
theorem dX3_split_119 : decode cX3_split 119 = .ok (.goto 5, 3) := by decide +kernel
theorem dX3_split_122 : decode cX3_split 122 = .ok (.iload 8, 2) := by decide +kernel
theorem dX3_split_124 : decode cX3_split 124 = .ok (.iload 11, 2) := by decide +kernel
theorem dX3_split_126 : decode cX3_split 126 = .ok (.ifCond .ne 8, 3) := by decide +kernel
theorem dX3_split_129 : decode cX3_split 129 = .ok (.iload 9, 2) := by decide +kernel
theorem dX3_split_131 : decode cX3_split 131 = .ok (.goto 5, 3) := by decide +kernel
theorem dX3_split_134 : decode cX3_split 134 = .ok (.iload 10, 2) := by decide +kernel
theorem dX3_split_136 : decode cX3_split 136 = .ok (.invokevirtual 98, 3) := by decide +kernel
theorem dX3_split_139 : decode cX3_split 139 = .ok (.iload 11, 2) := by decide +kernel
theorem dX3_split_141 : decode cX3_split 141 = .ok (.ifCond .eq 14, 3) := by decide +kernel
theorem dX3_split_144 : decode cX3_split 144 = .ok (.aload_n 0, 1) := by decide +kernel
theorem dX3_split_145 : decode cX3_split 145 = .ok (.iload_n 1, 1) := by decide +kernel
theorem dX3_split_146 : decode cX3_split 146 = .ok (.iload 7, 2) := by decide +kernel
theorem dX3_split_148 : decode cX3_split 148 = .ok (.iload 9, 2) := by decide +kernel
theorem dX3_split_150 : decode cX3_split 150 = .ok (.iload 4, 2) := by decide +kernel
theorem dX3_split_152 : decode cX3_split 152 = .ok (.invokevirtual 162, 3) := by decide +kernel
theorem dX3_split_155 : decode cX3_split 155 = .ok (.iload 11, 2) := by decide +kernel
theorem dX3_split_157 : decode cX3_split 157 = .ok (.iconst 1, 1) := by decide +kernel
theorem dX3_split_158 : decode cX3_split 158 = .ok (.if_icmp .eq 14, 3) := by decide +kernel
theorem dX3_split_161 : decode cX3_split 161 = .ok (.aload_n 0, 1) := by decide +kernel
theorem dX3_split_162 : decode cX3_split 162 = .ok (.iload_n 1, 1) := by decide +kernel
theorem dX3_split_163 : decode cX3_split 163 = .ok (.iload 8, 2) := by decide +kernel
theorem dX3_split_165 : decode cX3_split 165 = .ok (.iload 10, 2) := by decide +kernel
theorem dX3_split_167 : decode cX3_split 167 = .ok (.iload 4, 2) := by decide +kernel
theorem dX3_split_169 : decode cX3_split 169 = .ok (.invokevirtual 162, 3) := by decide +kernel
theorem dX3_split_172 : decode cX3_split 172 = .ok (.return_, 1) := by decide +kernel
theorem dX3_residentHalf_0 : decode cX3_residentHalf 0 = .ok (.iload_n 1, 1) := by decide +kernel
theorem dX3_residentHalf_1 : decode cX3_residentHalf 1 = .ok (.aload_n 0, 1) := by decide +kernel
theorem dX3_residentHalf_2 : decode cX3_residentHalf 2 = .ok (.getfield 12, 3) := by decide +kernel
theorem dX3_residentHalf_5 : decode cX3_residentHalf 5 = .ok (.getfield 117, 3) := by decide +kernel
theorem dX3_residentHalf_8 : decode cX3_residentHalf 8 = .ok (.if_icmp .gt 7, 3) := by decide +kernel
theorem dX3_residentHalf_11 : decode cX3_residentHalf 11 = .ok (.iconst 1, 1) := by decide +kernel
theorem dX3_residentHalf_12 : decode cX3_residentHalf 12 = .ok (.goto 4, 3) := by decide +kernel
theorem dX3_residentHalf_15 : decode cX3_residentHalf 15 = .ok (.iconst 0, 1) := by decide +kernel
theorem dX3_residentHalf_16 : decode cX3_residentHalf 16 = .ok (.istore_n 3, 1) := by decide +kernel
theorem dX3_residentHalf_17 : decode cX3_residentHalf 17 = .ok (.iload_n 2, 1) := by decide +kernel
theorem dX3_residentHalf_18 : decode cX3_residentHalf 18 = .ok (.aload_n 0, 1) := by decide +kernel
theorem dX3_residentHalf_19 : decode cX3_residentHalf 19 = .ok (.getfield 12, 3) := by decide +kernel
theorem dX3_residentHalf_22 : decode cX3_residentHalf 22 = .ok (.getfield 117, 3) := by decide +kernel
theorem dX3_residentHalf_25 : decode cX3_residentHalf 25 = .ok (.if_icmp .gt 7, 3) := by decide +kernel
theorem dX3_residentHalf_28 : decode cX3_residentHalf 28 = .ok (.iconst 1, 1) := by decide +kernel
theorem dX3_residentHalf_29 : decode cX3_residentHalf 29 = .ok (.goto 4, 3) := by decide +kernel
theorem dX3_residentHalf_32 : decode cX3_residentHalf 32 = .ok (.iconst 0, 1) := by decide +kernel
theorem dX3_residentHalf_33 : decode cX3_residentHalf 33 = .ok (.istore 4, 2) := by decide +kernel
theorem dX3_residentHalf_35 : decode cX3_residentHalf 35 = .ok (.iload_n 3, 1) := by decide +kernel
theorem dX3_residentHalf_36 : decode cX3_residentHalf 36 = .ok (.ifCond .eq 19, 3) := by decide +kernel
theorem dX3_residentHalf_39 : decode cX3_residentHalf 39 = .ok (.iload 4, 2) := by decide +kernel
theorem dX3_residentHalf_41 : decode cX3_residentHalf 41 = .ok (.ifCond .eq 14, 3) := by decide +kernel
theorem dX3_residentHalf_44 : decode cX3_residentHalf 44 = .ok (.iload_n 2, 1) := by decide +kernel
theorem dX3_residentHalf_45 : decode cX3_residentHalf 45 = .ok (.iload_n 1, 1) := by decide +kernel
theorem dX3_residentHalf_46 : decode cX3_residentHalf 46 = .ok (.if_icmp .le 7, 3) := by decide +kernel
theorem dX3_residentHalf_49 : decode cX3_residentHalf 49 = .ok (.iconst 1, 1) := by decide +kernel
theorem dX3_residentHalf_50 : decode cX3_residentHalf 50 = .ok (.goto 4, 3) := by decide +kernel
theorem dX3_residentHalf_53 : decode cX3_residentHalf 53 = .ok (.iconst 0, 1) := by decide +kernel
theorem dX3_residentHalf_54 : decode cX3_residentHalf 54 = .ok (.ireturn, 1) := by decide +kernel
theorem dX3_residentHalf_55 : decode cX3_residentHalf 55 = .ok (.iload_n 3, 1) := by decide +kernel
theorem dX3_residentHalf_56 : decode cX3_residentHalf 56 = .ok (.ifCond .eq 5, 3) := by decide +kernel
theorem dX3_residentHalf_59 : decode cX3_residentHalf 59 = .ok (.iconst 0, 1) := by decide +kernel
theorem dX3_residentHalf_60 : decode cX3_residentHalf 60 = .ok (.ireturn, 1) := by decide +kernel
theorem dX3_residentHalf_61 : decode cX3_residentHalf 61 = .ok (.iload 4, 2) := by decide +kernel
theorem dX3_residentHalf_63 : decode cX3_residentHalf 63 = .ok (.ifCond .eq 7, 3) := by decide +kernel
theorem dX3_residentHalf_66 : decode cX3_residentHalf 66 = .ok (.iconst 1, 1) := by decide +kernel
theorem dX3_residentHalf_67 : decode cX3_residentHalf 67 = .ok (.goto 4, 3) := by decide +kernel
theorem dX3_residentHalf_70 : decode cX3_residentHalf 70 = .ok (.iconst (-1), 1) := by decide +kernel
theorem dX3_residentHalf_71 : decode cX3_residentHalf 71 = .ok (.ireturn, 1) := by decide +kernel
theorem dX3_spill_0 : decode cX3_spill 0 = .ok (.iload_n 1, 1) := by decide +kernel
theorem dX3_spill_1 : decode cX3_spill 1 = .ok (.iload_n 2, 1) := by decide +kernel
theorem dX3_spill_2 : decode cX3_spill 2 = .ok (.ior, 1) := by decide +kernel
theorem dX3_spill_3 : decode cX3_spill 3 = .ok (.ifCond .eq 37, 3) := by decide +kernel
theorem dX3_spill_6 : decode cX3_spill 6 = .ok (.aload_n 0, 1) := by decide +kernel
theorem dX3_spill_7 : decode cX3_spill 7 = .ok (.getfield 28, 3) := by decide +kernel
theorem dX3_spill_10 : decode cX3_spill 10 = .ok (.iconst 3, 1) := by decide +kernel
theorem dX3_spill_11 : decode cX3_spill 11 = .ok (.invokevirtual 92, 3) := by decide +kernel
theorem dX3_spill_14 : decode cX3_spill 14 = .ok (.aload_n 0, 1) := by decide +kernel
theorem dX3_spill_15 : decode cX3_spill 15 = .ok (.getfield 28, 3) := by decide +kernel
theorem dX3_spill_18 : decode cX3_spill 18 = .ok (.iconst 3, 1) := by decide +kernel
theorem dX3_spill_19 : decode cX3_spill 19 = .ok (.invokevirtual 92, 3) := by decide +kernel
theorem dX3_spill_22 : decode cX3_spill 22 = .ok (.aload_n 0, 1) := by decide +kernel
theorem dX3_spill_23 : decode cX3_spill 23 = .ok (.getfield 32, 3) := by decide +kernel
theorem dX3_spill_26 : decode cX3_spill 26 = .ok (.iconst 1, 1) := by decide +kernel
theorem dX3_spill_27 : decode cX3_spill 27 = .ok (.dup2, 1) := by decide +kernel
theorem dX3_spill_28 : decode cX3_spill 28 = .ok (.iaload, 1) := by decide +kernel
theorem dX3_spill_29 : decode cX3_spill 29 = .ok (.iload_n 1, 1) := by decide +kernel
theorem dX3_spill_30 : decode cX3_spill 30 = .ok (.invokestatic 111, 3) := by decide +kernel
theorem dX3_spill_33 : decode cX3_spill 33 = .ok (.iload_n 2, 1) := by decide +kernel
theorem dX3_spill_34 : decode cX3_spill 34 = .ok (.invokestatic 111, 3) := by decide +kernel
theorem dX3_spill_37 : decode cX3_spill 37 = .ok (.iadd, 1) := by decide +kernel
theorem dX3_spill_38 : decode cX3_spill 38 = .ok (.iadd, 1) := by decide +kernel
theorem dX3_spill_39 : decode cX3_spill 39 = .ok (.iastore, 1) := by decide +kernel
theorem dX3_spill_40 : decode cX3_spill 40 = .ok (.return_, 1) := by decide +kernel
theorem dX3_goOn_0 : decode cX3_goOn 0 = .ok (.iload_n 2, 1) := by decide +kernel
theorem dX3_goOn_1 : decode cX3_goOn 1 = .ok (.iload_n 3, 1) := by decide +kernel
theorem dX3_goOn_2 : decode cX3_goOn 2 = .ok (.ior, 1) := by decide +kernel
theorem dX3_goOn_3 : decode cX3_goOn 3 = .ok (.ifCond .eq 63, 3) := by decide +kernel
theorem dX3_goOn_6 : decode cX3_goOn 6 = .ok (.iload 4, 2) := by decide +kernel
theorem dX3_goOn_8 : decode cX3_goOn 8 = .ok (.iconst 4, 1) := by decide +kernel
theorem dX3_goOn_9 : decode cX3_goOn 9 = .ok (.if_icmp .ge 57, 3) := by decide +kernel
theorem dX3_goOn_12 : decode cX3_goOn 12 = .ok (.aload_n 0, 1) := by decide +kernel
theorem dX3_goOn_13 : decode cX3_goOn 13 = .ok (.getfield 21, 3) := by decide +kernel
theorem dX3_goOn_16 : decode cX3_goOn 16 = .ok (.getfield 139, 3) := by decide +kernel
theorem dX3_goOn_19 : decode cX3_goOn 19 = .ok (.ifCond .ne 47, 3) := by decide +kernel
theorem dX3_goOn_22 : decode cX3_goOn 22 = .ok (.aload_n 0, 1) := by decide +kernel
theorem dX3_goOn_23 : decode cX3_goOn 23 = .ok (.getfield 32, 3) := by decide +kernel
theorem dX3_goOn_26 : decode cX3_goOn 26 = .ok (.iconst 2, 1) := by decide +kernel
theorem dX3_goOn_27 : decode cX3_goOn 27 = .ok (.dup2, 1) := by decide +kernel
theorem dX3_goOn_28 : decode cX3_goOn 28 = .ok (.iaload, 1) := by decide +kernel
theorem dX3_goOn_29 : decode cX3_goOn 29 = .ok (.iload_n 2, 1) := by decide +kernel
theorem dX3_goOn_30 : decode cX3_goOn 30 = .ok (.invokestatic 111, 3) := by decide +kernel
theorem dX3_goOn_33 : decode cX3_goOn 33 = .ok (.iload_n 3, 1) := by decide +kernel
theorem dX3_goOn_34 : decode cX3_goOn 34 = .ok (.invokestatic 111, 3) := by decide +kernel
theorem dX3_goOn_37 : decode cX3_goOn 37 = .ok (.iadd, 1) := by decide +kernel
theorem dX3_goOn_38 : decode cX3_goOn 38 = .ok (.iadd, 1) := by decide +kernel
theorem dX3_goOn_39 : decode cX3_goOn 39 = .ok (.iastore, 1) := by decide +kernel
theorem dX3_goOn_40 : decode cX3_goOn 40 = .ok (.aload_n 0, 1) := by decide +kernel
theorem dX3_goOn_41 : decode cX3_goOn 41 = .ok (.iload_n 1, 1) := by decide +kernel
theorem dX3_goOn_42 : decode cX3_goOn 42 = .ok (.ifCond .ne 7, 3) := by decide +kernel
theorem dX3_goOn_45 : decode cX3_goOn 45 = .ok (.iload_n 2, 1) := by decide +kernel
theorem dX3_goOn_46 : decode cX3_goOn 46 = .ok (.goto 4, 3) := by decide +kernel
theorem dX3_goOn_49 : decode cX3_goOn 49 = .ok (.iload_n 3, 1) := by decide +kernel
theorem dX3_goOn_50 : decode cX3_goOn 50 = .ok (.iload_n 1, 1) := by decide +kernel
theorem dX3_goOn_51 : decode cX3_goOn 51 = .ok (.ifCond .ne 7, 3) := by decide +kernel
theorem dX3_goOn_54 : decode cX3_goOn 54 = .ok (.iload_n 3, 1) := by decide +kernel
theorem dX3_goOn_55 : decode cX3_goOn 55 = .ok (.goto 4, 3) := by decide +kernel
theorem dX3_goOn_58 : decode cX3_goOn 58 = .ok (.iload_n 2, 1) := by decide +kernel
theorem dX3_goOn_59 : decode cX3_goOn 59 = .ok (.iload 4, 2) := by decide +kernel
theorem dX3_goOn_61 : decode cX3_goOn 61 = .ok (.iconst 1, 1) := by decide +kernel
theorem dX3_goOn_62 : decode cX3_goOn 62 = .ok (.iadd, 1) := by decide +kernel
theorem dX3_goOn_63 : decode cX3_goOn 63 = .ok (.invokevirtual 66, 3) := by decide +kernel
theorem dX3_goOn_66 : decode cX3_goOn 66 = .ok (.return_, 1) := by decide +kernel
theorem dX3_noteHeld_0 : decode cX3_noteHeld 0 = .ok (.aload_n 0, 1) := by decide +kernel
theorem dX3_noteHeld_1 : decode cX3_noteHeld 1 = .ok (.getfield 32, 3) := by decide +kernel
theorem dX3_noteHeld_4 : decode cX3_noteHeld 4 = .ok (.iconst 3, 1) := by decide +kernel
theorem dX3_noteHeld_5 : decode cX3_noteHeld 5 = .ok (.aload_n 0, 1) := by decide +kernel
theorem dX3_noteHeld_6 : decode cX3_noteHeld 6 = .ok (.getfield 32, 3) := by decide +kernel
theorem dX3_noteHeld_9 : decode cX3_noteHeld 9 = .ok (.iconst 3, 1) := by decide +kernel
theorem dX3_noteHeld_10 : decode cX3_noteHeld 10 = .ok (.iaload, 1) := by decide +kernel
theorem dX3_noteHeld_11 : decode cX3_noteHeld 11 = .ok (.iload_n 1, 1) := by decide +kernel
theorem dX3_noteHeld_12 : decode cX3_noteHeld 12 = .ok (.invokestatic 111, 3) := by decide +kernel
theorem dX3_noteHeld_15 : decode cX3_noteHeld 15 = .ok (.invokestatic 128, 3) := by decide +kernel
theorem dX3_noteHeld_18 : decode cX3_noteHeld 18 = .ok (.iastore, 1) := by decide +kernel
theorem dX3_noteHeld_19 : decode cX3_noteHeld 19 = .ok (.return_, 1) := by decide +kernel
theorem dX3_meetAll_0 : decode cX3_meetAll 0 = .ok (.iload_n 2, 1) := by decide +kernel
theorem dX3_meetAll_1 : decode cX3_meetAll 1 = .ok (.aload_n 0, 1) := by decide +kernel
theorem dX3_meetAll_2 : decode cX3_meetAll 2 = .ok (.getfield 12, 3) := by decide +kernel
theorem dX3_meetAll_5 : decode cX3_meetAll 5 = .ok (.iload_n 1, 1) := by decide +kernel
theorem dX3_meetAll_6 : decode cX3_meetAll 6 = .ok (.invokestatic 136, 3) := by decide +kernel
theorem dX3_meetAll_9 : decode cX3_meetAll 9 = .ok (.iload_n 3, 1) := by decide +kernel
theorem dX3_meetAll_10 : decode cX3_meetAll 10 = .ok (.invokevirtual 165, 3) := by decide +kernel
theorem dX3_meetAll_13 : decode cX3_meetAll 13 = .ok (.iand, 1) := by decide +kernel
theorem dX3_meetAll_14 : decode cX3_meetAll 14 = .ok (.istore 4, 2) := by decide +kernel
theorem dX3_meetAll_16 : decode cX3_meetAll 16 = .ok (.iconst 0, 1) := by decide +kernel
theorem dX3_meetAll_17 : decode cX3_meetAll 17 = .ok (.istore 5, 2) := by decide +kernel
theorem dX3_meetAll_19 : decode cX3_meetAll 19 = .ok (.iload 5, 2) := by decide +kernel
theorem dX3_meetAll_21 : decode cX3_meetAll 21 = .ok (.bipush 14, 2) := by decide +kernel
theorem dX3_meetAll_23 : decode cX3_meetAll 23 = .ok (.if_icmp .ge 53, 3) := by decide +kernel
theorem dX3_meetAll_26 : decode cX3_meetAll 26 = .ok (.aload_n 0, 1) := by decide +kernel
theorem dX3_meetAll_27 : decode cX3_meetAll 27 = .ok (.getfield 21, 3) := by decide +kernel
theorem dX3_meetAll_30 : decode cX3_meetAll 30 = .ok (.getfield 139, 3) := by decide +kernel
theorem dX3_meetAll_33 : decode cX3_meetAll 33 = .ok (.ifCond .ne 43, 3) := by decide +kernel
theorem dX3_meetAll_36 : decode cX3_meetAll 36 = .ok (.iload 4, 2) := by decide +kernel
theorem dX3_meetAll_38 : decode cX3_meetAll 38 = .ok (.iload 5, 2) := by decide +kernel
theorem dX3_meetAll_40 : decode cX3_meetAll 40 = .ok (.invokestatic 143, 3) := by decide +kernel
theorem dX3_meetAll_43 : decode cX3_meetAll 43 = .ok (.ifCond .eq 27, 3) := by decide +kernel
theorem dX3_meetAll_46 : decode cX3_meetAll 46 = .ok (.aload_n 0, 1) := by decide +kernel
theorem dX3_meetAll_47 : decode cX3_meetAll 47 = .ok (.iload_n 1, 1) := by decide +kernel
theorem dX3_meetAll_48 : decode cX3_meetAll 48 = .ok (.ifCond .ne 8, 3) := by decide +kernel
theorem dX3_meetAll_51 : decode cX3_meetAll 51 = .ok (.iload 5, 2) := by decide +kernel
theorem dX3_meetAll_53 : decode cX3_meetAll 53 = .ok (.goto 4, 3) := by decide +kernel
theorem dX3_meetAll_56 : decode cX3_meetAll 56 = .ok (.iload_n 3, 1) := by decide +kernel
theorem dX3_meetAll_57 : decode cX3_meetAll 57 = .ok (.iload_n 1, 1) := by decide +kernel
theorem dX3_meetAll_58 : decode cX3_meetAll 58 = .ok (.ifCond .ne 7, 3) := by decide +kernel
theorem dX3_meetAll_61 : decode cX3_meetAll 61 = .ok (.iload_n 3, 1) := by decide +kernel
theorem dX3_meetAll_62 : decode cX3_meetAll 62 = .ok (.goto 5, 3) := by decide +kernel
theorem dX3_meetAll_65 : decode cX3_meetAll 65 = .ok (.iload 5, 2) := by decide +kernel
theorem dX3_meetAll_67 : decode cX3_meetAll 67 = .ok (.invokevirtual 168, 3) := by decide +kernel
theorem dX3_meetAll_70 : decode cX3_meetAll 70 = .ok (.iinc 5 1, 3) := by decide +kernel
theorem dX3_meetAll_73 : decode cX3_meetAll 73 = .ok (.goto (-54), 3) := by decide +kernel
theorem dX3_meetAll_76 : decode cX3_meetAll 76 = .ok (.return_, 1) := by decide +kernel
theorem dX3_meet_0 : decode cX3_meet 0 = .ok (.aload_n 0, 1) := by decide +kernel
theorem dX3_meet_1 : decode cX3_meet 1 = .ok (.getfield 12, 3) := by decide +kernel
theorem dX3_meet_4 : decode cX3_meet 4 = .ok (.getfield 171, 3) := by decide +kernel
theorem dX3_meet_7 : decode cX3_meet 7 = .ok (.iconst 0, 1) := by decide +kernel
theorem dX3_meet_8 : decode cX3_meet 8 = .ok (.invokestatic 174, 3) := by decide +kernel
theorem dX3_meet_11 : decode cX3_meet 11 = .ok (.ifCond .eq 15, 3) := by decide +kernel
theorem dX3_meet_14 : decode cX3_meet 14 = .ok (.aload_n 0, 1) := by decide +kernel
theorem dX3_meet_15 : decode cX3_meet 15 = .ok (.getfield 21, 3) := by decide +kernel
theorem dX3_meet_18 : decode cX3_meet 18 = .ok (.iload_n 1, 1) := by decide +kernel
theorem dX3_meet_19 : decode cX3_meet 19 = .ok (.iload_n 2, 1) := by decide +kernel
theorem dX3_meet_20 : decode cX3_meet 20 = .ok (.invokevirtual 177, 3) := by decide +kernel
theorem dX3_meet_23 : decode cX3_meet 23 = .ok (.goto 49, 3) := by decide +kernel
theorem dX3_meet_26 : decode cX3_meet 26 = .ok (.aload_n 0, 1) := by decide +kernel
theorem dX3_meet_27 : decode cX3_meet 27 = .ok (.getfield 12, 3) := by decide +kernel
theorem dX3_meet_30 : decode cX3_meet 30 = .ok (.getfield 171, 3) := by decide +kernel
theorem dX3_meet_33 : decode cX3_meet 33 = .ok (.iconst 3, 1) := by decide +kernel
theorem dX3_meet_34 : decode cX3_meet 34 = .ok (.invokestatic 174, 3) := by decide +kernel
theorem dX3_meet_37 : decode cX3_meet 37 = .ok (.ifCond .eq 35, 3) := by decide +kernel
theorem dX3_meet_40 : decode cX3_meet 40 = .ok (.aload_n 0, 1) := by decide +kernel
theorem dX3_meet_41 : decode cX3_meet 41 = .ok (.getfield 48, 3) := by decide +kernel
theorem dX3_meet_44 : decode cX3_meet 44 = .ok (.iload_n 1, 1) := by decide +kernel
theorem dX3_meet_45 : decode cX3_meet 45 = .ok (.invokestatic 143, 3) := by decide +kernel
theorem dX3_meet_48 : decode cX3_meet 48 = .ok (.ifCond .ne 24, 3) := by decide +kernel
theorem dX3_meet_51 : decode cX3_meet 51 = .ok (.aload_n 0, 1) := by decide +kernel
theorem dX3_meet_52 : decode cX3_meet 52 = .ok (.dup, 1) := by decide +kernel
theorem dX3_meet_53 : decode cX3_meet 53 = .ok (.getfield 48, 3) := by decide +kernel
theorem dX3_meet_56 : decode cX3_meet 56 = .ok (.iconst 1, 1) := by decide +kernel
theorem dX3_meet_57 : decode cX3_meet 57 = .ok (.iload_n 1, 1) := by decide +kernel
theorem dX3_meet_58 : decode cX3_meet 58 = .ok (.ishl, 1) := by decide +kernel
theorem dX3_meet_59 : decode cX3_meet 59 = .ok (.ior, 1) := by decide +kernel
theorem dX3_meet_60 : decode cX3_meet 60 = .ok (.putfield 48, 3) := by decide +kernel
theorem dX3_meet_63 : decode cX3_meet 63 = .ok (.aload_n 0, 1) := by decide +kernel
theorem dX3_meet_64 : decode cX3_meet 64 = .ok (.getfield 21, 3) := by decide +kernel
theorem dX3_meet_67 : decode cX3_meet 67 = .ok (.iload_n 1, 1) := by decide +kernel
theorem dX3_meet_68 : decode cX3_meet 68 = .ok (.iconst (-1), 1) := by decide +kernel
theorem dX3_meet_69 : decode cX3_meet 69 = .ok (.invokevirtual 177, 3) := by decide +kernel
theorem dX3_meet_72 : decode cX3_meet 72 = .ok (.return_, 1) := by decide +kernel
theorem dX3_comeOutAlone_0 : decode cX3_comeOutAlone 0 = .ok (.aload_n 0, 1) := by decide +kernel
theorem dX3_comeOutAlone_1 : decode cX3_comeOutAlone 1 = .ok (.getfield 12, 3) := by decide +kernel
theorem dX3_comeOutAlone_4 : decode cX3_comeOutAlone 4 = .ok (.getfield 171, 3) := by decide +kernel
theorem dX3_comeOutAlone_7 : decode cX3_comeOutAlone 7 = .ok (.iload_n 1, 1) := by decide +kernel
theorem dX3_comeOutAlone_8 : decode cX3_comeOutAlone 8 = .ok (.ifCond .ne 7, 3) := by decide +kernel
theorem dX3_comeOutAlone_11 : decode cX3_comeOutAlone 11 = .ok (.iconst 1, 1) := by decide +kernel
theorem dX3_comeOutAlone_12 : decode cX3_comeOutAlone 12 = .ok (.goto 4, 3) := by decide +kernel
theorem dX3_comeOutAlone_15 : decode cX3_comeOutAlone 15 = .ok (.iconst 2, 1) := by decide +kernel
theorem dX3_comeOutAlone_16 : decode cX3_comeOutAlone 16 = .ok (.invokestatic 174, 3) := by decide +kernel
theorem dX3_comeOutAlone_19 : decode cX3_comeOutAlone 19 = .ok (.ifCond .ne 4, 3) := by decide +kernel
theorem dX3_comeOutAlone_22 : decode cX3_comeOutAlone 22 = .ok (.return_, 1) := by decide +kernel
theorem dX3_comeOutAlone_23 : decode cX3_comeOutAlone 23 = .ok (.iconst 0, 1) := by decide +kernel
theorem dX3_comeOutAlone_24 : decode cX3_comeOutAlone 24 = .ok (.istore_n 3, 1) := by decide +kernel
theorem dX3_comeOutAlone_25 : decode cX3_comeOutAlone 25 = .ok (.iload_n 3, 1) := by decide +kernel
theorem dX3_comeOutAlone_26 : decode cX3_comeOutAlone 26 = .ok (.bipush 14, 2) := by decide +kernel
theorem dX3_comeOutAlone_28 : decode cX3_comeOutAlone 28 = .ok (.if_icmp .ge 64, 3) := by decide +kernel
theorem dX3_comeOutAlone_31 : decode cX3_comeOutAlone 31 = .ok (.aload_n 0, 1) := by decide +kernel
theorem dX3_comeOutAlone_32 : decode cX3_comeOutAlone 32 = .ok (.getfield 21, 3) := by decide +kernel
theorem dX3_comeOutAlone_35 : decode cX3_comeOutAlone 35 = .ok (.getfield 139, 3) := by decide +kernel
theorem dX3_comeOutAlone_38 : decode cX3_comeOutAlone 38 = .ok (.ifCond .ne 54, 3) := by decide +kernel
theorem dX3_comeOutAlone_41 : decode cX3_comeOutAlone 41 = .ok (.iload_n 2, 1) := by decide +kernel
theorem dX3_comeOutAlone_42 : decode cX3_comeOutAlone 42 = .ok (.iload_n 3, 1) := by decide +kernel
theorem dX3_comeOutAlone_43 : decode cX3_comeOutAlone 43 = .ok (.invokestatic 143, 3) := by decide +kernel
theorem dX3_comeOutAlone_46 : decode cX3_comeOutAlone 46 = .ok (.ifCond .eq 40, 3) := by decide +kernel
theorem dX3_comeOutAlone_49 : decode cX3_comeOutAlone 49 = .ok (.aload_n 0, 1) := by decide +kernel
theorem dX3_comeOutAlone_50 : decode cX3_comeOutAlone 50 = .ok (.getfield 12, 3) := by decide +kernel
theorem dX3_comeOutAlone_53 : decode cX3_comeOutAlone 53 = .ok (.iload_n 1, 1) := by decide +kernel
theorem dX3_comeOutAlone_54 : decode cX3_comeOutAlone 54 = .ok (.iload_n 3, 1) := by decide +kernel
theorem dX3_comeOutAlone_55 : decode cX3_comeOutAlone 55 = .ok (.invokevirtual 165, 3) := by decide +kernel
theorem dX3_comeOutAlone_58 : decode cX3_comeOutAlone 58 = .ok (.ifCond .ne 28, 3) := by decide +kernel
theorem dX3_comeOutAlone_61 : decode cX3_comeOutAlone 61 = .ok (.aload_n 0, 1) := by decide +kernel
theorem dX3_comeOutAlone_62 : decode cX3_comeOutAlone 62 = .ok (.getfield 21, 3) := by decide +kernel
theorem dX3_comeOutAlone_65 : decode cX3_comeOutAlone 65 = .ok (.iload_n 1, 1) := by decide +kernel
theorem dX3_comeOutAlone_66 : decode cX3_comeOutAlone 66 = .ok (.ifCond .ne 7, 3) := by decide +kernel
theorem dX3_comeOutAlone_69 : decode cX3_comeOutAlone 69 = .ok (.iload_n 3, 1) := by decide +kernel
theorem dX3_comeOutAlone_70 : decode cX3_comeOutAlone 70 = .ok (.goto 4, 3) := by decide +kernel
theorem dX3_comeOutAlone_73 : decode cX3_comeOutAlone 73 = .ok (.iconst (-1), 1) := by decide +kernel
theorem dX3_comeOutAlone_74 : decode cX3_comeOutAlone 74 = .ok (.iload_n 1, 1) := by decide +kernel
theorem dX3_comeOutAlone_75 : decode cX3_comeOutAlone 75 = .ok (.ifCond .ne 7, 3) := by decide +kernel
theorem dX3_comeOutAlone_78 : decode cX3_comeOutAlone 78 = .ok (.iconst (-1), 1) := by decide +kernel
theorem dX3_comeOutAlone_79 : decode cX3_comeOutAlone 79 = .ok (.goto 4, 3) := by decide +kernel
theorem dX3_comeOutAlone_82 : decode cX3_comeOutAlone 82 = .ok (.iload_n 3, 1) := by decide +kernel
theorem dX3_comeOutAlone_83 : decode cX3_comeOutAlone 83 = .ok (.invokevirtual 177, 3) := by decide +kernel
theorem dX3_comeOutAlone_86 : decode cX3_comeOutAlone 86 = .ok (.iinc 3 1, 3) := by decide +kernel
theorem dX3_comeOutAlone_89 : decode cX3_comeOutAlone 89 = .ok (.goto (-64), 3) := by decide +kernel
theorem dX3_comeOutAlone_92 : decode cX3_comeOutAlone 92 = .ok (.return_, 1) := by decide +kernel
theorem dX4_init_0 : decode cX4_init 0 = .ok (.aload_n 0, 1) := by decide +kernel
theorem dX4_init_1 : decode cX4_init 1 = .ok (.invokespecial 3, 3) := by decide +kernel
theorem dX4_init_4 : decode cX4_init 4 = .ok (.aload_n 0, 1) := by decide +kernel
theorem dX4_init_5 : decode cX4_init 5 = .ok (.bipush 31, 2) := by decide +kernel
theorem dX4_init_7 : decode cX4_init 7 = .ok (.putfield 11, 3) := by decide +kernel
theorem dX4_init_10 : decode cX4_init 10 = .ok (.return_, 1) := by decide +kernel
theorem dX4_clear_0 : decode cX4_clear 0 = .ok (.aload_n 0, 1) := by decide +kernel
theorem dX4_clear_1 : decode cX4_clear 1 = .ok (.iconst 0, 1) := by decide +kernel
theorem dX4_clear_2 : decode cX4_clear 2 = .ok (.putfield 15, 3) := by decide +kernel
theorem dX4_clear_5 : decode cX4_clear 5 = .ok (.aload_n 0, 1) := by decide +kernel
theorem dX4_clear_6 : decode cX4_clear 6 = .ok (.bipush 31, 2) := by decide +kernel
theorem dX4_clear_8 : decode cX4_clear 8 = .ok (.putfield 11, 3) := by decide +kernel
theorem dX4_clear_11 : decode cX4_clear 11 = .ok (.return_, 1) := by decide +kernel
theorem dX4_add_0 : decode cX4_add 0 = .ok (.iload_n 1, 1) := by decide +kernel
theorem dX4_add_1 : decode cX4_add 1 = .ok (.invokestatic 18, 3) := by decide +kernel
theorem dX4_add_4 : decode cX4_add 4 = .ok (.istore_n 3, 1) := by decide +kernel
theorem dX4_add_5 : decode cX4_add 5 = .ok (.aload_n 0, 1) := by decide +kernel
theorem dX4_add_6 : decode cX4_add 6 = .ok (.dup, 1) := by decide +kernel
theorem dX4_add_7 : decode cX4_add 7 = .ok (.getfield 11, 3) := by decide +kernel
theorem dX4_add_10 : decode cX4_add 10 = .ok (.iload_n 2, 1) := by decide +kernel
theorem dX4_add_11 : decode cX4_add 11 = .ok (.ifCond .eq 7, 3) := by decide +kernel
theorem dX4_add_14 : decode cX4_add 14 = .ok (.iload_n 3, 1) := by decide +kernel
theorem dX4_add_15 : decode cX4_add 15 = .ok (.goto 6, 3) := by decide +kernel
theorem dX4_add_18 : decode cX4_add 18 = .ok (.iload_n 3, 1) := by decide +kernel
theorem dX4_add_19 : decode cX4_add 19 = .ok (.iconst (-1), 1) := by decide +kernel
theorem dX4_add_20 : decode cX4_add 20 = .ok (.ixor, 1) := by decide +kernel
theorem dX4_add_21 : decode cX4_add 21 = .ok (.iand, 1) := by decide +kernel
theorem dX4_add_22 : decode cX4_add 22 = .ok (.putfield 11, 3) := by decide +kernel
theorem dX4_add_25 : decode cX4_add 25 = .ok (.aload_n 0, 1) := by decide +kernel
theorem dX4_add_26 : decode cX4_add 26 = .ok (.dup, 1) := by decide +kernel
theorem dX4_add_27 : decode cX4_add 27 = .ok (.getfield 15, 3) := by decide +kernel
theorem dX4_add_30 : decode cX4_add 30 = .ok (.iconst 1, 1) := by decide +kernel
theorem dX4_add_31 : decode cX4_add 31 = .ok (.iadd, 1) := by decide +kernel
theorem dX4_add_32 : decode cX4_add 32 = .ok (.putfield 15, 3) := by decide +kernel
theorem dX4_add_35 : decode cX4_add 35 = .ok (.return_, 1) := by decide +kernel
theorem dX4_copy_0 : decode cX4_copy 0 = .ok (.aload_n 0, 1) := by decide +kernel
theorem dX4_copy_1 : decode cX4_copy 1 = .ok (.aload_n 1, 1) := by decide +kernel
theorem dX4_copy_2 : decode cX4_copy 2 = .ok (.getfield 15, 3) := by decide +kernel
theorem dX4_copy_5 : decode cX4_copy 5 = .ok (.putfield 15, 3) := by decide +kernel
theorem dX4_copy_8 : decode cX4_copy 8 = .ok (.aload_n 0, 1) := by decide +kernel
theorem dX4_copy_9 : decode cX4_copy 9 = .ok (.aload_n 1, 1) := by decide +kernel
theorem dX4_copy_10 : decode cX4_copy 10 = .ok (.getfield 11, 3) := by decide +kernel
theorem dX4_copy_13 : decode cX4_copy 13 = .ok (.putfield 11, 3) := by decide +kernel
theorem dX4_copy_16 : decode cX4_copy 16 = .ok (.return_, 1) := by decide +kernel
theorem dX4_bestQuestion_0 : decode cX4_bestQuestion 0 = .ok (.iconst (-1), 1) := by decide +kernel
theorem dX4_bestQuestion_1 : decode cX4_bestQuestion 1 = .ok (.istore_n 1, 1) := by decide +kernel
theorem dX4_bestQuestion_2 : decode cX4_bestQuestion 2 = .ok (.aload_n 0, 1) := by decide +kernel
theorem dX4_bestQuestion_3 : decode cX4_bestQuestion 3 = .ok (.getfield 11, 3) := by decide +kernel
theorem dX4_bestQuestion_6 : decode cX4_bestQuestion 6 = .ok (.invokestatic 22, 3) := by decide +kernel
theorem dX4_bestQuestion_9 : decode cX4_bestQuestion 9 = .ok (.istore_n 2, 1) := by decide +kernel
theorem dX4_bestQuestion_10 : decode cX4_bestQuestion 10 = .ok (.bipush 6, 2) := by decide +kernel
theorem dX4_bestQuestion_12 : decode cX4_bestQuestion 12 = .ok (.istore_n 3, 1) := by decide +kernel
theorem dX4_bestQuestion_13 : decode cX4_bestQuestion 13 = .ok (.iconst 0, 1) := by decide +kernel
theorem dX4_bestQuestion_14 : decode cX4_bestQuestion 14 = .ok (.istore 4, 2) := by decide +kernel
theorem dX4_bestQuestion_16 : decode cX4_bestQuestion 16 = .ok (.iload 4, 2) := by decide +kernel
theorem dX4_bestQuestion_18 : decode cX4_bestQuestion 18 = .ok (.iconst 4, 1) := by decide +kernel
theorem dX4_bestQuestion_19 : decode cX4_bestQuestion 19 = .ok (.if_icmp .ge 51, 3) := by decide +kernel
theorem dX4_bestQuestion_22 : decode cX4_bestQuestion 22 = .ok (.iload_n 2, 1) := by decide +kernel
theorem dX4_bestQuestion_23 : decode cX4_bestQuestion 23 = .ok (.ifCond .le 47, 3) := by decide +kernel
theorem dX4_bestQuestion_26 : decode cX4_bestQuestion 26 = .ok (.aload_n 0, 1) := by decide +kernel
theorem dX4_bestQuestion_27 : decode cX4_bestQuestion 27 = .ok (.getfield 11, 3) := by decide +kernel
theorem dX4_bestQuestion_30 : decode cX4_bestQuestion 30 = .ok (.iload 4, 2) := by decide +kernel
theorem dX4_bestQuestion_32 : decode cX4_bestQuestion 32 = .ok (.invokestatic 18, 3) := by decide +kernel
theorem dX4_bestQuestion_35 : decode cX4_bestQuestion 35 = .ok (.iand, 1) := by decide +kernel
theorem dX4_bestQuestion_36 : decode cX4_bestQuestion 36 = .ok (.invokestatic 22, 3) := by decide +kernel
theorem dX4_bestQuestion_39 : decode cX4_bestQuestion 39 = .ok (.istore 5, 2) := by decide +kernel
theorem dX4_bestQuestion_41 : decode cX4_bestQuestion 41 = .ok (.iload 5, 2) := by decide +kernel
theorem dX4_bestQuestion_43 : decode cX4_bestQuestion 43 = .ok (.iload_n 2, 1) := by decide +kernel
theorem dX4_bestQuestion_44 : decode cX4_bestQuestion 44 = .ok (.iload 5, 2) := by decide +kernel
theorem dX4_bestQuestion_46 : decode cX4_bestQuestion 46 = .ok (.isub, 1) := by decide +kernel
theorem dX4_bestQuestion_47 : decode cX4_bestQuestion 47 = .ok (.invokestatic 27, 3) := by decide +kernel
theorem dX4_bestQuestion_50 : decode cX4_bestQuestion 50 = .ok (.istore 6, 2) := by decide +kernel
theorem dX4_bestQuestion_52 : decode cX4_bestQuestion 52 = .ok (.iload 6, 2) := by decide +kernel
theorem dX4_bestQuestion_54 : decode cX4_bestQuestion 54 = .ok (.iload_n 3, 1) := by decide +kernel
theorem dX4_bestQuestion_55 : decode cX4_bestQuestion 55 = .ok (.if_icmp .ge 9, 3) := by decide +kernel
theorem dX4_bestQuestion_58 : decode cX4_bestQuestion 58 = .ok (.iload 6, 2) := by decide +kernel
theorem dX4_bestQuestion_60 : decode cX4_bestQuestion 60 = .ok (.istore_n 3, 1) := by decide +kernel
theorem dX4_bestQuestion_61 : decode cX4_bestQuestion 61 = .ok (.iload 4, 2) := by decide +kernel
theorem dX4_bestQuestion_63 : decode cX4_bestQuestion 63 = .ok (.istore_n 1, 1) := by decide +kernel
theorem dX4_bestQuestion_64 : decode cX4_bestQuestion 64 = .ok (.iinc 4 1, 3) := by decide +kernel
theorem dX4_bestQuestion_67 : decode cX4_bestQuestion 67 = .ok (.goto (-51), 3) := by decide +kernel
theorem dX4_bestQuestion_70 : decode cX4_bestQuestion 70 = .ok (.iload_n 1, 1) := by decide +kernel
theorem dX4_bestQuestion_71 : decode cX4_bestQuestion 71 = .ok (.ireturn, 1) := by decide +kernel
theorem dX4_kindsThatLetOut_0 : decode cX4_kindsThatLetOut 0 = .ok (.iconst 0, 1) := by decide +kernel
theorem dX4_kindsThatLetOut_1 : decode cX4_kindsThatLetOut 1 = .ok (.istore_n 1, 1) := by decide +kernel
theorem dX4_kindsThatLetOut_2 : decode cX4_kindsThatLetOut 2 = .ok (.iconst 0, 1) := by decide +kernel
theorem dX4_kindsThatLetOut_3 : decode cX4_kindsThatLetOut 3 = .ok (.istore_n 2, 1) := by decide +kernel
theorem dX4_kindsThatLetOut_4 : decode cX4_kindsThatLetOut 4 = .ok (.iload_n 2, 1) := by decide +kernel
theorem dX4_kindsThatLetOut_5 : decode cX4_kindsThatLetOut 5 = .ok (.iconst 5, 1) := by decide +kernel
theorem dX4_kindsThatLetOut_6 : decode cX4_kindsThatLetOut 6 = .ok (.if_icmp .ge 23, 3) := by decide +kernel
theorem dX4_kindsThatLetOut_9 : decode cX4_kindsThatLetOut 9 = .ok (.iload_n 2, 1) := by decide +kernel
theorem dX4_kindsThatLetOut_10 : decode cX4_kindsThatLetOut 10 = .ok (.iload_n 0, 1) := by decide +kernel
theorem dX4_kindsThatLetOut_11 : decode cX4_kindsThatLetOut 11 = .ok (.invokestatic 33, 3) := by decide +kernel
theorem dX4_kindsThatLetOut_14 : decode cX4_kindsThatLetOut 14 = .ok (.ifCond .eq 9, 3) := by decide +kernel
theorem dX4_kindsThatLetOut_17 : decode cX4_kindsThatLetOut 17 = .ok (.iload_n 1, 1) := by decide +kernel
theorem dX4_kindsThatLetOut_18 : decode cX4_kindsThatLetOut 18 = .ok (.iconst 1, 1) := by decide +kernel
theorem dX4_kindsThatLetOut_19 : decode cX4_kindsThatLetOut 19 = .ok (.iload_n 2, 1) := by decide +kernel
theorem dX4_kindsThatLetOut_20 : decode cX4_kindsThatLetOut 20 = .ok (.ishl, 1) := by decide +kernel
theorem dX4_kindsThatLetOut_21 : decode cX4_kindsThatLetOut 21 = .ok (.ior, 1) := by decide +kernel
theorem dX4_kindsThatLetOut_22 : decode cX4_kindsThatLetOut 22 = .ok (.istore_n 1, 1) := by decide +kernel
theorem dX4_kindsThatLetOut_23 : decode cX4_kindsThatLetOut 23 = .ok (.iinc 2 1, 3) := by decide +kernel
theorem dX4_kindsThatLetOut_26 : decode cX4_kindsThatLetOut 26 = .ok (.goto (-22), 3) := by decide +kernel
theorem dX4_kindsThatLetOut_29 : decode cX4_kindsThatLetOut 29 = .ok (.iload_n 1, 1) := by decide +kernel
theorem dX4_kindsThatLetOut_30 : decode cX4_kindsThatLetOut 30 = .ok (.ireturn, 1) := by decide +kernel
theorem dX5_init_0 : decode cX5_init 0 = .ok (.aload_n 0, 1) := by decide +kernel
theorem dX5_init_1 : decode cX5_init 1 = .ok (.invokespecial 3, 3) := by decide +kernel
theorem dX5_init_4 : decode cX5_init 4 = .ok (.aload_n 0, 1) := by decide +kernel
theorem dX5_init_5 : decode cX5_init 5 = .ok (.bipush 14, 2) := by decide +kernel
theorem dX5_init_7 : decode cX5_init 7 = .ok (.newarray .int, 2) := by decide +kernel
theorem dX5_init_9 : decode cX5_init 9 = .ok (.putfield 9, 3) := by decide +kernel
theorem dX5_init_12 : decode cX5_init 12 = .ok (.return_, 1) := by decide +kernel
theorem dX5_has_0 : decode cX5_has 0 = .ok (.iload_n 1, 1) := by decide +kernel
theorem dX5_has_1 : decode cX5_has 1 = .ok (.ifCond .lt 21, 3) := by decide +kernel
theorem dX5_has_4 : decode cX5_has 4 = .ok (.iload_n 1, 1) := by decide +kernel
theorem dX5_has_5 : decode cX5_has 5 = .ok (.aload_n 0, 1) := by decide +kernel
theorem dX5_has_6 : decode cX5_has 6 = .ok (.getfield 15, 3) := by decide +kernel
theorem dX5_has_9 : decode cX5_has 9 = .ok (.if_icmp .ge 13, 3) := by decide +kernel
theorem dX5_has_12 : decode cX5_has 12 = .ok (.iload_n 1, 1) := by decide +kernel
theorem dX5_has_13 : decode cX5_has 13 = .ok (.bipush 14, 2) := by decide +kernel
theorem dX5_has_15 : decode cX5_has 15 = .ok (.if_icmp .ge 7, 3) := by decide +kernel
theorem dX5_has_18 : decode cX5_has 18 = .ok (.iconst 1, 1) := by decide +kernel
theorem dX5_has_19 : decode cX5_has 19 = .ok (.goto 4, 3) := by decide +kernel
theorem dX5_has_22 : decode cX5_has 22 = .ok (.iconst 0, 1) := by decide +kernel
theorem dX5_has_23 : decode cX5_has 23 = .ok (.ireturn, 1) := by decide +kernel
theorem dX5_keyAt_0 : decode cX5_keyAt 0 = .ok (.iload_n 1, 1) := by decide +kernel
theorem dX5_keyAt_1 : decode cX5_keyAt 1 = .ok (.ifCond .lt 26, 3) := by decide +kernel
theorem dX5_keyAt_4 : decode cX5_keyAt 4 = .ok (.iload_n 1, 1) := by decide +kernel
theorem dX5_keyAt_5 : decode cX5_keyAt 5 = .ok (.aload_n 0, 1) := by decide +kernel
theorem dX5_keyAt_6 : decode cX5_keyAt 6 = .ok (.getfield 15, 3) := by decide +kernel
theorem dX5_keyAt_9 : decode cX5_keyAt 9 = .ok (.if_icmp .ge 18, 3) := by decide +kernel
theorem dX5_keyAt_12 : decode cX5_keyAt 12 = .ok (.iload_n 1, 1) := by decide +kernel
theorem dX5_keyAt_13 : decode cX5_keyAt 13 = .ok (.bipush 14, 2) := by decide +kernel
theorem dX5_keyAt_15 : decode cX5_keyAt 15 = .ok (.if_icmp .ge 12, 3) := by decide +kernel
theorem dX5_keyAt_18 : decode cX5_keyAt 18 = .ok (.aload_n 0, 1) := by decide +kernel
theorem dX5_keyAt_19 : decode cX5_keyAt 19 = .ok (.getfield 9, 3) := by decide +kernel
theorem dX5_keyAt_22 : decode cX5_keyAt 22 = .ok (.iload_n 1, 1) := by decide +kernel
theorem dX5_keyAt_23 : decode cX5_keyAt 23 = .ok (.iaload, 1) := by decide +kernel
theorem dX5_keyAt_24 : decode cX5_keyAt 24 = .ok (.goto 4, 3) := by decide +kernel
theorem dX5_keyAt_27 : decode cX5_keyAt 27 = .ok (.iconst (-1), 1) := by decide +kernel
theorem dX5_keyAt_28 : decode cX5_keyAt 28 = .ok (.ireturn, 1) := by decide +kernel
theorem dX5_clear_0 : decode cX5_clear 0 = .ok (.aload_n 0, 1) := by decide +kernel
theorem dX5_clear_1 : decode cX5_clear 1 = .ok (.iconst 0, 1) := by decide +kernel
theorem dX5_clear_2 : decode cX5_clear 2 = .ok (.putfield 15, 3) := by decide +kernel
theorem dX5_clear_5 : decode cX5_clear 5 = .ok (.return_, 1) := by decide +kernel
theorem dX5_add_0 : decode cX5_add 0 = .ok (.aload_n 0, 1) := by decide +kernel
theorem dX5_add_1 : decode cX5_add 1 = .ok (.getfield 15, 3) := by decide +kernel
theorem dX5_add_4 : decode cX5_add 4 = .ok (.ifCond .lt 32, 3) := by decide +kernel
theorem dX5_add_7 : decode cX5_add 7 = .ok (.aload_n 0, 1) := by decide +kernel
theorem dX5_add_8 : decode cX5_add 8 = .ok (.getfield 15, 3) := by decide +kernel
theorem dX5_add_11 : decode cX5_add 11 = .ok (.bipush 14, 2) := by decide +kernel
theorem dX5_add_13 : decode cX5_add 13 = .ok (.if_icmp .ge 23, 3) := by decide +kernel
theorem dX5_add_16 : decode cX5_add 16 = .ok (.aload_n 0, 1) := by decide +kernel
theorem dX5_add_17 : decode cX5_add 17 = .ok (.getfield 9, 3) := by decide +kernel
theorem dX5_add_20 : decode cX5_add 20 = .ok (.aload_n 0, 1) := by decide +kernel
theorem dX5_add_21 : decode cX5_add 21 = .ok (.getfield 15, 3) := by decide +kernel
theorem dX5_add_24 : decode cX5_add 24 = .ok (.iload_n 1, 1) := by decide +kernel
theorem dX5_add_25 : decode cX5_add 25 = .ok (.iastore, 1) := by decide +kernel
theorem dX5_add_26 : decode cX5_add 26 = .ok (.aload_n 0, 1) := by decide +kernel
theorem dX5_add_27 : decode cX5_add 27 = .ok (.dup, 1) := by decide +kernel
theorem dX5_add_28 : decode cX5_add 28 = .ok (.getfield 15, 3) := by decide +kernel
theorem dX5_add_31 : decode cX5_add 31 = .ok (.iconst 1, 1) := by decide +kernel
theorem dX5_add_32 : decode cX5_add 32 = .ok (.iadd, 1) := by decide +kernel
theorem dX5_add_33 : decode cX5_add 33 = .ok (.putfield 15, 3) := by decide +kernel
theorem dX5_add_36 : decode cX5_add 36 = .ok (.return_, 1) := by decide +kernel
theorem dX5_change_0 : decode cX5_change 0 = .ok (.aload_n 0, 1) := by decide +kernel
theorem dX5_change_1 : decode cX5_change 1 = .ok (.iload_n 1, 1) := by decide +kernel
theorem dX5_change_2 : decode cX5_change 2 = .ok (.invokevirtual 19, 3) := by decide +kernel
theorem dX5_change_5 : decode cX5_change 5 = .ok (.ifCond .eq 10, 3) := by decide +kernel
theorem dX5_change_8 : decode cX5_change 8 = .ok (.aload_n 0, 1) := by decide +kernel
theorem dX5_change_9 : decode cX5_change 9 = .ok (.getfield 9, 3) := by decide +kernel
theorem dX5_change_12 : decode cX5_change 12 = .ok (.iload_n 1, 1) := by decide +kernel
theorem dX5_change_13 : decode cX5_change 13 = .ok (.iload_n 2, 1) := by decide +kernel
theorem dX5_change_14 : decode cX5_change 14 = .ok (.iastore, 1) := by decide +kernel
theorem dX5_change_15 : decode cX5_change 15 = .ok (.return_, 1) := by decide +kernel
theorem dX5_remove_0 : decode cX5_remove 0 = .ok (.aload_n 0, 1) := by decide +kernel
theorem dX5_remove_1 : decode cX5_remove 1 = .ok (.iload_n 1, 1) := by decide +kernel
theorem dX5_remove_2 : decode cX5_remove 2 = .ok (.invokevirtual 19, 3) := by decide +kernel
theorem dX5_remove_5 : decode cX5_remove 5 = .ok (.ifCond .eq 43, 3) := by decide +kernel
theorem dX5_remove_8 : decode cX5_remove 8 = .ok (.iload_n 1, 1) := by decide +kernel
theorem dX5_remove_9 : decode cX5_remove 9 = .ok (.iconst 1, 1) := by decide +kernel
theorem dX5_remove_10 : decode cX5_remove 10 = .ok (.iadd, 1) := by decide +kernel
theorem dX5_remove_11 : decode cX5_remove 11 = .ok (.istore_n 2, 1) := by decide +kernel
theorem dX5_remove_12 : decode cX5_remove 12 = .ok (.iload_n 2, 1) := by decide +kernel
theorem dX5_remove_13 : decode cX5_remove 13 = .ok (.aload_n 0, 1) := by decide +kernel
theorem dX5_remove_14 : decode cX5_remove 14 = .ok (.getfield 15, 3) := by decide +kernel
theorem dX5_remove_17 : decode cX5_remove 17 = .ok (.if_icmp .ge 21, 3) := by decide +kernel
theorem dX5_remove_20 : decode cX5_remove 20 = .ok (.aload_n 0, 1) := by decide +kernel
theorem dX5_remove_21 : decode cX5_remove 21 = .ok (.iload_n 2, 1) := by decide +kernel
theorem dX5_remove_22 : decode cX5_remove 22 = .ok (.iconst 1, 1) := by decide +kernel
theorem dX5_remove_23 : decode cX5_remove 23 = .ok (.isub, 1) := by decide +kernel
theorem dX5_remove_24 : decode cX5_remove 24 = .ok (.aload_n 0, 1) := by decide +kernel
theorem dX5_remove_25 : decode cX5_remove 25 = .ok (.iload_n 2, 1) := by decide +kernel
theorem dX5_remove_26 : decode cX5_remove 26 = .ok (.invokevirtual 23, 3) := by decide +kernel
theorem dX5_remove_29 : decode cX5_remove 29 = .ok (.invokevirtual 27, 3) := by decide +kernel
theorem dX5_remove_32 : decode cX5_remove 32 = .ok (.iinc 2 1, 3) := by decide +kernel
theorem dX5_remove_35 : decode cX5_remove 35 = .ok (.goto (-23), 3) := by decide +kernel
theorem dX5_remove_38 : decode cX5_remove 38 = .ok (.aload_n 0, 1) := by decide +kernel
theorem dX5_remove_39 : decode cX5_remove 39 = .ok (.dup, 1) := by decide +kernel
theorem dX5_remove_40 : decode cX5_remove 40 = .ok (.getfield 15, 3) := by decide +kernel
theorem dX5_remove_43 : decode cX5_remove 43 = .ok (.iconst 1, 1) := by decide +kernel
theorem dX5_remove_44 : decode cX5_remove 44 = .ok (.isub, 1) := by decide +kernel
theorem dX5_remove_45 : decode cX5_remove 45 = .ok (.putfield 15, 3) := by decide +kernel
theorem dX5_remove_48 : decode cX5_remove 48 = .ok (.return_, 1) := by decide +kernel
theorem dX5_copy_0 : decode cX5_copy 0 = .ok (.aload_n 0, 1) := by decide +kernel
theorem dX5_copy_1 : decode cX5_copy 1 = .ok (.invokevirtual 31, 3) := by decide +kernel
theorem dX5_copy_4 : decode cX5_copy 4 = .ok (.iconst 0, 1) := by decide +kernel
theorem dX5_copy_5 : decode cX5_copy 5 = .ok (.istore_n 2, 1) := by decide +kernel
theorem dX5_copy_6 : decode cX5_copy 6 = .ok (.iload_n 2, 1) := by decide +kernel
theorem dX5_copy_7 : decode cX5_copy 7 = .ok (.aload_n 1, 1) := by decide +kernel
theorem dX5_copy_8 : decode cX5_copy 8 = .ok (.getfield 15, 3) := by decide +kernel
theorem dX5_copy_11 : decode cX5_copy 11 = .ok (.if_icmp .ge 18, 3) := by decide +kernel
theorem dX5_copy_14 : decode cX5_copy 14 = .ok (.aload_n 0, 1) := by decide +kernel
theorem dX5_copy_15 : decode cX5_copy 15 = .ok (.aload_n 1, 1) := by decide +kernel
theorem dX5_copy_16 : decode cX5_copy 16 = .ok (.iload_n 2, 1) := by decide +kernel
theorem dX5_copy_17 : decode cX5_copy 17 = .ok (.invokevirtual 23, 3) := by decide +kernel
theorem dX5_copy_20 : decode cX5_copy 20 = .ok (.invokevirtual 34, 3) := by decide +kernel
theorem dX5_copy_23 : decode cX5_copy 23 = .ok (.iinc 2 1, 3) := by decide +kernel
theorem dX5_copy_26 : decode cX5_copy 26 = .ok (.goto (-20), 3) := by decide +kernel
theorem dX5_copy_29 : decode cX5_copy 29 = .ok (.return_, 1) := by decide +kernel
theorem dX5_rowsWithKey_0 : decode cX5_rowsWithKey 0 = .ok (.iconst 0, 1) := by decide +kernel
theorem dX5_rowsWithKey_1 : decode cX5_rowsWithKey 1 = .ok (.istore_n 1, 1) := by decide +kernel
theorem dX5_rowsWithKey_2 : decode cX5_rowsWithKey 2 = .ok (.iconst 0, 1) := by decide +kernel
theorem dX5_rowsWithKey_3 : decode cX5_rowsWithKey 3 = .ok (.istore_n 2, 1) := by decide +kernel
theorem dX5_rowsWithKey_4 : decode cX5_rowsWithKey 4 = .ok (.iload_n 2, 1) := by decide +kernel
theorem dX5_rowsWithKey_5 : decode cX5_rowsWithKey 5 = .ok (.aload_n 0, 1) := by decide +kernel
theorem dX5_rowsWithKey_6 : decode cX5_rowsWithKey 6 = .ok (.getfield 15, 3) := by decide +kernel
theorem dX5_rowsWithKey_9 : decode cX5_rowsWithKey 9 = .ok (.if_icmp .ge 31, 3) := by decide +kernel
theorem dX5_rowsWithKey_12 : decode cX5_rowsWithKey 12 = .ok (.iload_n 2, 1) := by decide +kernel
theorem dX5_rowsWithKey_13 : decode cX5_rowsWithKey 13 = .ok (.bipush 14, 2) := by decide +kernel
theorem dX5_rowsWithKey_15 : decode cX5_rowsWithKey 15 = .ok (.if_icmp .ge 25, 3) := by decide +kernel
theorem dX5_rowsWithKey_18 : decode cX5_rowsWithKey 18 = .ok (.aload_n 0, 1) := by decide +kernel
theorem dX5_rowsWithKey_19 : decode cX5_rowsWithKey 19 = .ok (.getfield 9, 3) := by decide +kernel
theorem dX5_rowsWithKey_22 : decode cX5_rowsWithKey 22 = .ok (.iload_n 2, 1) := by decide +kernel
theorem dX5_rowsWithKey_23 : decode cX5_rowsWithKey 23 = .ok (.iaload, 1) := by decide +kernel
theorem dX5_rowsWithKey_24 : decode cX5_rowsWithKey 24 = .ok (.iconst (-1), 1) := by decide +kernel
theorem dX5_rowsWithKey_25 : decode cX5_rowsWithKey 25 = .ok (.if_icmp .eq 9, 3) := by decide +kernel
theorem dX5_rowsWithKey_28 : decode cX5_rowsWithKey 28 = .ok (.iload_n 1, 1) := by decide +kernel
theorem dX5_rowsWithKey_29 : decode cX5_rowsWithKey 29 = .ok (.iconst 1, 1) := by decide +kernel
theorem dX5_rowsWithKey_30 : decode cX5_rowsWithKey 30 = .ok (.iload_n 2, 1) := by decide +kernel
theorem dX5_rowsWithKey_31 : decode cX5_rowsWithKey 31 = .ok (.ishl, 1) := by decide +kernel
theorem dX5_rowsWithKey_32 : decode cX5_rowsWithKey 32 = .ok (.ior, 1) := by decide +kernel
theorem dX5_rowsWithKey_33 : decode cX5_rowsWithKey 33 = .ok (.istore_n 1, 1) := by decide +kernel
theorem dX5_rowsWithKey_34 : decode cX5_rowsWithKey 34 = .ok (.iinc 2 1, 3) := by decide +kernel
theorem dX5_rowsWithKey_37 : decode cX5_rowsWithKey 37 = .ok (.goto (-33), 3) := by decide +kernel
theorem dX5_rowsWithKey_40 : decode cX5_rowsWithKey 40 = .ok (.iload_n 1, 1) := by decide +kernel
theorem dX5_rowsWithKey_41 : decode cX5_rowsWithKey 41 = .ok (.ireturn, 1) := by decide +kernel
theorem dX5_rowsWithoutKey_0 : decode cX5_rowsWithoutKey 0 = .ok (.iconst 1, 1) := by decide +kernel
theorem dX5_rowsWithoutKey_1 : decode cX5_rowsWithoutKey 1 = .ok (.aload_n 0, 1) := by decide +kernel
theorem dX5_rowsWithoutKey_2 : decode cX5_rowsWithoutKey 2 = .ok (.getfield 15, 3) := by decide +kernel
theorem dX5_rowsWithoutKey_5 : decode cX5_rowsWithoutKey 5 = .ok (.ishl, 1) := by decide +kernel
theorem dX5_rowsWithoutKey_6 : decode cX5_rowsWithoutKey 6 = .ok (.iconst 1, 1) := by decide +kernel
theorem dX5_rowsWithoutKey_7 : decode cX5_rowsWithoutKey 7 = .ok (.isub, 1) := by decide +kernel
theorem dX5_rowsWithoutKey_8 : decode cX5_rowsWithoutKey 8 = .ok (.aload_n 0, 1) := by decide +kernel
theorem dX5_rowsWithoutKey_9 : decode cX5_rowsWithoutKey 9 = .ok (.invokevirtual 38, 3) := by decide +kernel
theorem dX5_rowsWithoutKey_12 : decode cX5_rowsWithoutKey 12 = .ok (.iconst (-1), 1) := by decide +kernel
theorem dX5_rowsWithoutKey_13 : decode cX5_rowsWithoutKey 13 = .ok (.ixor, 1) := by decide +kernel
theorem dX5_rowsWithoutKey_14 : decode cX5_rowsWithoutKey 14 = .ok (.iand, 1) := by decide +kernel
theorem dX5_rowsWithoutKey_15 : decode cX5_rowsWithoutKey 15 = .ok (.ireturn, 1) := by decide +kernel
theorem dX5_rowsOfKey_0 : decode cX5_rowsOfKey 0 = .ok (.iconst 0, 1) := by decide +kernel
theorem dX5_rowsOfKey_1 : decode cX5_rowsOfKey 1 = .ok (.istore_n 2, 1) := by decide +kernel
theorem dX5_rowsOfKey_2 : decode cX5_rowsOfKey 2 = .ok (.iconst 0, 1) := by decide +kernel
theorem dX5_rowsOfKey_3 : decode cX5_rowsOfKey 3 = .ok (.istore_n 3, 1) := by decide +kernel
theorem dX5_rowsOfKey_4 : decode cX5_rowsOfKey 4 = .ok (.iload_n 3, 1) := by decide +kernel
theorem dX5_rowsOfKey_5 : decode cX5_rowsOfKey 5 = .ok (.aload_n 0, 1) := by decide +kernel
theorem dX5_rowsOfKey_6 : decode cX5_rowsOfKey 6 = .ok (.getfield 15, 3) := by decide +kernel
theorem dX5_rowsOfKey_9 : decode cX5_rowsOfKey 9 = .ok (.if_icmp .ge 31, 3) := by decide +kernel
theorem dX5_rowsOfKey_12 : decode cX5_rowsOfKey 12 = .ok (.iload_n 3, 1) := by decide +kernel
theorem dX5_rowsOfKey_13 : decode cX5_rowsOfKey 13 = .ok (.bipush 14, 2) := by decide +kernel
theorem dX5_rowsOfKey_15 : decode cX5_rowsOfKey 15 = .ok (.if_icmp .ge 25, 3) := by decide +kernel
theorem dX5_rowsOfKey_18 : decode cX5_rowsOfKey 18 = .ok (.aload_n 0, 1) := by decide +kernel
theorem dX5_rowsOfKey_19 : decode cX5_rowsOfKey 19 = .ok (.getfield 9, 3) := by decide +kernel
theorem dX5_rowsOfKey_22 : decode cX5_rowsOfKey 22 = .ok (.iload_n 3, 1) := by decide +kernel
theorem dX5_rowsOfKey_23 : decode cX5_rowsOfKey 23 = .ok (.iaload, 1) := by decide +kernel
theorem dX5_rowsOfKey_24 : decode cX5_rowsOfKey 24 = .ok (.iload_n 1, 1) := by decide +kernel
theorem dX5_rowsOfKey_25 : decode cX5_rowsOfKey 25 = .ok (.if_icmp .ne 9, 3) := by decide +kernel
theorem dX5_rowsOfKey_28 : decode cX5_rowsOfKey 28 = .ok (.iload_n 2, 1) := by decide +kernel
theorem dX5_rowsOfKey_29 : decode cX5_rowsOfKey 29 = .ok (.iconst 1, 1) := by decide +kernel
theorem dX5_rowsOfKey_30 : decode cX5_rowsOfKey 30 = .ok (.iload_n 3, 1) := by decide +kernel
theorem dX5_rowsOfKey_31 : decode cX5_rowsOfKey 31 = .ok (.ishl, 1) := by decide +kernel
theorem dX5_rowsOfKey_32 : decode cX5_rowsOfKey 32 = .ok (.ior, 1) := by decide +kernel
theorem dX5_rowsOfKey_33 : decode cX5_rowsOfKey 33 = .ok (.istore_n 2, 1) := by decide +kernel
theorem dX5_rowsOfKey_34 : decode cX5_rowsOfKey 34 = .ok (.iinc 3 1, 3) := by decide +kernel
theorem dX5_rowsOfKey_37 : decode cX5_rowsOfKey 37 = .ok (.goto (-33), 3) := by decide +kernel
theorem dX5_rowsOfKey_40 : decode cX5_rowsOfKey 40 = .ok (.iload_n 2, 1) := by decide +kernel
theorem dX5_rowsOfKey_41 : decode cX5_rowsOfKey 41 = .ok (.ireturn, 1) := by decide +kernel
theorem dX5_rowsWithBit_0 : decode cX5_rowsWithBit 0 = .ok (.iconst 0, 1) := by decide +kernel
theorem dX5_rowsWithBit_1 : decode cX5_rowsWithBit 1 = .ok (.istore_n 2, 1) := by decide +kernel
theorem dX5_rowsWithBit_2 : decode cX5_rowsWithBit 2 = .ok (.iconst 0, 1) := by decide +kernel
theorem dX5_rowsWithBit_3 : decode cX5_rowsWithBit 3 = .ok (.istore_n 3, 1) := by decide +kernel
theorem dX5_rowsWithBit_4 : decode cX5_rowsWithBit 4 = .ok (.iload_n 3, 1) := by decide +kernel
theorem dX5_rowsWithBit_5 : decode cX5_rowsWithBit 5 = .ok (.aload_n 0, 1) := by decide +kernel
theorem dX5_rowsWithBit_6 : decode cX5_rowsWithBit 6 = .ok (.getfield 15, 3) := by decide +kernel
theorem dX5_rowsWithBit_9 : decode cX5_rowsWithBit 9 = .ok (.if_icmp .ge 45, 3) := by decide +kernel
theorem dX5_rowsWithBit_12 : decode cX5_rowsWithBit 12 = .ok (.iload_n 3, 1) := by decide +kernel
theorem dX5_rowsWithBit_13 : decode cX5_rowsWithBit 13 = .ok (.bipush 14, 2) := by decide +kernel
theorem dX5_rowsWithBit_15 : decode cX5_rowsWithBit 15 = .ok (.if_icmp .ge 39, 3) := by decide +kernel
theorem dX5_rowsWithBit_18 : decode cX5_rowsWithBit 18 = .ok (.aload_n 0, 1) := by decide +kernel
theorem dX5_rowsWithBit_19 : decode cX5_rowsWithBit 19 = .ok (.getfield 9, 3) := by decide +kernel
theorem dX5_rowsWithBit_22 : decode cX5_rowsWithBit 22 = .ok (.iload_n 3, 1) := by decide +kernel
theorem dX5_rowsWithBit_23 : decode cX5_rowsWithBit 23 = .ok (.iaload, 1) := by decide +kernel
theorem dX5_rowsWithBit_24 : decode cX5_rowsWithBit 24 = .ok (.iconst (-1), 1) := by decide +kernel
theorem dX5_rowsWithBit_25 : decode cX5_rowsWithBit 25 = .ok (.if_icmp .eq 23, 3) := by decide +kernel
theorem dX5_rowsWithBit_28 : decode cX5_rowsWithBit 28 = .ok (.aload_n 0, 1) := by decide +kernel
theorem dX5_rowsWithBit_29 : decode cX5_rowsWithBit 29 = .ok (.getfield 9, 3) := by decide +kernel
theorem dX5_rowsWithBit_32 : decode cX5_rowsWithBit 32 = .ok (.iload_n 3, 1) := by decide +kernel
theorem dX5_rowsWithBit_33 : decode cX5_rowsWithBit 33 = .ok (.iaload, 1) := by decide +kernel
theorem dX5_rowsWithBit_34 : decode cX5_rowsWithBit 34 = .ok (.iload_n 1, 1) := by decide +kernel
theorem dX5_rowsWithBit_35 : decode cX5_rowsWithBit 35 = .ok (.ishr, 1) := by decide +kernel
theorem dX5_rowsWithBit_36 : decode cX5_rowsWithBit 36 = .ok (.iconst 1, 1) := by decide +kernel
theorem dX5_rowsWithBit_37 : decode cX5_rowsWithBit 37 = .ok (.iand, 1) := by decide +kernel
theorem dX5_rowsWithBit_38 : decode cX5_rowsWithBit 38 = .ok (.iconst 1, 1) := by decide +kernel
theorem dX5_rowsWithBit_39 : decode cX5_rowsWithBit 39 = .ok (.if_icmp .ne 9, 3) := by decide +kernel
theorem dX5_rowsWithBit_42 : decode cX5_rowsWithBit 42 = .ok (.iload_n 2, 1) := by decide +kernel
theorem dX5_rowsWithBit_43 : decode cX5_rowsWithBit 43 = .ok (.iconst 1, 1) := by decide +kernel
theorem dX5_rowsWithBit_44 : decode cX5_rowsWithBit 44 = .ok (.iload_n 3, 1) := by decide +kernel
theorem dX5_rowsWithBit_45 : decode cX5_rowsWithBit 45 = .ok (.ishl, 1) := by decide +kernel
theorem dX5_rowsWithBit_46 : decode cX5_rowsWithBit 46 = .ok (.ior, 1) := by decide +kernel
theorem dX5_rowsWithBit_47 : decode cX5_rowsWithBit 47 = .ok (.istore_n 2, 1) := by decide +kernel
theorem dX5_rowsWithBit_48 : decode cX5_rowsWithBit 48 = .ok (.iinc 3 1, 3) := by decide +kernel
theorem dX5_rowsWithBit_51 : decode cX5_rowsWithBit 51 = .ok (.goto (-47), 3) := by decide +kernel
theorem dX5_rowsWithBit_54 : decode cX5_rowsWithBit 54 = .ok (.iload_n 2, 1) := by decide +kernel
theorem dX5_rowsWithBit_55 : decode cX5_rowsWithBit 55 = .ok (.ireturn, 1) := by decide +kernel
theorem dX5_haveOneKey_0 : decode cX5_haveOneKey 0 = .ok (.iload_n 1, 1) := by decide +kernel
theorem dX5_haveOneKey_1 : decode cX5_haveOneKey 1 = .ok (.invokestatic 42, 3) := by decide +kernel
theorem dX5_haveOneKey_4 : decode cX5_haveOneKey 4 = .ok (.istore_n 2, 1) := by decide +kernel
theorem dX5_haveOneKey_5 : decode cX5_haveOneKey 5 = .ok (.aload_n 0, 1) := by decide +kernel
theorem dX5_haveOneKey_6 : decode cX5_haveOneKey 6 = .ok (.iload_n 2, 1) := by decide +kernel
theorem dX5_haveOneKey_7 : decode cX5_haveOneKey 7 = .ok (.invokevirtual 19, 3) := by decide +kernel
theorem dX5_haveOneKey_10 : decode cX5_haveOneKey 10 = .ok (.ifCond .eq 23, 3) := by decide +kernel
theorem dX5_haveOneKey_13 : decode cX5_haveOneKey 13 = .ok (.iload_n 1, 1) := by decide +kernel
theorem dX5_haveOneKey_14 : decode cX5_haveOneKey 14 = .ok (.aload_n 0, 1) := by decide +kernel
theorem dX5_haveOneKey_15 : decode cX5_haveOneKey 15 = .ok (.aload_n 0, 1) := by decide +kernel
theorem dX5_haveOneKey_16 : decode cX5_haveOneKey 16 = .ok (.iload_n 2, 1) := by decide +kernel
theorem dX5_haveOneKey_17 : decode cX5_haveOneKey 17 = .ok (.invokevirtual 23, 3) := by decide +kernel
theorem dX5_haveOneKey_20 : decode cX5_haveOneKey 20 = .ok (.invokevirtual 47, 3) := by decide +kernel
theorem dX5_haveOneKey_23 : decode cX5_haveOneKey 23 = .ok (.iconst (-1), 1) := by decide +kernel
theorem dX5_haveOneKey_24 : decode cX5_haveOneKey 24 = .ok (.ixor, 1) := by decide +kernel
theorem dX5_haveOneKey_25 : decode cX5_haveOneKey 25 = .ok (.iand, 1) := by decide +kernel
theorem dX5_haveOneKey_26 : decode cX5_haveOneKey 26 = .ok (.ifCond .ne 7, 3) := by decide +kernel
theorem dX5_haveOneKey_29 : decode cX5_haveOneKey 29 = .ok (.iconst 1, 1) := by decide +kernel
theorem dX5_haveOneKey_30 : decode cX5_haveOneKey 30 = .ok (.goto 4, 3) := by decide +kernel
theorem dX5_haveOneKey_33 : decode cX5_haveOneKey 33 = .ok (.iconst 0, 1) := by decide +kernel
theorem dX5_haveOneKey_34 : decode cX5_haveOneKey 34 = .ok (.ireturn, 1) := by decide +kernel
theorem dX5_keySet_0 : decode cX5_keySet 0 = .ok (.iconst 0, 1) := by decide +kernel
theorem dX5_keySet_1 : decode cX5_keySet 1 = .ok (.istore_n 1, 1) := by decide +kernel
theorem dX5_keySet_2 : decode cX5_keySet 2 = .ok (.iconst 0, 1) := by decide +kernel
theorem dX5_keySet_3 : decode cX5_keySet 3 = .ok (.istore_n 2, 1) := by decide +kernel
theorem dX5_keySet_4 : decode cX5_keySet 4 = .ok (.iload_n 2, 1) := by decide +kernel
theorem dX5_keySet_5 : decode cX5_keySet 5 = .ok (.aload_n 0, 1) := by decide +kernel
theorem dX5_keySet_6 : decode cX5_keySet 6 = .ok (.getfield 15, 3) := by decide +kernel
theorem dX5_keySet_9 : decode cX5_keySet 9 = .ok (.if_icmp .ge 36, 3) := by decide +kernel
theorem dX5_keySet_12 : decode cX5_keySet 12 = .ok (.iload_n 2, 1) := by decide +kernel
theorem dX5_keySet_13 : decode cX5_keySet 13 = .ok (.bipush 14, 2) := by decide +kernel
theorem dX5_keySet_15 : decode cX5_keySet 15 = .ok (.if_icmp .ge 30, 3) := by decide +kernel
theorem dX5_keySet_18 : decode cX5_keySet 18 = .ok (.aload_n 0, 1) := by decide +kernel
theorem dX5_keySet_19 : decode cX5_keySet 19 = .ok (.getfield 9, 3) := by decide +kernel
theorem dX5_keySet_22 : decode cX5_keySet 22 = .ok (.iload_n 2, 1) := by decide +kernel
theorem dX5_keySet_23 : decode cX5_keySet 23 = .ok (.iaload, 1) := by decide +kernel
theorem dX5_keySet_24 : decode cX5_keySet 24 = .ok (.iconst (-1), 1) := by decide +kernel
theorem dX5_keySet_25 : decode cX5_keySet 25 = .ok (.if_icmp .eq 14, 3) := by decide +kernel
theorem dX5_keySet_28 : decode cX5_keySet 28 = .ok (.iload_n 1, 1) := by decide +kernel
theorem dX5_keySet_29 : decode cX5_keySet 29 = .ok (.iconst 1, 1) := by decide +kernel
theorem dX5_keySet_30 : decode cX5_keySet 30 = .ok (.aload_n 0, 1) := by decide +kernel
theorem dX5_keySet_31 : decode cX5_keySet 31 = .ok (.getfield 9, 3) := by decide +kernel
theorem dX5_keySet_34 : decode cX5_keySet 34 = .ok (.iload_n 2, 1) := by decide +kernel
theorem dX5_keySet_35 : decode cX5_keySet 35 = .ok (.iaload, 1) := by decide +kernel
theorem dX5_keySet_36 : decode cX5_keySet 36 = .ok (.ishl, 1) := by decide +kernel
theorem dX5_keySet_37 : decode cX5_keySet 37 = .ok (.ior, 1) := by decide +kernel
theorem dX5_keySet_38 : decode cX5_keySet 38 = .ok (.istore_n 1, 1) := by decide +kernel
theorem dX5_keySet_39 : decode cX5_keySet 39 = .ok (.iinc 2 1, 3) := by decide +kernel
theorem dX5_keySet_42 : decode cX5_keySet 42 = .ok (.goto (-38), 3) := by decide +kernel
theorem dX5_keySet_45 : decode cX5_keySet 45 = .ok (.iload_n 1, 1) := by decide +kernel
theorem dX5_keySet_46 : decode cX5_keySet 46 = .ok (.ireturn, 1) := by decide +kernel
theorem dX6_init_0 : decode cX6_init 0 = .ok (.aload_n 0, 1) := by decide +kernel
theorem dX6_init_1 : decode cX6_init 1 = .ok (.invokespecial 3, 3) := by decide +kernel
theorem dX6_init_4 : decode cX6_init 4 = .ok (.aload_n 0, 1) := by decide +kernel
theorem dX6_init_5 : decode cX6_init 5 = .ok (.new 9, 3) := by decide +kernel
theorem dX6_init_8 : decode cX6_init 8 = .ok (.dup, 1) := by decide +kernel
theorem dX6_init_9 : decode cX6_init 9 = .ok (.invokespecial 11, 3) := by decide +kernel
theorem dX6_init_12 : decode cX6_init 12 = .ok (.putfield 12, 3) := by decide +kernel
theorem dX6_init_15 : decode cX6_init 15 = .ok (.aload_n 0, 1) := by decide +kernel
theorem dX6_init_16 : decode cX6_init 16 = .ok (.new 9, 3) := by decide +kernel
theorem dX6_init_19 : decode cX6_init 19 = .ok (.dup, 1) := by decide +kernel
theorem dX6_init_20 : decode cX6_init 20 = .ok (.invokespecial 11, 3) := by decide +kernel
theorem dX6_init_23 : decode cX6_init 23 = .ok (.putfield 18, 3) := by decide +kernel
theorem dX6_init_26 : decode cX6_init 26 = .ok (.aload_n 0, 1) := by decide +kernel
theorem dX6_init_27 : decode cX6_init 27 = .ok (.iconst (-1), 1) := by decide +kernel
theorem dX6_init_28 : decode cX6_init 28 = .ok (.putfield 21, 3) := by decide +kernel
theorem dX6_init_31 : decode cX6_init 31 = .ok (.return_, 1) := by decide +kernel
theorem dX6_areThere_0 : decode cX6_areThere 0 = .ok (.aload_n 0, 1) := by decide +kernel
theorem dX6_areThere_1 : decode cX6_areThere 1 = .ok (.getfield 25, 3) := by decide +kernel
theorem dX6_areThere_4 : decode cX6_areThere 4 = .ok (.ifCond .eq 7, 3) := by decide +kernel
theorem dX6_areThere_7 : decode cX6_areThere 7 = .ok (.iconst 1, 1) := by decide +kernel
theorem dX6_areThere_8 : decode cX6_areThere 8 = .ok (.goto 4, 3) := by decide +kernel
theorem dX6_areThere_11 : decode cX6_areThere 11 = .ok (.iconst 0, 1) := by decide +kernel
theorem dX6_areThere_12 : decode cX6_areThere 12 = .ok (.ireturn, 1) := by decide +kernel
theorem dX6_size_0 : decode cX6_size 0 = .ok (.aload_n 0, 1) := by decide +kernel
theorem dX6_size_1 : decode cX6_size 1 = .ok (.getfield 12, 3) := by decide +kernel
theorem dX6_size_4 : decode cX6_size 4 = .ok (.getfield 28, 3) := by decide +kernel
theorem dX6_size_7 : decode cX6_size 7 = .ok (.aload_n 0, 1) := by decide +kernel
theorem dX6_size_8 : decode cX6_size 8 = .ok (.getfield 18, 3) := by decide +kernel
theorem dX6_size_11 : decode cX6_size 11 = .ok (.getfield 28, 3) := by decide +kernel
theorem dX6_size_14 : decode cX6_size 14 = .ok (.iadd, 1) := by decide +kernel
theorem dX6_size_15 : decode cX6_size 15 = .ok (.ireturn, 1) := by decide +kernel
theorem dX6_sideOf_0 : decode cX6_sideOf 0 = .ok (.iload_n 1, 1) := by decide +kernel
theorem dX6_sideOf_1 : decode cX6_sideOf 1 = .ok (.ifCond .ne 10, 3) := by decide +kernel
theorem dX6_sideOf_4 : decode cX6_sideOf 4 = .ok (.aload_n 0, 1) := by decide +kernel
theorem dX6_sideOf_5 : decode cX6_sideOf 5 = .ok (.getfield 12, 3) := by decide +kernel
theorem dX6_sideOf_8 : decode cX6_sideOf 8 = .ok (.goto 7, 3) := by decide +kernel
theorem dX6_sideOf_11 : decode cX6_sideOf 11 = .ok (.aload_n 0, 1) := by decide +kernel
theorem dX6_sideOf_12 : decode cX6_sideOf 12 = .ok (.getfield 18, 3) := by decide +kernel
theorem dX6_sideOf_15 : decode cX6_sideOf 15 = .ok (.areturn, 1) := by decide +kernel
theorem dX6_hasRow_0 : decode cX6_hasRow 0 = .ok (.iload_n 1, 1) := by decide +kernel
theorem dX6_hasRow_1 : decode cX6_hasRow 1 = .ok (.invokestatic 31, 3) := by decide +kernel
theorem dX6_hasRow_4 : decode cX6_hasRow 4 = .ok (.ifCond .eq 19, 3) := by decide +kernel
theorem dX6_hasRow_7 : decode cX6_hasRow 7 = .ok (.aload_n 0, 1) := by decide +kernel
theorem dX6_hasRow_8 : decode cX6_hasRow 8 = .ok (.iload_n 1, 1) := by decide +kernel
theorem dX6_hasRow_9 : decode cX6_hasRow 9 = .ok (.invokevirtual 35, 3) := by decide +kernel
theorem dX6_hasRow_12 : decode cX6_hasRow 12 = .ok (.iload_n 2, 1) := by decide +kernel
theorem dX6_hasRow_13 : decode cX6_hasRow 13 = .ok (.invokevirtual 39, 3) := by decide +kernel
theorem dX6_hasRow_16 : decode cX6_hasRow 16 = .ok (.ifCond .eq 7, 3) := by decide +kernel
theorem dX6_hasRow_19 : decode cX6_hasRow 19 = .ok (.iconst 1, 1) := by decide +kernel
theorem dX6_hasRow_20 : decode cX6_hasRow 20 = .ok (.goto 4, 3) := by decide +kernel
theorem dX6_hasRow_23 : decode cX6_hasRow 23 = .ok (.iconst 0, 1) := by decide +kernel
theorem dX6_hasRow_24 : decode cX6_hasRow 24 = .ok (.ireturn, 1) := by decide +kernel
theorem dX6_partners_0 : decode cX6_partners 0 = .ok (.aload_n 0, 1) := by decide +kernel
theorem dX6_partners_1 : decode cX6_partners 1 = .ok (.iload_n 1, 1) := by decide +kernel
theorem dX6_partners_2 : decode cX6_partners 2 = .ok (.invokevirtual 35, 3) := by decide +kernel
theorem dX6_partners_5 : decode cX6_partners 5 = .ok (.iload_n 2, 1) := by decide +kernel
theorem dX6_partners_6 : decode cX6_partners 6 = .ok (.invokevirtual 42, 3) := by decide +kernel
theorem dX6_partners_9 : decode cX6_partners 9 = .ok (.istore_n 3, 1) := by decide +kernel
theorem dX6_partners_10 : decode cX6_partners 10 = .ok (.iload_n 3, 1) := by decide +kernel
theorem dX6_partners_11 : decode cX6_partners 11 = .ok (.iconst (-1), 1) := by decide +kernel
theorem dX6_partners_12 : decode cX6_partners 12 = .ok (.if_icmp .ne 7, 3) := by decide +kernel
theorem dX6_partners_15 : decode cX6_partners 15 = .ok (.iconst 0, 1) := by decide +kernel
theorem dX6_partners_16 : decode cX6_partners 16 = .ok (.goto 15, 3) := by decide +kernel
theorem dX6_partners_19 : decode cX6_partners 19 = .ok (.aload_n 0, 1) := by decide +kernel
theorem dX6_partners_20 : decode cX6_partners 20 = .ok (.iload_n 1, 1) := by decide +kernel
theorem dX6_partners_21 : decode cX6_partners 21 = .ok (.invokestatic 46, 3) := by decide +kernel
theorem dX6_partners_24 : decode cX6_partners 24 = .ok (.invokevirtual 35, 3) := by decide +kernel
theorem dX6_partners_27 : decode cX6_partners 27 = .ok (.iload_n 3, 1) := by decide +kernel
theorem dX6_partners_28 : decode cX6_partners 28 = .ok (.invokevirtual 49, 3) := by decide +kernel
theorem dX6_partners_31 : decode cX6_partners 31 = .ok (.ireturn, 1) := by decide +kernel
theorem dX6_pairs_0 : decode cX6_pairs 0 = .ok (.iconst 0, 1) := by decide +kernel
theorem dX6_pairs_1 : decode cX6_pairs 1 = .ok (.istore_n 1, 1) := by decide +kernel
theorem dX6_pairs_2 : decode cX6_pairs 2 = .ok (.iconst 0, 1) := by decide +kernel
theorem dX6_pairs_3 : decode cX6_pairs 3 = .ok (.istore_n 2, 1) := by decide +kernel
theorem dX6_pairs_4 : decode cX6_pairs 4 = .ok (.iload_n 2, 1) := by decide +kernel
theorem dX6_pairs_5 : decode cX6_pairs 5 = .ok (.aload_n 0, 1) := by decide +kernel
theorem dX6_pairs_6 : decode cX6_pairs 6 = .ok (.getfield 12, 3) := by decide +kernel
theorem dX6_pairs_9 : decode cX6_pairs 9 = .ok (.getfield 28, 3) := by decide +kernel
theorem dX6_pairs_12 : decode cX6_pairs 12 = .ok (.if_icmp .ge 21, 3) := by decide +kernel
theorem dX6_pairs_15 : decode cX6_pairs 15 = .ok (.iload_n 1, 1) := by decide +kernel
theorem dX6_pairs_16 : decode cX6_pairs 16 = .ok (.aload_n 0, 1) := by decide +kernel
theorem dX6_pairs_17 : decode cX6_pairs 17 = .ok (.iconst 0, 1) := by decide +kernel
theorem dX6_pairs_18 : decode cX6_pairs 18 = .ok (.iload_n 2, 1) := by decide +kernel
theorem dX6_pairs_19 : decode cX6_pairs 19 = .ok (.invokevirtual 52, 3) := by decide +kernel
theorem dX6_pairs_22 : decode cX6_pairs 22 = .ok (.invokestatic 56, 3) := by decide +kernel
theorem dX6_pairs_25 : decode cX6_pairs 25 = .ok (.iadd, 1) := by decide +kernel
theorem dX6_pairs_26 : decode cX6_pairs 26 = .ok (.istore_n 1, 1) := by decide +kernel
theorem dX6_pairs_27 : decode cX6_pairs 27 = .ok (.iinc 2 1, 3) := by decide +kernel
theorem dX6_pairs_30 : decode cX6_pairs 30 = .ok (.goto (-26), 3) := by decide +kernel
theorem dX6_pairs_33 : decode cX6_pairs 33 = .ok (.iload_n 1, 1) := by decide +kernel
theorem dX6_pairs_34 : decode cX6_pairs 34 = .ok (.ireturn, 1) := by decide +kernel
theorem dX6_buildSide_0 : decode cX6_buildSide 0 = .ok (.iload_n 1, 1) := by decide +kernel
theorem dX6_buildSide_1 : decode cX6_buildSide 1 = .ok (.invokestatic 56, 3) := by decide +kernel
theorem dX6_buildSide_4 : decode cX6_buildSide 4 = .ok (.iload_n 2, 1) := by decide +kernel
theorem dX6_buildSide_5 : decode cX6_buildSide 5 = .ok (.invokestatic 56, 3) := by decide +kernel
theorem dX6_buildSide_8 : decode cX6_buildSide 8 = .ok (.if_icmp .ge 7, 3) := by decide +kernel
theorem dX6_buildSide_11 : decode cX6_buildSide 11 = .ok (.iconst 0, 1) := by decide +kernel
theorem dX6_buildSide_12 : decode cX6_buildSide 12 = .ok (.goto 4, 3) := by decide +kernel
theorem dX6_buildSide_15 : decode cX6_buildSide 15 = .ok (.iconst 1, 1) := by decide +kernel
theorem dX6_buildSide_16 : decode cX6_buildSide 16 = .ok (.ireturn, 1) := by decide +kernel
theorem dX6_copy_0 : decode cX6_copy 0 = .ok (.aload_n 0, 1) := by decide +kernel
theorem dX6_copy_1 : decode cX6_copy 1 = .ok (.getfield 12, 3) := by decide +kernel
theorem dX6_copy_4 : decode cX6_copy 4 = .ok (.aload_n 1, 1) := by decide +kernel
theorem dX6_copy_5 : decode cX6_copy 5 = .ok (.getfield 12, 3) := by decide +kernel
theorem dX6_copy_8 : decode cX6_copy 8 = .ok (.invokevirtual 61, 3) := by decide +kernel
theorem dX6_copy_11 : decode cX6_copy 11 = .ok (.aload_n 0, 1) := by decide +kernel
theorem dX6_copy_12 : decode cX6_copy 12 = .ok (.getfield 18, 3) := by decide +kernel
theorem dX6_copy_15 : decode cX6_copy 15 = .ok (.aload_n 1, 1) := by decide +kernel
theorem dX6_copy_16 : decode cX6_copy 16 = .ok (.getfield 18, 3) := by decide +kernel
theorem dX6_copy_19 : decode cX6_copy 19 = .ok (.invokevirtual 61, 3) := by decide +kernel
theorem dX6_copy_22 : decode cX6_copy 22 = .ok (.aload_n 0, 1) := by decide +kernel
theorem dX6_copy_23 : decode cX6_copy 23 = .ok (.aload_n 1, 1) := by decide +kernel
theorem dX6_copy_24 : decode cX6_copy 24 = .ok (.getfield 25, 3) := by decide +kernel
theorem dX6_copy_27 : decode cX6_copy 27 = .ok (.putfield 25, 3) := by decide +kernel
theorem dX6_copy_30 : decode cX6_copy 30 = .ok (.aload_n 0, 1) := by decide +kernel
theorem dX6_copy_31 : decode cX6_copy 31 = .ok (.aload_n 1, 1) := by decide +kernel
theorem dX6_copy_32 : decode cX6_copy 32 = .ok (.getfield 21, 3) := by decide +kernel
theorem dX6_copy_35 : decode cX6_copy 35 = .ok (.putfield 21, 3) := by decide +kernel
theorem dX6_copy_38 : decode cX6_copy 38 = .ok (.return_, 1) := by decide +kernel
theorem dX7_init_0 : decode cX7_init 0 = .ok (.aload_n 0, 1) := by decide +kernel
theorem dX7_init_1 : decode cX7_init 1 = .ok (.invokespecial 1, 3) := by decide +kernel
theorem dX7_init_4 : decode cX7_init 4 = .ok (.aload_n 0, 1) := by decide +kernel
theorem dX7_init_5 : decode cX7_init 5 = .ok (.new 7, 3) := by decide +kernel
theorem dX7_init_8 : decode cX7_init 8 = .ok (.dup, 1) := by decide +kernel
theorem dX7_init_9 : decode cX7_init 9 = .ok (.invokespecial 9, 3) := by decide +kernel
theorem dX7_init_12 : decode cX7_init 12 = .ok (.putfield 10, 3) := by decide +kernel
theorem dX7_init_15 : decode cX7_init 15 = .ok (.aload_n 0, 1) := by decide +kernel
theorem dX7_init_16 : decode cX7_init 16 = .ok (.new 16, 3) := by decide +kernel
theorem dX7_init_19 : decode cX7_init 19 = .ok (.dup, 1) := by decide +kernel
theorem dX7_init_20 : decode cX7_init 20 = .ok (.invokespecial 18, 3) := by decide +kernel
theorem dX7_init_23 : decode cX7_init 23 = .ok (.putfield 19, 3) := by decide +kernel
theorem dX7_init_26 : decode cX7_init 26 = .ok (.aload_n 0, 1) := by decide +kernel
theorem dX7_init_27 : decode cX7_init 27 = .ok (.aload_n 0, 1) := by decide +kernel
theorem dX7_init_28 : decode cX7_init 28 = .ok (.getfield 19, 3) := by decide +kernel
theorem dX7_init_31 : decode cX7_init 31 = .ok (.getfield 23, 3) := by decide +kernel
theorem dX7_init_34 : decode cX7_init 34 = .ok (.putfield 27, 3) := by decide +kernel
theorem dX7_init_37 : decode cX7_init 37 = .ok (.aload_n 0, 1) := by decide +kernel
theorem dX7_init_38 : decode cX7_init 38 = .ok (.new 30, 3) := by decide +kernel
theorem dX7_init_41 : decode cX7_init 41 = .ok (.dup, 1) := by decide +kernel
theorem dX7_init_42 : decode cX7_init 42 = .ok (.invokespecial 32, 3) := by decide +kernel
theorem dX7_init_45 : decode cX7_init 45 = .ok (.putfield 33, 3) := by decide +kernel
theorem dX7_init_48 : decode cX7_init 48 = .ok (.aload_n 0, 1) := by decide +kernel
theorem dX7_init_49 : decode cX7_init 49 = .ok (.new 37, 3) := by decide +kernel
theorem dX7_init_52 : decode cX7_init 52 = .ok (.dup, 1) := by decide +kernel
theorem dX7_init_53 : decode cX7_init 53 = .ok (.invokespecial 39, 3) := by decide +kernel
theorem dX7_init_56 : decode cX7_init 56 = .ok (.putfield 40, 3) := by decide +kernel
theorem dX7_init_59 : decode cX7_init 59 = .ok (.aload_n 0, 1) := by decide +kernel
theorem dX7_init_60 : decode cX7_init 60 = .ok (.new 30, 3) := by decide +kernel
theorem dX7_init_63 : decode cX7_init 63 = .ok (.dup, 1) := by decide +kernel
theorem dX7_init_64 : decode cX7_init 64 = .ok (.invokespecial 32, 3) := by decide +kernel
theorem dX7_init_67 : decode cX7_init 67 = .ok (.putfield 43, 3) := by decide +kernel
theorem dX7_init_70 : decode cX7_init 70 = .ok (.aload_n 0, 1) := by decide +kernel
theorem dX7_init_71 : decode cX7_init 71 = .ok (.new 16, 3) := by decide +kernel
theorem dX7_init_74 : decode cX7_init 74 = .ok (.dup, 1) := by decide +kernel
theorem dX7_init_75 : decode cX7_init 75 = .ok (.invokespecial 18, 3) := by decide +kernel
theorem dX7_init_78 : decode cX7_init 78 = .ok (.putfield 46, 3) := by decide +kernel
theorem dX7_init_81 : decode cX7_init 81 = .ok (.return_, 1) := by decide +kernel
theorem dX7_letter_0 : decode cX7_letter 0 = .ok (.iload_n 1, 1) := by decide +kernel
theorem dX7_letter_1 : decode cX7_letter 1 = .ok (.bipush 32, 2) := by decide +kernel
theorem dX7_letter_3 : decode cX7_letter 3 = .ok (.if_icmp .lt 9, 3) := by decide +kernel
theorem dX7_letter_6 : decode cX7_letter 6 = .ok (.iload_n 1, 1) := by decide +kernel
theorem dX7_letter_7 : decode cX7_letter 7 = .ok (.bipush 126, 2) := by decide +kernel
theorem dX7_letter_9 : decode cX7_letter 9 = .ok (.if_icmp .le 6, 3) := by decide +kernel
theorem dX7_letter_12 : decode cX7_letter 12 = .ok (.bipush (-102), 2) := by decide +kernel
theorem dX7_letter_14 : decode cX7_letter 14 = .ok (.ireturn, 1) := by decide +kernel
theorem dX7_letter_15 : decode cX7_letter 15 = .ok (.aload_n 0, 1) := by decide +kernel
theorem dX7_letter_16 : decode cX7_letter 16 = .ok (.getfield 10, 3) := by decide +kernel
theorem dX7_letter_19 : decode cX7_letter 19 = .ok (.invokevirtual 49, 3) := by decide +kernel
theorem dX7_letter_22 : decode cX7_letter 22 = .ok (.ifCond .eq 6, 3) := by decide +kernel
theorem dX7_letter_25 : decode cX7_letter 25 = .ok (.bipush (-104), 2) := by decide +kernel
theorem dX7_letter_27 : decode cX7_letter 27 = .ok (.ireturn, 1) := by decide +kernel
theorem dX7_letter_28 : decode cX7_letter 28 = .ok (.aload_n 0, 1) := by decide +kernel
theorem dX7_letter_29 : decode cX7_letter 29 = .ok (.getfield 10, 3) := by decide +kernel
theorem dX7_letter_32 : decode cX7_letter 32 = .ok (.iload_n 1, 1) := by decide +kernel
theorem dX7_letter_33 : decode cX7_letter 33 = .ok (.invokevirtual 53, 3) := by decide +kernel
theorem dX7_letter_36 : decode cX7_letter 36 = .ok (.aload_n 0, 1) := by decide +kernel
theorem dX7_letter_37 : decode cX7_letter 37 = .ok (.getfield 10, 3) := by decide +kernel
theorem dX7_letter_40 : decode cX7_letter 40 = .ok (.getfield 57, 3) := by decide +kernel
theorem dX7_letter_43 : decode cX7_letter 43 = .ok (.ireturn, 1) := by decide +kernel
theorem dX7_blank_0 : decode cX7_blank 0 = .ok (.aload_n 0, 1) := by decide +kernel
theorem dX7_blank_1 : decode cX7_blank 1 = .ok (.getfield 10, 3) := by decide +kernel
theorem dX7_blank_4 : decode cX7_blank 4 = .ok (.getfield 57, 3) := by decide +kernel
theorem dX7_blank_7 : decode cX7_blank 7 = .ok (.istore_n 1, 1) := by decide +kernel
theorem dX7_blank_8 : decode cX7_blank 8 = .ok (.aload_n 0, 1) := by decide +kernel
theorem dX7_blank_9 : decode cX7_blank 9 = .ok (.getfield 10, 3) := by decide +kernel
theorem dX7_blank_12 : decode cX7_blank 12 = .ok (.invokevirtual 61, 3) := by decide +kernel
theorem dX7_blank_15 : decode cX7_blank 15 = .ok (.iload_n 1, 1) := by decide +kernel
theorem dX7_blank_16 : decode cX7_blank 16 = .ok (.ireturn, 1) := by decide +kernel
theorem dX7_fault_0 : decode cX7_fault 0 = .ok (.aload_n 0, 1) := by decide +kernel
theorem dX7_fault_1 : decode cX7_fault 1 = .ok (.getfield 10, 3) := by decide +kernel
theorem dX7_fault_4 : decode cX7_fault 4 = .ok (.invokevirtual 64, 3) := by decide +kernel
theorem dX7_fault_7 : decode cX7_fault 7 = .ok (.ireturn, 1) := by decide +kernel
theorem dX7_tables_0 : decode cX7_tables 0 = .ok (.aload_n 0, 1) := by decide +kernel
theorem dX7_tables_1 : decode cX7_tables 1 = .ok (.getfield 10, 3) := by decide +kernel
theorem dX7_tables_4 : decode cX7_tables 4 = .ok (.invokevirtual 68, 3) := by decide +kernel
theorem dX7_tables_7 : decode cX7_tables 7 = .ok (.ifCond .ne 6, 3) := by decide +kernel
theorem dX7_tables_10 : decode cX7_tables 10 = .ok (.bipush (-103), 2) := by decide +kernel
theorem dX7_tables_12 : decode cX7_tables 12 = .ok (.ireturn, 1) := by decide +kernel
theorem dX7_tables_13 : decode cX7_tables 13 = .ok (.aload_n 0, 1) := by decide +kernel
theorem dX7_tables_14 : decode cX7_tables 14 = .ok (.getfield 10, 3) := by decide +kernel
theorem dX7_tables_17 : decode cX7_tables 17 = .ok (.invokevirtual 71, 3) := by decide +kernel
theorem dX7_tables_20 : decode cX7_tables 20 = .ok (.istore_n 1, 1) := by decide +kernel
theorem dX7_tables_21 : decode cX7_tables 21 = .ok (.aload_n 0, 1) := by decide +kernel
theorem dX7_tables_22 : decode cX7_tables 22 = .ok (.getfield 27, 3) := by decide +kernel
theorem dX7_tables_25 : decode cX7_tables 25 = .ok (.aload_n 0, 1) := by decide +kernel
theorem dX7_tables_26 : decode cX7_tables 26 = .ok (.getfield 10, 3) := by decide +kernel
theorem dX7_tables_29 : decode cX7_tables 29 = .ok (.iconst 0, 1) := by decide +kernel
theorem dX7_tables_30 : decode cX7_tables 30 = .ok (.invokevirtual 74, 3) := by decide +kernel
theorem dX7_tables_33 : decode cX7_tables 33 = .ok (.bipush 48, 2) := by decide +kernel
theorem dX7_tables_35 : decode cX7_tables 35 = .ok (.isub, 1) := by decide +kernel
theorem dX7_tables_36 : decode cX7_tables 36 = .ok (.putfield 78, 3) := by decide +kernel
theorem dX7_tables_39 : decode cX7_tables 39 = .ok (.aload_n 0, 1) := by decide +kernel
theorem dX7_tables_40 : decode cX7_tables 40 = .ok (.getfield 27, 3) := by decide +kernel
theorem dX7_tables_43 : decode cX7_tables 43 = .ok (.aload_n 0, 1) := by decide +kernel
theorem dX7_tables_44 : decode cX7_tables 44 = .ok (.getfield 10, 3) := by decide +kernel
theorem dX7_tables_47 : decode cX7_tables 47 = .ok (.iconst 1, 1) := by decide +kernel
theorem dX7_tables_48 : decode cX7_tables 48 = .ok (.invokevirtual 74, 3) := by decide +kernel
theorem dX7_tables_51 : decode cX7_tables 51 = .ok (.invokestatic 81, 3) := by decide +kernel
theorem dX7_tables_54 : decode cX7_tables 54 = .ok (.putfield 84, 3) := by decide +kernel
theorem dX7_tables_57 : decode cX7_tables 57 = .ok (.aload_n 0, 1) := by decide +kernel
theorem dX7_tables_58 : decode cX7_tables 58 = .ok (.getfield 10, 3) := by decide +kernel
theorem dX7_tables_61 : decode cX7_tables 61 = .ok (.aload_n 0, 1) := by decide +kernel
theorem dX7_tables_62 : decode cX7_tables 62 = .ok (.getfield 27, 3) := by decide +kernel
theorem dX7_tables_65 : decode cX7_tables 65 = .ok (.getfield 87, 3) := by decide +kernel
theorem dX7_tables_68 : decode cX7_tables 68 = .ok (.iconst 3, 1) := by decide +kernel
theorem dX7_tables_69 : decode cX7_tables 69 = .ok (.iload_n 1, 1) := by decide +kernel
theorem dX7_tables_70 : decode cX7_tables 70 = .ok (.invokevirtual 91, 3) := by decide +kernel
theorem dX7_tables_73 : decode cX7_tables 73 = .ok (.aload_n 0, 1) := by decide +kernel
theorem dX7_tables_74 : decode cX7_tables 74 = .ok (.getfield 10, 3) := by decide +kernel
theorem dX7_tables_77 : decode cX7_tables 77 = .ok (.aload_n 0, 1) := by decide +kernel
theorem dX7_tables_78 : decode cX7_tables 78 = .ok (.getfield 27, 3) := by decide +kernel
theorem dX7_tables_81 : decode cX7_tables 81 = .ok (.getfield 95, 3) := by decide +kernel
theorem dX7_tables_84 : decode cX7_tables 84 = .ok (.iload_n 1, 1) := by decide +kernel
theorem dX7_tables_85 : decode cX7_tables 85 = .ok (.iconst 1, 1) := by decide +kernel
theorem dX7_tables_86 : decode cX7_tables 86 = .ok (.iadd, 1) := by decide +kernel
theorem dX7_tables_87 : decode cX7_tables 87 = .ok (.aload_n 0, 1) := by decide +kernel
theorem dX7_tables_88 : decode cX7_tables 88 = .ok (.getfield 10, 3) := by decide +kernel
theorem dX7_tables_91 : decode cX7_tables 91 = .ok (.getfield 57, 3) := by decide +kernel
theorem dX7_tables_94 : decode cX7_tables 94 = .ok (.invokevirtual 91, 3) := by decide +kernel
theorem dX7_tables_97 : decode cX7_tables 97 = .ok (.aload_n 0, 1) := by decide +kernel
theorem dX7_tables_98 : decode cX7_tables 98 = .ok (.getfield 10, 3) := by decide +kernel
theorem dX7_tables_101 : decode cX7_tables 101 = .ok (.invokevirtual 61, 3) := by decide +kernel
theorem dX7_tables_104 : decode cX7_tables 104 = .ok (.aload_n 0, 1) := by decide +kernel
theorem dX7_tables_105 : decode cX7_tables 105 = .ok (.getfield 33, 3) := by decide +kernel
theorem dX7_tables_108 : decode cX7_tables 108 = .ok (.invokevirtual 98, 3) := by decide +kernel
theorem dX7_tables_111 : decode cX7_tables 111 = .ok (.aload_n 0, 1) := by decide +kernel
theorem dX7_tables_112 : decode cX7_tables 112 = .ok (.getfield 19, 3) := by decide +kernel
theorem dX7_tables_115 : decode cX7_tables 115 = .ok (.iconst 0, 1) := by decide +kernel
theorem dX7_tables_116 : decode cX7_tables 116 = .ok (.invokevirtual 99, 3) := by decide +kernel
theorem dX7_tables_119 : decode cX7_tables 119 = .ok (.aload_n 0, 1) := by decide +kernel
theorem dX7_tables_120 : decode cX7_tables 120 = .ok (.iconst 0, 1) := by decide +kernel
theorem dX7_tables_121 : decode cX7_tables 121 = .ok (.putfield 101, 3) := by decide +kernel
theorem dX7_tables_124 : decode cX7_tables 124 = .ok (.aload_n 0, 1) := by decide +kernel
theorem dX7_tables_125 : decode cX7_tables 125 = .ok (.iconst 0, 1) := by decide +kernel
theorem dX7_tables_126 : decode cX7_tables 126 = .ok (.putfield 105, 3) := by decide +kernel
theorem dX7_tables_129 : decode cX7_tables 129 = .ok (.aload_n 0, 1) := by decide +kernel
theorem dX7_tables_130 : decode cX7_tables 130 = .ok (.dup, 1) := by decide +kernel
theorem dX7_tables_131 : decode cX7_tables 131 = .ok (.getfield 108, 3) := by decide +kernel
theorem dX7_tables_134 : decode cX7_tables 134 = .ok (.iconst 1, 1) := by decide +kernel
theorem dX7_tables_135 : decode cX7_tables 135 = .ok (.iadd, 1) := by decide +kernel
theorem dX7_tables_136 : decode cX7_tables 136 = .ok (.putfield 108, 3) := by decide +kernel
theorem dX7_tables_139 : decode cX7_tables 139 = .ok (.aload_n 0, 1) := by decide +kernel
theorem dX7_tables_140 : decode cX7_tables 140 = .ok (.getfield 27, 3) := by decide +kernel
theorem dX7_tables_143 : decode cX7_tables 143 = .ok (.invokevirtual 111, 3) := by decide +kernel
theorem dX7_tables_146 : decode cX7_tables 146 = .ok (.ireturn, 1) := by decide +kernel
theorem dX7_row_0 : decode cX7_row 0 = .ok (.aload_n 0, 1) := by decide +kernel
theorem dX7_row_1 : decode cX7_row 1 = .ok (.getfield 27, 3) := by decide +kernel
theorem dX7_row_4 : decode cX7_row 4 = .ok (.iload_n 1, 1) := by decide +kernel
theorem dX7_row_5 : decode cX7_row 5 = .ok (.iload_n 2, 1) := by decide +kernel
theorem dX7_row_6 : decode cX7_row 6 = .ok (.invokevirtual 113, 3) := by decide +kernel
theorem dX7_row_9 : decode cX7_row 9 = .ok (.ifCond .ne 6, 3) := by decide +kernel
theorem dX7_row_12 : decode cX7_row 12 = .ok (.bipush (-101), 2) := by decide +kernel
theorem dX7_row_14 : decode cX7_row 14 = .ok (.ireturn, 1) := by decide +kernel
theorem dX7_row_15 : decode cX7_row 15 = .ok (.iload_n 3, 1) := by decide +kernel
theorem dX7_row_16 : decode cX7_row 16 = .ok (.ifCond .lt 8, 3) := by decide +kernel
theorem dX7_row_19 : decode cX7_row 19 = .ok (.iload_n 3, 1) := by decide +kernel
theorem dX7_row_20 : decode cX7_row 20 = .ok (.iconst 1, 1) := by decide +kernel
theorem dX7_row_21 : decode cX7_row 21 = .ok (.if_icmp .le 6, 3) := by decide +kernel
theorem dX7_row_24 : decode cX7_row 24 = .ok (.bipush (-102), 2) := by decide +kernel
theorem dX7_row_26 : decode cX7_row 26 = .ok (.ireturn, 1) := by decide +kernel
theorem dX7_row_27 : decode cX7_row 27 = .ok (.iload_n 3, 1) := by decide +kernel
theorem dX7_row_28 : decode cX7_row 28 = .ok (.ifCond .ne 18, 3) := by decide +kernel
theorem dX7_row_31 : decode cX7_row 31 = .ok (.aload_n 0, 1) := by decide +kernel
theorem dX7_row_32 : decode cX7_row 32 = .ok (.getfield 27, 3) := by decide +kernel
theorem dX7_row_35 : decode cX7_row 35 = .ok (.iload_n 1, 1) := by decide +kernel
theorem dX7_row_36 : decode cX7_row 36 = .ok (.invokevirtual 117, 3) := by decide +kernel
theorem dX7_row_39 : decode cX7_row 39 = .ok (.iload_n 2, 1) := by decide +kernel
theorem dX7_row_40 : decode cX7_row 40 = .ok (.invokevirtual 121, 3) := by decide +kernel
theorem dX7_row_43 : decode cX7_row 43 = .ok (.goto 15, 3) := by decide +kernel
theorem dX7_row_46 : decode cX7_row 46 = .ok (.aload_n 0, 1) := by decide +kernel
theorem dX7_row_47 : decode cX7_row 47 = .ok (.getfield 27, 3) := by decide +kernel
theorem dX7_row_50 : decode cX7_row 50 = .ok (.iload_n 1, 1) := by decide +kernel
theorem dX7_row_51 : decode cX7_row 51 = .ok (.iload_n 2, 1) := by decide +kernel
theorem dX7_row_52 : decode cX7_row 52 = .ok (.invokevirtual 126, 3) := by decide +kernel
theorem dX7_row_55 : decode cX7_row 55 = .ok (.invokestatic 130, 3) := by decide +kernel
theorem dX7_row_58 : decode cX7_row 58 = .ok (.ireturn, 1) := by decide +kernel
theorem dX7_as_0 : decode cX7_as 0 = .ok (.iload_n 1, 1) := by decide +kernel
theorem dX7_as_1 : decode cX7_as 1 = .ok (.invokestatic 135, 3) := by decide +kernel
theorem dX7_as_4 : decode cX7_as 4 = .ok (.ifCond .ne 6, 3) := by decide +kernel
theorem dX7_as_7 : decode cX7_as 7 = .ok (.bipush (-102), 2) := by decide +kernel
theorem dX7_as_9 : decode cX7_as 9 = .ok (.ireturn, 1) := by decide +kernel
theorem dX7_as_10 : decode cX7_as 10 = .ok (.aload_n 0, 1) := by decide +kernel
theorem dX7_as_11 : decode cX7_as 11 = .ok (.getfield 27, 3) := by decide +kernel
theorem dX7_as_14 : decode cX7_as 14 = .ok (.invokevirtual 139, 3) := by decide +kernel
theorem dX7_as_17 : decode cX7_as 17 = .ok (.ifCond .ne 6, 3) := by decide +kernel
theorem dX7_as_20 : decode cX7_as 20 = .ok (.bipush (-103), 2) := by decide +kernel
theorem dX7_as_22 : decode cX7_as 22 = .ok (.ireturn, 1) := by decide +kernel
theorem dX7_as_23 : decode cX7_as 23 = .ok (.iload_n 1, 1) := by decide +kernel
theorem dX7_as_24 : decode cX7_as 24 = .ok (.ifCond .eq 30, 3) := by decide +kernel
theorem dX7_as_27 : decode cX7_as 27 = .ok (.iload_n 1, 1) := by decide +kernel
theorem dX7_as_28 : decode cX7_as 28 = .ok (.aload_n 0, 1) := by decide +kernel
theorem dX7_as_29 : decode cX7_as 29 = .ok (.getfield 27, 3) := by decide +kernel
theorem dX7_as_32 : decode cX7_as 32 = .ok (.getfield 84, 3) := by decide +kernel
theorem dX7_as_35 : decode cX7_as 35 = .ok (.if_icmp .eq 19, 3) := by decide +kernel
theorem dX7_as_38 : decode cX7_as 38 = .ok (.iload_n 1, 1) := by decide +kernel
theorem dX7_as_39 : decode cX7_as 39 = .ok (.iconst 1, 1) := by decide +kernel
theorem dX7_as_40 : decode cX7_as 40 = .ok (.if_icmp .ne 18, 3) := by decide +kernel
theorem dX7_as_43 : decode cX7_as 43 = .ok (.aload_n 0, 1) := by decide +kernel
theorem dX7_as_44 : decode cX7_as 44 = .ok (.getfield 27, 3) := by decide +kernel
theorem dX7_as_47 : decode cX7_as 47 = .ok (.getfield 84, 3) := by decide +kernel
theorem dX7_as_50 : decode cX7_as 50 = .ok (.iconst 4, 1) := by decide +kernel
theorem dX7_as_51 : decode cX7_as 51 = .ok (.if_icmp .ne 7, 3) := by decide +kernel
theorem dX7_as_54 : decode cX7_as 54 = .ok (.iconst 1, 1) := by decide +kernel
theorem dX7_as_55 : decode cX7_as 55 = .ok (.goto 4, 3) := by decide +kernel
theorem dX7_as_58 : decode cX7_as 58 = .ok (.iconst 0, 1) := by decide +kernel
theorem dX7_as_59 : decode cX7_as 59 = .ok (.istore_n 2, 1) := by decide +kernel
theorem dX7_as_60 : decode cX7_as 60 = .ok (.iload_n 2, 1) := by decide +kernel
theorem dX7_as_61 : decode cX7_as 61 = .ok (.ifCond .eq 13, 3) := by decide +kernel
theorem dX7_as_64 : decode cX7_as 64 = .ok (.aload_n 0, 1) := by decide +kernel
theorem dX7_as_65 : decode cX7_as 65 = .ok (.getfield 27, 3) := by decide +kernel
theorem dX7_as_68 : decode cX7_as 68 = .ok (.getfield 84, 3) := by decide +kernel
theorem dX7_as_71 : decode cX7_as 71 = .ok (.goto 4, 3) := by decide +kernel
theorem dX7_as_74 : decode cX7_as 74 = .ok (.iconst (-1), 1) := by decide +kernel
theorem dX7_as_75 : decode cX7_as 75 = .ok (.ireturn, 1) := by decide +kernel
theorem dX7_put_0 : decode cX7_put 0 = .ok (.iload_n 1, 1) := by decide +kernel
theorem dX7_put_1 : decode cX7_put 1 = .ok (.invokestatic 142, 3) := by decide +kernel
theorem dX7_put_4 : decode cX7_put 4 = .ok (.ifCond .ne 6, 3) := by decide +kernel
theorem dX7_put_7 : decode cX7_put 7 = .ok (.bipush (-101), 2) := by decide +kernel
theorem dX7_put_9 : decode cX7_put 9 = .ok (.ireturn, 1) := by decide +kernel
theorem dX7_put_10 : decode cX7_put 10 = .ok (.iload_n 2, 1) := by decide +kernel
theorem dX7_put_11 : decode cX7_put 11 = .ok (.invokestatic 145, 3) := by decide +kernel
theorem dX7_put_14 : decode cX7_put 14 = .ok (.ifCond .ne 6, 3) := by decide +kernel
theorem dX7_put_17 : decode cX7_put 17 = .ok (.bipush (-102), 2) := by decide +kernel
theorem dX7_put_19 : decode cX7_put 19 = .ok (.ireturn, 1) := by decide +kernel
theorem dX7_put_20 : decode cX7_put 20 = .ok (.aload_n 0, 1) := by decide +kernel
theorem dX7_put_21 : decode cX7_put 21 = .ok (.getfield 27, 3) := by decide +kernel
theorem dX7_put_24 : decode cX7_put 24 = .ok (.invokevirtual 139, 3) := by decide +kernel
theorem dX7_put_27 : decode cX7_put 27 = .ok (.ifCond .ne 6, 3) := by decide +kernel
theorem dX7_put_30 : decode cX7_put 30 = .ok (.bipush (-103), 2) := by decide +kernel
theorem dX7_put_32 : decode cX7_put 32 = .ok (.ireturn, 1) := by decide +kernel
theorem dX7_put_33 : decode cX7_put 33 = .ok (.aload_n 0, 1) := by decide +kernel
theorem dX7_put_34 : decode cX7_put 34 = .ok (.getfield 27, 3) := by decide +kernel
theorem dX7_put_37 : decode cX7_put 37 = .ok (.iload_n 1, 1) := by decide +kernel
theorem dX7_put_38 : decode cX7_put 38 = .ok (.invokevirtual 117, 3) := by decide +kernel
theorem dX7_put_41 : decode cX7_put 41 = .ok (.astore_n 3, 1) := by decide +kernel
theorem dX7_put_42 : decode cX7_put 42 = .ok (.aload_n 3, 1) := by decide +kernel
theorem dX7_put_43 : decode cX7_put 43 = .ok (.getfield 148, 3) := by decide +kernel
theorem dX7_put_46 : decode cX7_put 46 = .ok (.bipush 14, 2) := by decide +kernel
theorem dX7_put_48 : decode cX7_put 48 = .ok (.if_icmp .lt 6, 3) := by decide +kernel
theorem dX7_put_51 : decode cX7_put 51 = .ok (.bipush (-104), 2) := by decide +kernel
theorem dX7_put_53 : decode cX7_put 53 = .ok (.ireturn, 1) := by decide +kernel
theorem dX7_put_54 : decode cX7_put 54 = .ok (.aload_n 3, 1) := by decide +kernel
theorem dX7_put_55 : decode cX7_put 55 = .ok (.iload_n 2, 1) := by decide +kernel
theorem dX7_put_56 : decode cX7_put 56 = .ok (.invokevirtual 149, 3) := by decide +kernel
theorem dX7_put_59 : decode cX7_put 59 = .ok (.aload_n 3, 1) := by decide +kernel
theorem dX7_put_60 : decode cX7_put 60 = .ok (.getfield 148, 3) := by decide +kernel
theorem dX7_put_63 : decode cX7_put 63 = .ok (.ireturn, 1) := by decide +kernel
theorem dX7_take_0 : decode cX7_take 0 = .ok (.aload_n 0, 1) := by decide +kernel
theorem dX7_take_1 : decode cX7_take 1 = .ok (.getfield 27, 3) := by decide +kernel
theorem dX7_take_4 : decode cX7_take 4 = .ok (.iload_n 1, 1) := by decide +kernel
theorem dX7_take_5 : decode cX7_take 5 = .ok (.iload_n 2, 1) := by decide +kernel
theorem dX7_take_6 : decode cX7_take 6 = .ok (.invokevirtual 113, 3) := by decide +kernel
theorem dX7_take_9 : decode cX7_take 9 = .ok (.ifCond .ne 6, 3) := by decide +kernel
theorem dX7_take_12 : decode cX7_take 12 = .ok (.bipush (-101), 2) := by decide +kernel
theorem dX7_take_14 : decode cX7_take 14 = .ok (.ireturn, 1) := by decide +kernel
theorem dX7_take_15 : decode cX7_take 15 = .ok (.aload_n 0, 1) := by decide +kernel
theorem dX7_take_16 : decode cX7_take 16 = .ok (.getfield 27, 3) := by decide +kernel
theorem dX7_take_19 : decode cX7_take 19 = .ok (.iload_n 1, 1) := by decide +kernel
theorem dX7_take_20 : decode cX7_take 20 = .ok (.invokevirtual 117, 3) := by decide +kernel
theorem dX7_take_23 : decode cX7_take 23 = .ok (.astore_n 3, 1) := by decide +kernel
theorem dX7_take_24 : decode cX7_take 24 = .ok (.aload_n 3, 1) := by decide +kernel
theorem dX7_take_25 : decode cX7_take 25 = .ok (.iload_n 2, 1) := by decide +kernel
theorem dX7_take_26 : decode cX7_take 26 = .ok (.invokevirtual 121, 3) := by decide +kernel
theorem dX7_take_29 : decode cX7_take 29 = .ok (.istore 4, 2) := by decide +kernel
theorem dX7_take_31 : decode cX7_take 31 = .ok (.aload_n 3, 1) := by decide +kernel
theorem dX7_take_32 : decode cX7_take 32 = .ok (.iload_n 2, 1) := by decide +kernel
theorem dX7_take_33 : decode cX7_take 33 = .ok (.invokevirtual 150, 3) := by decide +kernel
theorem dX7_take_36 : decode cX7_take 36 = .ok (.iload 4, 2) := by decide +kernel
theorem dX7_take_38 : decode cX7_take 38 = .ok (.ireturn, 1) := by decide +kernel
theorem dX7_key_0 : decode cX7_key 0 = .ok (.aload_n 0, 1) := by decide +kernel
theorem dX7_key_1 : decode cX7_key 1 = .ok (.getfield 27, 3) := by decide +kernel
theorem dX7_key_4 : decode cX7_key 4 = .ok (.iload_n 1, 1) := by decide +kernel
theorem dX7_key_5 : decode cX7_key 5 = .ok (.iload_n 2, 1) := by decide +kernel
theorem dX7_key_6 : decode cX7_key 6 = .ok (.invokevirtual 113, 3) := by decide +kernel
theorem dX7_key_9 : decode cX7_key 9 = .ok (.ifCond .ne 6, 3) := by decide +kernel
theorem dX7_key_12 : decode cX7_key 12 = .ok (.bipush (-101), 2) := by decide +kernel
theorem dX7_key_14 : decode cX7_key 14 = .ok (.ireturn, 1) := by decide +kernel
theorem dX7_key_15 : decode cX7_key 15 = .ok (.iload_n 3, 1) := by decide +kernel
theorem dX7_key_16 : decode cX7_key 16 = .ok (.invokestatic 145, 3) := by decide +kernel
theorem dX7_key_19 : decode cX7_key 19 = .ok (.ifCond .ne 6, 3) := by decide +kernel
theorem dX7_key_22 : decode cX7_key 22 = .ok (.bipush (-102), 2) := by decide +kernel
theorem dX7_key_24 : decode cX7_key 24 = .ok (.ireturn, 1) := by decide +kernel
theorem dX7_key_25 : decode cX7_key 25 = .ok (.aload_n 0, 1) := by decide +kernel
theorem dX7_key_26 : decode cX7_key 26 = .ok (.getfield 27, 3) := by decide +kernel
theorem dX7_key_29 : decode cX7_key 29 = .ok (.iload_n 1, 1) := by decide +kernel
theorem dX7_key_30 : decode cX7_key 30 = .ok (.invokevirtual 117, 3) := by decide +kernel
theorem dX7_key_33 : decode cX7_key 33 = .ok (.astore 4, 2) := by decide +kernel
theorem dX7_key_35 : decode cX7_key 35 = .ok (.aload 4, 2) := by decide +kernel
theorem dX7_key_37 : decode cX7_key 37 = .ok (.iload_n 2, 1) := by decide +kernel
theorem dX7_key_38 : decode cX7_key 38 = .ok (.invokevirtual 121, 3) := by decide +kernel
theorem dX7_key_41 : decode cX7_key 41 = .ok (.istore 5, 2) := by decide +kernel
theorem dX7_key_43 : decode cX7_key 43 = .ok (.aload 4, 2) := by decide +kernel
theorem dX7_key_45 : decode cX7_key 45 = .ok (.iload_n 2, 1) := by decide +kernel
theorem dX7_key_46 : decode cX7_key 46 = .ok (.iload_n 3, 1) := by decide +kernel
theorem dX7_key_47 : decode cX7_key 47 = .ok (.invokevirtual 153, 3) := by decide +kernel
theorem dX7_key_50 : decode cX7_key 50 = .ok (.iload 5, 2) := by decide +kernel
theorem dX7_key_52 : decode cX7_key 52 = .ok (.ireturn, 1) := by decide +kernel
theorem dX7_memory_0 : decode cX7_memory 0 = .ok (.iload_n 1, 1) := by decide +kernel
theorem dX7_memory_1 : decode cX7_memory 1 = .ok (.iconst 1, 1) := by decide +kernel
theorem dX7_memory_2 : decode cX7_memory 2 = .ok (.if_icmp .lt 9, 3) := by decide +kernel
theorem dX7_memory_5 : decode cX7_memory 5 = .ok (.iload_n 1, 1) := by decide +kernel
theorem dX7_memory_6 : decode cX7_memory 6 = .ok (.bipush 9, 2) := by decide +kernel
theorem dX7_memory_8 : decode cX7_memory 8 = .ok (.if_icmp .le 6, 3) := by decide +kernel
theorem dX7_memory_11 : decode cX7_memory 11 = .ok (.bipush (-102), 2) := by decide +kernel
theorem dX7_memory_13 : decode cX7_memory 13 = .ok (.ireturn, 1) := by decide +kernel
theorem dX7_memory_14 : decode cX7_memory 14 = .ok (.aload_n 0, 1) := by decide +kernel
theorem dX7_memory_15 : decode cX7_memory 15 = .ok (.getfield 27, 3) := by decide +kernel
theorem dX7_memory_18 : decode cX7_memory 18 = .ok (.invokevirtual 139, 3) := by decide +kernel
theorem dX7_memory_21 : decode cX7_memory 21 = .ok (.ifCond .ne 6, 3) := by decide +kernel
theorem dX7_memory_24 : decode cX7_memory 24 = .ok (.bipush (-103), 2) := by decide +kernel
theorem dX7_memory_26 : decode cX7_memory 26 = .ok (.ireturn, 1) := by decide +kernel
theorem dX7_memory_27 : decode cX7_memory 27 = .ok (.aload_n 0, 1) := by decide +kernel
theorem dX7_memory_28 : decode cX7_memory 28 = .ok (.getfield 27, 3) := by decide +kernel
theorem dX7_memory_31 : decode cX7_memory 31 = .ok (.getfield 78, 3) := by decide +kernel
theorem dX7_memory_34 : decode cX7_memory 34 = .ok (.istore_n 2, 1) := by decide +kernel
theorem dX7_memory_35 : decode cX7_memory 35 = .ok (.aload_n 0, 1) := by decide +kernel
theorem dX7_memory_36 : decode cX7_memory 36 = .ok (.getfield 27, 3) := by decide +kernel
theorem dX7_memory_39 : decode cX7_memory 39 = .ok (.iload_n 1, 1) := by decide +kernel
theorem dX7_memory_40 : decode cX7_memory 40 = .ok (.putfield 78, 3) := by decide +kernel
theorem dX7_memory_43 : decode cX7_memory 43 = .ok (.iload_n 2, 1) := by decide +kernel
theorem dX7_memory_44 : decode cX7_memory 44 = .ok (.ireturn, 1) := by decide +kernel
theorem dX7_be_0 : decode cX7_be 0 = .ok (.iload_n 1, 1) := by decide +kernel
theorem dX7_be_1 : decode cX7_be 1 = .ok (.invokestatic 135, 3) := by decide +kernel
theorem dX7_be_4 : decode cX7_be 4 = .ok (.ifCond .ne 6, 3) := by decide +kernel
theorem dX7_be_7 : decode cX7_be 7 = .ok (.bipush (-102), 2) := by decide +kernel
theorem dX7_be_9 : decode cX7_be 9 = .ok (.ireturn, 1) := by decide +kernel
theorem dX7_be_10 : decode cX7_be 10 = .ok (.aload_n 0, 1) := by decide +kernel
theorem dX7_be_11 : decode cX7_be 11 = .ok (.getfield 27, 3) := by decide +kernel
theorem dX7_be_14 : decode cX7_be 14 = .ok (.invokevirtual 139, 3) := by decide +kernel
theorem dX7_be_17 : decode cX7_be 17 = .ok (.ifCond .ne 6, 3) := by decide +kernel
theorem dX7_be_20 : decode cX7_be 20 = .ok (.bipush (-103), 2) := by decide +kernel
theorem dX7_be_22 : decode cX7_be 22 = .ok (.ireturn, 1) := by decide +kernel
theorem dX7_be_23 : decode cX7_be 23 = .ok (.aload_n 0, 1) := by decide +kernel
theorem dX7_be_24 : decode cX7_be 24 = .ok (.getfield 27, 3) := by decide +kernel
theorem dX7_be_27 : decode cX7_be 27 = .ok (.getfield 84, 3) := by decide +kernel
theorem dX7_be_30 : decode cX7_be 30 = .ok (.istore_n 2, 1) := by decide +kernel
theorem dX7_be_31 : decode cX7_be 31 = .ok (.aload_n 0, 1) := by decide +kernel
theorem dX7_be_32 : decode cX7_be 32 = .ok (.getfield 27, 3) := by decide +kernel
theorem dX7_be_35 : decode cX7_be 35 = .ok (.iload_n 1, 1) := by decide +kernel
theorem dX7_be_36 : decode cX7_be 36 = .ok (.putfield 84, 3) := by decide +kernel
theorem dX7_be_39 : decode cX7_be 39 = .ok (.iload_n 2, 1) := by decide +kernel
theorem dX7_be_40 : decode cX7_be 40 = .ok (.ireturn, 1) := by decide +kernel
theorem dX7_run_0 : decode cX7_run 0 = .ok (.iload_n 1, 1) := by decide +kernel
theorem dX7_run_1 : decode cX7_run 1 = .ok (.ifCond .lt 10, 3) := by decide +kernel
theorem dX7_run_4 : decode cX7_run 4 = .ok (.iload_n 1, 1) := by decide +kernel
theorem dX7_run_5 : decode cX7_run 5 = .ok (.sipush 250, 3) := by decide +kernel
theorem dX7_run_8 : decode cX7_run 8 = .ok (.if_icmp .le 6, 3) := by decide +kernel
theorem dX7_run_11 : decode cX7_run 11 = .ok (.bipush (-102), 2) := by decide +kernel
theorem dX7_run_13 : decode cX7_run 13 = .ok (.ireturn, 1) := by decide +kernel
theorem dX7_run_14 : decode cX7_run 14 = .ok (.aload_n 0, 1) := by decide +kernel
theorem dX7_run_15 : decode cX7_run 15 = .ok (.getfield 27, 3) := by decide +kernel
theorem dX7_run_18 : decode cX7_run 18 = .ok (.invokevirtual 139, 3) := by decide +kernel
theorem dX7_run_21 : decode cX7_run 21 = .ok (.ifCond .ne 6, 3) := by decide +kernel
theorem dX7_run_24 : decode cX7_run 24 = .ok (.bipush (-103), 2) := by decide +kernel
theorem dX7_run_26 : decode cX7_run 26 = .ok (.ireturn, 1) := by decide +kernel
theorem dX7_run_27 : decode cX7_run 27 = .ok (.aload_n 0, 1) := by decide +kernel
theorem dX7_run_28 : decode cX7_run 28 = .ok (.dup, 1) := by decide +kernel
theorem dX7_run_29 : decode cX7_run 29 = .ok (.getfield 105, 3) := by decide +kernel
theorem dX7_run_32 : decode cX7_run 32 = .ok (.iconst 1, 1) := by decide +kernel
theorem dX7_run_33 : decode cX7_run 33 = .ok (.iadd, 1) := by decide +kernel
theorem dX7_run_34 : decode cX7_run 34 = .ok (.putfield 105, 3) := by decide +kernel
theorem dX7_run_37 : decode cX7_run 37 = .ok (.aload_n 0, 1) := by decide +kernel
theorem dX7_run_38 : decode cX7_run 38 = .ok (.getfield 19, 3) := by decide +kernel
theorem dX7_run_41 : decode cX7_run 41 = .ok (.iload_n 1, 1) := by decide +kernel
theorem dX7_run_42 : decode cX7_run 42 = .ok (.invokevirtual 157, 3) := by decide +kernel
theorem dX7_run_45 : decode cX7_run 45 = .ok (.aload_n 0, 1) := by decide +kernel
theorem dX7_run_46 : decode cX7_run 46 = .ok (.getfield 19, 3) := by decide +kernel
theorem dX7_run_49 : decode cX7_run 49 = .ok (.getfield 160, 3) := by decide +kernel
theorem dX7_run_52 : decode cX7_run 52 = .ok (.getfield 164, 3) := by decide +kernel
theorem dX7_run_55 : decode cX7_run 55 = .ok (.ifCond .eq 8, 3) := by decide +kernel
theorem dX7_run_58 : decode cX7_run 58 = .ok (.bipush (-2), 2) := by decide +kernel
theorem dX7_run_60 : decode cX7_run 60 = .ok (.goto 13, 3) := by decide +kernel
theorem dX7_run_63 : decode cX7_run 63 = .ok (.aload_n 0, 1) := by decide +kernel
theorem dX7_run_64 : decode cX7_run 64 = .ok (.getfield 19, 3) := by decide +kernel
theorem dX7_run_67 : decode cX7_run 67 = .ok (.getfield 160, 3) := by decide +kernel
theorem dX7_run_70 : decode cX7_run 70 = .ok (.getfield 169, 3) := by decide +kernel
theorem dX7_run_73 : decode cX7_run 73 = .ok (.ireturn, 1) := by decide +kernel
theorem dX7_out_0 : decode cX7_out 0 = .ok (.iload_n 1, 1) := by decide +kernel
theorem dX7_out_1 : decode cX7_out 1 = .ok (.ifCond .lt 17, 3) := by decide +kernel
theorem dX7_out_4 : decode cX7_out 4 = .ok (.iload_n 1, 1) := by decide +kernel
theorem dX7_out_5 : decode cX7_out 5 = .ok (.aload_n 0, 1) := by decide +kernel
theorem dX7_out_6 : decode cX7_out 6 = .ok (.getfield 19, 3) := by decide +kernel
theorem dX7_out_9 : decode cX7_out 9 = .ok (.getfield 160, 3) := by decide +kernel
theorem dX7_out_12 : decode cX7_out 12 = .ok (.getfield 169, 3) := by decide +kernel
theorem dX7_out_15 : decode cX7_out 15 = .ok (.if_icmp .lt 6, 3) := by decide +kernel
theorem dX7_out_18 : decode cX7_out 18 = .ok (.bipush (-101), 2) := by decide +kernel
theorem dX7_out_20 : decode cX7_out 20 = .ok (.ireturn, 1) := by decide +kernel
theorem dX7_out_21 : decode cX7_out 21 = .ok (.iload_n 2, 1) := by decide +kernel
theorem dX7_out_22 : decode cX7_out 22 = .ok (.ifCond .lt 8, 3) := by decide +kernel
theorem dX7_out_25 : decode cX7_out 25 = .ok (.iload_n 2, 1) := by decide +kernel
theorem dX7_out_26 : decode cX7_out 26 = .ok (.iconst 1, 1) := by decide +kernel
theorem dX7_out_27 : decode cX7_out 27 = .ok (.if_icmp .le 6, 3) := by decide +kernel
theorem dX7_out_30 : decode cX7_out 30 = .ok (.bipush (-102), 2) := by decide +kernel
theorem dX7_out_32 : decode cX7_out 32 = .ok (.ireturn, 1) := by decide +kernel
theorem dX7_out_33 : decode cX7_out 33 = .ok (.aload_n 0, 1) := by decide +kernel
theorem dX7_out_34 : decode cX7_out 34 = .ok (.getfield 19, 3) := by decide +kernel
theorem dX7_out_37 : decode cX7_out 37 = .ok (.getfield 160, 3) := by decide +kernel
theorem dX7_out_40 : decode cX7_out 40 = .ok (.iload_n 1, 1) := by decide +kernel
theorem dX7_out_41 : decode cX7_out 41 = .ok (.iload_n 2, 1) := by decide +kernel
theorem dX7_out_42 : decode cX7_out 42 = .ok (.invokevirtual 170, 3) := by decide +kernel
theorem dX7_out_45 : decode cX7_out 45 = .ok (.ireturn, 1) := by decide +kernel
theorem dX7_log_0 : decode cX7_log 0 = .ok (.iload_n 1, 1) := by decide +kernel
theorem dX7_log_1 : decode cX7_log 1 = .ok (.ifCond .lt 17, 3) := by decide +kernel
theorem dX7_log_4 : decode cX7_log 4 = .ok (.iload_n 1, 1) := by decide +kernel
theorem dX7_log_5 : decode cX7_log 5 = .ok (.aload_n 0, 1) := by decide +kernel
theorem dX7_log_6 : decode cX7_log 6 = .ok (.getfield 19, 3) := by decide +kernel
theorem dX7_log_9 : decode cX7_log 9 = .ok (.getfield 173, 3) := by decide +kernel
theorem dX7_log_12 : decode cX7_log 12 = .ok (.getfield 177, 3) := by decide +kernel
theorem dX7_log_15 : decode cX7_log 15 = .ok (.if_icmp .lt 6, 3) := by decide +kernel
theorem dX7_log_18 : decode cX7_log 18 = .ok (.bipush (-101), 2) := by decide +kernel
theorem dX7_log_20 : decode cX7_log 20 = .ok (.ireturn, 1) := by decide +kernel
theorem dX7_log_21 : decode cX7_log 21 = .ok (.iload_n 2, 1) := by decide +kernel
theorem dX7_log_22 : decode cX7_log 22 = .ok (.ifCond .lt 8, 3) := by decide +kernel
theorem dX7_log_25 : decode cX7_log 25 = .ok (.iload_n 2, 1) := by decide +kernel
theorem dX7_log_26 : decode cX7_log 26 = .ok (.iconst 2, 1) := by decide +kernel
theorem dX7_log_27 : decode cX7_log 27 = .ok (.if_icmp .le 6, 3) := by decide +kernel
theorem dX7_log_30 : decode cX7_log 30 = .ok (.bipush (-102), 2) := by decide +kernel
theorem dX7_log_32 : decode cX7_log 32 = .ok (.ireturn, 1) := by decide +kernel
theorem dX7_log_33 : decode cX7_log 33 = .ok (.aload_n 0, 1) := by decide +kernel
theorem dX7_log_34 : decode cX7_log 34 = .ok (.getfield 19, 3) := by decide +kernel
theorem dX7_log_37 : decode cX7_log 37 = .ok (.getfield 173, 3) := by decide +kernel
theorem dX7_log_40 : decode cX7_log 40 = .ok (.iload_n 1, 1) := by decide +kernel
theorem dX7_log_41 : decode cX7_log 41 = .ok (.iload_n 2, 1) := by decide +kernel
theorem dX7_log_42 : decode cX7_log 42 = .ok (.invokevirtual 180, 3) := by decide +kernel
theorem dX7_log_45 : decode cX7_log 45 = .ok (.ireturn, 1) := by decide +kernel
theorem dX7_ledger_0 : decode cX7_ledger 0 = .ok (.iload_n 1, 1) := by decide +kernel
theorem dX7_ledger_1 : decode cX7_ledger 1 = .ok (.ifCond .lt 9, 3) := by decide +kernel
theorem dX7_ledger_4 : decode cX7_ledger 4 = .ok (.iload_n 1, 1) := by decide +kernel
theorem dX7_ledger_5 : decode cX7_ledger 5 = .ok (.bipush 10, 2) := by decide +kernel
theorem dX7_ledger_7 : decode cX7_ledger 7 = .ok (.if_icmp .lt 6, 3) := by decide +kernel
theorem dX7_ledger_10 : decode cX7_ledger 10 = .ok (.bipush (-102), 2) := by decide +kernel
theorem dX7_ledger_12 : decode cX7_ledger 12 = .ok (.ireturn, 1) := by decide +kernel
theorem dX7_ledger_13 : decode cX7_ledger 13 = .ok (.aload_n 0, 1) := by decide +kernel
theorem dX7_ledger_14 : decode cX7_ledger 14 = .ok (.getfield 19, 3) := by decide +kernel
theorem dX7_ledger_17 : decode cX7_ledger 17 = .ok (.iload_n 1, 1) := by decide +kernel
theorem dX7_ledger_18 : decode cX7_ledger 18 = .ok (.invokevirtual 181, 3) := by decide +kernel
theorem dX7_ledger_21 : decode cX7_ledger 21 = .ok (.ireturn, 1) := by decide +kernel
theorem dX7_spare_0 : decode cX7_spare 0 = .ok (.aload_n 0, 1) := by decide +kernel
theorem dX7_spare_1 : decode cX7_spare 1 = .ok (.getfield 27, 3) := by decide +kernel
theorem dX7_spare_4 : decode cX7_spare 4 = .ok (.invokevirtual 139, 3) := by decide +kernel
theorem dX7_spare_7 : decode cX7_spare 7 = .ok (.ifCond .ne 6, 3) := by decide +kernel
theorem dX7_spare_10 : decode cX7_spare 10 = .ok (.bipush (-103), 2) := by decide +kernel
theorem dX7_spare_12 : decode cX7_spare 12 = .ok (.ireturn, 1) := by decide +kernel
theorem dX7_spare_13 : decode cX7_spare 13 = .ok (.aload_n 0, 1) := by decide +kernel
theorem dX7_spare_14 : decode cX7_spare 14 = .ok (.getfield 27, 3) := by decide +kernel
theorem dX7_spare_17 : decode cX7_spare 17 = .ok (.aload_n 0, 1) := by decide +kernel
theorem dX7_spare_18 : decode cX7_spare 18 = .ok (.getfield 27, 3) := by decide +kernel
theorem dX7_spare_21 : decode cX7_spare 21 = .ok (.getfield 87, 3) := by decide +kernel
theorem dX7_spare_24 : decode cX7_spare 24 = .ok (.invokevirtual 184, 3) := by decide +kernel
theorem dX7_spare_27 : decode cX7_spare 27 = .ok (.aload_n 0, 1) := by decide +kernel
theorem dX7_spare_28 : decode cX7_spare 28 = .ok (.getfield 27, 3) := by decide +kernel
theorem dX7_spare_31 : decode cX7_spare 31 = .ok (.getfield 95, 3) := by decide +kernel
theorem dX7_spare_34 : decode cX7_spare 34 = .ok (.invokevirtual 184, 3) := by decide +kernel
theorem dX7_spare_37 : decode cX7_spare 37 = .ok (.invokevirtual 187, 3) := by decide +kernel
theorem dX7_spare_40 : decode cX7_spare 40 = .ok (.istore_n 1, 1) := by decide +kernel
theorem dX7_spare_41 : decode cX7_spare 41 = .ok (.aload_n 0, 1) := by decide +kernel
theorem dX7_spare_42 : decode cX7_spare 42 = .ok (.getfield 27, 3) := by decide +kernel
theorem dX7_spare_45 : decode cX7_spare 45 = .ok (.iload_n 1, 1) := by decide +kernel
theorem dX7_spare_46 : decode cX7_spare 46 = .ok (.invokevirtual 117, 3) := by decide +kernel
theorem dX7_spare_49 : decode cX7_spare 49 = .ok (.invokevirtual 184, 3) := by decide +kernel
theorem dX7_spare_52 : decode cX7_spare 52 = .ok (.istore_n 2, 1) := by decide +kernel
theorem dX7_spare_53 : decode cX7_spare 53 = .ok (.aload_n 0, 1) := by decide +kernel
theorem dX7_spare_54 : decode cX7_spare 54 = .ok (.getfield 27, 3) := by decide +kernel
theorem dX7_spare_57 : decode cX7_spare 57 = .ok (.iload_n 1, 1) := by decide +kernel
theorem dX7_spare_58 : decode cX7_spare 58 = .ok (.invokevirtual 117, 3) := by decide +kernel
theorem dX7_spare_61 : decode cX7_spare 61 = .ok (.iload_n 2, 1) := by decide +kernel
theorem dX7_spare_62 : decode cX7_spare 62 = .ok (.invokevirtual 190, 3) := by decide +kernel
theorem dX7_spare_65 : decode cX7_spare 65 = .ok (.ifCond .eq 5, 3) := by decide +kernel
theorem dX7_spare_68 : decode cX7_spare 68 = .ok (.iconst 1, 1) := by decide +kernel
theorem dX7_spare_69 : decode cX7_spare 69 = .ok (.ireturn, 1) := by decide +kernel
theorem dX7_spare_70 : decode cX7_spare 70 = .ok (.iconst 1, 1) := by decide +kernel
theorem dX7_spare_71 : decode cX7_spare 71 = .ok (.iload_n 2, 1) := by decide +kernel
theorem dX7_spare_72 : decode cX7_spare 72 = .ok (.invokestatic 130, 3) := by decide +kernel
theorem dX7_spare_75 : decode cX7_spare 75 = .ok (.invokestatic 193, 3) := by decide +kernel
theorem dX7_spare_78 : decode cX7_spare 78 = .ok (.istore_n 3, 1) := by decide +kernel
theorem dX7_spare_79 : decode cX7_spare 79 = .ok (.iload_n 3, 1) := by decide +kernel
theorem dX7_spare_80 : decode cX7_spare 80 = .ok (.bipush 9, 2) := by decide +kernel
theorem dX7_spare_82 : decode cX7_spare 82 = .ok (.if_icmp .gt 7, 3) := by decide +kernel
theorem dX7_spare_85 : decode cX7_spare 85 = .ok (.iload_n 3, 1) := by decide +kernel
theorem dX7_spare_86 : decode cX7_spare 86 = .ok (.goto 4, 3) := by decide +kernel
theorem dX7_spare_89 : decode cX7_spare 89 = .ok (.iconst (-1), 1) := by decide +kernel
theorem dX7_spare_90 : decode cX7_spare 90 = .ok (.ireturn, 1) := by decide +kernel
theorem dX7_see_0 : decode cX7_see 0 = .ok (.iload_n 1, 1) := by decide +kernel
theorem dX7_see_1 : decode cX7_see 1 = .ok (.ifCond .lt 8, 3) := by decide +kernel
theorem dX7_see_4 : decode cX7_see 4 = .ok (.iload_n 1, 1) := by decide +kernel
theorem dX7_see_5 : decode cX7_see 5 = .ok (.iconst 4, 1) := by decide +kernel
theorem dX7_see_6 : decode cX7_see 6 = .ok (.if_icmp .lt 6, 3) := by decide +kernel
theorem dX7_see_9 : decode cX7_see 9 = .ok (.bipush (-102), 2) := by decide +kernel
theorem dX7_see_11 : decode cX7_see 11 = .ok (.ireturn, 1) := by decide +kernel
theorem dX7_see_12 : decode cX7_see 12 = .ok (.aload_n 0, 1) := by decide +kernel
theorem dX7_see_13 : decode cX7_see 13 = .ok (.getfield 27, 3) := by decide +kernel
theorem dX7_see_16 : decode cX7_see 16 = .ok (.invokevirtual 139, 3) := by decide +kernel
theorem dX7_see_19 : decode cX7_see 19 = .ok (.ifCond .ne 6, 3) := by decide +kernel
theorem dX7_see_22 : decode cX7_see 22 = .ok (.bipush (-103), 2) := by decide +kernel
theorem dX7_see_24 : decode cX7_see 24 = .ok (.ireturn, 1) := by decide +kernel
theorem dX7_see_25 : decode cX7_see 25 = .ok (.aload_n 0, 1) := by decide +kernel
theorem dX7_see_26 : decode cX7_see 26 = .ok (.getfield 33, 3) := by decide +kernel
theorem dX7_see_29 : decode cX7_see 29 = .ok (.getfield 198, 3) := by decide +kernel
theorem dX7_see_32 : decode cX7_see 32 = .ok (.bipush 6, 2) := by decide +kernel
theorem dX7_see_34 : decode cX7_see 34 = .ok (.if_icmp .lt 6, 3) := by decide +kernel
theorem dX7_see_37 : decode cX7_see 37 = .ok (.bipush (-104), 2) := by decide +kernel
theorem dX7_see_39 : decode cX7_see 39 = .ok (.ireturn, 1) := by decide +kernel
theorem dX7_see_40 : decode cX7_see 40 = .ok (.aload_n 0, 1) := by decide +kernel
theorem dX7_see_41 : decode cX7_see 41 = .ok (.getfield 33, 3) := by decide +kernel
theorem dX7_see_44 : decode cX7_see 44 = .ok (.iload_n 1, 1) := by decide +kernel
theorem dX7_see_45 : decode cX7_see 45 = .ok (.iload_n 2, 1) := by decide +kernel
theorem dX7_see_46 : decode cX7_see 46 = .ok (.invokevirtual 199, 3) := by decide +kernel
theorem dX7_see_49 : decode cX7_see 49 = .ok (.aload_n 0, 1) := by decide +kernel
theorem dX7_see_50 : decode cX7_see 50 = .ok (.getfield 33, 3) := by decide +kernel
theorem dX7_see_53 : decode cX7_see 53 = .ok (.getfield 198, 3) := by decide +kernel
theorem dX7_see_56 : decode cX7_see 56 = .ok (.ireturn, 1) := by decide +kernel
theorem dX7_forget_0 : decode cX7_forget 0 = .ok (.aload_n 0, 1) := by decide +kernel
theorem dX7_forget_1 : decode cX7_forget 1 = .ok (.getfield 33, 3) := by decide +kernel
theorem dX7_forget_4 : decode cX7_forget 4 = .ok (.getfield 198, 3) := by decide +kernel
theorem dX7_forget_7 : decode cX7_forget 7 = .ok (.istore_n 1, 1) := by decide +kernel
theorem dX7_forget_8 : decode cX7_forget 8 = .ok (.aload_n 0, 1) := by decide +kernel
theorem dX7_forget_9 : decode cX7_forget 9 = .ok (.getfield 33, 3) := by decide +kernel
theorem dX7_forget_12 : decode cX7_forget 12 = .ok (.invokevirtual 98, 3) := by decide +kernel
theorem dX7_forget_15 : decode cX7_forget 15 = .ok (.iload_n 1, 1) := by decide +kernel
theorem dX7_forget_16 : decode cX7_forget 16 = .ok (.ireturn, 1) := by decide +kernel
theorem dX7_sorts_0 : decode cX7_sorts 0 = .ok (.iload_n 1, 1) := by decide +kernel
theorem dX7_sorts_1 : decode cX7_sorts 1 = .ok (.ifCond .lt 8, 3) := by decide +kernel
theorem dX7_sorts_4 : decode cX7_sorts 4 = .ok (.iload_n 1, 1) := by decide +kernel
theorem dX7_sorts_5 : decode cX7_sorts 5 = .ok (.iconst 1, 1) := by decide +kernel
theorem dX7_sorts_6 : decode cX7_sorts 6 = .ok (.if_icmp .le 6, 3) := by decide +kernel
theorem dX7_sorts_9 : decode cX7_sorts 9 = .ok (.bipush (-102), 2) := by decide +kernel
theorem dX7_sorts_11 : decode cX7_sorts 11 = .ok (.ireturn, 1) := by decide +kernel
theorem dX7_sorts_12 : decode cX7_sorts 12 = .ok (.iload_n 1, 1) := by decide +kernel
theorem dX7_sorts_13 : decode cX7_sorts 13 = .ok (.ifCond .ne 13, 3) := by decide +kernel
theorem dX7_sorts_16 : decode cX7_sorts 16 = .ok (.aload_n 0, 1) := by decide +kernel
theorem dX7_sorts_17 : decode cX7_sorts 17 = .ok (.getfield 33, 3) := by decide +kernel
theorem dX7_sorts_20 : decode cX7_sorts 20 = .ok (.getfield 202, 3) := by decide +kernel
theorem dX7_sorts_23 : decode cX7_sorts 23 = .ok (.goto 10, 3) := by decide +kernel
theorem dX7_sorts_26 : decode cX7_sorts 26 = .ok (.aload_n 0, 1) := by decide +kernel
theorem dX7_sorts_27 : decode cX7_sorts 27 = .ok (.getfield 33, 3) := by decide +kernel
theorem dX7_sorts_30 : decode cX7_sorts 30 = .ok (.invokevirtual 205, 3) := by decide +kernel
theorem dX7_sorts_33 : decode cX7_sorts 33 = .ok (.ireturn, 1) := by decide +kernel
theorem dX7_drawn_0 : decode cX7_drawn 0 = .ok (.iload_n 1, 1) := by decide +kernel
theorem dX7_drawn_1 : decode cX7_drawn 1 = .ok (.iconst 1, 1) := by decide +kernel
theorem dX7_drawn_2 : decode cX7_drawn 2 = .ok (.if_icmp .lt 22, 3) := by decide +kernel
theorem dX7_drawn_5 : decode cX7_drawn 5 = .ok (.iload_n 1, 1) := by decide +kernel
theorem dX7_drawn_6 : decode cX7_drawn 6 = .ok (.bipush 10, 2) := by decide +kernel
theorem dX7_drawn_8 : decode cX7_drawn 8 = .ok (.if_icmp .gt 16, 3) := by decide +kernel
theorem dX7_drawn_11 : decode cX7_drawn 11 = .ok (.iload_n 2, 1) := by decide +kernel
theorem dX7_drawn_12 : decode cX7_drawn 12 = .ok (.ifCond .lt 12, 3) := by decide +kernel
theorem dX7_drawn_15 : decode cX7_drawn 15 = .ok (.iload_n 3, 1) := by decide +kernel
theorem dX7_drawn_16 : decode cX7_drawn 16 = .ok (.ifCond .lt 8, 3) := by decide +kernel
theorem dX7_drawn_19 : decode cX7_drawn 19 = .ok (.iload_n 3, 1) := by decide +kernel
theorem dX7_drawn_20 : decode cX7_drawn 20 = .ok (.iconst 2, 1) := by decide +kernel
theorem dX7_drawn_21 : decode cX7_drawn 21 = .ok (.if_icmp .le 6, 3) := by decide +kernel
theorem dX7_drawn_24 : decode cX7_drawn 24 = .ok (.bipush (-102), 2) := by decide +kernel
theorem dX7_drawn_26 : decode cX7_drawn 26 = .ok (.ireturn, 1) := by decide +kernel
theorem dX7_drawn_27 : decode cX7_drawn 27 = .ok (.aload_n 0, 1) := by decide +kernel
theorem dX7_drawn_28 : decode cX7_drawn 28 = .ok (.getfield 27, 3) := by decide +kernel
theorem dX7_drawn_31 : decode cX7_drawn 31 = .ok (.invokevirtual 139, 3) := by decide +kernel
theorem dX7_drawn_34 : decode cX7_drawn 34 = .ok (.ifCond .ne 6, 3) := by decide +kernel
theorem dX7_drawn_37 : decode cX7_drawn 37 = .ok (.bipush (-103), 2) := by decide +kernel
theorem dX7_drawn_39 : decode cX7_drawn 39 = .ok (.ireturn, 1) := by decide +kernel
theorem dX7_drawn_40 : decode cX7_drawn 40 = .ok (.aload_n 0, 1) := by decide +kernel
theorem dX7_drawn_41 : decode cX7_drawn 41 = .ok (.getfield 46, 3) := by decide +kernel
theorem dX7_drawn_44 : decode cX7_drawn 44 = .ok (.getfield 23, 3) := by decide +kernel
theorem dX7_drawn_47 : decode cX7_drawn 47 = .ok (.aload_n 0, 1) := by decide +kernel
theorem dX7_drawn_48 : decode cX7_drawn 48 = .ok (.getfield 27, 3) := by decide +kernel
theorem dX7_drawn_51 : decode cX7_drawn 51 = .ok (.getfield 78, 3) := by decide +kernel
theorem dX7_drawn_54 : decode cX7_drawn 54 = .ok (.putfield 78, 3) := by decide +kernel
theorem dX7_drawn_57 : decode cX7_drawn 57 = .ok (.aload_n 0, 1) := by decide +kernel
theorem dX7_drawn_58 : decode cX7_drawn 58 = .ok (.getfield 46, 3) := by decide +kernel
theorem dX7_drawn_61 : decode cX7_drawn 61 = .ok (.getfield 23, 3) := by decide +kernel
theorem dX7_drawn_64 : decode cX7_drawn 64 = .ok (.aload_n 0, 1) := by decide +kernel
theorem dX7_drawn_65 : decode cX7_drawn 65 = .ok (.getfield 27, 3) := by decide +kernel
theorem dX7_drawn_68 : decode cX7_drawn 68 = .ok (.getfield 84, 3) := by decide +kernel
theorem dX7_drawn_71 : decode cX7_drawn 71 = .ok (.putfield 84, 3) := by decide +kernel
theorem dX7_drawn_74 : decode cX7_drawn 74 = .ok (.iload_n 2, 1) := by decide +kernel
theorem dX7_drawn_75 : decode cX7_drawn 75 = .ok (.istore 4, 2) := by decide +kernel
theorem dX7_drawn_77 : decode cX7_drawn 77 = .ok (.iconst 0, 1) := by decide +kernel
theorem dX7_drawn_78 : decode cX7_drawn 78 = .ok (.istore 5, 2) := by decide +kernel
theorem dX7_drawn_80 : decode cX7_drawn 80 = .ok (.iconst 0, 1) := by decide +kernel
theorem dX7_drawn_81 : decode cX7_drawn 81 = .ok (.istore 6, 2) := by decide +kernel
theorem dX7_drawn_83 : decode cX7_drawn 83 = .ok (.iconst 0, 1) := by decide +kernel
theorem dX7_drawn_84 : decode cX7_drawn 84 = .ok (.istore 7, 2) := by decide +kernel
theorem dX7_drawn_86 : decode cX7_drawn 86 = .ok (.iload 7, 2) := by decide +kernel
theorem dX7_drawn_88 : decode cX7_drawn 88 = .ok (.iload_n 1, 1) := by decide +kernel
theorem dX7_drawn_89 : decode cX7_drawn 89 = .ok (.if_icmp .ge 79, 3) := by decide +kernel
theorem dX7_drawn_92 : decode cX7_drawn 92 = .ok (.aload_n 0, 1) := by decide +kernel
theorem dX7_drawn_93 : decode cX7_drawn 93 = .ok (.getfield 46, 3) := by decide +kernel
theorem dX7_drawn_96 : decode cX7_drawn 96 = .ok (.getfield 23, 3) := by decide +kernel
theorem dX7_drawn_99 : decode cX7_drawn 99 = .ok (.getfield 87, 3) := by decide +kernel
theorem dX7_drawn_102 : decode cX7_drawn 102 = .ok (.iload 4, 2) := by decide +kernel
theorem dX7_drawn_104 : decode cX7_drawn 104 = .ok (.invokestatic 208, 3) := by decide +kernel
theorem dX7_drawn_107 : decode cX7_drawn 107 = .ok (.istore 4, 2) := by decide +kernel
theorem dX7_drawn_109 : decode cX7_drawn 109 = .ok (.aload_n 0, 1) := by decide +kernel
theorem dX7_drawn_110 : decode cX7_drawn 110 = .ok (.getfield 46, 3) := by decide +kernel
theorem dX7_drawn_113 : decode cX7_drawn 113 = .ok (.getfield 23, 3) := by decide +kernel
theorem dX7_drawn_116 : decode cX7_drawn 116 = .ok (.getfield 95, 3) := by decide +kernel
theorem dX7_drawn_119 : decode cX7_drawn 119 = .ok (.iload 4, 2) := by decide +kernel
theorem dX7_drawn_121 : decode cX7_drawn 121 = .ok (.invokestatic 208, 3) := by decide +kernel
theorem dX7_drawn_124 : decode cX7_drawn 124 = .ok (.istore 4, 2) := by decide +kernel
theorem dX7_drawn_126 : decode cX7_drawn 126 = .ok (.aload_n 0, 1) := by decide +kernel
theorem dX7_drawn_127 : decode cX7_drawn 127 = .ok (.getfield 46, 3) := by decide +kernel
theorem dX7_drawn_130 : decode cX7_drawn 130 = .ok (.sipush 250, 3) := by decide +kernel
theorem dX7_drawn_133 : decode cX7_drawn 133 = .ok (.invokevirtual 157, 3) := by decide +kernel
theorem dX7_drawn_136 : decode cX7_drawn 136 = .ok (.iload 5, 2) := by decide +kernel
theorem dX7_drawn_138 : decode cX7_drawn 138 = .ok (.aload_n 0, 1) := by decide +kernel
theorem dX7_drawn_139 : decode cX7_drawn 139 = .ok (.getfield 46, 3) := by decide +kernel
theorem dX7_drawn_142 : decode cX7_drawn 142 = .ok (.iconst 0, 1) := by decide +kernel
theorem dX7_drawn_143 : decode cX7_drawn 143 = .ok (.invokevirtual 181, 3) := by decide +kernel
theorem dX7_drawn_146 : decode cX7_drawn 146 = .ok (.iadd, 1) := by decide +kernel
theorem dX7_drawn_147 : decode cX7_drawn 147 = .ok (.istore 5, 2) := by decide +kernel
theorem dX7_drawn_149 : decode cX7_drawn 149 = .ok (.iload 6, 2) := by decide +kernel
theorem dX7_drawn_151 : decode cX7_drawn 151 = .ok (.aload_n 0, 1) := by decide +kernel
theorem dX7_drawn_152 : decode cX7_drawn 152 = .ok (.getfield 46, 3) := by decide +kernel
theorem dX7_drawn_155 : decode cX7_drawn 155 = .ok (.iconst 1, 1) := by decide +kernel
theorem dX7_drawn_156 : decode cX7_drawn 156 = .ok (.invokevirtual 181, 3) := by decide +kernel
theorem dX7_drawn_159 : decode cX7_drawn 159 = .ok (.iadd, 1) := by decide +kernel
theorem dX7_drawn_160 : decode cX7_drawn 160 = .ok (.istore 6, 2) := by decide +kernel
theorem dX7_drawn_162 : decode cX7_drawn 162 = .ok (.iinc 7 1, 3) := by decide +kernel
theorem dX7_drawn_165 : decode cX7_drawn 165 = .ok (.goto (-79), 3) := by decide +kernel
theorem dX7_drawn_168 : decode cX7_drawn 168 = .ok (.iload_n 3, 1) := by decide +kernel
theorem dX7_drawn_169 : decode cX7_drawn 169 = .ok (.ifCond .ne 6, 3) := by decide +kernel
theorem dX7_drawn_172 : decode cX7_drawn 172 = .ok (.iload 5, 2) := by decide +kernel
theorem dX7_drawn_174 : decode cX7_drawn 174 = .ok (.ireturn, 1) := by decide +kernel
theorem dX7_drawn_175 : decode cX7_drawn 175 = .ok (.iload_n 3, 1) := by decide +kernel
theorem dX7_drawn_176 : decode cX7_drawn 176 = .ok (.iconst 1, 1) := by decide +kernel
theorem dX7_drawn_177 : decode cX7_drawn 177 = .ok (.if_icmp .ne 8, 3) := by decide +kernel
theorem dX7_drawn_180 : decode cX7_drawn 180 = .ok (.iload 6, 2) := by decide +kernel
theorem dX7_drawn_182 : decode cX7_drawn 182 = .ok (.goto 5, 3) := by decide +kernel
theorem dX7_drawn_185 : decode cX7_drawn 185 = .ok (.iload 4, 2) := by decide +kernel
theorem dX7_drawn_187 : decode cX7_drawn 187 = .ok (.ireturn, 1) := by decide +kernel
theorem dX7_image_0 : decode cX7_image 0 = .ok (.aload_n 0, 1) := by decide +kernel
theorem dX7_image_1 : decode cX7_image 1 = .ok (.getfield 27, 3) := by decide +kernel
theorem dX7_image_4 : decode cX7_image 4 = .ok (.invokevirtual 139, 3) := by decide +kernel
theorem dX7_image_7 : decode cX7_image 7 = .ok (.ifCond .ne 6, 3) := by decide +kernel
theorem dX7_image_10 : decode cX7_image 10 = .ok (.bipush (-103), 2) := by decide +kernel
theorem dX7_image_12 : decode cX7_image 12 = .ok (.ireturn, 1) := by decide +kernel
theorem dX7_image_13 : decode cX7_image 13 = .ok (.aload_n 0, 1) := by decide +kernel
theorem dX7_image_14 : decode cX7_image 14 = .ok (.getfield 40, 3) := by decide +kernel
theorem dX7_image_17 : decode cX7_image 17 = .ok (.aload_n 0, 1) := by decide +kernel
theorem dX7_image_18 : decode cX7_image 18 = .ok (.getfield 27, 3) := by decide +kernel
theorem dX7_image_21 : decode cX7_image 21 = .ok (.invokevirtual 212, 3) := by decide +kernel
theorem dX7_image_24 : decode cX7_image 24 = .ok (.aload_n 0, 1) := by decide +kernel
theorem dX7_image_25 : decode cX7_image 25 = .ok (.getfield 43, 3) := by decide +kernel
theorem dX7_image_28 : decode cX7_image 28 = .ok (.aload_n 0, 1) := by decide +kernel
theorem dX7_image_29 : decode cX7_image 29 = .ok (.getfield 33, 3) := by decide +kernel
theorem dX7_image_32 : decode cX7_image 32 = .ok (.invokevirtual 216, 3) := by decide +kernel
theorem dX7_image_35 : decode cX7_image 35 = .ok (.aload_n 0, 1) := by decide +kernel
theorem dX7_image_36 : decode cX7_image 36 = .ok (.iconst 1, 1) := by decide +kernel
theorem dX7_image_37 : decode cX7_image 37 = .ok (.putfield 101, 3) := by decide +kernel
theorem dX7_image_40 : decode cX7_image 40 = .ok (.aload_n 0, 1) := by decide +kernel
theorem dX7_image_41 : decode cX7_image 41 = .ok (.getfield 27, 3) := by decide +kernel
theorem dX7_image_44 : decode cX7_image 44 = .ok (.invokevirtual 111, 3) := by decide +kernel
theorem dX7_image_47 : decode cX7_image 47 = .ok (.ireturn, 1) := by decide +kernel
theorem dX7_restore_0 : decode cX7_restore 0 = .ok (.aload_n 0, 1) := by decide +kernel
theorem dX7_restore_1 : decode cX7_restore 1 = .ok (.getfield 101, 3) := by decide +kernel
theorem dX7_restore_4 : decode cX7_restore 4 = .ok (.ifCond .ne 6, 3) := by decide +kernel
theorem dX7_restore_7 : decode cX7_restore 7 = .ok (.bipush (-103), 2) := by decide +kernel
theorem dX7_restore_9 : decode cX7_restore 9 = .ok (.ireturn, 1) := by decide +kernel
theorem dX7_restore_10 : decode cX7_restore 10 = .ok (.aload_n 0, 1) := by decide +kernel
theorem dX7_restore_11 : decode cX7_restore 11 = .ok (.getfield 27, 3) := by decide +kernel
theorem dX7_restore_14 : decode cX7_restore 14 = .ok (.aload_n 0, 1) := by decide +kernel
theorem dX7_restore_15 : decode cX7_restore 15 = .ok (.getfield 40, 3) := by decide +kernel
theorem dX7_restore_18 : decode cX7_restore 18 = .ok (.invokevirtual 212, 3) := by decide +kernel
theorem dX7_restore_21 : decode cX7_restore 21 = .ok (.aload_n 0, 1) := by decide +kernel
theorem dX7_restore_22 : decode cX7_restore 22 = .ok (.getfield 33, 3) := by decide +kernel
theorem dX7_restore_25 : decode cX7_restore 25 = .ok (.aload_n 0, 1) := by decide +kernel
theorem dX7_restore_26 : decode cX7_restore 26 = .ok (.getfield 43, 3) := by decide +kernel
theorem dX7_restore_29 : decode cX7_restore 29 = .ok (.invokevirtual 216, 3) := by decide +kernel
theorem dX7_restore_32 : decode cX7_restore 32 = .ok (.aload_n 0, 1) := by decide +kernel
theorem dX7_restore_33 : decode cX7_restore 33 = .ok (.getfield 27, 3) := by decide +kernel
theorem dX7_restore_36 : decode cX7_restore 36 = .ok (.invokevirtual 111, 3) := by decide +kernel
theorem dX7_restore_39 : decode cX7_restore 39 = .ok (.ireturn, 1) := by decide +kernel
theorem dX7_count_0 : decode cX7_count 0 = .ok (.iload_n 1, 1) := by decide +kernel
theorem dX7_count_1 : decode cX7_count 1 = .ok (.tableswitch 152 0 9 #[55, 66, 77, 85, 93, 118, 126, 131, 139, 147], 55) := by decide +kernel
theorem dX7_count_56 : decode cX7_count 56 = .ok (.aload_n 0, 1) := by decide +kernel
theorem dX7_count_57 : decode cX7_count 57 = .ok (.getfield 27, 3) := by decide +kernel
theorem dX7_count_60 : decode cX7_count 60 = .ok (.getfield 87, 3) := by decide +kernel
theorem dX7_count_63 : decode cX7_count 63 = .ok (.getfield 148, 3) := by decide +kernel
theorem dX7_count_66 : decode cX7_count 66 = .ok (.ireturn, 1) := by decide +kernel
theorem dX7_count_67 : decode cX7_count 67 = .ok (.aload_n 0, 1) := by decide +kernel
theorem dX7_count_68 : decode cX7_count 68 = .ok (.getfield 27, 3) := by decide +kernel
theorem dX7_count_71 : decode cX7_count 71 = .ok (.getfield 95, 3) := by decide +kernel
theorem dX7_count_74 : decode cX7_count 74 = .ok (.getfield 148, 3) := by decide +kernel
theorem dX7_count_77 : decode cX7_count 77 = .ok (.ireturn, 1) := by decide +kernel
theorem dX7_count_78 : decode cX7_count 78 = .ok (.aload_n 0, 1) := by decide +kernel
theorem dX7_count_79 : decode cX7_count 79 = .ok (.getfield 27, 3) := by decide +kernel
theorem dX7_count_82 : decode cX7_count 82 = .ok (.getfield 78, 3) := by decide +kernel
theorem dX7_count_85 : decode cX7_count 85 = .ok (.ireturn, 1) := by decide +kernel
theorem dX7_count_86 : decode cX7_count 86 = .ok (.aload_n 0, 1) := by decide +kernel
theorem dX7_count_87 : decode cX7_count 87 = .ok (.getfield 27, 3) := by decide +kernel
theorem dX7_count_90 : decode cX7_count 90 = .ok (.getfield 84, 3) := by decide +kernel
theorem dX7_count_93 : decode cX7_count 93 = .ok (.ireturn, 1) := by decide +kernel
theorem dX7_count_94 : decode cX7_count 94 = .ok (.aload_n 0, 1) := by decide +kernel
theorem dX7_count_95 : decode cX7_count 95 = .ok (.getfield 27, 3) := by decide +kernel
theorem dX7_count_98 : decode cX7_count 98 = .ok (.getfield 87, 3) := by decide +kernel
theorem dX7_count_101 : decode cX7_count 101 = .ok (.invokevirtual 219, 3) := by decide +kernel
theorem dX7_count_104 : decode cX7_count 104 = .ok (.aload_n 0, 1) := by decide +kernel
theorem dX7_count_105 : decode cX7_count 105 = .ok (.getfield 27, 3) := by decide +kernel
theorem dX7_count_108 : decode cX7_count 108 = .ok (.getfield 95, 3) := by decide +kernel
theorem dX7_count_111 : decode cX7_count 111 = .ok (.invokevirtual 219, 3) := by decide +kernel
theorem dX7_count_114 : decode cX7_count 114 = .ok (.ior, 1) := by decide +kernel
theorem dX7_count_115 : decode cX7_count 115 = .ok (.invokestatic 130, 3) := by decide +kernel
theorem dX7_count_118 : decode cX7_count 118 = .ok (.ireturn, 1) := by decide +kernel
theorem dX7_count_119 : decode cX7_count 119 = .ok (.aload_n 0, 1) := by decide +kernel
theorem dX7_count_120 : decode cX7_count 120 = .ok (.getfield 27, 3) := by decide +kernel
theorem dX7_count_123 : decode cX7_count 123 = .ok (.invokevirtual 222, 3) := by decide +kernel
theorem dX7_count_126 : decode cX7_count 126 = .ok (.ireturn, 1) := by decide +kernel
theorem dX7_count_127 : decode cX7_count 127 = .ok (.aload_n 0, 1) := by decide +kernel
theorem dX7_count_128 : decode cX7_count 128 = .ok (.getfield 105, 3) := by decide +kernel
theorem dX7_count_131 : decode cX7_count 131 = .ok (.ireturn, 1) := by decide +kernel
theorem dX7_count_132 : decode cX7_count 132 = .ok (.aload_n 0, 1) := by decide +kernel
theorem dX7_count_133 : decode cX7_count 133 = .ok (.getfield 33, 3) := by decide +kernel
theorem dX7_count_136 : decode cX7_count 136 = .ok (.getfield 198, 3) := by decide +kernel
theorem dX7_count_139 : decode cX7_count 139 = .ok (.ireturn, 1) := by decide +kernel
theorem dX7_count_140 : decode cX7_count 140 = .ok (.aload_n 0, 1) := by decide +kernel
theorem dX7_count_141 : decode cX7_count 141 = .ok (.getfield 10, 3) := by decide +kernel
theorem dX7_count_144 : decode cX7_count 144 = .ok (.getfield 57, 3) := by decide +kernel
theorem dX7_count_147 : decode cX7_count 147 = .ok (.ireturn, 1) := by decide +kernel
theorem dX7_count_148 : decode cX7_count 148 = .ok (.aload_n 0, 1) := by decide +kernel
theorem dX7_count_149 : decode cX7_count 149 = .ok (.getfield 108, 3) := by decide +kernel
theorem dX7_count_152 : decode cX7_count 152 = .ok (.ireturn, 1) := by decide +kernel
theorem dX7_count_153 : decode cX7_count 153 = .ok (.bipush (-102), 2) := by decide +kernel
theorem dX7_count_155 : decode cX7_count 155 = .ok (.ireturn, 1) := by decide +kernel
theorem dX7_digest_0 : decode cX7_digest 0 = .ok (.ldc2_w 225, 3) := by decide +kernel
theorem dX7_digest_3 : decode cX7_digest 3 = .ok (.lstore_n 1, 1) := by decide +kernel
theorem dX7_digest_4 : decode cX7_digest 4 = .ok (.aload_n 0, 1) := by decide +kernel
theorem dX7_digest_5 : decode cX7_digest 5 = .ok (.lload_n 1, 1) := by decide +kernel
theorem dX7_digest_6 : decode cX7_digest 6 = .ok (.iconst 0, 1) := by decide +kernel
theorem dX7_digest_7 : decode cX7_digest 7 = .ok (.invokevirtual 227, 3) := by decide +kernel
theorem dX7_digest_10 : decode cX7_digest 10 = .ok (.lstore_n 1, 1) := by decide +kernel
theorem dX7_digest_11 : decode cX7_digest 11 = .ok (.aload_n 0, 1) := by decide +kernel
theorem dX7_digest_12 : decode cX7_digest 12 = .ok (.lload_n 1, 1) := by decide +kernel
theorem dX7_digest_13 : decode cX7_digest 13 = .ok (.iconst 1, 1) := by decide +kernel
theorem dX7_digest_14 : decode cX7_digest 14 = .ok (.invokevirtual 227, 3) := by decide +kernel
theorem dX7_digest_17 : decode cX7_digest 17 = .ok (.lstore_n 1, 1) := by decide +kernel
theorem dX7_digest_18 : decode cX7_digest 18 = .ok (.iconst 0, 1) := by decide +kernel
theorem dX7_digest_19 : decode cX7_digest 19 = .ok (.istore_n 3, 1) := by decide +kernel
theorem dX7_digest_20 : decode cX7_digest 20 = .ok (.iload_n 3, 1) := by decide +kernel
theorem dX7_digest_21 : decode cX7_digest 21 = .ok (.bipush 10, 2) := by decide +kernel
theorem dX7_digest_23 : decode cX7_digest 23 = .ok (.if_icmp .ge 20, 3) := by decide +kernel
theorem dX7_digest_26 : decode cX7_digest 26 = .ok (.lload_n 1, 1) := by decide +kernel
theorem dX7_digest_27 : decode cX7_digest 27 = .ok (.aload_n 0, 1) := by decide +kernel
theorem dX7_digest_28 : decode cX7_digest 28 = .ok (.iload_n 3, 1) := by decide +kernel
theorem dX7_digest_29 : decode cX7_digest 29 = .ok (.invokevirtual 231, 3) := by decide +kernel
theorem dX7_digest_32 : decode cX7_digest 32 = .ok (.i2l, 1) := by decide +kernel
theorem dX7_digest_33 : decode cX7_digest 33 = .ok (.invokestatic 234, 3) := by decide +kernel
theorem dX7_digest_36 : decode cX7_digest 36 = .ok (.lstore_n 1, 1) := by decide +kernel
theorem dX7_digest_37 : decode cX7_digest 37 = .ok (.iinc 3 1, 3) := by decide +kernel
theorem dX7_digest_40 : decode cX7_digest 40 = .ok (.goto (-20), 3) := by decide +kernel
theorem dX7_digest_43 : decode cX7_digest 43 = .ok (.iconst 0, 1) := by decide +kernel
theorem dX7_digest_44 : decode cX7_digest 44 = .ok (.istore_n 3, 1) := by decide +kernel
theorem dX7_digest_45 : decode cX7_digest 45 = .ok (.iload_n 3, 1) := by decide +kernel
theorem dX7_digest_46 : decode cX7_digest 46 = .ok (.aload_n 0, 1) := by decide +kernel
theorem dX7_digest_47 : decode cX7_digest 47 = .ok (.getfield 19, 3) := by decide +kernel
theorem dX7_digest_50 : decode cX7_digest 50 = .ok (.getfield 160, 3) := by decide +kernel
theorem dX7_digest_53 : decode cX7_digest 53 = .ok (.getfield 169, 3) := by decide +kernel
theorem dX7_digest_56 : decode cX7_digest 56 = .ok (.if_icmp .ge 31, 3) := by decide +kernel
theorem dX7_digest_59 : decode cX7_digest 59 = .ok (.lload_n 1, 1) := by decide +kernel
theorem dX7_digest_60 : decode cX7_digest 60 = .ok (.aload_n 0, 1) := by decide +kernel
theorem dX7_digest_61 : decode cX7_digest 61 = .ok (.iload_n 3, 1) := by decide +kernel
theorem dX7_digest_62 : decode cX7_digest 62 = .ok (.iconst 0, 1) := by decide +kernel
theorem dX7_digest_63 : decode cX7_digest 63 = .ok (.invokevirtual 238, 3) := by decide +kernel
theorem dX7_digest_66 : decode cX7_digest 66 = .ok (.i2l, 1) := by decide +kernel
theorem dX7_digest_67 : decode cX7_digest 67 = .ok (.invokestatic 234, 3) := by decide +kernel
theorem dX7_digest_70 : decode cX7_digest 70 = .ok (.aload_n 0, 1) := by decide +kernel
theorem dX7_digest_71 : decode cX7_digest 71 = .ok (.iload_n 3, 1) := by decide +kernel
theorem dX7_digest_72 : decode cX7_digest 72 = .ok (.iconst 1, 1) := by decide +kernel
theorem dX7_digest_73 : decode cX7_digest 73 = .ok (.invokevirtual 238, 3) := by decide +kernel
theorem dX7_digest_76 : decode cX7_digest 76 = .ok (.i2l, 1) := by decide +kernel
theorem dX7_digest_77 : decode cX7_digest 77 = .ok (.invokestatic 234, 3) := by decide +kernel
theorem dX7_digest_80 : decode cX7_digest 80 = .ok (.lstore_n 1, 1) := by decide +kernel
theorem dX7_digest_81 : decode cX7_digest 81 = .ok (.iinc 3 1, 3) := by decide +kernel
theorem dX7_digest_84 : decode cX7_digest 84 = .ok (.goto (-39), 3) := by decide +kernel
theorem dX7_digest_87 : decode cX7_digest 87 = .ok (.iconst 0, 1) := by decide +kernel
theorem dX7_digest_88 : decode cX7_digest 88 = .ok (.istore_n 3, 1) := by decide +kernel
theorem dX7_digest_89 : decode cX7_digest 89 = .ok (.iload_n 3, 1) := by decide +kernel
theorem dX7_digest_90 : decode cX7_digest 90 = .ok (.aload_n 0, 1) := by decide +kernel
theorem dX7_digest_91 : decode cX7_digest 91 = .ok (.getfield 19, 3) := by decide +kernel
theorem dX7_digest_94 : decode cX7_digest 94 = .ok (.getfield 173, 3) := by decide +kernel
theorem dX7_digest_97 : decode cX7_digest 97 = .ok (.getfield 177, 3) := by decide +kernel
theorem dX7_digest_100 : decode cX7_digest 100 = .ok (.if_icmp .ge 41, 3) := by decide +kernel
theorem dX7_digest_103 : decode cX7_digest 103 = .ok (.lload_n 1, 1) := by decide +kernel
theorem dX7_digest_104 : decode cX7_digest 104 = .ok (.aload_n 0, 1) := by decide +kernel
theorem dX7_digest_105 : decode cX7_digest 105 = .ok (.iload_n 3, 1) := by decide +kernel
theorem dX7_digest_106 : decode cX7_digest 106 = .ok (.iconst 0, 1) := by decide +kernel
theorem dX7_digest_107 : decode cX7_digest 107 = .ok (.invokevirtual 241, 3) := by decide +kernel
theorem dX7_digest_110 : decode cX7_digest 110 = .ok (.i2l, 1) := by decide +kernel
theorem dX7_digest_111 : decode cX7_digest 111 = .ok (.invokestatic 234, 3) := by decide +kernel
theorem dX7_digest_114 : decode cX7_digest 114 = .ok (.aload_n 0, 1) := by decide +kernel
theorem dX7_digest_115 : decode cX7_digest 115 = .ok (.iload_n 3, 1) := by decide +kernel
theorem dX7_digest_116 : decode cX7_digest 116 = .ok (.iconst 1, 1) := by decide +kernel
theorem dX7_digest_117 : decode cX7_digest 117 = .ok (.invokevirtual 241, 3) := by decide +kernel
theorem dX7_digest_120 : decode cX7_digest 120 = .ok (.i2l, 1) := by decide +kernel
theorem dX7_digest_121 : decode cX7_digest 121 = .ok (.invokestatic 234, 3) := by decide +kernel
theorem dX7_digest_124 : decode cX7_digest 124 = .ok (.aload_n 0, 1) := by decide +kernel
theorem dX7_digest_125 : decode cX7_digest 125 = .ok (.iload_n 3, 1) := by decide +kernel
theorem dX7_digest_126 : decode cX7_digest 126 = .ok (.iconst 2, 1) := by decide +kernel
theorem dX7_digest_127 : decode cX7_digest 127 = .ok (.invokevirtual 241, 3) := by decide +kernel
theorem dX7_digest_130 : decode cX7_digest 130 = .ok (.i2l, 1) := by decide +kernel
theorem dX7_digest_131 : decode cX7_digest 131 = .ok (.invokestatic 234, 3) := by decide +kernel
theorem dX7_digest_134 : decode cX7_digest 134 = .ok (.lstore_n 1, 1) := by decide +kernel
theorem dX7_digest_135 : decode cX7_digest 135 = .ok (.iinc 3 1, 3) := by decide +kernel
theorem dX7_digest_138 : decode cX7_digest 138 = .ok (.goto (-49), 3) := by decide +kernel
theorem dX7_digest_141 : decode cX7_digest 141 = .ok (.aload_n 0, 1) := by decide +kernel
theorem dX7_digest_142 : decode cX7_digest 142 = .ok (.getfield 27, 3) := by decide +kernel
theorem dX7_digest_145 : decode cX7_digest 145 = .ok (.invokevirtual 139, 3) := by decide +kernel
theorem dX7_digest_148 : decode cX7_digest 148 = .ok (.ifCond .eq 13, 3) := by decide +kernel
theorem dX7_digest_151 : decode cX7_digest 151 = .ok (.lload_n 1, 1) := by decide +kernel
theorem dX7_digest_152 : decode cX7_digest 152 = .ok (.aload_n 0, 1) := by decide +kernel
theorem dX7_digest_153 : decode cX7_digest 153 = .ok (.invokevirtual 243, 3) := by decide +kernel
theorem dX7_digest_156 : decode cX7_digest 156 = .ok (.i2l, 1) := by decide +kernel
theorem dX7_digest_157 : decode cX7_digest 157 = .ok (.invokestatic 234, 3) := by decide +kernel
theorem dX7_digest_160 : decode cX7_digest 160 = .ok (.lstore_n 1, 1) := by decide +kernel
theorem dX7_digest_161 : decode cX7_digest 161 = .ok (.lload_n 1, 1) := by decide +kernel
theorem dX7_digest_162 : decode cX7_digest 162 = .ok (.aload_n 0, 1) := by decide +kernel
theorem dX7_digest_163 : decode cX7_digest 163 = .ok (.iconst 0, 1) := by decide +kernel
theorem dX7_digest_164 : decode cX7_digest 164 = .ok (.invokevirtual 246, 3) := by decide +kernel
theorem dX7_digest_167 : decode cX7_digest 167 = .ok (.i2l, 1) := by decide +kernel
theorem dX7_digest_168 : decode cX7_digest 168 = .ok (.invokestatic 234, 3) := by decide +kernel
theorem dX7_digest_171 : decode cX7_digest 171 = .ok (.aload_n 0, 1) := by decide +kernel
theorem dX7_digest_172 : decode cX7_digest 172 = .ok (.iconst 1, 1) := by decide +kernel
theorem dX7_digest_173 : decode cX7_digest 173 = .ok (.invokevirtual 246, 3) := by decide +kernel
theorem dX7_digest_176 : decode cX7_digest 176 = .ok (.i2l, 1) := by decide +kernel
theorem dX7_digest_177 : decode cX7_digest 177 = .ok (.invokestatic 234, 3) := by decide +kernel
theorem dX7_digest_180 : decode cX7_digest 180 = .ok (.lstore_n 1, 1) := by decide +kernel
theorem dX7_digest_181 : decode cX7_digest 181 = .ok (.iconst 0, 1) := by decide +kernel
theorem dX7_digest_182 : decode cX7_digest 182 = .ok (.istore_n 3, 1) := by decide +kernel
theorem dX7_digest_183 : decode cX7_digest 183 = .ok (.iload_n 3, 1) := by decide +kernel
theorem dX7_digest_184 : decode cX7_digest 184 = .ok (.aload_n 0, 1) := by decide +kernel
theorem dX7_digest_185 : decode cX7_digest 185 = .ok (.getfield 10, 3) := by decide +kernel
theorem dX7_digest_188 : decode cX7_digest 188 = .ok (.getfield 57, 3) := by decide +kernel
theorem dX7_digest_191 : decode cX7_digest 191 = .ok (.if_icmp .ge 23, 3) := by decide +kernel
theorem dX7_digest_194 : decode cX7_digest 194 = .ok (.lload_n 1, 1) := by decide +kernel
theorem dX7_digest_195 : decode cX7_digest 195 = .ok (.aload_n 0, 1) := by decide +kernel
theorem dX7_digest_196 : decode cX7_digest 196 = .ok (.getfield 10, 3) := by decide +kernel
theorem dX7_digest_199 : decode cX7_digest 199 = .ok (.iload_n 3, 1) := by decide +kernel
theorem dX7_digest_200 : decode cX7_digest 200 = .ok (.invokevirtual 74, 3) := by decide +kernel
theorem dX7_digest_203 : decode cX7_digest 203 = .ok (.i2l, 1) := by decide +kernel
theorem dX7_digest_204 : decode cX7_digest 204 = .ok (.invokestatic 234, 3) := by decide +kernel
theorem dX7_digest_207 : decode cX7_digest 207 = .ok (.lstore_n 1, 1) := by decide +kernel
theorem dX7_digest_208 : decode cX7_digest 208 = .ok (.iinc 3 1, 3) := by decide +kernel
theorem dX7_digest_211 : decode cX7_digest 211 = .ok (.goto (-28), 3) := by decide +kernel
theorem dX7_digest_214 : decode cX7_digest 214 = .ok (.iconst 0, 1) := by decide +kernel
theorem dX7_digest_215 : decode cX7_digest 215 = .ok (.istore_n 3, 1) := by decide +kernel
theorem dX7_digest_216 : decode cX7_digest 216 = .ok (.iload_n 3, 1) := by decide +kernel
theorem dX7_digest_217 : decode cX7_digest 217 = .ok (.bipush 9, 2) := by decide +kernel
theorem dX7_digest_219 : decode cX7_digest 219 = .ok (.if_icmp .gt 20, 3) := by decide +kernel
theorem dX7_digest_222 : decode cX7_digest 222 = .ok (.lload_n 1, 1) := by decide +kernel
theorem dX7_digest_223 : decode cX7_digest 223 = .ok (.aload_n 0, 1) := by decide +kernel
theorem dX7_digest_224 : decode cX7_digest 224 = .ok (.iload_n 3, 1) := by decide +kernel
theorem dX7_digest_225 : decode cX7_digest 225 = .ok (.invokevirtual 249, 3) := by decide +kernel
theorem dX7_digest_228 : decode cX7_digest 228 = .ok (.i2l, 1) := by decide +kernel
theorem dX7_digest_229 : decode cX7_digest 229 = .ok (.invokestatic 234, 3) := by decide +kernel
theorem dX7_digest_232 : decode cX7_digest 232 = .ok (.lstore_n 1, 1) := by decide +kernel
theorem dX7_digest_233 : decode cX7_digest 233 = .ok (.iinc 3 1, 3) := by decide +kernel
theorem dX7_digest_236 : decode cX7_digest 236 = .ok (.goto (-20), 3) := by decide +kernel
theorem dX7_digest_239 : decode cX7_digest 239 = .ok (.lload_n 1, 1) := by decide +kernel
theorem dX7_digest_240 : decode cX7_digest 240 = .ok (.lreturn, 1) := by decide +kernel
theorem dX7_mixRows_0 : decode cX7_mixRows 0 = .ok (.lload_n 1, 1) := by decide +kernel
theorem dX7_mixRows_1 : decode cX7_mixRows 1 = .ok (.lstore 4, 2) := by decide +kernel
theorem dX7_mixRows_3 : decode cX7_mixRows 3 = .ok (.iconst 0, 1) := by decide +kernel
theorem dX7_mixRows_4 : decode cX7_mixRows 4 = .ok (.istore 6, 2) := by decide +kernel
theorem dX7_mixRows_6 : decode cX7_mixRows 6 = .ok (.iload 6, 2) := by decide +kernel
theorem dX7_mixRows_8 : decode cX7_mixRows 8 = .ok (.aload_n 0, 1) := by decide +kernel
theorem dX7_mixRows_9 : decode cX7_mixRows 9 = .ok (.getfield 27, 3) := by decide +kernel
theorem dX7_mixRows_12 : decode cX7_mixRows 12 = .ok (.iload_n 3, 1) := by decide +kernel
theorem dX7_mixRows_13 : decode cX7_mixRows 13 = .ok (.invokevirtual 117, 3) := by decide +kernel
theorem dX7_mixRows_16 : decode cX7_mixRows 16 = .ok (.getfield 148, 3) := by decide +kernel
theorem dX7_mixRows_19 : decode cX7_mixRows 19 = .ok (.if_icmp .ge 37, 3) := by decide +kernel
theorem dX7_mixRows_22 : decode cX7_mixRows 22 = .ok (.lload 4, 2) := by decide +kernel
theorem dX7_mixRows_24 : decode cX7_mixRows 24 = .ok (.aload_n 0, 1) := by decide +kernel
theorem dX7_mixRows_25 : decode cX7_mixRows 25 = .ok (.iload_n 3, 1) := by decide +kernel
theorem dX7_mixRows_26 : decode cX7_mixRows 26 = .ok (.iload 6, 2) := by decide +kernel
theorem dX7_mixRows_28 : decode cX7_mixRows 28 = .ok (.iconst 0, 1) := by decide +kernel
theorem dX7_mixRows_29 : decode cX7_mixRows 29 = .ok (.invokevirtual 252, 3) := by decide +kernel
theorem dX7_mixRows_32 : decode cX7_mixRows 32 = .ok (.i2l, 1) := by decide +kernel
theorem dX7_mixRows_33 : decode cX7_mixRows 33 = .ok (.invokestatic 234, 3) := by decide +kernel
theorem dX7_mixRows_36 : decode cX7_mixRows 36 = .ok (.aload_n 0, 1) := by decide +kernel
theorem dX7_mixRows_37 : decode cX7_mixRows 37 = .ok (.iload_n 3, 1) := by decide +kernel
theorem dX7_mixRows_38 : decode cX7_mixRows 38 = .ok (.iload 6, 2) := by decide +kernel
theorem dX7_mixRows_40 : decode cX7_mixRows 40 = .ok (.iconst 1, 1) := by decide +kernel
theorem dX7_mixRows_41 : decode cX7_mixRows 41 = .ok (.invokevirtual 252, 3) := by decide +kernel
theorem dX7_mixRows_44 : decode cX7_mixRows 44 = .ok (.i2l, 1) := by decide +kernel
theorem dX7_mixRows_45 : decode cX7_mixRows 45 = .ok (.invokestatic 234, 3) := by decide +kernel
theorem dX7_mixRows_48 : decode cX7_mixRows 48 = .ok (.lstore 4, 2) := by decide +kernel
theorem dX7_mixRows_50 : decode cX7_mixRows 50 = .ok (.iinc 6 1, 3) := by decide +kernel
theorem dX7_mixRows_53 : decode cX7_mixRows 53 = .ok (.goto (-47), 3) := by decide +kernel
theorem dX7_mixRows_56 : decode cX7_mixRows 56 = .ok (.lload 4, 2) := by decide +kernel
theorem dX7_mixRows_58 : decode cX7_mixRows 58 = .ok (.lreturn, 1) := by decide +kernel
theorem dX7_mix_0 : decode cX7_mix 0 = .ok (.ldc2_w 256, 3) := by decide +kernel
theorem dX7_mix_3 : decode cX7_mix 3 = .ok (.lload_n 0, 1) := by decide +kernel
theorem dX7_mix_4 : decode cX7_mix 4 = .ok (.lmul, 1) := by decide +kernel
theorem dX7_mix_5 : decode cX7_mix 5 = .ok (.lload_n 2, 1) := by decide +kernel
theorem dX7_mix_6 : decode cX7_mix 6 = .ok (.ladd, 1) := by decide +kernel
theorem dX7_mix_7 : decode cX7_mix 7 = .ok (.lreturn, 1) := by decide +kernel
theorem dX7_isSide_0 : decode cX7_isSide 0 = .ok (.iload_n 0, 1) := by decide +kernel
theorem dX7_isSide_1 : decode cX7_isSide 1 = .ok (.ifCond .eq 8, 3) := by decide +kernel
theorem dX7_isSide_4 : decode cX7_isSide 4 = .ok (.iload_n 0, 1) := by decide +kernel
theorem dX7_isSide_5 : decode cX7_isSide 5 = .ok (.iconst 1, 1) := by decide +kernel
theorem dX7_isSide_6 : decode cX7_isSide 6 = .ok (.if_icmp .ne 7, 3) := by decide +kernel
theorem dX7_isSide_9 : decode cX7_isSide 9 = .ok (.iconst 1, 1) := by decide +kernel
theorem dX7_isSide_10 : decode cX7_isSide 10 = .ok (.goto 4, 3) := by decide +kernel
theorem dX7_isSide_13 : decode cX7_isSide 13 = .ok (.iconst 0, 1) := by decide +kernel
theorem dX7_isSide_14 : decode cX7_isSide 14 = .ok (.ireturn, 1) := by decide +kernel
theorem dX7_otherSide_0 : decode cX7_otherSide 0 = .ok (.iload_n 0, 1) := by decide +kernel
theorem dX7_otherSide_1 : decode cX7_otherSide 1 = .ok (.ifCond .ne 7, 3) := by decide +kernel
theorem dX7_otherSide_4 : decode cX7_otherSide 4 = .ok (.iconst 1, 1) := by decide +kernel
theorem dX7_otherSide_5 : decode cX7_otherSide 5 = .ok (.goto 4, 3) := by decide +kernel
theorem dX7_otherSide_8 : decode cX7_otherSide 8 = .ok (.iconst 0, 1) := by decide +kernel
theorem dX7_otherSide_9 : decode cX7_otherSide 9 = .ok (.ireturn, 1) := by decide +kernel
theorem dX7_isKind_0 : decode cX7_isKind 0 = .ok (.iload_n 0, 1) := by decide +kernel
theorem dX7_isKind_1 : decode cX7_isKind 1 = .ok (.ifCond .lt 12, 3) := by decide +kernel
theorem dX7_isKind_4 : decode cX7_isKind 4 = .ok (.iload_n 0, 1) := by decide +kernel
theorem dX7_isKind_5 : decode cX7_isKind 5 = .ok (.iconst 5, 1) := by decide +kernel
theorem dX7_isKind_6 : decode cX7_isKind 6 = .ok (.if_icmp .ge 7, 3) := by decide +kernel
theorem dX7_isKind_9 : decode cX7_isKind 9 = .ok (.iconst 1, 1) := by decide +kernel
theorem dX7_isKind_10 : decode cX7_isKind 10 = .ok (.goto 4, 3) := by decide +kernel
theorem dX7_isKind_13 : decode cX7_isKind 13 = .ok (.iconst 0, 1) := by decide +kernel
theorem dX7_isKind_14 : decode cX7_isKind 14 = .ok (.ireturn, 1) := by decide +kernel
theorem dX7_isKeyOrNone_0 : decode cX7_isKeyOrNone 0 = .ok (.iload_n 0, 1) := by decide +kernel
theorem dX7_isKeyOrNone_1 : decode cX7_isKeyOrNone 1 = .ok (.iconst (-1), 1) := by decide +kernel
theorem dX7_isKeyOrNone_2 : decode cX7_isKeyOrNone 2 = .ok (.if_icmp .lt 13, 3) := by decide +kernel
theorem dX7_isKeyOrNone_5 : decode cX7_isKeyOrNone 5 = .ok (.iload_n 0, 1) := by decide +kernel
theorem dX7_isKeyOrNone_6 : decode cX7_isKeyOrNone 6 = .ok (.bipush 15, 2) := by decide +kernel
theorem dX7_isKeyOrNone_8 : decode cX7_isKeyOrNone 8 = .ok (.if_icmp .gt 7, 3) := by decide +kernel
theorem dX7_isKeyOrNone_11 : decode cX7_isKeyOrNone 11 = .ok (.iconst 1, 1) := by decide +kernel
theorem dX7_isKeyOrNone_12 : decode cX7_isKeyOrNone 12 = .ok (.goto 4, 3) := by decide +kernel
theorem dX7_isKeyOrNone_15 : decode cX7_isKeyOrNone 15 = .ok (.iconst 0, 1) := by decide +kernel
theorem dX7_isKeyOrNone_16 : decode cX7_isKeyOrNone 16 = .ok (.ireturn, 1) := by decide +kernel
theorem dX7_comesOutBy_0 : decode cX7_comesOutBy 0 = .ok (.iload_n 0, 1) := by decide +kernel
theorem dX7_comesOutBy_1 : decode cX7_comesOutBy 1 = .ok (.ifCond .lt 28, 3) := by decide +kernel
theorem dX7_comesOutBy_4 : decode cX7_comesOutBy 4 = .ok (.iload_n 0, 1) := by decide +kernel
theorem dX7_comesOutBy_5 : decode cX7_comesOutBy 5 = .ok (.getstatic 258, 3) := by decide +kernel
theorem dX7_comesOutBy_8 : decode cX7_comesOutBy 8 = .ok (.arraylength, 1) := by decide +kernel
theorem dX7_comesOutBy_9 : decode cX7_comesOutBy 9 = .ok (.if_icmp .ge 20, 3) := by decide +kernel
theorem dX7_comesOutBy_12 : decode cX7_comesOutBy 12 = .ok (.getstatic 258, 3) := by decide +kernel
theorem dX7_comesOutBy_15 : decode cX7_comesOutBy 15 = .ok (.iload_n 0, 1) := by decide +kernel
theorem dX7_comesOutBy_16 : decode cX7_comesOutBy 16 = .ok (.iaload, 1) := by decide +kernel
theorem dX7_comesOutBy_17 : decode cX7_comesOutBy 17 = .ok (.iload_n 1, 1) := by decide +kernel
theorem dX7_comesOutBy_18 : decode cX7_comesOutBy 18 = .ok (.ishr, 1) := by decide +kernel
theorem dX7_comesOutBy_19 : decode cX7_comesOutBy 19 = .ok (.iconst 1, 1) := by decide +kernel
theorem dX7_comesOutBy_20 : decode cX7_comesOutBy 20 = .ok (.iand, 1) := by decide +kernel
theorem dX7_comesOutBy_21 : decode cX7_comesOutBy 21 = .ok (.iconst 1, 1) := by decide +kernel
theorem dX7_comesOutBy_22 : decode cX7_comesOutBy 22 = .ok (.if_icmp .ne 7, 3) := by decide +kernel
theorem dX7_comesOutBy_25 : decode cX7_comesOutBy 25 = .ok (.iconst 1, 1) := by decide +kernel
theorem dX7_comesOutBy_26 : decode cX7_comesOutBy 26 = .ok (.goto 4, 3) := by decide +kernel
theorem dX7_comesOutBy_29 : decode cX7_comesOutBy 29 = .ok (.iconst 0, 1) := by decide +kernel
theorem dX7_comesOutBy_30 : decode cX7_comesOutBy 30 = .ok (.ireturn, 1) := by decide +kernel
theorem dX7_isIn_0 : decode cX7_isIn 0 = .ok (.iload_n 0, 1) := by decide +kernel
theorem dX7_isIn_1 : decode cX7_isIn 1 = .ok (.iload_n 1, 1) := by decide +kernel
theorem dX7_isIn_2 : decode cX7_isIn 2 = .ok (.ishr, 1) := by decide +kernel
theorem dX7_isIn_3 : decode cX7_isIn 3 = .ok (.iconst 1, 1) := by decide +kernel
theorem dX7_isIn_4 : decode cX7_isIn 4 = .ok (.iand, 1) := by decide +kernel
theorem dX7_isIn_5 : decode cX7_isIn 5 = .ok (.iconst 1, 1) := by decide +kernel
theorem dX7_isIn_6 : decode cX7_isIn 6 = .ok (.if_icmp .ne 7, 3) := by decide +kernel
theorem dX7_isIn_9 : decode cX7_isIn 9 = .ok (.iconst 1, 1) := by decide +kernel
theorem dX7_isIn_10 : decode cX7_isIn 10 = .ok (.goto 4, 3) := by decide +kernel
theorem dX7_isIn_13 : decode cX7_isIn 13 = .ok (.iconst 0, 1) := by decide +kernel
theorem dX7_isIn_14 : decode cX7_isIn 14 = .ok (.ireturn, 1) := by decide +kernel
theorem dX7_drawRows_0 : decode cX7_drawRows 0 = .ok (.iload_n 1, 1) := by decide +kernel
theorem dX7_drawRows_1 : decode cX7_drawRows 1 = .ok (.i2l, 1) := by decide +kernel
theorem dX7_drawRows_2 : decode cX7_drawRows 2 = .ok (.lstore_n 2, 1) := by decide +kernel
theorem dX7_drawRows_3 : decode cX7_drawRows 3 = .ok (.aload_n 0, 1) := by decide +kernel
theorem dX7_drawRows_4 : decode cX7_drawRows 4 = .ok (.invokevirtual 262, 3) := by decide +kernel
theorem dX7_drawRows_7 : decode cX7_drawRows 7 = .ok (.iconst 0, 1) := by decide +kernel
theorem dX7_drawRows_8 : decode cX7_drawRows 8 = .ok (.istore 4, 2) := by decide +kernel
theorem dX7_drawRows_10 : decode cX7_drawRows 10 = .ok (.iload 4, 2) := by decide +kernel
theorem dX7_drawRows_12 : decode cX7_drawRows 12 = .ok (.bipush 8, 2) := by decide +kernel
theorem dX7_drawRows_14 : decode cX7_drawRows 14 = .ok (.if_icmp .ge 52, 3) := by decide +kernel
theorem dX7_drawRows_17 : decode cX7_drawRows 17 = .ok (.ldc2_w 263, 3) := by decide +kernel
theorem dX7_drawRows_20 : decode cX7_drawRows 20 = .ok (.lload_n 2, 1) := by decide +kernel
theorem dX7_drawRows_21 : decode cX7_drawRows 21 = .ok (.lmul, 1) := by decide +kernel
theorem dX7_drawRows_22 : decode cX7_drawRows 22 = .ok (.ldc2_w 265, 3) := by decide +kernel
theorem dX7_drawRows_25 : decode cX7_drawRows 25 = .ok (.ladd, 1) := by decide +kernel
theorem dX7_drawRows_26 : decode cX7_drawRows 26 = .ok (.ldc2_w 267, 3) := by decide +kernel
theorem dX7_drawRows_29 : decode cX7_drawRows 29 = .ok (.lrem, 1) := by decide +kernel
theorem dX7_drawRows_30 : decode cX7_drawRows 30 = .ok (.lstore_n 2, 1) := by decide +kernel
theorem dX7_drawRows_31 : decode cX7_drawRows 31 = .ok (.lload_n 2, 1) := by decide +kernel
theorem dX7_drawRows_32 : decode cX7_drawRows 32 = .ok (.ldc2_w 269, 3) := by decide +kernel
theorem dX7_drawRows_35 : decode cX7_drawRows 35 = .ok (.ldiv, 1) := by decide +kernel
theorem dX7_drawRows_36 : decode cX7_drawRows 36 = .ok (.ldc2_w 271, 3) := by decide +kernel
theorem dX7_drawRows_39 : decode cX7_drawRows 39 = .ok (.lrem, 1) := by decide +kernel
theorem dX7_drawRows_40 : decode cX7_drawRows 40 = .ok (.l2i, 1) := by decide +kernel
theorem dX7_drawRows_41 : decode cX7_drawRows 41 = .ok (.istore 5, 2) := by decide +kernel
theorem dX7_drawRows_43 : decode cX7_drawRows 43 = .ok (.aload_n 0, 1) := by decide +kernel
theorem dX7_drawRows_44 : decode cX7_drawRows 44 = .ok (.iload 5, 2) := by decide +kernel
theorem dX7_drawRows_46 : decode cX7_drawRows 46 = .ok (.bipush 15, 2) := by decide +kernel
theorem dX7_drawRows_48 : decode cX7_drawRows 48 = .ok (.if_icmp .le 7, 3) := by decide +kernel
theorem dX7_drawRows_51 : decode cX7_drawRows 51 = .ok (.iconst (-1), 1) := by decide +kernel
theorem dX7_drawRows_52 : decode cX7_drawRows 52 = .ok (.goto 5, 3) := by decide +kernel
theorem dX7_drawRows_55 : decode cX7_drawRows 55 = .ok (.iload 5, 2) := by decide +kernel
theorem dX7_drawRows_57 : decode cX7_drawRows 57 = .ok (.invokevirtual 149, 3) := by decide +kernel
theorem dX7_drawRows_60 : decode cX7_drawRows 60 = .ok (.iinc 4 1, 3) := by decide +kernel
theorem dX7_drawRows_63 : decode cX7_drawRows 63 = .ok (.goto (-53), 3) := by decide +kernel
theorem dX7_drawRows_66 : decode cX7_drawRows 66 = .ok (.lload_n 2, 1) := by decide +kernel
theorem dX7_drawRows_67 : decode cX7_drawRows 67 = .ok (.l2i, 1) := by decide +kernel
theorem dX7_drawRows_68 : decode cX7_drawRows 68 = .ok (.ireturn, 1) := by decide +kernel
end
section
theorem dX8_init_0 : decode cX8_init 0 = .ok (.aload_n 0, 1) := by decide +kernel
theorem dX8_init_1 : decode cX8_init 1 = .ok (.invokespecial 1, 3) := by decide +kernel
theorem dX8_init_4 : decode cX8_init 4 = .ok (.aload_n 0, 1) := by decide +kernel
theorem dX8_init_5 : decode cX8_init 5 = .ok (.iconst (-1), 1) := by decide +kernel
theorem dX8_init_6 : decode cX8_init 6 = .ok (.putfield 9, 3) := by decide +kernel
theorem dX8_init_9 : decode cX8_init 9 = .ok (.aload_n 0, 1) := by decide +kernel
theorem dX8_init_10 : decode cX8_init 10 = .ok (.bipush 28, 2) := by decide +kernel
theorem dX8_init_12 : decode cX8_init 12 = .ok (.newarray .int, 2) := by decide +kernel
theorem dX8_init_14 : decode cX8_init 14 = .ok (.putfield 13, 3) := by decide +kernel
theorem dX8_init_17 : decode cX8_init 17 = .ok (.aload_n 0, 1) := by decide +kernel
theorem dX8_init_18 : decode cX8_init 18 = .ok (.iconst 2, 1) := by decide +kernel
theorem dX8_init_19 : decode cX8_init 19 = .ok (.newarray .int, 2) := by decide +kernel
theorem dX8_init_21 : decode cX8_init 21 = .ok (.putfield 17, 3) := by decide +kernel
theorem dX8_init_24 : decode cX8_init 24 = .ok (.aload_n 0, 1) := by decide +kernel
theorem dX8_init_25 : decode cX8_init 25 = .ok (.bipush 6, 2) := by decide +kernel
theorem dX8_init_27 : decode cX8_init 27 = .ok (.newarray .int, 2) := by decide +kernel
theorem dX8_init_29 : decode cX8_init 29 = .ok (.putfield 20, 3) := by decide +kernel
theorem dX8_init_32 : decode cX8_init 32 = .ok (.aload_n 0, 1) := by decide +kernel
theorem dX8_init_33 : decode cX8_init 33 = .ok (.bipush 6, 2) := by decide +kernel
theorem dX8_init_35 : decode cX8_init 35 = .ok (.newarray .int, 2) := by decide +kernel
theorem dX8_init_37 : decode cX8_init 37 = .ok (.putfield 23, 3) := by decide +kernel
theorem dX8_init_40 : decode cX8_init 40 = .ok (.aload_n 0, 1) := by decide +kernel
theorem dX8_init_41 : decode cX8_init 41 = .ok (.bipush 36, 2) := by decide +kernel
theorem dX8_init_43 : decode cX8_init 43 = .ok (.newarray .byte, 2) := by decide +kernel
theorem dX8_init_45 : decode cX8_init 45 = .ok (.putfield 26, 3) := by decide +kernel
theorem dX8_init_48 : decode cX8_init 48 = .ok (.aload_n 0, 1) := by decide +kernel
theorem dX8_init_49 : decode cX8_init 49 = .ok (.bipush 64, 2) := by decide +kernel
theorem dX8_init_51 : decode cX8_init 51 = .ok (.newarray .int, 2) := by decide +kernel
theorem dX8_init_53 : decode cX8_init 53 = .ok (.putfield 30, 3) := by decide +kernel
theorem dX8_init_56 : decode cX8_init 56 = .ok (.aload_n 0, 1) := by decide +kernel
theorem dX8_init_57 : decode cX8_init 57 = .ok (.bipush 64, 2) := by decide +kernel
theorem dX8_init_59 : decode cX8_init 59 = .ok (.newarray .int, 2) := by decide +kernel
theorem dX8_init_61 : decode cX8_init 61 = .ok (.putfield 33, 3) := by decide +kernel
theorem dX8_init_64 : decode cX8_init 64 = .ok (.aload_n 0, 1) := by decide +kernel
theorem dX8_init_65 : decode cX8_init 65 = .ok (.sipush 256, 3) := by decide +kernel
theorem dX8_init_68 : decode cX8_init 68 = .ok (.newarray .int, 2) := by decide +kernel
theorem dX8_init_70 : decode cX8_init 70 = .ok (.putfield 36, 3) := by decide +kernel
theorem dX8_init_73 : decode cX8_init 73 = .ok (.aload_n 0, 1) := by decide +kernel
theorem dX8_init_74 : decode cX8_init 74 = .ok (.sipush 256, 3) := by decide +kernel
theorem dX8_init_77 : decode cX8_init 77 = .ok (.newarray .int, 2) := by decide +kernel
theorem dX8_init_79 : decode cX8_init 79 = .ok (.putfield 39, 3) := by decide +kernel
theorem dX8_init_82 : decode cX8_init 82 = .ok (.aload_n 0, 1) := by decide +kernel
theorem dX8_init_83 : decode cX8_init 83 = .ok (.sipush 512, 3) := by decide +kernel
theorem dX8_init_86 : decode cX8_init 86 = .ok (.newarray .int, 2) := by decide +kernel
theorem dX8_init_88 : decode cX8_init 88 = .ok (.putfield 42, 3) := by decide +kernel
theorem dX8_init_91 : decode cX8_init 91 = .ok (.aload_n 0, 1) := by decide +kernel
theorem dX8_init_92 : decode cX8_init 92 = .ok (.sipush 512, 3) := by decide +kernel
theorem dX8_init_95 : decode cX8_init 95 = .ok (.newarray .int, 2) := by decide +kernel
theorem dX8_init_97 : decode cX8_init 97 = .ok (.putfield 45, 3) := by decide +kernel
theorem dX8_init_100 : decode cX8_init 100 = .ok (.aload_n 0, 1) := by decide +kernel
theorem dX8_init_101 : decode cX8_init 101 = .ok (.sipush 512, 3) := by decide +kernel
theorem dX8_init_104 : decode cX8_init 104 = .ok (.newarray .int, 2) := by decide +kernel
theorem dX8_init_106 : decode cX8_init 106 = .ok (.putfield 48, 3) := by decide +kernel
theorem dX8_init_109 : decode cX8_init 109 = .ok (.aload_n 0, 1) := by decide +kernel
theorem dX8_init_110 : decode cX8_init 110 = .ok (.bipush 6, 2) := by decide +kernel
theorem dX8_init_112 : decode cX8_init 112 = .ok (.newarray .int, 2) := by decide +kernel
theorem dX8_init_114 : decode cX8_init 114 = .ok (.putfield 51, 3) := by decide +kernel
theorem dX8_init_117 : decode cX8_init 117 = .ok (.aload_n 0, 1) := by decide +kernel
theorem dX8_init_118 : decode cX8_init 118 = .ok (.bipush 6, 2) := by decide +kernel
theorem dX8_init_120 : decode cX8_init 120 = .ok (.newarray .int, 2) := by decide +kernel
theorem dX8_init_122 : decode cX8_init 122 = .ok (.putfield 54, 3) := by decide +kernel
theorem dX8_init_125 : decode cX8_init 125 = .ok (.aload_n 0, 1) := by decide +kernel
theorem dX8_init_126 : decode cX8_init 126 = .ok (.bipush 6, 2) := by decide +kernel
theorem dX8_init_128 : decode cX8_init 128 = .ok (.newarray .int, 2) := by decide +kernel
theorem dX8_init_130 : decode cX8_init 130 = .ok (.putfield 57, 3) := by decide +kernel
theorem dX8_init_133 : decode cX8_init 133 = .ok (.aload_n 0, 1) := by decide +kernel
theorem dX8_init_134 : decode cX8_init 134 = .ok (.bipush 6, 2) := by decide +kernel
theorem dX8_init_136 : decode cX8_init 136 = .ok (.newarray .int, 2) := by decide +kernel
theorem dX8_init_138 : decode cX8_init 138 = .ok (.putfield 60, 3) := by decide +kernel
theorem dX8_init_141 : decode cX8_init 141 = .ok (.aload_n 0, 1) := by decide +kernel
theorem dX8_init_142 : decode cX8_init 142 = .ok (.bipush 6, 2) := by decide +kernel
theorem dX8_init_144 : decode cX8_init 144 = .ok (.newarray .int, 2) := by decide +kernel
theorem dX8_init_146 : decode cX8_init 146 = .ok (.putfield 63, 3) := by decide +kernel
theorem dX8_init_149 : decode cX8_init 149 = .ok (.aload_n 0, 1) := by decide +kernel
theorem dX8_init_150 : decode cX8_init 150 = .ok (.bipush 10, 2) := by decide +kernel
theorem dX8_init_152 : decode cX8_init 152 = .ok (.newarray .int, 2) := by decide +kernel
theorem dX8_init_154 : decode cX8_init 154 = .ok (.putfield 66, 3) := by decide +kernel
theorem dX8_init_157 : decode cX8_init 157 = .ok (.aload_n 0, 1) := by decide +kernel
theorem dX8_init_158 : decode cX8_init 158 = .ok (.sipush 256, 3) := by decide +kernel
theorem dX8_init_161 : decode cX8_init 161 = .ok (.newarray .int, 2) := by decide +kernel
theorem dX8_init_163 : decode cX8_init 163 = .ok (.putfield 69, 3) := by decide +kernel
theorem dX8_init_166 : decode cX8_init 166 = .ok (.aload_n 0, 1) := by decide +kernel
theorem dX8_init_167 : decode cX8_init 167 = .ok (.sipush 256, 3) := by decide +kernel
theorem dX8_init_170 : decode cX8_init 170 = .ok (.newarray .int, 2) := by decide +kernel
theorem dX8_init_172 : decode cX8_init 172 = .ok (.putfield 72, 3) := by decide +kernel
theorem dX8_init_175 : decode cX8_init 175 = .ok (.aload_n 0, 1) := by decide +kernel
theorem dX8_init_176 : decode cX8_init 176 = .ok (.sipush 512, 3) := by decide +kernel
theorem dX8_init_179 : decode cX8_init 179 = .ok (.newarray .int, 2) := by decide +kernel
theorem dX8_init_181 : decode cX8_init 181 = .ok (.putfield 75, 3) := by decide +kernel
theorem dX8_init_184 : decode cX8_init 184 = .ok (.aload_n 0, 1) := by decide +kernel
theorem dX8_init_185 : decode cX8_init 185 = .ok (.sipush 512, 3) := by decide +kernel
theorem dX8_init_188 : decode cX8_init 188 = .ok (.newarray .int, 2) := by decide +kernel
theorem dX8_init_190 : decode cX8_init 190 = .ok (.putfield 78, 3) := by decide +kernel
theorem dX8_init_193 : decode cX8_init 193 = .ok (.aload_n 0, 1) := by decide +kernel
theorem dX8_init_194 : decode cX8_init 194 = .ok (.sipush 512, 3) := by decide +kernel
theorem dX8_init_197 : decode cX8_init 197 = .ok (.newarray .int, 2) := by decide +kernel
theorem dX8_init_199 : decode cX8_init 199 = .ok (.putfield 81, 3) := by decide +kernel
theorem dX8_init_202 : decode cX8_init 202 = .ok (.aload_n 0, 1) := by decide +kernel
theorem dX8_init_203 : decode cX8_init 203 = .ok (.bipush 28, 2) := by decide +kernel
theorem dX8_init_205 : decode cX8_init 205 = .ok (.newarray .int, 2) := by decide +kernel
theorem dX8_init_207 : decode cX8_init 207 = .ok (.putfield 84, 3) := by decide +kernel
theorem dX8_init_210 : decode cX8_init 210 = .ok (.aload_n 0, 1) := by decide +kernel
theorem dX8_init_211 : decode cX8_init 211 = .ok (.bipush 28, 2) := by decide +kernel
theorem dX8_init_213 : decode cX8_init 213 = .ok (.newarray .int, 2) := by decide +kernel
theorem dX8_init_215 : decode cX8_init 215 = .ok (.putfield 87, 3) := by decide +kernel
theorem dX8_init_218 : decode cX8_init 218 = .ok (.aload_n 0, 1) := by decide +kernel
theorem dX8_init_219 : decode cX8_init 219 = .ok (.bipush 6, 2) := by decide +kernel
theorem dX8_init_221 : decode cX8_init 221 = .ok (.newarray .int, 2) := by decide +kernel
theorem dX8_init_223 : decode cX8_init 223 = .ok (.putfield 90, 3) := by decide +kernel
theorem dX8_init_226 : decode cX8_init 226 = .ok (.aload_n 0, 1) := by decide +kernel
theorem dX8_init_227 : decode cX8_init 227 = .ok (.bipush 6, 2) := by decide +kernel
theorem dX8_init_229 : decode cX8_init 229 = .ok (.newarray .int, 2) := by decide +kernel
theorem dX8_init_231 : decode cX8_init 231 = .ok (.putfield 93, 3) := by decide +kernel
theorem dX8_init_234 : decode cX8_init 234 = .ok (.aload_n 0, 1) := by decide +kernel
theorem dX8_init_235 : decode cX8_init 235 = .ok (.invokevirtual 96, 3) := by decide +kernel
theorem dX8_init_238 : decode cX8_init 238 = .ok (.return_, 1) := by decide +kernel
theorem dX8_within_0 : decode cX8_within 0 = .ok (.iload_n 0, 1) := by decide +kernel
theorem dX8_within_1 : decode cX8_within 1 = .ok (.iload_n 1, 1) := by decide +kernel
theorem dX8_within_2 : decode cX8_within 2 = .ok (.if_icmp .lt 12, 3) := by decide +kernel
theorem dX8_within_5 : decode cX8_within 5 = .ok (.iload_n 0, 1) := by decide +kernel
theorem dX8_within_6 : decode cX8_within 6 = .ok (.iload_n 2, 1) := by decide +kernel
theorem dX8_within_7 : decode cX8_within 7 = .ok (.if_icmp .gt 7, 3) := by decide +kernel
theorem dX8_within_10 : decode cX8_within 10 = .ok (.iconst 1, 1) := by decide +kernel
theorem dX8_within_11 : decode cX8_within 11 = .ok (.goto 4, 3) := by decide +kernel
theorem dX8_within_14 : decode cX8_within 14 = .ok (.iconst 0, 1) := by decide +kernel
theorem dX8_within_15 : decode cX8_within 15 = .ok (.ireturn, 1) := by decide +kernel
theorem dX8_isIn_0 : decode cX8_isIn 0 = .ok (.iload_n 0, 1) := by decide +kernel
theorem dX8_isIn_1 : decode cX8_isIn 1 = .ok (.iload_n 1, 1) := by decide +kernel
theorem dX8_isIn_2 : decode cX8_isIn 2 = .ok (.ishr, 1) := by decide +kernel
theorem dX8_isIn_3 : decode cX8_isIn 3 = .ok (.iconst 1, 1) := by decide +kernel
theorem dX8_isIn_4 : decode cX8_isIn 4 = .ok (.iand, 1) := by decide +kernel
theorem dX8_isIn_5 : decode cX8_isIn 5 = .ok (.iconst 1, 1) := by decide +kernel
theorem dX8_isIn_6 : decode cX8_isIn 6 = .ok (.if_icmp .ne 7, 3) := by decide +kernel
theorem dX8_isIn_9 : decode cX8_isIn 9 = .ok (.iconst 1, 1) := by decide +kernel
theorem dX8_isIn_10 : decode cX8_isIn 10 = .ok (.goto 4, 3) := by decide +kernel
theorem dX8_isIn_13 : decode cX8_isIn 13 = .ok (.iconst 0, 1) := by decide +kernel
theorem dX8_isIn_14 : decode cX8_isIn 14 = .ok (.ireturn, 1) := by decide +kernel
theorem dX8_size_0 : decode cX8_size 0 = .ok (.iconst 0, 1) := by decide +kernel
theorem dX8_size_1 : decode cX8_size 1 = .ok (.istore_n 1, 1) := by decide +kernel
theorem dX8_size_2 : decode cX8_size 2 = .ok (.iconst 0, 1) := by decide +kernel
theorem dX8_size_3 : decode cX8_size 3 = .ok (.istore_n 2, 1) := by decide +kernel
theorem dX8_size_4 : decode cX8_size 4 = .ok (.iload_n 2, 1) := by decide +kernel
theorem dX8_size_5 : decode cX8_size 5 = .ok (.bipush 16, 2) := by decide +kernel
theorem dX8_size_7 : decode cX8_size 7 = .ok (.if_icmp .ge 17, 3) := by decide +kernel
theorem dX8_size_10 : decode cX8_size 10 = .ok (.iload_n 1, 1) := by decide +kernel
theorem dX8_size_11 : decode cX8_size 11 = .ok (.iload_n 0, 1) := by decide +kernel
theorem dX8_size_12 : decode cX8_size 12 = .ok (.iload_n 2, 1) := by decide +kernel
theorem dX8_size_13 : decode cX8_size 13 = .ok (.ishr, 1) := by decide +kernel
theorem dX8_size_14 : decode cX8_size 14 = .ok (.iconst 1, 1) := by decide +kernel
theorem dX8_size_15 : decode cX8_size 15 = .ok (.iand, 1) := by decide +kernel
theorem dX8_size_16 : decode cX8_size 16 = .ok (.iadd, 1) := by decide +kernel
theorem dX8_size_17 : decode cX8_size 17 = .ok (.istore_n 1, 1) := by decide +kernel
theorem dX8_size_18 : decode cX8_size 18 = .ok (.iinc 2 1, 3) := by decide +kernel
theorem dX8_size_21 : decode cX8_size 21 = .ok (.goto (-17), 3) := by decide +kernel
theorem dX8_size_24 : decode cX8_size 24 = .ok (.iload_n 1, 1) := by decide +kernel
theorem dX8_size_25 : decode cX8_size 25 = .ok (.ireturn, 1) := by decide +kernel
theorem dX8_letter_0 : decode cX8_letter 0 = .ok (.iload_n 1, 1) := by decide +kernel
theorem dX8_letter_1 : decode cX8_letter 1 = .ok (.bipush 32, 2) := by decide +kernel
theorem dX8_letter_3 : decode cX8_letter 3 = .ok (.bipush 126, 2) := by decide +kernel
theorem dX8_letter_5 : decode cX8_letter 5 = .ok (.invokestatic 99, 3) := by decide +kernel
theorem dX8_letter_8 : decode cX8_letter 8 = .ok (.ifCond .ne 6, 3) := by decide +kernel
theorem dX8_letter_11 : decode cX8_letter 11 = .ok (.bipush (-102), 2) := by decide +kernel
theorem dX8_letter_13 : decode cX8_letter 13 = .ok (.ireturn, 1) := by decide +kernel
theorem dX8_letter_14 : decode cX8_letter 14 = .ok (.aload_n 0, 1) := by decide +kernel
theorem dX8_letter_15 : decode cX8_letter 15 = .ok (.getfield 103, 3) := by decide +kernel
theorem dX8_letter_18 : decode cX8_letter 18 = .ok (.bipush 36, 2) := by decide +kernel
theorem dX8_letter_20 : decode cX8_letter 20 = .ok (.if_icmp .ne 6, 3) := by decide +kernel
theorem dX8_letter_23 : decode cX8_letter 23 = .ok (.bipush (-104), 2) := by decide +kernel
theorem dX8_letter_25 : decode cX8_letter 25 = .ok (.ireturn, 1) := by decide +kernel
theorem dX8_letter_26 : decode cX8_letter 26 = .ok (.aload_n 0, 1) := by decide +kernel
theorem dX8_letter_27 : decode cX8_letter 27 = .ok (.getfield 26, 3) := by decide +kernel
theorem dX8_letter_30 : decode cX8_letter 30 = .ok (.aload_n 0, 1) := by decide +kernel
theorem dX8_letter_31 : decode cX8_letter 31 = .ok (.getfield 103, 3) := by decide +kernel
theorem dX8_letter_34 : decode cX8_letter 34 = .ok (.iload_n 1, 1) := by decide +kernel
theorem dX8_letter_35 : decode cX8_letter 35 = .ok (.i2b, 1) := by decide +kernel
theorem dX8_letter_36 : decode cX8_letter 36 = .ok (.bastore, 1) := by decide +kernel
theorem dX8_letter_37 : decode cX8_letter 37 = .ok (.aload_n 0, 1) := by decide +kernel
theorem dX8_letter_38 : decode cX8_letter 38 = .ok (.dup, 1) := by decide +kernel
theorem dX8_letter_39 : decode cX8_letter 39 = .ok (.getfield 103, 3) := by decide +kernel
theorem dX8_letter_42 : decode cX8_letter 42 = .ok (.iconst 1, 1) := by decide +kernel
theorem dX8_letter_43 : decode cX8_letter 43 = .ok (.iadd, 1) := by decide +kernel
theorem dX8_letter_44 : decode cX8_letter 44 = .ok (.putfield 103, 3) := by decide +kernel
theorem dX8_letter_47 : decode cX8_letter 47 = .ok (.aload_n 0, 1) := by decide +kernel
theorem dX8_letter_48 : decode cX8_letter 48 = .ok (.getfield 103, 3) := by decide +kernel
theorem dX8_letter_51 : decode cX8_letter 51 = .ok (.ireturn, 1) := by decide +kernel
theorem dX8_blank_0 : decode cX8_blank 0 = .ok (.aload_n 0, 1) := by decide +kernel
theorem dX8_blank_1 : decode cX8_blank 1 = .ok (.getfield 103, 3) := by decide +kernel
theorem dX8_blank_4 : decode cX8_blank 4 = .ok (.istore_n 1, 1) := by decide +kernel
theorem dX8_blank_5 : decode cX8_blank 5 = .ok (.aload_n 0, 1) := by decide +kernel
theorem dX8_blank_6 : decode cX8_blank 6 = .ok (.iconst 0, 1) := by decide +kernel
theorem dX8_blank_7 : decode cX8_blank 7 = .ok (.putfield 103, 3) := by decide +kernel
theorem dX8_blank_10 : decode cX8_blank 10 = .ok (.iload_n 1, 1) := by decide +kernel
theorem dX8_blank_11 : decode cX8_blank 11 = .ok (.ireturn, 1) := by decide +kernel
theorem dX8_kindBy_0 : decode cX8_kindBy 0 = .ok (.iload_n 0, 1) := by decide +kernel
theorem dX8_kindBy_1 : decode cX8_kindBy 1 = .ok (.lookupswitch 61 #[(97, 55), (102, 59), (106, 51), (108, 53), (115, 57)], 51) := by decide +kernel
theorem dX8_kindBy_52 : decode cX8_kindBy 52 = .ok (.iconst 0, 1) := by decide +kernel
theorem dX8_kindBy_53 : decode cX8_kindBy 53 = .ok (.ireturn, 1) := by decide +kernel
theorem dX8_kindBy_54 : decode cX8_kindBy 54 = .ok (.iconst 1, 1) := by decide +kernel
theorem dX8_kindBy_55 : decode cX8_kindBy 55 = .ok (.ireturn, 1) := by decide +kernel
theorem dX8_kindBy_56 : decode cX8_kindBy 56 = .ok (.iconst 2, 1) := by decide +kernel
theorem dX8_kindBy_57 : decode cX8_kindBy 57 = .ok (.ireturn, 1) := by decide +kernel
theorem dX8_kindBy_58 : decode cX8_kindBy 58 = .ok (.iconst 3, 1) := by decide +kernel
theorem dX8_kindBy_59 : decode cX8_kindBy 59 = .ok (.ireturn, 1) := by decide +kernel
theorem dX8_kindBy_60 : decode cX8_kindBy 60 = .ok (.iconst 4, 1) := by decide +kernel
theorem dX8_kindBy_61 : decode cX8_kindBy 61 = .ok (.ireturn, 1) := by decide +kernel
theorem dX8_kindBy_62 : decode cX8_kindBy 62 = .ok (.iconst (-1), 1) := by decide +kernel
theorem dX8_kindBy_63 : decode cX8_kindBy 63 = .ok (.ireturn, 1) := by decide +kernel
theorem dX8_at_0 : decode cX8_at 0 = .ok (.iload_n 1, 1) := by decide +kernel
theorem dX8_at_1 : decode cX8_at 1 = .ok (.aload_n 0, 1) := by decide +kernel
theorem dX8_at_2 : decode cX8_at 2 = .ok (.getfield 103, 3) := by decide +kernel
theorem dX8_at_5 : decode cX8_at 5 = .ok (.if_icmp .ge 12, 3) := by decide +kernel
theorem dX8_at_8 : decode cX8_at 8 = .ok (.aload_n 0, 1) := by decide +kernel
theorem dX8_at_9 : decode cX8_at 9 = .ok (.getfield 26, 3) := by decide +kernel
theorem dX8_at_12 : decode cX8_at 12 = .ok (.iload_n 1, 1) := by decide +kernel
theorem dX8_at_13 : decode cX8_at 13 = .ok (.baload, 1) := by decide +kernel
theorem dX8_at_14 : decode cX8_at 14 = .ok (.goto 4, 3) := by decide +kernel
theorem dX8_at_17 : decode cX8_at 17 = .ok (.iconst 0, 1) := by decide +kernel
theorem dX8_at_18 : decode cX8_at 18 = .ok (.ireturn, 1) := by decide +kernel
theorem dX8_isRowAt_0 : decode cX8_isRowAt 0 = .ok (.aload_n 0, 1) := by decide +kernel
theorem dX8_isRowAt_1 : decode cX8_isRowAt 1 = .ok (.iload_n 1, 1) := by decide +kernel
theorem dX8_isRowAt_2 : decode cX8_isRowAt 2 = .ok (.invokevirtual 106, 3) := by decide +kernel
theorem dX8_isRowAt_5 : decode cX8_isRowAt 5 = .ok (.bipush 45, 2) := by decide +kernel
theorem dX8_isRowAt_7 : decode cX8_isRowAt 7 = .ok (.if_icmp .eq 20, 3) := by decide +kernel
theorem dX8_isRowAt_10 : decode cX8_isRowAt 10 = .ok (.aload_n 0, 1) := by decide +kernel
theorem dX8_isRowAt_11 : decode cX8_isRowAt 11 = .ok (.iload_n 1, 1) := by decide +kernel
theorem dX8_isRowAt_12 : decode cX8_isRowAt 12 = .ok (.invokevirtual 106, 3) := by decide +kernel
theorem dX8_isRowAt_15 : decode cX8_isRowAt 15 = .ok (.bipush 97, 2) := by decide +kernel
theorem dX8_isRowAt_17 : decode cX8_isRowAt 17 = .ok (.isub, 1) := by decide +kernel
theorem dX8_isRowAt_18 : decode cX8_isRowAt 18 = .ok (.iconst 0, 1) := by decide +kernel
theorem dX8_isRowAt_19 : decode cX8_isRowAt 19 = .ok (.bipush 15, 2) := by decide +kernel
theorem dX8_isRowAt_21 : decode cX8_isRowAt 21 = .ok (.invokestatic 99, 3) := by decide +kernel
theorem dX8_isRowAt_24 : decode cX8_isRowAt 24 = .ok (.ifCond .eq 7, 3) := by decide +kernel
theorem dX8_isRowAt_27 : decode cX8_isRowAt 27 = .ok (.iconst 1, 1) := by decide +kernel
theorem dX8_isRowAt_28 : decode cX8_isRowAt 28 = .ok (.goto 4, 3) := by decide +kernel
theorem dX8_isRowAt_31 : decode cX8_isRowAt 31 = .ok (.iconst 0, 1) := by decide +kernel
theorem dX8_isRowAt_32 : decode cX8_isRowAt 32 = .ok (.ireturn, 1) := by decide +kernel
theorem dX8_rowsFrom_0 : decode cX8_rowsFrom 0 = .ok (.iconst 0, 1) := by decide +kernel
theorem dX8_rowsFrom_1 : decode cX8_rowsFrom 1 = .ok (.istore_n 2, 1) := by decide +kernel
theorem dX8_rowsFrom_2 : decode cX8_rowsFrom 2 = .ok (.iload_n 2, 1) := by decide +kernel
theorem dX8_rowsFrom_3 : decode cX8_rowsFrom 3 = .ok (.bipush 14, 2) := by decide +kernel
theorem dX8_rowsFrom_5 : decode cX8_rowsFrom 5 = .ok (.if_icmp .ge 19, 3) := by decide +kernel
theorem dX8_rowsFrom_8 : decode cX8_rowsFrom 8 = .ok (.aload_n 0, 1) := by decide +kernel
theorem dX8_rowsFrom_9 : decode cX8_rowsFrom 9 = .ok (.iload_n 1, 1) := by decide +kernel
theorem dX8_rowsFrom_10 : decode cX8_rowsFrom 10 = .ok (.iload_n 2, 1) := by decide +kernel
theorem dX8_rowsFrom_11 : decode cX8_rowsFrom 11 = .ok (.iadd, 1) := by decide +kernel
theorem dX8_rowsFrom_12 : decode cX8_rowsFrom 12 = .ok (.invokevirtual 110, 3) := by decide +kernel
theorem dX8_rowsFrom_15 : decode cX8_rowsFrom 15 = .ok (.ifCond .eq 9, 3) := by decide +kernel
theorem dX8_rowsFrom_18 : decode cX8_rowsFrom 18 = .ok (.iinc 2 1, 3) := by decide +kernel
theorem dX8_rowsFrom_21 : decode cX8_rowsFrom 21 = .ok (.goto (-19), 3) := by decide +kernel
theorem dX8_rowsFrom_24 : decode cX8_rowsFrom 24 = .ok (.iload_n 2, 1) := by decide +kernel
theorem dX8_rowsFrom_25 : decode cX8_rowsFrom 25 = .ok (.ireturn, 1) := by decide +kernel
theorem dX8_read_0 : decode cX8_read 0 = .ok (.aload_n 0, 1) := by decide +kernel
theorem dX8_read_1 : decode cX8_read 1 = .ok (.iconst 0, 1) := by decide +kernel
theorem dX8_read_2 : decode cX8_read 2 = .ok (.putfield 114, 3) := by decide +kernel
theorem dX8_read_5 : decode cX8_read 5 = .ok (.aload_n 0, 1) := by decide +kernel
theorem dX8_read_6 : decode cX8_read 6 = .ok (.iconst 0, 1) := by decide +kernel
theorem dX8_read_7 : decode cX8_read 7 = .ok (.invokevirtual 106, 3) := by decide +kernel
theorem dX8_read_10 : decode cX8_read 10 = .ok (.bipush 48, 2) := by decide +kernel
theorem dX8_read_12 : decode cX8_read 12 = .ok (.isub, 1) := by decide +kernel
theorem dX8_read_13 : decode cX8_read 13 = .ok (.iconst 1, 1) := by decide +kernel
theorem dX8_read_14 : decode cX8_read 14 = .ok (.bipush 9, 2) := by decide +kernel
theorem dX8_read_16 : decode cX8_read 16 = .ok (.invokestatic 99, 3) := by decide +kernel
theorem dX8_read_19 : decode cX8_read 19 = .ok (.ifCond .ne 5, 3) := by decide +kernel
theorem dX8_read_22 : decode cX8_read 22 = .ok (.iconst 0, 1) := by decide +kernel
theorem dX8_read_23 : decode cX8_read 23 = .ok (.ireturn, 1) := by decide +kernel
theorem dX8_read_24 : decode cX8_read 24 = .ok (.aload_n 0, 1) := by decide +kernel
theorem dX8_read_25 : decode cX8_read 25 = .ok (.iconst 1, 1) := by decide +kernel
theorem dX8_read_26 : decode cX8_read 26 = .ok (.invokevirtual 106, 3) := by decide +kernel
theorem dX8_read_29 : decode cX8_read 29 = .ok (.invokestatic 118, 3) := by decide +kernel
theorem dX8_read_32 : decode cX8_read 32 = .ok (.iconst (-1), 1) := by decide +kernel
theorem dX8_read_33 : decode cX8_read 33 = .ok (.if_icmp .ne 5, 3) := by decide +kernel
theorem dX8_read_36 : decode cX8_read 36 = .ok (.iconst 1, 1) := by decide +kernel
theorem dX8_read_37 : decode cX8_read 37 = .ok (.ireturn, 1) := by decide +kernel
theorem dX8_read_38 : decode cX8_read 38 = .ok (.aload_n 0, 1) := by decide +kernel
theorem dX8_read_39 : decode cX8_read 39 = .ok (.iconst 2, 1) := by decide +kernel
theorem dX8_read_40 : decode cX8_read 40 = .ok (.invokevirtual 106, 3) := by decide +kernel
theorem dX8_read_43 : decode cX8_read 43 = .ok (.bipush 59, 2) := by decide +kernel
theorem dX8_read_45 : decode cX8_read 45 = .ok (.if_icmp .eq 5, 3) := by decide +kernel
theorem dX8_read_48 : decode cX8_read 48 = .ok (.iconst 2, 1) := by decide +kernel
theorem dX8_read_49 : decode cX8_read 49 = .ok (.ireturn, 1) := by decide +kernel
theorem dX8_read_50 : decode cX8_read 50 = .ok (.aload_n 0, 1) := by decide +kernel
theorem dX8_read_51 : decode cX8_read 51 = .ok (.aload_n 0, 1) := by decide +kernel
theorem dX8_read_52 : decode cX8_read 52 = .ok (.iconst 3, 1) := by decide +kernel
theorem dX8_read_53 : decode cX8_read 53 = .ok (.invokevirtual 121, 3) := by decide +kernel
theorem dX8_read_56 : decode cX8_read 56 = .ok (.putfield 124, 3) := by decide +kernel
theorem dX8_read_59 : decode cX8_read 59 = .ok (.iconst 3, 1) := by decide +kernel
theorem dX8_read_60 : decode cX8_read 60 = .ok (.aload_n 0, 1) := by decide +kernel
theorem dX8_read_61 : decode cX8_read 61 = .ok (.getfield 124, 3) := by decide +kernel
theorem dX8_read_64 : decode cX8_read 64 = .ok (.iadd, 1) := by decide +kernel
theorem dX8_read_65 : decode cX8_read 65 = .ok (.istore_n 1, 1) := by decide +kernel
theorem dX8_read_66 : decode cX8_read 66 = .ok (.aload_n 0, 1) := by decide +kernel
theorem dX8_read_67 : decode cX8_read 67 = .ok (.iload_n 1, 1) := by decide +kernel
theorem dX8_read_68 : decode cX8_read 68 = .ok (.invokevirtual 106, 3) := by decide +kernel
theorem dX8_read_71 : decode cX8_read 71 = .ok (.bipush 59, 2) := by decide +kernel
theorem dX8_read_73 : decode cX8_read 73 = .ok (.if_icmp .eq 5, 3) := by decide +kernel
theorem dX8_read_76 : decode cX8_read 76 = .ok (.iload_n 1, 1) := by decide +kernel
theorem dX8_read_77 : decode cX8_read 77 = .ok (.ireturn, 1) := by decide +kernel
theorem dX8_read_78 : decode cX8_read 78 = .ok (.aload_n 0, 1) := by decide +kernel
theorem dX8_read_79 : decode cX8_read 79 = .ok (.aload_n 0, 1) := by decide +kernel
theorem dX8_read_80 : decode cX8_read 80 = .ok (.iload_n 1, 1) := by decide +kernel
theorem dX8_read_81 : decode cX8_read 81 = .ok (.iconst 1, 1) := by decide +kernel
theorem dX8_read_82 : decode cX8_read 82 = .ok (.iadd, 1) := by decide +kernel
theorem dX8_read_83 : decode cX8_read 83 = .ok (.invokevirtual 121, 3) := by decide +kernel
theorem dX8_read_86 : decode cX8_read 86 = .ok (.putfield 127, 3) := by decide +kernel
theorem dX8_read_89 : decode cX8_read 89 = .ok (.iload_n 1, 1) := by decide +kernel
theorem dX8_read_90 : decode cX8_read 90 = .ok (.iconst 1, 1) := by decide +kernel
theorem dX8_read_91 : decode cX8_read 91 = .ok (.aload_n 0, 1) := by decide +kernel
theorem dX8_read_92 : decode cX8_read 92 = .ok (.getfield 127, 3) := by decide +kernel
theorem dX8_read_95 : decode cX8_read 95 = .ok (.iadd, 1) := by decide +kernel
theorem dX8_read_96 : decode cX8_read 96 = .ok (.iadd, 1) := by decide +kernel
theorem dX8_read_97 : decode cX8_read 97 = .ok (.istore_n 1, 1) := by decide +kernel
theorem dX8_read_98 : decode cX8_read 98 = .ok (.aload_n 0, 1) := by decide +kernel
theorem dX8_read_99 : decode cX8_read 99 = .ok (.iload_n 1, 1) := by decide +kernel
theorem dX8_read_100 : decode cX8_read 100 = .ok (.aload_n 0, 1) := by decide +kernel
theorem dX8_read_101 : decode cX8_read 101 = .ok (.getfield 103, 3) := by decide +kernel
theorem dX8_read_104 : decode cX8_read 104 = .ok (.if_icmp .ne 7, 3) := by decide +kernel
theorem dX8_read_107 : decode cX8_read 107 = .ok (.iconst 1, 1) := by decide +kernel
theorem dX8_read_108 : decode cX8_read 108 = .ok (.goto 4, 3) := by decide +kernel
theorem dX8_read_111 : decode cX8_read 111 = .ok (.iconst 0, 1) := by decide +kernel
theorem dX8_read_112 : decode cX8_read 112 = .ok (.putfield 114, 3) := by decide +kernel
theorem dX8_read_115 : decode cX8_read 115 = .ok (.iload_n 1, 1) := by decide +kernel
theorem dX8_read_116 : decode cX8_read 116 = .ok (.ireturn, 1) := by decide +kernel
theorem dX8_fault_0 : decode cX8_fault 0 = .ok (.aload_n 0, 1) := by decide +kernel
theorem dX8_fault_1 : decode cX8_fault 1 = .ok (.invokevirtual 130, 3) := by decide +kernel
theorem dX8_fault_4 : decode cX8_fault 4 = .ok (.ireturn, 1) := by decide +kernel
theorem dX8_keyBy_0 : decode cX8_keyBy 0 = .ok (.iload_n 0, 1) := by decide +kernel
theorem dX8_keyBy_1 : decode cX8_keyBy 1 = .ok (.bipush 45, 2) := by decide +kernel
theorem dX8_keyBy_3 : decode cX8_keyBy 3 = .ok (.if_icmp .ne 7, 3) := by decide +kernel
theorem dX8_keyBy_6 : decode cX8_keyBy 6 = .ok (.iconst (-1), 1) := by decide +kernel
theorem dX8_keyBy_7 : decode cX8_keyBy 7 = .ok (.goto 7, 3) := by decide +kernel
theorem dX8_keyBy_10 : decode cX8_keyBy 10 = .ok (.iload_n 0, 1) := by decide +kernel
theorem dX8_keyBy_11 : decode cX8_keyBy 11 = .ok (.bipush 97, 2) := by decide +kernel
theorem dX8_keyBy_13 : decode cX8_keyBy 13 = .ok (.isub, 1) := by decide +kernel
theorem dX8_keyBy_14 : decode cX8_keyBy 14 = .ok (.ireturn, 1) := by decide +kernel
theorem dX8_tables_0 : decode cX8_tables 0 = .ok (.aload_n 0, 1) := by decide +kernel
theorem dX8_tables_1 : decode cX8_tables 1 = .ok (.invokevirtual 130, 3) := by decide +kernel
theorem dX8_tables_4 : decode cX8_tables 4 = .ok (.pop, 1) := by decide +kernel
theorem dX8_tables_5 : decode cX8_tables 5 = .ok (.aload_n 0, 1) := by decide +kernel
theorem dX8_tables_6 : decode cX8_tables 6 = .ok (.getfield 114, 3) := by decide +kernel
theorem dX8_tables_9 : decode cX8_tables 9 = .ok (.ifCond .ne 6, 3) := by decide +kernel
theorem dX8_tables_12 : decode cX8_tables 12 = .ok (.bipush (-103), 2) := by decide +kernel
theorem dX8_tables_14 : decode cX8_tables 14 = .ok (.ireturn, 1) := by decide +kernel
theorem dX8_tables_15 : decode cX8_tables 15 = .ok (.aload_n 0, 1) := by decide +kernel
theorem dX8_tables_16 : decode cX8_tables 16 = .ok (.aload_n 0, 1) := by decide +kernel
theorem dX8_tables_17 : decode cX8_tables 17 = .ok (.getfield 26, 3) := by decide +kernel
theorem dX8_tables_20 : decode cX8_tables 20 = .ok (.iconst 0, 1) := by decide +kernel
theorem dX8_tables_21 : decode cX8_tables 21 = .ok (.baload, 1) := by decide +kernel
theorem dX8_tables_22 : decode cX8_tables 22 = .ok (.bipush 48, 2) := by decide +kernel
theorem dX8_tables_24 : decode cX8_tables 24 = .ok (.isub, 1) := by decide +kernel
theorem dX8_tables_25 : decode cX8_tables 25 = .ok (.putfield 134, 3) := by decide +kernel
theorem dX8_tables_28 : decode cX8_tables 28 = .ok (.aload_n 0, 1) := by decide +kernel
theorem dX8_tables_29 : decode cX8_tables 29 = .ok (.aload_n 0, 1) := by decide +kernel
theorem dX8_tables_30 : decode cX8_tables 30 = .ok (.getfield 26, 3) := by decide +kernel
theorem dX8_tables_33 : decode cX8_tables 33 = .ok (.iconst 1, 1) := by decide +kernel
theorem dX8_tables_34 : decode cX8_tables 34 = .ok (.baload, 1) := by decide +kernel
theorem dX8_tables_35 : decode cX8_tables 35 = .ok (.invokestatic 118, 3) := by decide +kernel
theorem dX8_tables_38 : decode cX8_tables 38 = .ok (.putfield 9, 3) := by decide +kernel
theorem dX8_tables_41 : decode cX8_tables 41 = .ok (.aload_n 0, 1) := by decide +kernel
theorem dX8_tables_42 : decode cX8_tables 42 = .ok (.getfield 17, 3) := by decide +kernel
theorem dX8_tables_45 : decode cX8_tables 45 = .ok (.iconst 0, 1) := by decide +kernel
theorem dX8_tables_46 : decode cX8_tables 46 = .ok (.aload_n 0, 1) := by decide +kernel
theorem dX8_tables_47 : decode cX8_tables 47 = .ok (.getfield 124, 3) := by decide +kernel
theorem dX8_tables_50 : decode cX8_tables 50 = .ok (.iastore, 1) := by decide +kernel
theorem dX8_tables_51 : decode cX8_tables 51 = .ok (.aload_n 0, 1) := by decide +kernel
theorem dX8_tables_52 : decode cX8_tables 52 = .ok (.getfield 17, 3) := by decide +kernel
theorem dX8_tables_55 : decode cX8_tables 55 = .ok (.iconst 1, 1) := by decide +kernel
theorem dX8_tables_56 : decode cX8_tables 56 = .ok (.aload_n 0, 1) := by decide +kernel
theorem dX8_tables_57 : decode cX8_tables 57 = .ok (.getfield 127, 3) := by decide +kernel
theorem dX8_tables_60 : decode cX8_tables 60 = .ok (.iastore, 1) := by decide +kernel
theorem dX8_tables_61 : decode cX8_tables 61 = .ok (.iconst 0, 1) := by decide +kernel
theorem dX8_tables_62 : decode cX8_tables 62 = .ok (.istore_n 1, 1) := by decide +kernel
theorem dX8_tables_63 : decode cX8_tables 63 = .ok (.iload_n 1, 1) := by decide +kernel
theorem dX8_tables_64 : decode cX8_tables 64 = .ok (.aload_n 0, 1) := by decide +kernel
theorem dX8_tables_65 : decode cX8_tables 65 = .ok (.getfield 124, 3) := by decide +kernel
theorem dX8_tables_68 : decode cX8_tables 68 = .ok (.if_icmp .ge 26, 3) := by decide +kernel
theorem dX8_tables_71 : decode cX8_tables 71 = .ok (.aload_n 0, 1) := by decide +kernel
theorem dX8_tables_72 : decode cX8_tables 72 = .ok (.getfield 13, 3) := by decide +kernel
theorem dX8_tables_75 : decode cX8_tables 75 = .ok (.iload_n 1, 1) := by decide +kernel
theorem dX8_tables_76 : decode cX8_tables 76 = .ok (.aload_n 0, 1) := by decide +kernel
theorem dX8_tables_77 : decode cX8_tables 77 = .ok (.getfield 26, 3) := by decide +kernel
theorem dX8_tables_80 : decode cX8_tables 80 = .ok (.iconst 3, 1) := by decide +kernel
theorem dX8_tables_81 : decode cX8_tables 81 = .ok (.iload_n 1, 1) := by decide +kernel
theorem dX8_tables_82 : decode cX8_tables 82 = .ok (.iadd, 1) := by decide +kernel
theorem dX8_tables_83 : decode cX8_tables 83 = .ok (.baload, 1) := by decide +kernel
theorem dX8_tables_84 : decode cX8_tables 84 = .ok (.invokestatic 137, 3) := by decide +kernel
theorem dX8_tables_87 : decode cX8_tables 87 = .ok (.iastore, 1) := by decide +kernel
theorem dX8_tables_88 : decode cX8_tables 88 = .ok (.iinc 1 1, 3) := by decide +kernel
theorem dX8_tables_91 : decode cX8_tables 91 = .ok (.goto (-28), 3) := by decide +kernel
theorem dX8_tables_94 : decode cX8_tables 94 = .ok (.iconst 0, 1) := by decide +kernel
theorem dX8_tables_95 : decode cX8_tables 95 = .ok (.istore_n 1, 1) := by decide +kernel
theorem dX8_tables_96 : decode cX8_tables 96 = .ok (.iload_n 1, 1) := by decide +kernel
theorem dX8_tables_97 : decode cX8_tables 97 = .ok (.aload_n 0, 1) := by decide +kernel
theorem dX8_tables_98 : decode cX8_tables 98 = .ok (.getfield 127, 3) := by decide +kernel
theorem dX8_tables_101 : decode cX8_tables 101 = .ok (.if_icmp .ge 34, 3) := by decide +kernel
theorem dX8_tables_104 : decode cX8_tables 104 = .ok (.aload_n 0, 1) := by decide +kernel
theorem dX8_tables_105 : decode cX8_tables 105 = .ok (.getfield 13, 3) := by decide +kernel
theorem dX8_tables_108 : decode cX8_tables 108 = .ok (.bipush 14, 2) := by decide +kernel
theorem dX8_tables_110 : decode cX8_tables 110 = .ok (.iload_n 1, 1) := by decide +kernel
theorem dX8_tables_111 : decode cX8_tables 111 = .ok (.iadd, 1) := by decide +kernel
theorem dX8_tables_112 : decode cX8_tables 112 = .ok (.aload_n 0, 1) := by decide +kernel
theorem dX8_tables_113 : decode cX8_tables 113 = .ok (.getfield 26, 3) := by decide +kernel
theorem dX8_tables_116 : decode cX8_tables 116 = .ok (.iconst 4, 1) := by decide +kernel
theorem dX8_tables_117 : decode cX8_tables 117 = .ok (.aload_n 0, 1) := by decide +kernel
theorem dX8_tables_118 : decode cX8_tables 118 = .ok (.getfield 124, 3) := by decide +kernel
theorem dX8_tables_121 : decode cX8_tables 121 = .ok (.iadd, 1) := by decide +kernel
theorem dX8_tables_122 : decode cX8_tables 122 = .ok (.iload_n 1, 1) := by decide +kernel
theorem dX8_tables_123 : decode cX8_tables 123 = .ok (.iadd, 1) := by decide +kernel
theorem dX8_tables_124 : decode cX8_tables 124 = .ok (.baload, 1) := by decide +kernel
theorem dX8_tables_125 : decode cX8_tables 125 = .ok (.invokestatic 137, 3) := by decide +kernel
theorem dX8_tables_128 : decode cX8_tables 128 = .ok (.iastore, 1) := by decide +kernel
theorem dX8_tables_129 : decode cX8_tables 129 = .ok (.iinc 1 1, 3) := by decide +kernel
theorem dX8_tables_132 : decode cX8_tables 132 = .ok (.goto (-36), 3) := by decide +kernel
theorem dX8_tables_135 : decode cX8_tables 135 = .ok (.aload_n 0, 1) := by decide +kernel
theorem dX8_tables_136 : decode cX8_tables 136 = .ok (.iconst 0, 1) := by decide +kernel
theorem dX8_tables_137 : decode cX8_tables 137 = .ok (.putfield 140, 3) := by decide +kernel
theorem dX8_tables_140 : decode cX8_tables 140 = .ok (.aload_n 0, 1) := by decide +kernel
theorem dX8_tables_141 : decode cX8_tables 141 = .ok (.invokevirtual 96, 3) := by decide +kernel
theorem dX8_tables_144 : decode cX8_tables 144 = .ok (.aload_n 0, 1) := by decide +kernel
theorem dX8_tables_145 : decode cX8_tables 145 = .ok (.dup, 1) := by decide +kernel
theorem dX8_tables_146 : decode cX8_tables 146 = .ok (.getfield 143, 3) := by decide +kernel
theorem dX8_tables_149 : decode cX8_tables 149 = .ok (.iconst 1, 1) := by decide +kernel
theorem dX8_tables_150 : decode cX8_tables 150 = .ok (.iadd, 1) := by decide +kernel
theorem dX8_tables_151 : decode cX8_tables 151 = .ok (.putfield 143, 3) := by decide +kernel
theorem dX8_tables_154 : decode cX8_tables 154 = .ok (.aload_n 0, 1) := by decide +kernel
theorem dX8_tables_155 : decode cX8_tables 155 = .ok (.iconst 0, 1) := by decide +kernel
theorem dX8_tables_156 : decode cX8_tables 156 = .ok (.putfield 146, 3) := by decide +kernel
theorem dX8_tables_159 : decode cX8_tables 159 = .ok (.aload_n 0, 1) := by decide +kernel
theorem dX8_tables_160 : decode cX8_tables 160 = .ok (.iconst 0, 1) := by decide +kernel
theorem dX8_tables_161 : decode cX8_tables 161 = .ok (.putfield 103, 3) := by decide +kernel
theorem dX8_tables_164 : decode cX8_tables 164 = .ok (.aload_n 0, 1) := by decide +kernel
theorem dX8_tables_165 : decode cX8_tables 165 = .ok (.getfield 17, 3) := by decide +kernel
theorem dX8_tables_168 : decode cX8_tables 168 = .ok (.iconst 0, 1) := by decide +kernel
theorem dX8_tables_169 : decode cX8_tables 169 = .ok (.iaload, 1) := by decide +kernel
theorem dX8_tables_170 : decode cX8_tables 170 = .ok (.aload_n 0, 1) := by decide +kernel
theorem dX8_tables_171 : decode cX8_tables 171 = .ok (.getfield 17, 3) := by decide +kernel
theorem dX8_tables_174 : decode cX8_tables 174 = .ok (.iconst 1, 1) := by decide +kernel
theorem dX8_tables_175 : decode cX8_tables 175 = .ok (.iaload, 1) := by decide +kernel
theorem dX8_tables_176 : decode cX8_tables 176 = .ok (.iadd, 1) := by decide +kernel
theorem dX8_tables_177 : decode cX8_tables 177 = .ok (.ireturn, 1) := by decide +kernel
theorem dX8_isSide_0 : decode cX8_isSide 0 = .ok (.iload_n 0, 1) := by decide +kernel
theorem dX8_isSide_1 : decode cX8_isSide 1 = .ok (.iconst 0, 1) := by decide +kernel
theorem dX8_isSide_2 : decode cX8_isSide 2 = .ok (.iconst 1, 1) := by decide +kernel
theorem dX8_isSide_3 : decode cX8_isSide 3 = .ok (.invokestatic 99, 3) := by decide +kernel
theorem dX8_isSide_6 : decode cX8_isSide 6 = .ok (.ireturn, 1) := by decide +kernel
theorem dX8_isRow_0 : decode cX8_isRow 0 = .ok (.iload_n 1, 1) := by decide +kernel
theorem dX8_isRow_1 : decode cX8_isRow 1 = .ok (.invokestatic 149, 3) := by decide +kernel
theorem dX8_isRow_4 : decode cX8_isRow 4 = .ok (.ifCond .eq 23, 3) := by decide +kernel
theorem dX8_isRow_7 : decode cX8_isRow 7 = .ok (.iload_n 2, 1) := by decide +kernel
theorem dX8_isRow_8 : decode cX8_isRow 8 = .ok (.iconst 0, 1) := by decide +kernel
theorem dX8_isRow_9 : decode cX8_isRow 9 = .ok (.aload_n 0, 1) := by decide +kernel
theorem dX8_isRow_10 : decode cX8_isRow 10 = .ok (.getfield 17, 3) := by decide +kernel
theorem dX8_isRow_13 : decode cX8_isRow 13 = .ok (.iload_n 1, 1) := by decide +kernel
theorem dX8_isRow_14 : decode cX8_isRow 14 = .ok (.iaload, 1) := by decide +kernel
theorem dX8_isRow_15 : decode cX8_isRow 15 = .ok (.iconst 1, 1) := by decide +kernel
theorem dX8_isRow_16 : decode cX8_isRow 16 = .ok (.isub, 1) := by decide +kernel
theorem dX8_isRow_17 : decode cX8_isRow 17 = .ok (.invokestatic 99, 3) := by decide +kernel
theorem dX8_isRow_20 : decode cX8_isRow 20 = .ok (.ifCond .eq 7, 3) := by decide +kernel
theorem dX8_isRow_23 : decode cX8_isRow 23 = .ok (.iconst 1, 1) := by decide +kernel
theorem dX8_isRow_24 : decode cX8_isRow 24 = .ok (.goto 4, 3) := by decide +kernel
theorem dX8_isRow_27 : decode cX8_isRow 27 = .ok (.iconst 0, 1) := by decide +kernel
theorem dX8_isRow_28 : decode cX8_isRow 28 = .ok (.ireturn, 1) := by decide +kernel
theorem dX8_keyAt_0 : decode cX8_keyAt 0 = .ok (.aload_n 0, 1) := by decide +kernel
theorem dX8_keyAt_1 : decode cX8_keyAt 1 = .ok (.getfield 13, 3) := by decide +kernel
theorem dX8_keyAt_4 : decode cX8_keyAt 4 = .ok (.bipush 14, 2) := by decide +kernel
theorem dX8_keyAt_6 : decode cX8_keyAt 6 = .ok (.iload_n 1, 1) := by decide +kernel
theorem dX8_keyAt_7 : decode cX8_keyAt 7 = .ok (.imul, 1) := by decide +kernel
theorem dX8_keyAt_8 : decode cX8_keyAt 8 = .ok (.iload_n 2, 1) := by decide +kernel
theorem dX8_keyAt_9 : decode cX8_keyAt 9 = .ok (.iadd, 1) := by decide +kernel
theorem dX8_keyAt_10 : decode cX8_keyAt 10 = .ok (.iaload, 1) := by decide +kernel
theorem dX8_keyAt_11 : decode cX8_keyAt 11 = .ok (.ireturn, 1) := by decide +kernel
theorem dX8_partnersOf_0 : decode cX8_partnersOf 0 = .ok (.iconst 0, 1) := by decide +kernel
theorem dX8_partnersOf_1 : decode cX8_partnersOf 1 = .ok (.istore_n 3, 1) := by decide +kernel
theorem dX8_partnersOf_2 : decode cX8_partnersOf 2 = .ok (.iconst 0, 1) := by decide +kernel
theorem dX8_partnersOf_3 : decode cX8_partnersOf 3 = .ok (.istore 4, 2) := by decide +kernel
theorem dX8_partnersOf_5 : decode cX8_partnersOf 5 = .ok (.iload 4, 2) := by decide +kernel
theorem dX8_partnersOf_7 : decode cX8_partnersOf 7 = .ok (.aload_n 0, 1) := by decide +kernel
theorem dX8_partnersOf_8 : decode cX8_partnersOf 8 = .ok (.getfield 17, 3) := by decide +kernel
theorem dX8_partnersOf_11 : decode cX8_partnersOf 11 = .ok (.iconst 1, 1) := by decide +kernel
theorem dX8_partnersOf_12 : decode cX8_partnersOf 12 = .ok (.iload_n 1, 1) := by decide +kernel
theorem dX8_partnersOf_13 : decode cX8_partnersOf 13 = .ok (.isub, 1) := by decide +kernel
theorem dX8_partnersOf_14 : decode cX8_partnersOf 14 = .ok (.iaload, 1) := by decide +kernel
theorem dX8_partnersOf_15 : decode cX8_partnersOf 15 = .ok (.if_icmp .ge 45, 3) := by decide +kernel
theorem dX8_partnersOf_18 : decode cX8_partnersOf 18 = .ok (.iload_n 3, 1) := by decide +kernel
theorem dX8_partnersOf_19 : decode cX8_partnersOf 19 = .ok (.aload_n 0, 1) := by decide +kernel
theorem dX8_partnersOf_20 : decode cX8_partnersOf 20 = .ok (.iload_n 1, 1) := by decide +kernel
theorem dX8_partnersOf_21 : decode cX8_partnersOf 21 = .ok (.iload_n 2, 1) := by decide +kernel
theorem dX8_partnersOf_22 : decode cX8_partnersOf 22 = .ok (.invokevirtual 152, 3) := by decide +kernel
theorem dX8_partnersOf_25 : decode cX8_partnersOf 25 = .ok (.iconst (-1), 1) := by decide +kernel
theorem dX8_partnersOf_26 : decode cX8_partnersOf 26 = .ok (.if_icmp .eq 25, 3) := by decide +kernel
theorem dX8_partnersOf_29 : decode cX8_partnersOf 29 = .ok (.aload_n 0, 1) := by decide +kernel
theorem dX8_partnersOf_30 : decode cX8_partnersOf 30 = .ok (.iconst 1, 1) := by decide +kernel
theorem dX8_partnersOf_31 : decode cX8_partnersOf 31 = .ok (.iload_n 1, 1) := by decide +kernel
theorem dX8_partnersOf_32 : decode cX8_partnersOf 32 = .ok (.isub, 1) := by decide +kernel
theorem dX8_partnersOf_33 : decode cX8_partnersOf 33 = .ok (.iload 4, 2) := by decide +kernel
theorem dX8_partnersOf_35 : decode cX8_partnersOf 35 = .ok (.invokevirtual 152, 3) := by decide +kernel
theorem dX8_partnersOf_38 : decode cX8_partnersOf 38 = .ok (.aload_n 0, 1) := by decide +kernel
theorem dX8_partnersOf_39 : decode cX8_partnersOf 39 = .ok (.iload_n 1, 1) := by decide +kernel
theorem dX8_partnersOf_40 : decode cX8_partnersOf 40 = .ok (.iload_n 2, 1) := by decide +kernel
theorem dX8_partnersOf_41 : decode cX8_partnersOf 41 = .ok (.invokevirtual 152, 3) := by decide +kernel
theorem dX8_partnersOf_44 : decode cX8_partnersOf 44 = .ok (.if_icmp .ne 7, 3) := by decide +kernel
theorem dX8_partnersOf_47 : decode cX8_partnersOf 47 = .ok (.iconst 1, 1) := by decide +kernel
theorem dX8_partnersOf_48 : decode cX8_partnersOf 48 = .ok (.goto 4, 3) := by decide +kernel
theorem dX8_partnersOf_51 : decode cX8_partnersOf 51 = .ok (.iconst 0, 1) := by decide +kernel
theorem dX8_partnersOf_52 : decode cX8_partnersOf 52 = .ok (.iadd, 1) := by decide +kernel
theorem dX8_partnersOf_53 : decode cX8_partnersOf 53 = .ok (.istore_n 3, 1) := by decide +kernel
theorem dX8_partnersOf_54 : decode cX8_partnersOf 54 = .ok (.iinc 4 1, 3) := by decide +kernel
theorem dX8_partnersOf_57 : decode cX8_partnersOf 57 = .ok (.goto (-52), 3) := by decide +kernel
theorem dX8_partnersOf_60 : decode cX8_partnersOf 60 = .ok (.iload_n 3, 1) := by decide +kernel
theorem dX8_partnersOf_61 : decode cX8_partnersOf 61 = .ok (.ireturn, 1) := by decide +kernel
theorem dX8_rowNow_0 : decode cX8_rowNow 0 = .ok (.iload_n 3, 1) := by decide +kernel
theorem dX8_rowNow_1 : decode cX8_rowNow 1 = .ok (.ifCond .ne 12, 3) := by decide +kernel
theorem dX8_rowNow_4 : decode cX8_rowNow 4 = .ok (.aload_n 0, 1) := by decide +kernel
theorem dX8_rowNow_5 : decode cX8_rowNow 5 = .ok (.iload_n 1, 1) := by decide +kernel
theorem dX8_rowNow_6 : decode cX8_rowNow 6 = .ok (.iload_n 2, 1) := by decide +kernel
theorem dX8_rowNow_7 : decode cX8_rowNow 7 = .ok (.invokevirtual 152, 3) := by decide +kernel
theorem dX8_rowNow_10 : decode cX8_rowNow 10 = .ok (.goto 9, 3) := by decide +kernel
theorem dX8_rowNow_13 : decode cX8_rowNow 13 = .ok (.aload_n 0, 1) := by decide +kernel
theorem dX8_rowNow_14 : decode cX8_rowNow 14 = .ok (.iload_n 1, 1) := by decide +kernel
theorem dX8_rowNow_15 : decode cX8_rowNow 15 = .ok (.iload_n 2, 1) := by decide +kernel
theorem dX8_rowNow_16 : decode cX8_rowNow 16 = .ok (.invokevirtual 156, 3) := by decide +kernel
theorem dX8_rowNow_19 : decode cX8_rowNow 19 = .ok (.ireturn, 1) := by decide +kernel
theorem dX8_row_0 : decode cX8_row 0 = .ok (.aload_n 0, 1) := by decide +kernel
theorem dX8_row_1 : decode cX8_row 1 = .ok (.iload_n 1, 1) := by decide +kernel
theorem dX8_row_2 : decode cX8_row 2 = .ok (.iload_n 2, 1) := by decide +kernel
theorem dX8_row_3 : decode cX8_row 3 = .ok (.invokevirtual 159, 3) := by decide +kernel
theorem dX8_row_6 : decode cX8_row 6 = .ok (.ifCond .ne 8, 3) := by decide +kernel
theorem dX8_row_9 : decode cX8_row 9 = .ok (.bipush (-101), 2) := by decide +kernel
theorem dX8_row_11 : decode cX8_row 11 = .ok (.goto 24, 3) := by decide +kernel
theorem dX8_row_14 : decode cX8_row 14 = .ok (.iload_n 3, 1) := by decide +kernel
theorem dX8_row_15 : decode cX8_row 15 = .ok (.iconst 0, 1) := by decide +kernel
theorem dX8_row_16 : decode cX8_row 16 = .ok (.iconst 1, 1) := by decide +kernel
theorem dX8_row_17 : decode cX8_row 17 = .ok (.invokestatic 99, 3) := by decide +kernel
theorem dX8_row_20 : decode cX8_row 20 = .ok (.ifCond .eq 13, 3) := by decide +kernel
theorem dX8_row_23 : decode cX8_row 23 = .ok (.aload_n 0, 1) := by decide +kernel
theorem dX8_row_24 : decode cX8_row 24 = .ok (.iload_n 1, 1) := by decide +kernel
theorem dX8_row_25 : decode cX8_row 25 = .ok (.iload_n 2, 1) := by decide +kernel
theorem dX8_row_26 : decode cX8_row 26 = .ok (.iload_n 3, 1) := by decide +kernel
theorem dX8_row_27 : decode cX8_row 27 = .ok (.invokevirtual 163, 3) := by decide +kernel
theorem dX8_row_30 : decode cX8_row 30 = .ok (.goto 5, 3) := by decide +kernel
theorem dX8_row_33 : decode cX8_row 33 = .ok (.bipush (-102), 2) := by decide +kernel
theorem dX8_row_35 : decode cX8_row 35 = .ok (.ireturn, 1) := by decide +kernel
theorem dX8_as_0 : decode cX8_as 0 = .ok (.iload_n 1, 1) := by decide +kernel
theorem dX8_as_1 : decode cX8_as 1 = .ok (.iconst 0, 1) := by decide +kernel
theorem dX8_as_2 : decode cX8_as 2 = .ok (.iconst 4, 1) := by decide +kernel
theorem dX8_as_3 : decode cX8_as 3 = .ok (.invokestatic 99, 3) := by decide +kernel
theorem dX8_as_6 : decode cX8_as 6 = .ok (.ifCond .ne 6, 3) := by decide +kernel
theorem dX8_as_9 : decode cX8_as 9 = .ok (.bipush (-102), 2) := by decide +kernel
theorem dX8_as_11 : decode cX8_as 11 = .ok (.ireturn, 1) := by decide +kernel
theorem dX8_as_12 : decode cX8_as 12 = .ok (.aload_n 0, 1) := by decide +kernel
theorem dX8_as_13 : decode cX8_as 13 = .ok (.getfield 143, 3) := by decide +kernel
theorem dX8_as_16 : decode cX8_as 16 = .ok (.ifCond .ne 6, 3) := by decide +kernel
theorem dX8_as_19 : decode cX8_as 19 = .ok (.bipush (-103), 2) := by decide +kernel
theorem dX8_as_21 : decode cX8_as 21 = .ok (.ireturn, 1) := by decide +kernel
theorem dX8_as_22 : decode cX8_as 22 = .ok (.iload_n 1, 1) := by decide +kernel
theorem dX8_as_23 : decode cX8_as 23 = .ok (.ifCond .eq 24, 3) := by decide +kernel
theorem dX8_as_26 : decode cX8_as 26 = .ok (.iload_n 1, 1) := by decide +kernel
theorem dX8_as_27 : decode cX8_as 27 = .ok (.aload_n 0, 1) := by decide +kernel
theorem dX8_as_28 : decode cX8_as 28 = .ok (.getfield 9, 3) := by decide +kernel
theorem dX8_as_31 : decode cX8_as 31 = .ok (.if_icmp .eq 16, 3) := by decide +kernel
theorem dX8_as_34 : decode cX8_as 34 = .ok (.iload_n 1, 1) := by decide +kernel
theorem dX8_as_35 : decode cX8_as 35 = .ok (.iconst 1, 1) := by decide +kernel
theorem dX8_as_36 : decode cX8_as 36 = .ok (.if_icmp .ne 18, 3) := by decide +kernel
theorem dX8_as_39 : decode cX8_as 39 = .ok (.aload_n 0, 1) := by decide +kernel
theorem dX8_as_40 : decode cX8_as 40 = .ok (.getfield 9, 3) := by decide +kernel
theorem dX8_as_43 : decode cX8_as 43 = .ok (.iconst 4, 1) := by decide +kernel
theorem dX8_as_44 : decode cX8_as 44 = .ok (.if_icmp .ne 10, 3) := by decide +kernel
theorem dX8_as_47 : decode cX8_as 47 = .ok (.aload_n 0, 1) := by decide +kernel
theorem dX8_as_48 : decode cX8_as 48 = .ok (.getfield 9, 3) := by decide +kernel
theorem dX8_as_51 : decode cX8_as 51 = .ok (.goto 4, 3) := by decide +kernel
theorem dX8_as_54 : decode cX8_as 54 = .ok (.iconst (-1), 1) := by decide +kernel
theorem dX8_as_55 : decode cX8_as 55 = .ok (.ireturn, 1) := by decide +kernel
theorem dX8_isKey_0 : decode cX8_isKey 0 = .ok (.iload_n 0, 1) := by decide +kernel
theorem dX8_isKey_1 : decode cX8_isKey 1 = .ok (.iconst (-1), 1) := by decide +kernel
theorem dX8_isKey_2 : decode cX8_isKey 2 = .ok (.bipush 15, 2) := by decide +kernel
theorem dX8_isKey_4 : decode cX8_isKey 4 = .ok (.invokestatic 99, 3) := by decide +kernel
theorem dX8_isKey_7 : decode cX8_isKey 7 = .ok (.ireturn, 1) := by decide +kernel
theorem dX8_put_0 : decode cX8_put 0 = .ok (.iload_n 1, 1) := by decide +kernel
theorem dX8_put_1 : decode cX8_put 1 = .ok (.invokestatic 149, 3) := by decide +kernel
theorem dX8_put_4 : decode cX8_put 4 = .ok (.ifCond .ne 6, 3) := by decide +kernel
theorem dX8_put_7 : decode cX8_put 7 = .ok (.bipush (-101), 2) := by decide +kernel
theorem dX8_put_9 : decode cX8_put 9 = .ok (.ireturn, 1) := by decide +kernel
theorem dX8_put_10 : decode cX8_put 10 = .ok (.iload_n 2, 1) := by decide +kernel
theorem dX8_put_11 : decode cX8_put 11 = .ok (.invokestatic 167, 3) := by decide +kernel
theorem dX8_put_14 : decode cX8_put 14 = .ok (.ifCond .ne 6, 3) := by decide +kernel
theorem dX8_put_17 : decode cX8_put 17 = .ok (.bipush (-102), 2) := by decide +kernel
theorem dX8_put_19 : decode cX8_put 19 = .ok (.ireturn, 1) := by decide +kernel
theorem dX8_put_20 : decode cX8_put 20 = .ok (.aload_n 0, 1) := by decide +kernel
theorem dX8_put_21 : decode cX8_put 21 = .ok (.getfield 143, 3) := by decide +kernel
theorem dX8_put_24 : decode cX8_put 24 = .ok (.ifCond .ne 6, 3) := by decide +kernel
theorem dX8_put_27 : decode cX8_put 27 = .ok (.bipush (-103), 2) := by decide +kernel
theorem dX8_put_29 : decode cX8_put 29 = .ok (.ireturn, 1) := by decide +kernel
theorem dX8_put_30 : decode cX8_put 30 = .ok (.aload_n 0, 1) := by decide +kernel
theorem dX8_put_31 : decode cX8_put 31 = .ok (.getfield 17, 3) := by decide +kernel
theorem dX8_put_34 : decode cX8_put 34 = .ok (.iload_n 1, 1) := by decide +kernel
theorem dX8_put_35 : decode cX8_put 35 = .ok (.iaload, 1) := by decide +kernel
theorem dX8_put_36 : decode cX8_put 36 = .ok (.bipush 14, 2) := by decide +kernel
theorem dX8_put_38 : decode cX8_put 38 = .ok (.if_icmp .ne 6, 3) := by decide +kernel
theorem dX8_put_41 : decode cX8_put 41 = .ok (.bipush (-104), 2) := by decide +kernel
theorem dX8_put_43 : decode cX8_put 43 = .ok (.ireturn, 1) := by decide +kernel
theorem dX8_put_44 : decode cX8_put 44 = .ok (.aload_n 0, 1) := by decide +kernel
theorem dX8_put_45 : decode cX8_put 45 = .ok (.getfield 13, 3) := by decide +kernel
theorem dX8_put_48 : decode cX8_put 48 = .ok (.bipush 14, 2) := by decide +kernel
theorem dX8_put_50 : decode cX8_put 50 = .ok (.iload_n 1, 1) := by decide +kernel
theorem dX8_put_51 : decode cX8_put 51 = .ok (.imul, 1) := by decide +kernel
theorem dX8_put_52 : decode cX8_put 52 = .ok (.aload_n 0, 1) := by decide +kernel
theorem dX8_put_53 : decode cX8_put 53 = .ok (.getfield 17, 3) := by decide +kernel
theorem dX8_put_56 : decode cX8_put 56 = .ok (.iload_n 1, 1) := by decide +kernel
theorem dX8_put_57 : decode cX8_put 57 = .ok (.iaload, 1) := by decide +kernel
theorem dX8_put_58 : decode cX8_put 58 = .ok (.iadd, 1) := by decide +kernel
theorem dX8_put_59 : decode cX8_put 59 = .ok (.iload_n 2, 1) := by decide +kernel
theorem dX8_put_60 : decode cX8_put 60 = .ok (.iastore, 1) := by decide +kernel
theorem dX8_put_61 : decode cX8_put 61 = .ok (.aload_n 0, 1) := by decide +kernel
theorem dX8_put_62 : decode cX8_put 62 = .ok (.getfield 17, 3) := by decide +kernel
theorem dX8_put_65 : decode cX8_put 65 = .ok (.iload_n 1, 1) := by decide +kernel
theorem dX8_put_66 : decode cX8_put 66 = .ok (.dup2, 1) := by decide +kernel
theorem dX8_put_67 : decode cX8_put 67 = .ok (.iaload, 1) := by decide +kernel
theorem dX8_put_68 : decode cX8_put 68 = .ok (.iconst 1, 1) := by decide +kernel
theorem dX8_put_69 : decode cX8_put 69 = .ok (.iadd, 1) := by decide +kernel
theorem dX8_put_70 : decode cX8_put 70 = .ok (.iastore, 1) := by decide +kernel
theorem dX8_put_71 : decode cX8_put 71 = .ok (.aload_n 0, 1) := by decide +kernel
theorem dX8_put_72 : decode cX8_put 72 = .ok (.getfield 17, 3) := by decide +kernel
theorem dX8_put_75 : decode cX8_put 75 = .ok (.iload_n 1, 1) := by decide +kernel
theorem dX8_put_76 : decode cX8_put 76 = .ok (.iaload, 1) := by decide +kernel
theorem dX8_put_77 : decode cX8_put 77 = .ok (.ireturn, 1) := by decide +kernel
theorem dX8_take_0 : decode cX8_take 0 = .ok (.aload_n 0, 1) := by decide +kernel
theorem dX8_take_1 : decode cX8_take 1 = .ok (.iload_n 1, 1) := by decide +kernel
theorem dX8_take_2 : decode cX8_take 2 = .ok (.iload_n 2, 1) := by decide +kernel
theorem dX8_take_3 : decode cX8_take 3 = .ok (.invokevirtual 159, 3) := by decide +kernel
theorem dX8_take_6 : decode cX8_take 6 = .ok (.ifCond .ne 6, 3) := by decide +kernel
theorem dX8_take_9 : decode cX8_take 9 = .ok (.bipush (-101), 2) := by decide +kernel
theorem dX8_take_11 : decode cX8_take 11 = .ok (.ireturn, 1) := by decide +kernel
theorem dX8_take_12 : decode cX8_take 12 = .ok (.aload_n 0, 1) := by decide +kernel
theorem dX8_take_13 : decode cX8_take 13 = .ok (.iload_n 1, 1) := by decide +kernel
theorem dX8_take_14 : decode cX8_take 14 = .ok (.iload_n 2, 1) := by decide +kernel
theorem dX8_take_15 : decode cX8_take 15 = .ok (.invokevirtual 152, 3) := by decide +kernel
theorem dX8_take_18 : decode cX8_take 18 = .ok (.istore_n 3, 1) := by decide +kernel
theorem dX8_take_19 : decode cX8_take 19 = .ok (.iload_n 2, 1) := by decide +kernel
theorem dX8_take_20 : decode cX8_take 20 = .ok (.iconst 1, 1) := by decide +kernel
theorem dX8_take_21 : decode cX8_take 21 = .ok (.iadd, 1) := by decide +kernel
theorem dX8_take_22 : decode cX8_take 22 = .ok (.istore 4, 2) := by decide +kernel
theorem dX8_take_24 : decode cX8_take 24 = .ok (.iload 4, 2) := by decide +kernel
theorem dX8_take_26 : decode cX8_take 26 = .ok (.aload_n 0, 1) := by decide +kernel
theorem dX8_take_27 : decode cX8_take 27 = .ok (.getfield 17, 3) := by decide +kernel
theorem dX8_take_30 : decode cX8_take 30 = .ok (.iload_n 1, 1) := by decide +kernel
theorem dX8_take_31 : decode cX8_take 31 = .ok (.iaload, 1) := by decide +kernel
theorem dX8_take_32 : decode cX8_take 32 = .ok (.if_icmp .ge 30, 3) := by decide +kernel
theorem dX8_take_35 : decode cX8_take 35 = .ok (.aload_n 0, 1) := by decide +kernel
theorem dX8_take_36 : decode cX8_take 36 = .ok (.getfield 13, 3) := by decide +kernel
theorem dX8_take_39 : decode cX8_take 39 = .ok (.bipush 14, 2) := by decide +kernel
theorem dX8_take_41 : decode cX8_take 41 = .ok (.iload_n 1, 1) := by decide +kernel
theorem dX8_take_42 : decode cX8_take 42 = .ok (.imul, 1) := by decide +kernel
theorem dX8_take_43 : decode cX8_take 43 = .ok (.iload 4, 2) := by decide +kernel
theorem dX8_take_45 : decode cX8_take 45 = .ok (.iadd, 1) := by decide +kernel
theorem dX8_take_46 : decode cX8_take 46 = .ok (.iconst 1, 1) := by decide +kernel
theorem dX8_take_47 : decode cX8_take 47 = .ok (.isub, 1) := by decide +kernel
theorem dX8_take_48 : decode cX8_take 48 = .ok (.aload_n 0, 1) := by decide +kernel
theorem dX8_take_49 : decode cX8_take 49 = .ok (.iload_n 1, 1) := by decide +kernel
theorem dX8_take_50 : decode cX8_take 50 = .ok (.iload 4, 2) := by decide +kernel
theorem dX8_take_52 : decode cX8_take 52 = .ok (.invokevirtual 152, 3) := by decide +kernel
theorem dX8_take_55 : decode cX8_take 55 = .ok (.iastore, 1) := by decide +kernel
theorem dX8_take_56 : decode cX8_take 56 = .ok (.iinc 4 1, 3) := by decide +kernel
theorem dX8_take_59 : decode cX8_take 59 = .ok (.goto (-35), 3) := by decide +kernel
theorem dX8_take_62 : decode cX8_take 62 = .ok (.aload_n 0, 1) := by decide +kernel
theorem dX8_take_63 : decode cX8_take 63 = .ok (.getfield 17, 3) := by decide +kernel
theorem dX8_take_66 : decode cX8_take 66 = .ok (.iload_n 1, 1) := by decide +kernel
theorem dX8_take_67 : decode cX8_take 67 = .ok (.dup2, 1) := by decide +kernel
theorem dX8_take_68 : decode cX8_take 68 = .ok (.iaload, 1) := by decide +kernel
theorem dX8_take_69 : decode cX8_take 69 = .ok (.iconst 1, 1) := by decide +kernel
theorem dX8_take_70 : decode cX8_take 70 = .ok (.isub, 1) := by decide +kernel
theorem dX8_take_71 : decode cX8_take 71 = .ok (.iastore, 1) := by decide +kernel
theorem dX8_take_72 : decode cX8_take 72 = .ok (.iload_n 3, 1) := by decide +kernel
theorem dX8_take_73 : decode cX8_take 73 = .ok (.ireturn, 1) := by decide +kernel
theorem dX8_key_0 : decode cX8_key 0 = .ok (.aload_n 0, 1) := by decide +kernel
theorem dX8_key_1 : decode cX8_key 1 = .ok (.iload_n 1, 1) := by decide +kernel
theorem dX8_key_2 : decode cX8_key 2 = .ok (.iload_n 2, 1) := by decide +kernel
theorem dX8_key_3 : decode cX8_key 3 = .ok (.invokevirtual 159, 3) := by decide +kernel
theorem dX8_key_6 : decode cX8_key 6 = .ok (.ifCond .ne 6, 3) := by decide +kernel
theorem dX8_key_9 : decode cX8_key 9 = .ok (.bipush (-101), 2) := by decide +kernel
theorem dX8_key_11 : decode cX8_key 11 = .ok (.ireturn, 1) := by decide +kernel
theorem dX8_key_12 : decode cX8_key 12 = .ok (.iload_n 3, 1) := by decide +kernel
theorem dX8_key_13 : decode cX8_key 13 = .ok (.invokestatic 167, 3) := by decide +kernel
theorem dX8_key_16 : decode cX8_key 16 = .ok (.ifCond .ne 6, 3) := by decide +kernel
theorem dX8_key_19 : decode cX8_key 19 = .ok (.bipush (-102), 2) := by decide +kernel
theorem dX8_key_21 : decode cX8_key 21 = .ok (.ireturn, 1) := by decide +kernel
theorem dX8_key_22 : decode cX8_key 22 = .ok (.aload_n 0, 1) := by decide +kernel
theorem dX8_key_23 : decode cX8_key 23 = .ok (.iload_n 1, 1) := by decide +kernel
theorem dX8_key_24 : decode cX8_key 24 = .ok (.iload_n 2, 1) := by decide +kernel
theorem dX8_key_25 : decode cX8_key 25 = .ok (.invokevirtual 152, 3) := by decide +kernel
theorem dX8_key_28 : decode cX8_key 28 = .ok (.istore 4, 2) := by decide +kernel
theorem dX8_key_30 : decode cX8_key 30 = .ok (.aload_n 0, 1) := by decide +kernel
theorem dX8_key_31 : decode cX8_key 31 = .ok (.getfield 13, 3) := by decide +kernel
theorem dX8_key_34 : decode cX8_key 34 = .ok (.bipush 14, 2) := by decide +kernel
theorem dX8_key_36 : decode cX8_key 36 = .ok (.iload_n 1, 1) := by decide +kernel
theorem dX8_key_37 : decode cX8_key 37 = .ok (.imul, 1) := by decide +kernel
theorem dX8_key_38 : decode cX8_key 38 = .ok (.iload_n 2, 1) := by decide +kernel
theorem dX8_key_39 : decode cX8_key 39 = .ok (.iadd, 1) := by decide +kernel
theorem dX8_key_40 : decode cX8_key 40 = .ok (.iload_n 3, 1) := by decide +kernel
theorem dX8_key_41 : decode cX8_key 41 = .ok (.iastore, 1) := by decide +kernel
theorem dX8_key_42 : decode cX8_key 42 = .ok (.iload 4, 2) := by decide +kernel
theorem dX8_key_44 : decode cX8_key 44 = .ok (.ireturn, 1) := by decide +kernel
theorem dX8_memory_0 : decode cX8_memory 0 = .ok (.iload_n 1, 1) := by decide +kernel
theorem dX8_memory_1 : decode cX8_memory 1 = .ok (.iconst 1, 1) := by decide +kernel
theorem dX8_memory_2 : decode cX8_memory 2 = .ok (.bipush 9, 2) := by decide +kernel
theorem dX8_memory_4 : decode cX8_memory 4 = .ok (.invokestatic 99, 3) := by decide +kernel
theorem dX8_memory_7 : decode cX8_memory 7 = .ok (.ifCond .ne 6, 3) := by decide +kernel
theorem dX8_memory_10 : decode cX8_memory 10 = .ok (.bipush (-102), 2) := by decide +kernel
theorem dX8_memory_12 : decode cX8_memory 12 = .ok (.ireturn, 1) := by decide +kernel
theorem dX8_memory_13 : decode cX8_memory 13 = .ok (.aload_n 0, 1) := by decide +kernel
theorem dX8_memory_14 : decode cX8_memory 14 = .ok (.getfield 143, 3) := by decide +kernel
theorem dX8_memory_17 : decode cX8_memory 17 = .ok (.ifCond .ne 6, 3) := by decide +kernel
theorem dX8_memory_20 : decode cX8_memory 20 = .ok (.bipush (-103), 2) := by decide +kernel
theorem dX8_memory_22 : decode cX8_memory 22 = .ok (.ireturn, 1) := by decide +kernel
theorem dX8_memory_23 : decode cX8_memory 23 = .ok (.aload_n 0, 1) := by decide +kernel
theorem dX8_memory_24 : decode cX8_memory 24 = .ok (.getfield 134, 3) := by decide +kernel
theorem dX8_memory_27 : decode cX8_memory 27 = .ok (.istore_n 2, 1) := by decide +kernel
theorem dX8_memory_28 : decode cX8_memory 28 = .ok (.aload_n 0, 1) := by decide +kernel
theorem dX8_memory_29 : decode cX8_memory 29 = .ok (.iload_n 1, 1) := by decide +kernel
theorem dX8_memory_30 : decode cX8_memory 30 = .ok (.putfield 134, 3) := by decide +kernel
theorem dX8_memory_33 : decode cX8_memory 33 = .ok (.iload_n 2, 1) := by decide +kernel
theorem dX8_memory_34 : decode cX8_memory 34 = .ok (.ireturn, 1) := by decide +kernel
theorem dX8_be_0 : decode cX8_be 0 = .ok (.iload_n 1, 1) := by decide +kernel
theorem dX8_be_1 : decode cX8_be 1 = .ok (.iconst 0, 1) := by decide +kernel
theorem dX8_be_2 : decode cX8_be 2 = .ok (.iconst 4, 1) := by decide +kernel
theorem dX8_be_3 : decode cX8_be 3 = .ok (.invokestatic 99, 3) := by decide +kernel
theorem dX8_be_6 : decode cX8_be 6 = .ok (.ifCond .ne 6, 3) := by decide +kernel
theorem dX8_be_9 : decode cX8_be 9 = .ok (.bipush (-102), 2) := by decide +kernel
theorem dX8_be_11 : decode cX8_be 11 = .ok (.ireturn, 1) := by decide +kernel
theorem dX8_be_12 : decode cX8_be 12 = .ok (.aload_n 0, 1) := by decide +kernel
theorem dX8_be_13 : decode cX8_be 13 = .ok (.getfield 143, 3) := by decide +kernel
theorem dX8_be_16 : decode cX8_be 16 = .ok (.ifCond .ne 6, 3) := by decide +kernel
theorem dX8_be_19 : decode cX8_be 19 = .ok (.bipush (-103), 2) := by decide +kernel
theorem dX8_be_21 : decode cX8_be 21 = .ok (.ireturn, 1) := by decide +kernel
theorem dX8_be_22 : decode cX8_be 22 = .ok (.aload_n 0, 1) := by decide +kernel
theorem dX8_be_23 : decode cX8_be 23 = .ok (.getfield 9, 3) := by decide +kernel
theorem dX8_be_26 : decode cX8_be 26 = .ok (.istore_n 2, 1) := by decide +kernel
theorem dX8_be_27 : decode cX8_be 27 = .ok (.aload_n 0, 1) := by decide +kernel
theorem dX8_be_28 : decode cX8_be 28 = .ok (.iload_n 1, 1) := by decide +kernel
theorem dX8_be_29 : decode cX8_be 29 = .ok (.putfield 9, 3) := by decide +kernel
theorem dX8_be_32 : decode cX8_be 32 = .ok (.iload_n 2, 1) := by decide +kernel
theorem dX8_be_33 : decode cX8_be 33 = .ok (.ireturn, 1) := by decide +kernel
theorem dX8_noteLog_0 : decode cX8_noteLog 0 = .ok (.aload_n 0, 1) := by decide +kernel
theorem dX8_noteLog_1 : decode cX8_noteLog 1 = .ok (.getfield 42, 3) := by decide +kernel
theorem dX8_noteLog_4 : decode cX8_noteLog 4 = .ok (.aload_n 0, 1) := by decide +kernel
theorem dX8_noteLog_5 : decode cX8_noteLog 5 = .ok (.getfield 170, 3) := by decide +kernel
theorem dX8_noteLog_8 : decode cX8_noteLog 8 = .ok (.iload_n 1, 1) := by decide +kernel
theorem dX8_noteLog_9 : decode cX8_noteLog 9 = .ok (.iastore, 1) := by decide +kernel
theorem dX8_noteLog_10 : decode cX8_noteLog 10 = .ok (.aload_n 0, 1) := by decide +kernel
theorem dX8_noteLog_11 : decode cX8_noteLog 11 = .ok (.getfield 45, 3) := by decide +kernel
theorem dX8_noteLog_14 : decode cX8_noteLog 14 = .ok (.aload_n 0, 1) := by decide +kernel
theorem dX8_noteLog_15 : decode cX8_noteLog 15 = .ok (.getfield 170, 3) := by decide +kernel
theorem dX8_noteLog_18 : decode cX8_noteLog 18 = .ok (.iload_n 2, 1) := by decide +kernel
theorem dX8_noteLog_19 : decode cX8_noteLog 19 = .ok (.iastore, 1) := by decide +kernel
theorem dX8_noteLog_20 : decode cX8_noteLog 20 = .ok (.aload_n 0, 1) := by decide +kernel
theorem dX8_noteLog_21 : decode cX8_noteLog 21 = .ok (.getfield 48, 3) := by decide +kernel
theorem dX8_noteLog_24 : decode cX8_noteLog 24 = .ok (.aload_n 0, 1) := by decide +kernel
theorem dX8_noteLog_25 : decode cX8_noteLog 25 = .ok (.getfield 170, 3) := by decide +kernel
theorem dX8_noteLog_28 : decode cX8_noteLog 28 = .ok (.iload_n 3, 1) := by decide +kernel
theorem dX8_noteLog_29 : decode cX8_noteLog 29 = .ok (.iastore, 1) := by decide +kernel
theorem dX8_noteLog_30 : decode cX8_noteLog 30 = .ok (.aload_n 0, 1) := by decide +kernel
theorem dX8_noteLog_31 : decode cX8_noteLog 31 = .ok (.dup, 1) := by decide +kernel
theorem dX8_noteLog_32 : decode cX8_noteLog 32 = .ok (.getfield 170, 3) := by decide +kernel
theorem dX8_noteLog_35 : decode cX8_noteLog 35 = .ok (.iconst 1, 1) := by decide +kernel
theorem dX8_noteLog_36 : decode cX8_noteLog 36 = .ok (.iadd, 1) := by decide +kernel
theorem dX8_noteLog_37 : decode cX8_noteLog 37 = .ok (.putfield 170, 3) := by decide +kernel
theorem dX8_noteLog_40 : decode cX8_noteLog 40 = .ok (.return_, 1) := by decide +kernel
theorem dX8_openOne_0 : decode cX8_openOne 0 = .ok (.aload_n 0, 1) := by decide +kernel
theorem dX8_openOne_1 : decode cX8_openOne 1 = .ok (.getfield 30, 3) := by decide +kernel
theorem dX8_openOne_4 : decode cX8_openOne 4 = .ok (.aload_n 0, 1) := by decide +kernel
theorem dX8_openOne_5 : decode cX8_openOne 5 = .ok (.getfield 173, 3) := by decide +kernel
theorem dX8_openOne_8 : decode cX8_openOne 8 = .ok (.aload_n 0, 1) := by decide +kernel
theorem dX8_openOne_9 : decode cX8_openOne 9 = .ok (.getfield 176, 3) := by decide +kernel
theorem dX8_openOne_12 : decode cX8_openOne 12 = .ok (.iastore, 1) := by decide +kernel
theorem dX8_openOne_13 : decode cX8_openOne 13 = .ok (.aload_n 0, 1) := by decide +kernel
theorem dX8_openOne_14 : decode cX8_openOne 14 = .ok (.getfield 33, 3) := by decide +kernel
theorem dX8_openOne_17 : decode cX8_openOne 17 = .ok (.aload_n 0, 1) := by decide +kernel
theorem dX8_openOne_18 : decode cX8_openOne 18 = .ok (.getfield 173, 3) := by decide +kernel
theorem dX8_openOne_21 : decode cX8_openOne 21 = .ok (.iload_n 1, 1) := by decide +kernel
theorem dX8_openOne_22 : decode cX8_openOne 22 = .ok (.iastore, 1) := by decide +kernel
theorem dX8_openOne_23 : decode cX8_openOne 23 = .ok (.aload_n 0, 1) := by decide +kernel
theorem dX8_openOne_24 : decode cX8_openOne 24 = .ok (.dup, 1) := by decide +kernel
theorem dX8_openOne_25 : decode cX8_openOne 25 = .ok (.getfield 173, 3) := by decide +kernel
theorem dX8_openOne_28 : decode cX8_openOne 28 = .ok (.iconst 1, 1) := by decide +kernel
theorem dX8_openOne_29 : decode cX8_openOne 29 = .ok (.iadd, 1) := by decide +kernel
theorem dX8_openOne_30 : decode cX8_openOne 30 = .ok (.putfield 173, 3) := by decide +kernel
theorem dX8_openOne_33 : decode cX8_openOne 33 = .ok (.aload_n 0, 1) := by decide +kernel
theorem dX8_openOne_34 : decode cX8_openOne 34 = .ok (.aload_n 0, 1) := by decide +kernel
theorem dX8_openOne_35 : decode cX8_openOne 35 = .ok (.getfield 176, 3) := by decide +kernel
theorem dX8_openOne_38 : decode cX8_openOne 38 = .ok (.iconst 1, 1) := by decide +kernel
theorem dX8_openOne_39 : decode cX8_openOne 39 = .ok (.iload_n 1, 1) := by decide +kernel
theorem dX8_openOne_40 : decode cX8_openOne 40 = .ok (.invokevirtual 179, 3) := by decide +kernel
theorem dX8_openOne_43 : decode cX8_openOne 43 = .ok (.aload_n 0, 1) := by decide +kernel
theorem dX8_openOne_44 : decode cX8_openOne 44 = .ok (.dup, 1) := by decide +kernel
theorem dX8_openOne_45 : decode cX8_openOne 45 = .ok (.getfield 176, 3) := by decide +kernel
theorem dX8_openOne_48 : decode cX8_openOne 48 = .ok (.iconst 1, 1) := by decide +kernel
theorem dX8_openOne_49 : decode cX8_openOne 49 = .ok (.iadd, 1) := by decide +kernel
theorem dX8_openOne_50 : decode cX8_openOne 50 = .ok (.putfield 176, 3) := by decide +kernel
theorem dX8_openOne_53 : decode cX8_openOne 53 = .ok (.return_, 1) := by decide +kernel
theorem dX8_shutOne_0 : decode cX8_shutOne 0 = .ok (.aload_n 0, 1) := by decide +kernel
theorem dX8_shutOne_1 : decode cX8_shutOne 1 = .ok (.dup, 1) := by decide +kernel
theorem dX8_shutOne_2 : decode cX8_shutOne 2 = .ok (.getfield 173, 3) := by decide +kernel
theorem dX8_shutOne_5 : decode cX8_shutOne 5 = .ok (.iconst 1, 1) := by decide +kernel
theorem dX8_shutOne_6 : decode cX8_shutOne 6 = .ok (.isub, 1) := by decide +kernel
theorem dX8_shutOne_7 : decode cX8_shutOne 7 = .ok (.putfield 173, 3) := by decide +kernel
theorem dX8_shutOne_10 : decode cX8_shutOne 10 = .ok (.aload_n 0, 1) := by decide +kernel
theorem dX8_shutOne_11 : decode cX8_shutOne 11 = .ok (.aload_n 0, 1) := by decide +kernel
theorem dX8_shutOne_12 : decode cX8_shutOne 12 = .ok (.getfield 30, 3) := by decide +kernel
theorem dX8_shutOne_15 : decode cX8_shutOne 15 = .ok (.aload_n 0, 1) := by decide +kernel
theorem dX8_shutOne_16 : decode cX8_shutOne 16 = .ok (.getfield 173, 3) := by decide +kernel
theorem dX8_shutOne_19 : decode cX8_shutOne 19 = .ok (.iaload, 1) := by decide +kernel
theorem dX8_shutOne_20 : decode cX8_shutOne 20 = .ok (.iconst 0, 1) := by decide +kernel
theorem dX8_shutOne_21 : decode cX8_shutOne 21 = .ok (.aload_n 0, 1) := by decide +kernel
theorem dX8_shutOne_22 : decode cX8_shutOne 22 = .ok (.getfield 33, 3) := by decide +kernel
theorem dX8_shutOne_25 : decode cX8_shutOne 25 = .ok (.aload_n 0, 1) := by decide +kernel
theorem dX8_shutOne_26 : decode cX8_shutOne 26 = .ok (.getfield 173, 3) := by decide +kernel
theorem dX8_shutOne_29 : decode cX8_shutOne 29 = .ok (.iaload, 1) := by decide +kernel
theorem dX8_shutOne_30 : decode cX8_shutOne 30 = .ok (.invokevirtual 179, 3) := by decide +kernel
theorem dX8_shutOne_33 : decode cX8_shutOne 33 = .ok (.return_, 1) := by decide +kernel
theorem dX8_come_0 : decode cX8_come 0 = .ok (.aload_n 0, 1) := by decide +kernel
theorem dX8_come_1 : decode cX8_come 1 = .ok (.getfield 183, 3) := by decide +kernel
theorem dX8_come_4 : decode cX8_come 4 = .ok (.ifCond .eq 4, 3) := by decide +kernel
theorem dX8_come_7 : decode cX8_come 7 = .ok (.return_, 1) := by decide +kernel
theorem dX8_come_8 : decode cX8_come 8 = .ok (.aload_n 0, 1) := by decide +kernel
theorem dX8_come_9 : decode cX8_come 9 = .ok (.getfield 186, 3) := by decide +kernel
theorem dX8_come_12 : decode cX8_come 12 = .ok (.aload_n 0, 1) := by decide +kernel
theorem dX8_come_13 : decode cX8_come 13 = .ok (.getfield 189, 3) := by decide +kernel
theorem dX8_come_16 : decode cX8_come 16 = .ok (.if_icmp .ne 9, 3) := by decide +kernel
theorem dX8_come_19 : decode cX8_come 19 = .ok (.aload_n 0, 1) := by decide +kernel
theorem dX8_come_20 : decode cX8_come 20 = .ok (.iconst 1, 1) := by decide +kernel
theorem dX8_come_21 : decode cX8_come 21 = .ok (.putfield 183, 3) := by decide +kernel
theorem dX8_come_24 : decode cX8_come 24 = .ok (.return_, 1) := by decide +kernel
theorem dX8_come_25 : decode cX8_come 25 = .ok (.aload_n 0, 1) := by decide +kernel
theorem dX8_come_26 : decode cX8_come 26 = .ok (.getfield 36, 3) := by decide +kernel
theorem dX8_come_29 : decode cX8_come 29 = .ok (.aload_n 0, 1) := by decide +kernel
theorem dX8_come_30 : decode cX8_come 30 = .ok (.getfield 186, 3) := by decide +kernel
theorem dX8_come_33 : decode cX8_come 33 = .ok (.iload_n 1, 1) := by decide +kernel
theorem dX8_come_34 : decode cX8_come 34 = .ok (.iastore, 1) := by decide +kernel
theorem dX8_come_35 : decode cX8_come 35 = .ok (.aload_n 0, 1) := by decide +kernel
theorem dX8_come_36 : decode cX8_come 36 = .ok (.getfield 39, 3) := by decide +kernel
theorem dX8_come_39 : decode cX8_come 39 = .ok (.aload_n 0, 1) := by decide +kernel
theorem dX8_come_40 : decode cX8_come 40 = .ok (.getfield 186, 3) := by decide +kernel
theorem dX8_come_43 : decode cX8_come 43 = .ok (.iload_n 2, 1) := by decide +kernel
theorem dX8_come_44 : decode cX8_come 44 = .ok (.iastore, 1) := by decide +kernel
theorem dX8_come_45 : decode cX8_come 45 = .ok (.aload_n 0, 1) := by decide +kernel
theorem dX8_come_46 : decode cX8_come 46 = .ok (.dup, 1) := by decide +kernel
theorem dX8_come_47 : decode cX8_come 47 = .ok (.getfield 186, 3) := by decide +kernel
theorem dX8_come_50 : decode cX8_come 50 = .ok (.iconst 1, 1) := by decide +kernel
theorem dX8_come_51 : decode cX8_come 51 = .ok (.iadd, 1) := by decide +kernel
theorem dX8_come_52 : decode cX8_come 52 = .ok (.putfield 186, 3) := by decide +kernel
theorem dX8_come_55 : decode cX8_come 55 = .ok (.return_, 1) := by decide +kernel
theorem dX8_comesAlone_0 : decode cX8_comesAlone 0 = .ok (.aload_n 0, 1) := by decide +kernel
theorem dX8_comesAlone_1 : decode cX8_comesAlone 1 = .ok (.getfield 9, 3) := by decide +kernel
theorem dX8_comesAlone_4 : decode cX8_comesAlone 4 = .ok (.iconst 4, 1) := by decide +kernel
theorem dX8_comesAlone_5 : decode cX8_comesAlone 5 = .ok (.if_icmp .eq 23, 3) := by decide +kernel
theorem dX8_comesAlone_8 : decode cX8_comesAlone 8 = .ok (.iload_n 1, 1) := by decide +kernel
theorem dX8_comesAlone_9 : decode cX8_comesAlone 9 = .ok (.ifCond .ne 23, 3) := by decide +kernel
theorem dX8_comesAlone_12 : decode cX8_comesAlone 12 = .ok (.aload_n 0, 1) := by decide +kernel
theorem dX8_comesAlone_13 : decode cX8_comesAlone 13 = .ok (.getfield 9, 3) := by decide +kernel
theorem dX8_comesAlone_16 : decode cX8_comesAlone 16 = .ok (.iconst 1, 1) := by decide +kernel
theorem dX8_comesAlone_17 : decode cX8_comesAlone 17 = .ok (.if_icmp .eq 11, 3) := by decide +kernel
theorem dX8_comesAlone_20 : decode cX8_comesAlone 20 = .ok (.aload_n 0, 1) := by decide +kernel
theorem dX8_comesAlone_21 : decode cX8_comesAlone 21 = .ok (.getfield 9, 3) := by decide +kernel
theorem dX8_comesAlone_24 : decode cX8_comesAlone 24 = .ok (.iconst 2, 1) := by decide +kernel
theorem dX8_comesAlone_25 : decode cX8_comesAlone 25 = .ok (.if_icmp .ne 7, 3) := by decide +kernel
theorem dX8_comesAlone_28 : decode cX8_comesAlone 28 = .ok (.iconst 1, 1) := by decide +kernel
theorem dX8_comesAlone_29 : decode cX8_comesAlone 29 = .ok (.goto 4, 3) := by decide +kernel
theorem dX8_comesAlone_32 : decode cX8_comesAlone 32 = .ok (.iconst 0, 1) := by decide +kernel
theorem dX8_comesAlone_33 : decode cX8_comesAlone 33 = .ok (.ireturn, 1) := by decide +kernel
theorem dX8_alone_0 : decode cX8_alone 0 = .ok (.aload_n 0, 1) := by decide +kernel
theorem dX8_alone_1 : decode cX8_alone 1 = .ok (.iload_n 1, 1) := by decide +kernel
theorem dX8_alone_2 : decode cX8_alone 2 = .ok (.invokevirtual 192, 3) := by decide +kernel
theorem dX8_alone_5 : decode cX8_alone 5 = .ok (.ifCond .eq 25, 3) := by decide +kernel
theorem dX8_alone_8 : decode cX8_alone 8 = .ok (.aload_n 0, 1) := by decide +kernel
theorem dX8_alone_9 : decode cX8_alone 9 = .ok (.iload_n 1, 1) := by decide +kernel
theorem dX8_alone_10 : decode cX8_alone 10 = .ok (.ifCond .ne 7, 3) := by decide +kernel
theorem dX8_alone_13 : decode cX8_alone 13 = .ok (.iload_n 2, 1) := by decide +kernel
theorem dX8_alone_14 : decode cX8_alone 14 = .ok (.goto 4, 3) := by decide +kernel
theorem dX8_alone_17 : decode cX8_alone 17 = .ok (.iconst (-1), 1) := by decide +kernel
theorem dX8_alone_18 : decode cX8_alone 18 = .ok (.iload_n 1, 1) := by decide +kernel
theorem dX8_alone_19 : decode cX8_alone 19 = .ok (.ifCond .ne 7, 3) := by decide +kernel
theorem dX8_alone_22 : decode cX8_alone 22 = .ok (.iconst (-1), 1) := by decide +kernel
theorem dX8_alone_23 : decode cX8_alone 23 = .ok (.goto 4, 3) := by decide +kernel
theorem dX8_alone_26 : decode cX8_alone 26 = .ok (.iload_n 2, 1) := by decide +kernel
theorem dX8_alone_27 : decode cX8_alone 27 = .ok (.invokevirtual 195, 3) := by decide +kernel
theorem dX8_alone_30 : decode cX8_alone 30 = .ok (.return_, 1) := by decide +kernel
theorem dX8_meet_0 : decode cX8_meet 0 = .ok (.aload_n 0, 1) := by decide +kernel
theorem dX8_meet_1 : decode cX8_meet 1 = .ok (.getfield 9, 3) := by decide +kernel
theorem dX8_meet_4 : decode cX8_meet 4 = .ok (.iconst 3, 1) := by decide +kernel
theorem dX8_meet_5 : decode cX8_meet 5 = .ok (.if_icmp .ne 35, 3) := by decide +kernel
theorem dX8_meet_8 : decode cX8_meet 8 = .ok (.aload_n 0, 1) := by decide +kernel
theorem dX8_meet_9 : decode cX8_meet 9 = .ok (.getfield 199, 3) := by decide +kernel
theorem dX8_meet_12 : decode cX8_meet 12 = .ok (.iload_n 1, 1) := by decide +kernel
theorem dX8_meet_13 : decode cX8_meet 13 = .ok (.invokestatic 202, 3) := by decide +kernel
theorem dX8_meet_16 : decode cX8_meet 16 = .ok (.ifCond .ne 38, 3) := by decide +kernel
theorem dX8_meet_19 : decode cX8_meet 19 = .ok (.aload_n 0, 1) := by decide +kernel
theorem dX8_meet_20 : decode cX8_meet 20 = .ok (.dup, 1) := by decide +kernel
theorem dX8_meet_21 : decode cX8_meet 21 = .ok (.getfield 199, 3) := by decide +kernel
theorem dX8_meet_24 : decode cX8_meet 24 = .ok (.iconst 1, 1) := by decide +kernel
theorem dX8_meet_25 : decode cX8_meet 25 = .ok (.iload_n 1, 1) := by decide +kernel
theorem dX8_meet_26 : decode cX8_meet 26 = .ok (.ishl, 1) := by decide +kernel
theorem dX8_meet_27 : decode cX8_meet 27 = .ok (.ior, 1) := by decide +kernel
theorem dX8_meet_28 : decode cX8_meet 28 = .ok (.putfield 199, 3) := by decide +kernel
theorem dX8_meet_31 : decode cX8_meet 31 = .ok (.aload_n 0, 1) := by decide +kernel
theorem dX8_meet_32 : decode cX8_meet 32 = .ok (.iload_n 1, 1) := by decide +kernel
theorem dX8_meet_33 : decode cX8_meet 33 = .ok (.iconst (-1), 1) := by decide +kernel
theorem dX8_meet_34 : decode cX8_meet 34 = .ok (.invokevirtual 195, 3) := by decide +kernel
theorem dX8_meet_37 : decode cX8_meet 37 = .ok (.goto 17, 3) := by decide +kernel
theorem dX8_meet_40 : decode cX8_meet 40 = .ok (.aload_n 0, 1) := by decide +kernel
theorem dX8_meet_41 : decode cX8_meet 41 = .ok (.getfield 9, 3) := by decide +kernel
theorem dX8_meet_44 : decode cX8_meet 44 = .ok (.iconst 2, 1) := by decide +kernel
theorem dX8_meet_45 : decode cX8_meet 45 = .ok (.if_icmp .eq 9, 3) := by decide +kernel
theorem dX8_meet_48 : decode cX8_meet 48 = .ok (.aload_n 0, 1) := by decide +kernel
theorem dX8_meet_49 : decode cX8_meet 49 = .ok (.iload_n 1, 1) := by decide +kernel
theorem dX8_meet_50 : decode cX8_meet 50 = .ok (.iload_n 2, 1) := by decide +kernel
theorem dX8_meet_51 : decode cX8_meet 51 = .ok (.invokevirtual 195, 3) := by decide +kernel
theorem dX8_meet_54 : decode cX8_meet 54 = .ok (.return_, 1) := by decide +kernel
theorem dX8_inMemory_0 : decode cX8_inMemory 0 = .ok (.aload_n 0, 1) := by decide +kernel
theorem dX8_inMemory_1 : decode cX8_inMemory 1 = .ok (.iload_n 1, 1) := by decide +kernel
theorem dX8_inMemory_2 : decode cX8_inMemory 2 = .ok (.aload_n 0, 1) := by decide +kernel
theorem dX8_inMemory_3 : decode cX8_inMemory 3 = .ok (.getfield 205, 3) := by decide +kernel
theorem dX8_inMemory_6 : decode cX8_inMemory 6 = .ok (.if_icmp .le 7, 3) := by decide +kernel
theorem dX8_inMemory_9 : decode cX8_inMemory 9 = .ok (.iload_n 1, 1) := by decide +kernel
theorem dX8_inMemory_10 : decode cX8_inMemory 10 = .ok (.goto 7, 3) := by decide +kernel
theorem dX8_inMemory_13 : decode cX8_inMemory 13 = .ok (.aload_n 0, 1) := by decide +kernel
theorem dX8_inMemory_14 : decode cX8_inMemory 14 = .ok (.getfield 205, 3) := by decide +kernel
theorem dX8_inMemory_17 : decode cX8_inMemory 17 = .ok (.putfield 205, 3) := by decide +kernel
theorem dX8_inMemory_20 : decode cX8_inMemory 20 = .ok (.return_, 1) := by decide +kernel
theorem dX8_meetAll_0 : decode cX8_meetAll 0 = .ok (.iconst 0, 1) := by decide +kernel
theorem dX8_meetAll_1 : decode cX8_meetAll 1 = .ok (.istore 4, 2) := by decide +kernel
theorem dX8_meetAll_3 : decode cX8_meetAll 3 = .ok (.iload 4, 2) := by decide +kernel
theorem dX8_meetAll_5 : decode cX8_meetAll 5 = .ok (.aload_n 0, 1) := by decide +kernel
theorem dX8_meetAll_6 : decode cX8_meetAll 6 = .ok (.getfield 17, 3) := by decide +kernel
theorem dX8_meetAll_9 : decode cX8_meetAll 9 = .ok (.iload_n 1, 1) := by decide +kernel
theorem dX8_meetAll_10 : decode cX8_meetAll 10 = .ok (.iaload, 1) := by decide +kernel
theorem dX8_meetAll_11 : decode cX8_meetAll 11 = .ok (.if_icmp .ge 74, 3) := by decide +kernel
theorem dX8_meetAll_14 : decode cX8_meetAll 14 = .ok (.iload_n 3, 1) := by decide +kernel
theorem dX8_meetAll_15 : decode cX8_meetAll 15 = .ok (.iload 4, 2) := by decide +kernel
theorem dX8_meetAll_17 : decode cX8_meetAll 17 = .ok (.invokestatic 202, 3) := by decide +kernel
theorem dX8_meetAll_20 : decode cX8_meetAll 20 = .ok (.ifCond .eq 25, 3) := by decide +kernel
theorem dX8_meetAll_23 : decode cX8_meetAll 23 = .ok (.aload_n 0, 1) := by decide +kernel
theorem dX8_meetAll_24 : decode cX8_meetAll 24 = .ok (.iload_n 1, 1) := by decide +kernel
theorem dX8_meetAll_25 : decode cX8_meetAll 25 = .ok (.iload 4, 2) := by decide +kernel
theorem dX8_meetAll_27 : decode cX8_meetAll 27 = .ok (.invokevirtual 152, 3) := by decide +kernel
theorem dX8_meetAll_30 : decode cX8_meetAll 30 = .ok (.aload_n 0, 1) := by decide +kernel
theorem dX8_meetAll_31 : decode cX8_meetAll 31 = .ok (.iconst 1, 1) := by decide +kernel
theorem dX8_meetAll_32 : decode cX8_meetAll 32 = .ok (.iload_n 1, 1) := by decide +kernel
theorem dX8_meetAll_33 : decode cX8_meetAll 33 = .ok (.isub, 1) := by decide +kernel
theorem dX8_meetAll_34 : decode cX8_meetAll 34 = .ok (.iload_n 2, 1) := by decide +kernel
theorem dX8_meetAll_35 : decode cX8_meetAll 35 = .ok (.invokevirtual 152, 3) := by decide +kernel
theorem dX8_meetAll_38 : decode cX8_meetAll 38 = .ok (.if_icmp .ne 7, 3) := by decide +kernel
theorem dX8_meetAll_41 : decode cX8_meetAll 41 = .ok (.iconst 1, 1) := by decide +kernel
theorem dX8_meetAll_42 : decode cX8_meetAll 42 = .ok (.goto 4, 3) := by decide +kernel
theorem dX8_meetAll_45 : decode cX8_meetAll 45 = .ok (.iconst 0, 1) := by decide +kernel
theorem dX8_meetAll_46 : decode cX8_meetAll 46 = .ok (.istore 5, 2) := by decide +kernel
theorem dX8_meetAll_48 : decode cX8_meetAll 48 = .ok (.iload 5, 2) := by decide +kernel
theorem dX8_meetAll_50 : decode cX8_meetAll 50 = .ok (.ifCond .eq 17, 3) := by decide +kernel
theorem dX8_meetAll_53 : decode cX8_meetAll 53 = .ok (.iload_n 1, 1) := by decide +kernel
theorem dX8_meetAll_54 : decode cX8_meetAll 54 = .ok (.ifCond .ne 13, 3) := by decide +kernel
theorem dX8_meetAll_57 : decode cX8_meetAll 57 = .ok (.aload_n 0, 1) := by decide +kernel
theorem dX8_meetAll_58 : decode cX8_meetAll 58 = .ok (.iload 4, 2) := by decide +kernel
theorem dX8_meetAll_60 : decode cX8_meetAll 60 = .ok (.iload_n 2, 1) := by decide +kernel
theorem dX8_meetAll_61 : decode cX8_meetAll 61 = .ok (.invokevirtual 208, 3) := by decide +kernel
theorem dX8_meetAll_64 : decode cX8_meetAll 64 = .ok (.goto 15, 3) := by decide +kernel
theorem dX8_meetAll_67 : decode cX8_meetAll 67 = .ok (.iload 5, 2) := by decide +kernel
theorem dX8_meetAll_69 : decode cX8_meetAll 69 = .ok (.ifCond .eq 10, 3) := by decide +kernel
theorem dX8_meetAll_72 : decode cX8_meetAll 72 = .ok (.aload_n 0, 1) := by decide +kernel
theorem dX8_meetAll_73 : decode cX8_meetAll 73 = .ok (.iload_n 2, 1) := by decide +kernel
theorem dX8_meetAll_74 : decode cX8_meetAll 74 = .ok (.iload 4, 2) := by decide +kernel
theorem dX8_meetAll_76 : decode cX8_meetAll 76 = .ok (.invokevirtual 208, 3) := by decide +kernel
theorem dX8_meetAll_79 : decode cX8_meetAll 79 = .ok (.iinc 4 1, 3) := by decide +kernel
theorem dX8_meetAll_82 : decode cX8_meetAll 82 = .ok (.goto (-79), 3) := by decide +kernel
theorem dX8_meetAll_85 : decode cX8_meetAll 85 = .ok (.return_, 1) := by decide +kernel
theorem dX8_aloneOnes_0 : decode cX8_aloneOnes 0 = .ok (.iconst 0, 1) := by decide +kernel
theorem dX8_aloneOnes_1 : decode cX8_aloneOnes 1 = .ok (.istore_n 3, 1) := by decide +kernel
theorem dX8_aloneOnes_2 : decode cX8_aloneOnes 2 = .ok (.iload_n 3, 1) := by decide +kernel
theorem dX8_aloneOnes_3 : decode cX8_aloneOnes 3 = .ok (.aload_n 0, 1) := by decide +kernel
theorem dX8_aloneOnes_4 : decode cX8_aloneOnes 4 = .ok (.getfield 17, 3) := by decide +kernel
theorem dX8_aloneOnes_7 : decode cX8_aloneOnes 7 = .ok (.iload_n 1, 1) := by decide +kernel
theorem dX8_aloneOnes_8 : decode cX8_aloneOnes 8 = .ok (.iaload, 1) := by decide +kernel
theorem dX8_aloneOnes_9 : decode cX8_aloneOnes 9 = .ok (.if_icmp .ge 39, 3) := by decide +kernel
theorem dX8_aloneOnes_12 : decode cX8_aloneOnes 12 = .ok (.aload_n 0, 1) := by decide +kernel
theorem dX8_aloneOnes_13 : decode cX8_aloneOnes 13 = .ok (.getfield 183, 3) := by decide +kernel
theorem dX8_aloneOnes_16 : decode cX8_aloneOnes 16 = .ok (.ifCond .ne 32, 3) := by decide +kernel
theorem dX8_aloneOnes_19 : decode cX8_aloneOnes 19 = .ok (.iload_n 2, 1) := by decide +kernel
theorem dX8_aloneOnes_20 : decode cX8_aloneOnes 20 = .ok (.iload_n 3, 1) := by decide +kernel
theorem dX8_aloneOnes_21 : decode cX8_aloneOnes 21 = .ok (.invokestatic 202, 3) := by decide +kernel
theorem dX8_aloneOnes_24 : decode cX8_aloneOnes 24 = .ok (.ifCond .eq 18, 3) := by decide +kernel
theorem dX8_aloneOnes_27 : decode cX8_aloneOnes 27 = .ok (.aload_n 0, 1) := by decide +kernel
theorem dX8_aloneOnes_28 : decode cX8_aloneOnes 28 = .ok (.iload_n 1, 1) := by decide +kernel
theorem dX8_aloneOnes_29 : decode cX8_aloneOnes 29 = .ok (.iload_n 3, 1) := by decide +kernel
theorem dX8_aloneOnes_30 : decode cX8_aloneOnes 30 = .ok (.invokevirtual 156, 3) := by decide +kernel
theorem dX8_aloneOnes_33 : decode cX8_aloneOnes 33 = .ok (.ifCond .ne 9, 3) := by decide +kernel
theorem dX8_aloneOnes_36 : decode cX8_aloneOnes 36 = .ok (.aload_n 0, 1) := by decide +kernel
theorem dX8_aloneOnes_37 : decode cX8_aloneOnes 37 = .ok (.iload_n 1, 1) := by decide +kernel
theorem dX8_aloneOnes_38 : decode cX8_aloneOnes 38 = .ok (.iload_n 3, 1) := by decide +kernel
theorem dX8_aloneOnes_39 : decode cX8_aloneOnes 39 = .ok (.invokevirtual 211, 3) := by decide +kernel
theorem dX8_aloneOnes_42 : decode cX8_aloneOnes 42 = .ok (.iinc 3 1, 3) := by decide +kernel
theorem dX8_aloneOnes_45 : decode cX8_aloneOnes 45 = .ok (.goto (-43), 3) := by decide +kernel
theorem dX8_aloneOnes_48 : decode cX8_aloneOnes 48 = .ok (.return_, 1) := by decide +kernel
theorem dX8_holdNow_0 : decode cX8_holdNow 0 = .ok (.aload_n 0, 1) := by decide +kernel
theorem dX8_holdNow_1 : decode cX8_holdNow 1 = .ok (.iload_n 2, 1) := by decide +kernel
theorem dX8_holdNow_2 : decode cX8_holdNow 2 = .ok (.invokestatic 214, 3) := by decide +kernel
theorem dX8_holdNow_5 : decode cX8_holdNow 5 = .ok (.invokevirtual 217, 3) := by decide +kernel
theorem dX8_holdNow_8 : decode cX8_holdNow 8 = .ok (.iconst 0, 1) := by decide +kernel
theorem dX8_holdNow_9 : decode cX8_holdNow 9 = .ok (.istore 4, 2) := by decide +kernel
theorem dX8_holdNow_11 : decode cX8_holdNow 11 = .ok (.iload 4, 2) := by decide +kernel
theorem dX8_holdNow_13 : decode cX8_holdNow 13 = .ok (.aload_n 0, 1) := by decide +kernel
theorem dX8_holdNow_14 : decode cX8_holdNow 14 = .ok (.getfield 17, 3) := by decide +kernel
theorem dX8_holdNow_17 : decode cX8_holdNow 17 = .ok (.iconst 1, 1) := by decide +kernel
theorem dX8_holdNow_18 : decode cX8_holdNow 18 = .ok (.iload_n 1, 1) := by decide +kernel
theorem dX8_holdNow_19 : decode cX8_holdNow 19 = .ok (.isub, 1) := by decide +kernel
theorem dX8_holdNow_20 : decode cX8_holdNow 20 = .ok (.iaload, 1) := by decide +kernel
theorem dX8_holdNow_21 : decode cX8_holdNow 21 = .ok (.if_icmp .ge 54, 3) := by decide +kernel
theorem dX8_holdNow_24 : decode cX8_holdNow 24 = .ok (.aload_n 0, 1) := by decide +kernel
theorem dX8_holdNow_25 : decode cX8_holdNow 25 = .ok (.getfield 183, 3) := by decide +kernel
theorem dX8_holdNow_28 : decode cX8_holdNow 28 = .ok (.ifCond .ne 47, 3) := by decide +kernel
theorem dX8_holdNow_31 : decode cX8_holdNow 31 = .ok (.iload_n 3, 1) := by decide +kernel
theorem dX8_holdNow_32 : decode cX8_holdNow 32 = .ok (.iload 4, 2) := by decide +kernel
theorem dX8_holdNow_34 : decode cX8_holdNow 34 = .ok (.invokestatic 202, 3) := by decide +kernel
theorem dX8_holdNow_37 : decode cX8_holdNow 37 = .ok (.ifCond .eq 32, 3) := by decide +kernel
theorem dX8_holdNow_40 : decode cX8_holdNow 40 = .ok (.aload_n 0, 1) := by decide +kernel
theorem dX8_holdNow_41 : decode cX8_holdNow 41 = .ok (.iload_n 1, 1) := by decide +kernel
theorem dX8_holdNow_42 : decode cX8_holdNow 42 = .ok (.iload 4, 2) := by decide +kernel
theorem dX8_holdNow_44 : decode cX8_holdNow 44 = .ok (.iload_n 2, 1) := by decide +kernel
theorem dX8_holdNow_45 : decode cX8_holdNow 45 = .ok (.invokevirtual 221, 3) := by decide +kernel
theorem dX8_holdNow_48 : decode cX8_holdNow 48 = .ok (.aload_n 0, 1) := by decide +kernel
theorem dX8_holdNow_49 : decode cX8_holdNow 49 = .ok (.iconst 1, 1) := by decide +kernel
theorem dX8_holdNow_50 : decode cX8_holdNow 50 = .ok (.iload_n 1, 1) := by decide +kernel
theorem dX8_holdNow_51 : decode cX8_holdNow 51 = .ok (.isub, 1) := by decide +kernel
theorem dX8_holdNow_52 : decode cX8_holdNow 52 = .ok (.iload 4, 2) := by decide +kernel
theorem dX8_holdNow_54 : decode cX8_holdNow 54 = .ok (.invokevirtual 156, 3) := by decide +kernel
theorem dX8_holdNow_57 : decode cX8_holdNow 57 = .ok (.ifCond .ne 12, 3) := by decide +kernel
theorem dX8_holdNow_60 : decode cX8_holdNow 60 = .ok (.aload_n 0, 1) := by decide +kernel
theorem dX8_holdNow_61 : decode cX8_holdNow 61 = .ok (.iconst 1, 1) := by decide +kernel
theorem dX8_holdNow_62 : decode cX8_holdNow 62 = .ok (.iload_n 1, 1) := by decide +kernel
theorem dX8_holdNow_63 : decode cX8_holdNow 63 = .ok (.isub, 1) := by decide +kernel
theorem dX8_holdNow_64 : decode cX8_holdNow 64 = .ok (.iload 4, 2) := by decide +kernel
theorem dX8_holdNow_66 : decode cX8_holdNow 66 = .ok (.invokevirtual 211, 3) := by decide +kernel
theorem dX8_holdNow_69 : decode cX8_holdNow 69 = .ok (.iinc 4 1, 3) := by decide +kernel
theorem dX8_holdNow_72 : decode cX8_holdNow 72 = .ok (.goto (-61), 3) := by decide +kernel
theorem dX8_holdNow_75 : decode cX8_holdNow 75 = .ok (.aload_n 0, 1) := by decide +kernel
theorem dX8_holdNow_76 : decode cX8_holdNow 76 = .ok (.iload_n 1, 1) := by decide +kernel
theorem dX8_holdNow_77 : decode cX8_holdNow 77 = .ok (.iload_n 2, 1) := by decide +kernel
theorem dX8_holdNow_78 : decode cX8_holdNow 78 = .ok (.invokevirtual 224, 3) := by decide +kernel
theorem dX8_holdNow_81 : decode cX8_holdNow 81 = .ok (.return_, 1) := by decide +kernel
theorem dX8_firstOf_0 : decode cX8_firstOf 0 = .ok (.iconst 0, 1) := by decide +kernel
theorem dX8_firstOf_1 : decode cX8_firstOf 1 = .ok (.istore_n 3, 1) := by decide +kernel
theorem dX8_firstOf_2 : decode cX8_firstOf 2 = .ok (.iload_n 2, 1) := by decide +kernel
theorem dX8_firstOf_3 : decode cX8_firstOf 3 = .ok (.istore 4, 2) := by decide +kernel
theorem dX8_firstOf_5 : decode cX8_firstOf 5 = .ok (.iconst 0, 1) := by decide +kernel
theorem dX8_firstOf_6 : decode cX8_firstOf 6 = .ok (.istore 5, 2) := by decide +kernel
theorem dX8_firstOf_8 : decode cX8_firstOf 8 = .ok (.iload 5, 2) := by decide +kernel
theorem dX8_firstOf_10 : decode cX8_firstOf 10 = .ok (.bipush 14, 2) := by decide +kernel
theorem dX8_firstOf_12 : decode cX8_firstOf 12 = .ok (.if_icmp .ge 33, 3) := by decide +kernel
theorem dX8_firstOf_15 : decode cX8_firstOf 15 = .ok (.iload_n 1, 1) := by decide +kernel
theorem dX8_firstOf_16 : decode cX8_firstOf 16 = .ok (.iload 5, 2) := by decide +kernel
theorem dX8_firstOf_18 : decode cX8_firstOf 18 = .ok (.invokestatic 202, 3) := by decide +kernel
theorem dX8_firstOf_21 : decode cX8_firstOf 21 = .ok (.ifCond .eq 18, 3) := by decide +kernel
theorem dX8_firstOf_24 : decode cX8_firstOf 24 = .ok (.iload 4, 2) := by decide +kernel
theorem dX8_firstOf_26 : decode cX8_firstOf 26 = .ok (.ifCond .le 13, 3) := by decide +kernel
theorem dX8_firstOf_29 : decode cX8_firstOf 29 = .ok (.iload_n 3, 1) := by decide +kernel
theorem dX8_firstOf_30 : decode cX8_firstOf 30 = .ok (.iconst 1, 1) := by decide +kernel
theorem dX8_firstOf_31 : decode cX8_firstOf 31 = .ok (.iload 5, 2) := by decide +kernel
theorem dX8_firstOf_33 : decode cX8_firstOf 33 = .ok (.ishl, 1) := by decide +kernel
theorem dX8_firstOf_34 : decode cX8_firstOf 34 = .ok (.ior, 1) := by decide +kernel
theorem dX8_firstOf_35 : decode cX8_firstOf 35 = .ok (.istore_n 3, 1) := by decide +kernel
theorem dX8_firstOf_36 : decode cX8_firstOf 36 = .ok (.iinc 4 (-1), 3) := by decide +kernel
theorem dX8_firstOf_39 : decode cX8_firstOf 39 = .ok (.iinc 5 1, 3) := by decide +kernel
theorem dX8_firstOf_42 : decode cX8_firstOf 42 = .ok (.goto (-34), 3) := by decide +kernel
theorem dX8_firstOf_45 : decode cX8_firstOf 45 = .ok (.iload_n 3, 1) := by decide +kernel
theorem dX8_firstOf_46 : decode cX8_firstOf 46 = .ok (.ireturn, 1) := by decide +kernel
theorem dX8_blocksNow_0 : decode cX8_blocksNow 0 = .ok (.iload_n 2, 1) := by decide +kernel
theorem dX8_blocksNow_1 : decode cX8_blocksNow 1 = .ok (.istore 4, 2) := by decide +kernel
theorem dX8_blocksNow_3 : decode cX8_blocksNow 3 = .ok (.iload 4, 2) := by decide +kernel
theorem dX8_blocksNow_5 : decode cX8_blocksNow 5 = .ok (.ifCond .eq 103, 3) := by decide +kernel
theorem dX8_blocksNow_8 : decode cX8_blocksNow 8 = .ok (.aload_n 0, 1) := by decide +kernel
theorem dX8_blocksNow_9 : decode cX8_blocksNow 9 = .ok (.getfield 183, 3) := by decide +kernel
theorem dX8_blocksNow_12 : decode cX8_blocksNow 12 = .ok (.ifCond .ne 96, 3) := by decide +kernel
theorem dX8_blocksNow_15 : decode cX8_blocksNow 15 = .ok (.aload_n 0, 1) := by decide +kernel
theorem dX8_blocksNow_16 : decode cX8_blocksNow 16 = .ok (.iload 4, 2) := by decide +kernel
theorem dX8_blocksNow_18 : decode cX8_blocksNow 18 = .ok (.aload_n 0, 1) := by decide +kernel
theorem dX8_blocksNow_19 : decode cX8_blocksNow 19 = .ok (.getfield 134, 3) := by decide +kernel
theorem dX8_blocksNow_22 : decode cX8_blocksNow 22 = .ok (.invokevirtual 227, 3) := by decide +kernel
theorem dX8_blocksNow_25 : decode cX8_blocksNow 25 = .ok (.istore 5, 2) := by decide +kernel
theorem dX8_blocksNow_27 : decode cX8_blocksNow 27 = .ok (.iload 4, 2) := by decide +kernel
theorem dX8_blocksNow_29 : decode cX8_blocksNow 29 = .ok (.iload 5, 2) := by decide +kernel
theorem dX8_blocksNow_31 : decode cX8_blocksNow 31 = .ok (.iconst (-1), 1) := by decide +kernel
theorem dX8_blocksNow_32 : decode cX8_blocksNow 32 = .ok (.ixor, 1) := by decide +kernel
theorem dX8_blocksNow_33 : decode cX8_blocksNow 33 = .ok (.iand, 1) := by decide +kernel
theorem dX8_blocksNow_34 : decode cX8_blocksNow 34 = .ok (.istore 4, 2) := by decide +kernel
theorem dX8_blocksNow_36 : decode cX8_blocksNow 36 = .ok (.aload_n 0, 1) := by decide +kernel
theorem dX8_blocksNow_37 : decode cX8_blocksNow 37 = .ok (.iload 5, 2) := by decide +kernel
theorem dX8_blocksNow_39 : decode cX8_blocksNow 39 = .ok (.invokestatic 214, 3) := by decide +kernel
theorem dX8_blocksNow_42 : decode cX8_blocksNow 42 = .ok (.invokevirtual 217, 3) := by decide +kernel
theorem dX8_blocksNow_45 : decode cX8_blocksNow 45 = .ok (.aload_n 0, 1) := by decide +kernel
theorem dX8_blocksNow_46 : decode cX8_blocksNow 46 = .ok (.dup, 1) := by decide +kernel
theorem dX8_blocksNow_47 : decode cX8_blocksNow 47 = .ok (.getfield 230, 3) := by decide +kernel
theorem dX8_blocksNow_50 : decode cX8_blocksNow 50 = .ok (.iload_n 3, 1) := by decide +kernel
theorem dX8_blocksNow_51 : decode cX8_blocksNow 51 = .ok (.invokestatic 214, 3) := by decide +kernel
theorem dX8_blocksNow_54 : decode cX8_blocksNow 54 = .ok (.iadd, 1) := by decide +kernel
theorem dX8_blocksNow_55 : decode cX8_blocksNow 55 = .ok (.putfield 230, 3) := by decide +kernel
theorem dX8_blocksNow_58 : decode cX8_blocksNow 58 = .ok (.iconst 0, 1) := by decide +kernel
theorem dX8_blocksNow_59 : decode cX8_blocksNow 59 = .ok (.istore 6, 2) := by decide +kernel
theorem dX8_blocksNow_61 : decode cX8_blocksNow 61 = .ok (.iload 6, 2) := by decide +kernel
theorem dX8_blocksNow_63 : decode cX8_blocksNow 63 = .ok (.aload_n 0, 1) := by decide +kernel
theorem dX8_blocksNow_64 : decode cX8_blocksNow 64 = .ok (.getfield 17, 3) := by decide +kernel
theorem dX8_blocksNow_67 : decode cX8_blocksNow 67 = .ok (.iconst 1, 1) := by decide +kernel
theorem dX8_blocksNow_68 : decode cX8_blocksNow 68 = .ok (.iload_n 1, 1) := by decide +kernel
theorem dX8_blocksNow_69 : decode cX8_blocksNow 69 = .ok (.isub, 1) := by decide +kernel
theorem dX8_blocksNow_70 : decode cX8_blocksNow 70 = .ok (.iaload, 1) := by decide +kernel
theorem dX8_blocksNow_71 : decode cX8_blocksNow 71 = .ok (.if_icmp .ge 34, 3) := by decide +kernel
theorem dX8_blocksNow_74 : decode cX8_blocksNow 74 = .ok (.aload_n 0, 1) := by decide +kernel
theorem dX8_blocksNow_75 : decode cX8_blocksNow 75 = .ok (.getfield 183, 3) := by decide +kernel
theorem dX8_blocksNow_78 : decode cX8_blocksNow 78 = .ok (.ifCond .ne 27, 3) := by decide +kernel
theorem dX8_blocksNow_81 : decode cX8_blocksNow 81 = .ok (.iload_n 3, 1) := by decide +kernel
theorem dX8_blocksNow_82 : decode cX8_blocksNow 82 = .ok (.iload 6, 2) := by decide +kernel
theorem dX8_blocksNow_84 : decode cX8_blocksNow 84 = .ok (.invokestatic 202, 3) := by decide +kernel
theorem dX8_blocksNow_87 : decode cX8_blocksNow 87 = .ok (.ifCond .eq 12, 3) := by decide +kernel
theorem dX8_blocksNow_90 : decode cX8_blocksNow 90 = .ok (.aload_n 0, 1) := by decide +kernel
theorem dX8_blocksNow_91 : decode cX8_blocksNow 91 = .ok (.iload_n 1, 1) := by decide +kernel
theorem dX8_blocksNow_92 : decode cX8_blocksNow 92 = .ok (.iload 6, 2) := by decide +kernel
theorem dX8_blocksNow_94 : decode cX8_blocksNow 94 = .ok (.iload 5, 2) := by decide +kernel
theorem dX8_blocksNow_96 : decode cX8_blocksNow 96 = .ok (.invokevirtual 221, 3) := by decide +kernel
theorem dX8_blocksNow_99 : decode cX8_blocksNow 99 = .ok (.iinc 6 1, 3) := by decide +kernel
theorem dX8_blocksNow_102 : decode cX8_blocksNow 102 = .ok (.goto (-41), 3) := by decide +kernel
theorem dX8_blocksNow_105 : decode cX8_blocksNow 105 = .ok (.goto (-102), 3) := by decide +kernel
theorem dX8_blocksNow_108 : decode cX8_blocksNow 108 = .ok (.aload_n 0, 1) := by decide +kernel
theorem dX8_blocksNow_109 : decode cX8_blocksNow 109 = .ok (.iconst 1, 1) := by decide +kernel
theorem dX8_blocksNow_110 : decode cX8_blocksNow 110 = .ok (.iload_n 1, 1) := by decide +kernel
theorem dX8_blocksNow_111 : decode cX8_blocksNow 111 = .ok (.isub, 1) := by decide +kernel
theorem dX8_blocksNow_112 : decode cX8_blocksNow 112 = .ok (.iload_n 3, 1) := by decide +kernel
theorem dX8_blocksNow_113 : decode cX8_blocksNow 113 = .ok (.invokevirtual 224, 3) := by decide +kernel
theorem dX8_blocksNow_116 : decode cX8_blocksNow 116 = .ok (.aload_n 0, 1) := by decide +kernel
theorem dX8_blocksNow_117 : decode cX8_blocksNow 117 = .ok (.iload_n 1, 1) := by decide +kernel
theorem dX8_blocksNow_118 : decode cX8_blocksNow 118 = .ok (.iload_n 2, 1) := by decide +kernel
theorem dX8_blocksNow_119 : decode cX8_blocksNow 119 = .ok (.invokevirtual 224, 3) := by decide +kernel
theorem dX8_blocksNow_122 : decode cX8_blocksNow 122 = .ok (.return_, 1) := by decide +kernel
theorem dX8_isOneKey_0 : decode cX8_isOneKey 0 = .ok (.iconst (-1), 1) := by decide +kernel
theorem dX8_isOneKey_1 : decode cX8_isOneKey 1 = .ok (.istore_n 3, 1) := by decide +kernel
theorem dX8_isOneKey_2 : decode cX8_isOneKey 2 = .ok (.iconst 1, 1) := by decide +kernel
theorem dX8_isOneKey_3 : decode cX8_isOneKey 3 = .ok (.istore 4, 2) := by decide +kernel
theorem dX8_isOneKey_5 : decode cX8_isOneKey 5 = .ok (.iconst 0, 1) := by decide +kernel
theorem dX8_isOneKey_6 : decode cX8_isOneKey 6 = .ok (.istore 5, 2) := by decide +kernel
theorem dX8_isOneKey_8 : decode cX8_isOneKey 8 = .ok (.iload 5, 2) := by decide +kernel
theorem dX8_isOneKey_10 : decode cX8_isOneKey 10 = .ok (.aload_n 0, 1) := by decide +kernel
theorem dX8_isOneKey_11 : decode cX8_isOneKey 11 = .ok (.getfield 17, 3) := by decide +kernel
theorem dX8_isOneKey_14 : decode cX8_isOneKey 14 = .ok (.iload_n 1, 1) := by decide +kernel
theorem dX8_isOneKey_15 : decode cX8_isOneKey 15 = .ok (.iaload, 1) := by decide +kernel
theorem dX8_isOneKey_16 : decode cX8_isOneKey 16 = .ok (.if_icmp .ge 54, 3) := by decide +kernel
theorem dX8_isOneKey_19 : decode cX8_isOneKey 19 = .ok (.iload_n 2, 1) := by decide +kernel
theorem dX8_isOneKey_20 : decode cX8_isOneKey 20 = .ok (.iload 5, 2) := by decide +kernel
theorem dX8_isOneKey_22 : decode cX8_isOneKey 22 = .ok (.invokestatic 202, 3) := by decide +kernel
theorem dX8_isOneKey_25 : decode cX8_isOneKey 25 = .ok (.ifCond .eq 39, 3) := by decide +kernel
theorem dX8_isOneKey_28 : decode cX8_isOneKey 28 = .ok (.iload 4, 2) := by decide +kernel
theorem dX8_isOneKey_30 : decode cX8_isOneKey 30 = .ok (.ifCond .eq 23, 3) := by decide +kernel
theorem dX8_isOneKey_33 : decode cX8_isOneKey 33 = .ok (.iload_n 3, 1) := by decide +kernel
theorem dX8_isOneKey_34 : decode cX8_isOneKey 34 = .ok (.iconst (-1), 1) := by decide +kernel
theorem dX8_isOneKey_35 : decode cX8_isOneKey 35 = .ok (.if_icmp .eq 14, 3) := by decide +kernel
theorem dX8_isOneKey_38 : decode cX8_isOneKey 38 = .ok (.aload_n 0, 1) := by decide +kernel
theorem dX8_isOneKey_39 : decode cX8_isOneKey 39 = .ok (.iload_n 1, 1) := by decide +kernel
theorem dX8_isOneKey_40 : decode cX8_isOneKey 40 = .ok (.iload 5, 2) := by decide +kernel
theorem dX8_isOneKey_42 : decode cX8_isOneKey 42 = .ok (.invokevirtual 152, 3) := by decide +kernel
theorem dX8_isOneKey_45 : decode cX8_isOneKey 45 = .ok (.iload_n 3, 1) := by decide +kernel
theorem dX8_isOneKey_46 : decode cX8_isOneKey 46 = .ok (.if_icmp .ne 7, 3) := by decide +kernel
theorem dX8_isOneKey_49 : decode cX8_isOneKey 49 = .ok (.iconst 1, 1) := by decide +kernel
theorem dX8_isOneKey_50 : decode cX8_isOneKey 50 = .ok (.goto 4, 3) := by decide +kernel
theorem dX8_isOneKey_53 : decode cX8_isOneKey 53 = .ok (.iconst 0, 1) := by decide +kernel
theorem dX8_isOneKey_54 : decode cX8_isOneKey 54 = .ok (.istore 4, 2) := by decide +kernel
theorem dX8_isOneKey_56 : decode cX8_isOneKey 56 = .ok (.aload_n 0, 1) := by decide +kernel
theorem dX8_isOneKey_57 : decode cX8_isOneKey 57 = .ok (.iload_n 1, 1) := by decide +kernel
theorem dX8_isOneKey_58 : decode cX8_isOneKey 58 = .ok (.iload 5, 2) := by decide +kernel
theorem dX8_isOneKey_60 : decode cX8_isOneKey 60 = .ok (.invokevirtual 152, 3) := by decide +kernel
theorem dX8_isOneKey_63 : decode cX8_isOneKey 63 = .ok (.istore_n 3, 1) := by decide +kernel
theorem dX8_isOneKey_64 : decode cX8_isOneKey 64 = .ok (.iinc 5 1, 3) := by decide +kernel
theorem dX8_isOneKey_67 : decode cX8_isOneKey 67 = .ok (.goto (-59), 3) := by decide +kernel
theorem dX8_isOneKey_70 : decode cX8_isOneKey 70 = .ok (.iload 4, 2) := by decide +kernel
theorem dX8_isOneKey_72 : decode cX8_isOneKey 72 = .ok (.ireturn, 1) := by decide +kernel
theorem dX8_half_0 : decode cX8_half 0 = .ok (.iconst 0, 1) := by decide +kernel
theorem dX8_half_1 : decode cX8_half 1 = .ok (.istore 5, 2) := by decide +kernel
theorem dX8_half_3 : decode cX8_half 3 = .ok (.iconst 0, 1) := by decide +kernel
theorem dX8_half_4 : decode cX8_half 4 = .ok (.istore 6, 2) := by decide +kernel
theorem dX8_half_6 : decode cX8_half 6 = .ok (.iload 6, 2) := by decide +kernel
theorem dX8_half_8 : decode cX8_half 8 = .ok (.aload_n 0, 1) := by decide +kernel
theorem dX8_half_9 : decode cX8_half 9 = .ok (.getfield 17, 3) := by decide +kernel
theorem dX8_half_12 : decode cX8_half 12 = .ok (.iload_n 1, 1) := by decide +kernel
theorem dX8_half_13 : decode cX8_half 13 = .ok (.iaload, 1) := by decide +kernel
theorem dX8_half_14 : decode cX8_half 14 = .ok (.if_icmp .ge 47, 3) := by decide +kernel
theorem dX8_half_17 : decode cX8_half 17 = .ok (.iload 5, 2) := by decide +kernel
theorem dX8_half_19 : decode cX8_half 19 = .ok (.iload_n 2, 1) := by decide +kernel
theorem dX8_half_20 : decode cX8_half 20 = .ok (.iload 6, 2) := by decide +kernel
theorem dX8_half_22 : decode cX8_half 22 = .ok (.invokestatic 202, 3) := by decide +kernel
theorem dX8_half_25 : decode cX8_half 25 = .ok (.ifCond .eq 26, 3) := by decide +kernel
theorem dX8_half_28 : decode cX8_half 28 = .ok (.aload_n 0, 1) := by decide +kernel
theorem dX8_half_29 : decode cX8_half 29 = .ok (.iload_n 1, 1) := by decide +kernel
theorem dX8_half_30 : decode cX8_half 30 = .ok (.iload 6, 2) := by decide +kernel
theorem dX8_half_32 : decode cX8_half 32 = .ok (.invokevirtual 152, 3) := by decide +kernel
theorem dX8_half_35 : decode cX8_half 35 = .ok (.iload_n 3, 1) := by decide +kernel
theorem dX8_half_36 : decode cX8_half 36 = .ok (.ishr, 1) := by decide +kernel
theorem dX8_half_37 : decode cX8_half 37 = .ok (.iconst 1, 1) := by decide +kernel
theorem dX8_half_38 : decode cX8_half 38 = .ok (.iand, 1) := by decide +kernel
theorem dX8_half_39 : decode cX8_half 39 = .ok (.iload 4, 2) := by decide +kernel
theorem dX8_half_41 : decode cX8_half 41 = .ok (.if_icmp .ne 10, 3) := by decide +kernel
theorem dX8_half_44 : decode cX8_half 44 = .ok (.iconst 1, 1) := by decide +kernel
theorem dX8_half_45 : decode cX8_half 45 = .ok (.iload 6, 2) := by decide +kernel
theorem dX8_half_47 : decode cX8_half 47 = .ok (.ishl, 1) := by decide +kernel
theorem dX8_half_48 : decode cX8_half 48 = .ok (.goto 4, 3) := by decide +kernel
theorem dX8_half_51 : decode cX8_half 51 = .ok (.iconst 0, 1) := by decide +kernel
theorem dX8_half_52 : decode cX8_half 52 = .ok (.ior, 1) := by decide +kernel
theorem dX8_half_53 : decode cX8_half 53 = .ok (.istore 5, 2) := by decide +kernel
theorem dX8_half_55 : decode cX8_half 55 = .ok (.iinc 6 1, 3) := by decide +kernel
theorem dX8_half_58 : decode cX8_half 58 = .ok (.goto (-52), 3) := by decide +kernel
theorem dX8_half_61 : decode cX8_half 61 = .ok (.iload 5, 2) := by decide +kernel
theorem dX8_half_63 : decode cX8_half 63 = .ok (.ireturn, 1) := by decide +kernel
theorem dX8_halfOf_0 : decode cX8_halfOf 0 = .ok (.aload_n 0, 1) := by decide +kernel
theorem dX8_halfOf_1 : decode cX8_halfOf 1 = .ok (.iload_n 2, 1) := by decide +kernel
theorem dX8_halfOf_2 : decode cX8_halfOf 2 = .ok (.iload_n 2, 1) := by decide +kernel
theorem dX8_halfOf_3 : decode cX8_halfOf 3 = .ok (.ifCond .ne 12, 3) := by decide +kernel
theorem dX8_halfOf_6 : decode cX8_halfOf 6 = .ok (.aload_n 0, 1) := by decide +kernel
theorem dX8_halfOf_7 : decode cX8_halfOf 7 = .ok (.getfield 51, 3) := by decide +kernel
theorem dX8_halfOf_10 : decode cX8_halfOf 10 = .ok (.iload_n 1, 1) := by decide +kernel
theorem dX8_halfOf_11 : decode cX8_halfOf 11 = .ok (.iaload, 1) := by decide +kernel
theorem dX8_halfOf_12 : decode cX8_halfOf 12 = .ok (.goto 9, 3) := by decide +kernel
theorem dX8_halfOf_15 : decode cX8_halfOf 15 = .ok (.aload_n 0, 1) := by decide +kernel
theorem dX8_halfOf_16 : decode cX8_halfOf 16 = .ok (.getfield 54, 3) := by decide +kernel
theorem dX8_halfOf_19 : decode cX8_halfOf 19 = .ok (.iload_n 1, 1) := by decide +kernel
theorem dX8_halfOf_20 : decode cX8_halfOf 20 = .ok (.iaload, 1) := by decide +kernel
theorem dX8_halfOf_21 : decode cX8_halfOf 21 = .ok (.iload_n 1, 1) := by decide +kernel
theorem dX8_halfOf_22 : decode cX8_halfOf 22 = .ok (.iload_n 3, 1) := by decide +kernel
theorem dX8_halfOf_23 : decode cX8_halfOf 23 = .ok (.invokevirtual 233, 3) := by decide +kernel
theorem dX8_halfOf_26 : decode cX8_halfOf 26 = .ok (.ireturn, 1) := by decide +kernel
theorem dX8_rowsOfHalf_0 : decode cX8_rowsOfHalf 0 = .ok (.aload_n 0, 1) := by decide +kernel
theorem dX8_rowsOfHalf_1 : decode cX8_rowsOfHalf 1 = .ok (.iload_n 1, 1) := by decide +kernel
theorem dX8_rowsOfHalf_2 : decode cX8_rowsOfHalf 2 = .ok (.iconst 0, 1) := by decide +kernel
theorem dX8_rowsOfHalf_3 : decode cX8_rowsOfHalf 3 = .ok (.iload_n 2, 1) := by decide +kernel
theorem dX8_rowsOfHalf_4 : decode cX8_rowsOfHalf 4 = .ok (.invokevirtual 237, 3) := by decide +kernel
theorem dX8_rowsOfHalf_7 : decode cX8_rowsOfHalf 7 = .ok (.invokestatic 214, 3) := by decide +kernel
theorem dX8_rowsOfHalf_10 : decode cX8_rowsOfHalf 10 = .ok (.aload_n 0, 1) := by decide +kernel
theorem dX8_rowsOfHalf_11 : decode cX8_rowsOfHalf 11 = .ok (.iload_n 1, 1) := by decide +kernel
theorem dX8_rowsOfHalf_12 : decode cX8_rowsOfHalf 12 = .ok (.iconst 1, 1) := by decide +kernel
theorem dX8_rowsOfHalf_13 : decode cX8_rowsOfHalf 13 = .ok (.iload_n 2, 1) := by decide +kernel
theorem dX8_rowsOfHalf_14 : decode cX8_rowsOfHalf 14 = .ok (.invokevirtual 237, 3) := by decide +kernel
theorem dX8_rowsOfHalf_17 : decode cX8_rowsOfHalf 17 = .ok (.invokestatic 214, 3) := by decide +kernel
theorem dX8_rowsOfHalf_20 : decode cX8_rowsOfHalf 20 = .ok (.iadd, 1) := by decide +kernel
theorem dX8_rowsOfHalf_21 : decode cX8_rowsOfHalf 21 = .ok (.ireturn, 1) := by decide +kernel
theorem dX8_resident_0 : decode cX8_resident 0 = .ok (.aload_n 0, 1) := by decide +kernel
theorem dX8_resident_1 : decode cX8_resident 1 = .ok (.iload_n 1, 1) := by decide +kernel
theorem dX8_resident_2 : decode cX8_resident 2 = .ok (.iload_n 2, 1) := by decide +kernel
theorem dX8_resident_3 : decode cX8_resident 3 = .ok (.iconst 0, 1) := by decide +kernel
theorem dX8_resident_4 : decode cX8_resident 4 = .ok (.invokevirtual 237, 3) := by decide +kernel
theorem dX8_resident_7 : decode cX8_resident 7 = .ok (.invokestatic 214, 3) := by decide +kernel
theorem dX8_resident_10 : decode cX8_resident 10 = .ok (.istore_n 3, 1) := by decide +kernel
theorem dX8_resident_11 : decode cX8_resident 11 = .ok (.aload_n 0, 1) := by decide +kernel
theorem dX8_resident_12 : decode cX8_resident 12 = .ok (.iload_n 1, 1) := by decide +kernel
theorem dX8_resident_13 : decode cX8_resident 13 = .ok (.iload_n 2, 1) := by decide +kernel
theorem dX8_resident_14 : decode cX8_resident 14 = .ok (.iconst 1, 1) := by decide +kernel
theorem dX8_resident_15 : decode cX8_resident 15 = .ok (.invokevirtual 237, 3) := by decide +kernel
theorem dX8_resident_18 : decode cX8_resident 18 = .ok (.invokestatic 214, 3) := by decide +kernel
theorem dX8_resident_21 : decode cX8_resident 21 = .ok (.istore 4, 2) := by decide +kernel
theorem dX8_resident_23 : decode cX8_resident 23 = .ok (.iload_n 3, 1) := by decide +kernel
theorem dX8_resident_24 : decode cX8_resident 24 = .ok (.aload_n 0, 1) := by decide +kernel
theorem dX8_resident_25 : decode cX8_resident 25 = .ok (.getfield 134, 3) := by decide +kernel
theorem dX8_resident_28 : decode cX8_resident 28 = .ok (.if_icmp .gt 22, 3) := by decide +kernel
theorem dX8_resident_31 : decode cX8_resident 31 = .ok (.iload 4, 2) := by decide +kernel
theorem dX8_resident_33 : decode cX8_resident 33 = .ok (.aload_n 0, 1) := by decide +kernel
theorem dX8_resident_34 : decode cX8_resident 34 = .ok (.getfield 134, 3) := by decide +kernel
theorem dX8_resident_37 : decode cX8_resident 37 = .ok (.if_icmp .gt 9, 3) := by decide +kernel
theorem dX8_resident_40 : decode cX8_resident 40 = .ok (.iload_n 3, 1) := by decide +kernel
theorem dX8_resident_41 : decode cX8_resident 41 = .ok (.iload 4, 2) := by decide +kernel
theorem dX8_resident_43 : decode cX8_resident 43 = .ok (.if_icmp .lt 7, 3) := by decide +kernel
theorem dX8_resident_46 : decode cX8_resident 46 = .ok (.iconst 0, 1) := by decide +kernel
theorem dX8_resident_47 : decode cX8_resident 47 = .ok (.goto 17, 3) := by decide +kernel
theorem dX8_resident_50 : decode cX8_resident 50 = .ok (.iload 4, 2) := by decide +kernel
theorem dX8_resident_52 : decode cX8_resident 52 = .ok (.aload_n 0, 1) := by decide +kernel
theorem dX8_resident_53 : decode cX8_resident 53 = .ok (.getfield 134, 3) := by decide +kernel
theorem dX8_resident_56 : decode cX8_resident 56 = .ok (.if_icmp .gt 7, 3) := by decide +kernel
theorem dX8_resident_59 : decode cX8_resident 59 = .ok (.iconst 1, 1) := by decide +kernel
theorem dX8_resident_60 : decode cX8_resident 60 = .ok (.goto 4, 3) := by decide +kernel
theorem dX8_resident_63 : decode cX8_resident 63 = .ok (.iconst (-1), 1) := by decide +kernel
theorem dX8_resident_64 : decode cX8_resident 64 = .ok (.istore 5, 2) := by decide +kernel
theorem dX8_resident_66 : decode cX8_resident 66 = .ok (.iload 5, 2) := by decide +kernel
theorem dX8_resident_68 : decode cX8_resident 68 = .ok (.iconst (-1), 1) := by decide +kernel
theorem dX8_resident_69 : decode cX8_resident 69 = .ok (.if_icmp .eq 17, 3) := by decide +kernel
theorem dX8_resident_72 : decode cX8_resident 72 = .ok (.aload_n 0, 1) := by decide +kernel
theorem dX8_resident_73 : decode cX8_resident 73 = .ok (.iload_n 1, 1) := by decide +kernel
theorem dX8_resident_74 : decode cX8_resident 74 = .ok (.iload 5, 2) := by decide +kernel
theorem dX8_resident_76 : decode cX8_resident 76 = .ok (.invokevirtual 240, 3) := by decide +kernel
theorem dX8_resident_79 : decode cX8_resident 79 = .ok (.ifCond .ne 7, 3) := by decide +kernel
theorem dX8_resident_82 : decode cX8_resident 82 = .ok (.iconst (-1), 1) := by decide +kernel
theorem dX8_resident_83 : decode cX8_resident 83 = .ok (.goto 5, 3) := by decide +kernel
theorem dX8_resident_86 : decode cX8_resident 86 = .ok (.iload 5, 2) := by decide +kernel
theorem dX8_resident_88 : decode cX8_resident 88 = .ok (.ireturn, 1) := by decide +kernel
theorem dX8_splitNow_0 : decode cX8_splitNow 0 = .ok (.aload_n 0, 1) := by decide +kernel
theorem dX8_splitNow_1 : decode cX8_splitNow 1 = .ok (.dup, 1) := by decide +kernel
theorem dX8_splitNow_2 : decode cX8_splitNow 2 = .ok (.getfield 243, 3) := by decide +kernel
theorem dX8_splitNow_5 : decode cX8_splitNow 5 = .ok (.iconst 1, 1) := by decide +kernel
theorem dX8_splitNow_6 : decode cX8_splitNow 6 = .ok (.iadd, 1) := by decide +kernel
theorem dX8_splitNow_7 : decode cX8_splitNow 7 = .ok (.putfield 243, 3) := by decide +kernel
theorem dX8_splitNow_10 : decode cX8_splitNow 10 = .ok (.aload_n 0, 1) := by decide +kernel
theorem dX8_splitNow_11 : decode cX8_splitNow 11 = .ok (.iconst 2, 1) := by decide +kernel
theorem dX8_splitNow_12 : decode cX8_splitNow 12 = .ok (.invokevirtual 246, 3) := by decide +kernel
theorem dX8_splitNow_15 : decode cX8_splitNow 15 = .ok (.aload_n 0, 1) := by decide +kernel
theorem dX8_splitNow_16 : decode cX8_splitNow 16 = .ok (.getfield 57, 3) := by decide +kernel
theorem dX8_splitNow_19 : decode cX8_splitNow 19 = .ok (.iload_n 1, 1) := by decide +kernel
theorem dX8_splitNow_20 : decode cX8_splitNow 20 = .ok (.iconst 0, 1) := by decide +kernel
theorem dX8_splitNow_21 : decode cX8_splitNow 21 = .ok (.iastore, 1) := by decide +kernel
theorem dX8_splitNow_22 : decode cX8_splitNow 22 = .ok (.aload_n 0, 1) := by decide +kernel
theorem dX8_splitNow_23 : decode cX8_splitNow 23 = .ok (.getfield 63, 3) := by decide +kernel
theorem dX8_splitNow_26 : decode cX8_splitNow 26 = .ok (.iload_n 1, 1) := by decide +kernel
theorem dX8_splitNow_27 : decode cX8_splitNow 27 = .ok (.iconst 0, 1) := by decide +kernel
theorem dX8_splitNow_28 : decode cX8_splitNow 28 = .ok (.iastore, 1) := by decide +kernel
theorem dX8_splitNow_29 : decode cX8_splitNow 29 = .ok (.aload_n 0, 1) := by decide +kernel
theorem dX8_splitNow_30 : decode cX8_splitNow 30 = .ok (.getfield 60, 3) := by decide +kernel
theorem dX8_splitNow_33 : decode cX8_splitNow 33 = .ok (.iload_n 1, 1) := by decide +kernel
theorem dX8_splitNow_34 : decode cX8_splitNow 34 = .ok (.aload_n 0, 1) := by decide +kernel
theorem dX8_splitNow_35 : decode cX8_splitNow 35 = .ok (.iload_n 1, 1) := by decide +kernel
theorem dX8_splitNow_36 : decode cX8_splitNow 36 = .ok (.iload_n 2, 1) := by decide +kernel
theorem dX8_splitNow_37 : decode cX8_splitNow 37 = .ok (.invokevirtual 249, 3) := by decide +kernel
theorem dX8_splitNow_40 : decode cX8_splitNow 40 = .ok (.iastore, 1) := by decide +kernel
theorem dX8_splitNow_41 : decode cX8_splitNow 41 = .ok (.iconst 0, 1) := by decide +kernel
theorem dX8_splitNow_42 : decode cX8_splitNow 42 = .ok (.istore_n 3, 1) := by decide +kernel
theorem dX8_splitNow_43 : decode cX8_splitNow 43 = .ok (.iload_n 3, 1) := by decide +kernel
theorem dX8_splitNow_44 : decode cX8_splitNow 44 = .ok (.iconst 2, 1) := by decide +kernel
theorem dX8_splitNow_45 : decode cX8_splitNow 45 = .ok (.if_icmp .ge 63, 3) := by decide +kernel
theorem dX8_splitNow_48 : decode cX8_splitNow 48 = .ok (.iload_n 3, 1) := by decide +kernel
theorem dX8_splitNow_49 : decode cX8_splitNow 49 = .ok (.aload_n 0, 1) := by decide +kernel
theorem dX8_splitNow_50 : decode cX8_splitNow 50 = .ok (.getfield 60, 3) := by decide +kernel
theorem dX8_splitNow_53 : decode cX8_splitNow 53 = .ok (.iload_n 1, 1) := by decide +kernel
theorem dX8_splitNow_54 : decode cX8_splitNow 54 = .ok (.iaload, 1) := by decide +kernel
theorem dX8_splitNow_55 : decode cX8_splitNow 55 = .ok (.if_icmp .eq 47, 3) := by decide +kernel
theorem dX8_splitNow_58 : decode cX8_splitNow 58 = .ok (.aload_n 0, 1) := by decide +kernel
theorem dX8_splitNow_59 : decode cX8_splitNow 59 = .ok (.iload_n 1, 1) := by decide +kernel
theorem dX8_splitNow_60 : decode cX8_splitNow 60 = .ok (.iload_n 3, 1) := by decide +kernel
theorem dX8_splitNow_61 : decode cX8_splitNow 61 = .ok (.invokevirtual 240, 3) := by decide +kernel
theorem dX8_splitNow_64 : decode cX8_splitNow 64 = .ok (.ifCond .le 38, 3) := by decide +kernel
theorem dX8_splitNow_67 : decode cX8_splitNow 67 = .ok (.aload_n 0, 1) := by decide +kernel
theorem dX8_splitNow_68 : decode cX8_splitNow 68 = .ok (.iconst 3, 1) := by decide +kernel
theorem dX8_splitNow_69 : decode cX8_splitNow 69 = .ok (.invokevirtual 246, 3) := by decide +kernel
theorem dX8_splitNow_72 : decode cX8_splitNow 72 = .ok (.aload_n 0, 1) := by decide +kernel
theorem dX8_splitNow_73 : decode cX8_splitNow 73 = .ok (.iconst 3, 1) := by decide +kernel
theorem dX8_splitNow_74 : decode cX8_splitNow 74 = .ok (.invokevirtual 246, 3) := by decide +kernel
theorem dX8_splitNow_77 : decode cX8_splitNow 77 = .ok (.aload_n 0, 1) := by decide +kernel
theorem dX8_splitNow_78 : decode cX8_splitNow 78 = .ok (.getfield 63, 3) := by decide +kernel
theorem dX8_splitNow_81 : decode cX8_splitNow 81 = .ok (.iload_n 1, 1) := by decide +kernel
theorem dX8_splitNow_82 : decode cX8_splitNow 82 = .ok (.dup2, 1) := by decide +kernel
theorem dX8_splitNow_83 : decode cX8_splitNow 83 = .ok (.iaload, 1) := by decide +kernel
theorem dX8_splitNow_84 : decode cX8_splitNow 84 = .ok (.iconst 2, 1) := by decide +kernel
theorem dX8_splitNow_85 : decode cX8_splitNow 85 = .ok (.iadd, 1) := by decide +kernel
theorem dX8_splitNow_86 : decode cX8_splitNow 86 = .ok (.iastore, 1) := by decide +kernel
theorem dX8_splitNow_87 : decode cX8_splitNow 87 = .ok (.aload_n 0, 1) := by decide +kernel
theorem dX8_splitNow_88 : decode cX8_splitNow 88 = .ok (.dup, 1) := by decide +kernel
theorem dX8_splitNow_89 : decode cX8_splitNow 89 = .ok (.getfield 252, 3) := by decide +kernel
theorem dX8_splitNow_92 : decode cX8_splitNow 92 = .ok (.aload_n 0, 1) := by decide +kernel
theorem dX8_splitNow_93 : decode cX8_splitNow 93 = .ok (.iload_n 1, 1) := by decide +kernel
theorem dX8_splitNow_94 : decode cX8_splitNow 94 = .ok (.iload_n 3, 1) := by decide +kernel
theorem dX8_splitNow_95 : decode cX8_splitNow 95 = .ok (.invokevirtual 240, 3) := by decide +kernel
theorem dX8_splitNow_98 : decode cX8_splitNow 98 = .ok (.iadd, 1) := by decide +kernel
theorem dX8_splitNow_99 : decode cX8_splitNow 99 = .ok (.putfield 252, 3) := by decide +kernel
theorem dX8_splitNow_102 : decode cX8_splitNow 102 = .ok (.iinc 3 1, 3) := by decide +kernel
theorem dX8_splitNow_105 : decode cX8_splitNow 105 = .ok (.goto (-62), 3) := by decide +kernel
theorem dX8_splitNow_108 : decode cX8_splitNow 108 = .ok (.aload_n 0, 1) := by decide +kernel
theorem dX8_splitNow_109 : decode cX8_splitNow 109 = .ok (.getfield 60, 3) := by decide +kernel
theorem dX8_splitNow_112 : decode cX8_splitNow 112 = .ok (.iload_n 1, 1) := by decide +kernel
theorem dX8_splitNow_113 : decode cX8_splitNow 113 = .ok (.iaload, 1) := by decide +kernel
theorem dX8_splitNow_114 : decode cX8_splitNow 114 = .ok (.istore_n 3, 1) := by decide +kernel
theorem dX8_splitNow_115 : decode cX8_splitNow 115 = .ok (.iload_n 3, 1) := by decide +kernel
theorem dX8_splitNow_116 : decode cX8_splitNow 116 = .ok (.iconst (-1), 1) := by decide +kernel
theorem dX8_splitNow_117 : decode cX8_splitNow 117 = .ok (.if_icmp .eq 24, 3) := by decide +kernel
theorem dX8_splitNow_120 : decode cX8_splitNow 120 = .ok (.aload_n 0, 1) := by decide +kernel
theorem dX8_splitNow_121 : decode cX8_splitNow 121 = .ok (.iload_n 2, 1) := by decide +kernel
theorem dX8_splitNow_122 : decode cX8_splitNow 122 = .ok (.aload_n 0, 1) := by decide +kernel
theorem dX8_splitNow_123 : decode cX8_splitNow 123 = .ok (.iload_n 1, 1) := by decide +kernel
theorem dX8_splitNow_124 : decode cX8_splitNow 124 = .ok (.iload_n 2, 1) := by decide +kernel
theorem dX8_splitNow_125 : decode cX8_splitNow 125 = .ok (.iload_n 3, 1) := by decide +kernel
theorem dX8_splitNow_126 : decode cX8_splitNow 126 = .ok (.invokevirtual 237, 3) := by decide +kernel
theorem dX8_splitNow_129 : decode cX8_splitNow 129 = .ok (.aload_n 0, 1) := by decide +kernel
theorem dX8_splitNow_130 : decode cX8_splitNow 130 = .ok (.iload_n 1, 1) := by decide +kernel
theorem dX8_splitNow_131 : decode cX8_splitNow 131 = .ok (.iconst 1, 1) := by decide +kernel
theorem dX8_splitNow_132 : decode cX8_splitNow 132 = .ok (.iload_n 2, 1) := by decide +kernel
theorem dX8_splitNow_133 : decode cX8_splitNow 133 = .ok (.isub, 1) := by decide +kernel
theorem dX8_splitNow_134 : decode cX8_splitNow 134 = .ok (.iload_n 3, 1) := by decide +kernel
theorem dX8_splitNow_135 : decode cX8_splitNow 135 = .ok (.invokevirtual 237, 3) := by decide +kernel
theorem dX8_splitNow_138 : decode cX8_splitNow 138 = .ok (.invokevirtual 255, 3) := by decide +kernel
theorem dX8_splitNow_141 : decode cX8_splitNow 141 = .ok (.return_, 1) := by decide +kernel
theorem dX8_turn_0 : decode cX8_turn 0 = .ok (.iload_n 2, 1) := by decide +kernel
theorem dX8_turn_1 : decode cX8_turn 1 = .ok (.invokestatic 214, 3) := by decide +kernel
theorem dX8_turn_4 : decode cX8_turn 4 = .ok (.iload_n 3, 1) := by decide +kernel
theorem dX8_turn_5 : decode cX8_turn 5 = .ok (.invokestatic 214, 3) := by decide +kernel
theorem dX8_turn_8 : decode cX8_turn 8 = .ok (.if_icmp .ge 7, 3) := by decide +kernel
theorem dX8_turn_11 : decode cX8_turn 11 = .ok (.iconst 0, 1) := by decide +kernel
theorem dX8_turn_12 : decode cX8_turn 12 = .ok (.goto 4, 3) := by decide +kernel
theorem dX8_turn_15 : decode cX8_turn 15 = .ok (.iconst 1, 1) := by decide +kernel
theorem dX8_turn_16 : decode cX8_turn 16 = .ok (.istore 4, 2) := by decide +kernel
theorem dX8_turn_18 : decode cX8_turn 18 = .ok (.iload 4, 2) := by decide +kernel
theorem dX8_turn_20 : decode cX8_turn 20 = .ok (.ifCond .ne 7, 3) := by decide +kernel
theorem dX8_turn_23 : decode cX8_turn 23 = .ok (.iload_n 2, 1) := by decide +kernel
theorem dX8_turn_24 : decode cX8_turn 24 = .ok (.goto 4, 3) := by decide +kernel
theorem dX8_turn_27 : decode cX8_turn 27 = .ok (.iload_n 3, 1) := by decide +kernel
theorem dX8_turn_28 : decode cX8_turn 28 = .ok (.istore 5, 2) := by decide +kernel
theorem dX8_turn_30 : decode cX8_turn 30 = .ok (.iload 4, 2) := by decide +kernel
theorem dX8_turn_32 : decode cX8_turn 32 = .ok (.ifCond .ne 7, 3) := by decide +kernel
theorem dX8_turn_35 : decode cX8_turn 35 = .ok (.iload_n 3, 1) := by decide +kernel
theorem dX8_turn_36 : decode cX8_turn 36 = .ok (.goto 4, 3) := by decide +kernel
theorem dX8_turn_39 : decode cX8_turn 39 = .ok (.iload_n 2, 1) := by decide +kernel
theorem dX8_turn_40 : decode cX8_turn 40 = .ok (.istore 6, 2) := by decide +kernel
theorem dX8_turn_42 : decode cX8_turn 42 = .ok (.aload_n 0, 1) := by decide +kernel
theorem dX8_turn_43 : decode cX8_turn 43 = .ok (.iload_n 1, 1) := by decide +kernel
theorem dX8_turn_44 : decode cX8_turn 44 = .ok (.aload_n 0, 1) := by decide +kernel
theorem dX8_turn_45 : decode cX8_turn 45 = .ok (.getfield 258, 3) := by decide +kernel
theorem dX8_turn_48 : decode cX8_turn 48 = .ok (.if_icmp .le 7, 3) := by decide +kernel
theorem dX8_turn_51 : decode cX8_turn 51 = .ok (.iload_n 1, 1) := by decide +kernel
theorem dX8_turn_52 : decode cX8_turn 52 = .ok (.goto 7, 3) := by decide +kernel
theorem dX8_turn_55 : decode cX8_turn 55 = .ok (.aload_n 0, 1) := by decide +kernel
theorem dX8_turn_56 : decode cX8_turn 56 = .ok (.getfield 258, 3) := by decide +kernel
theorem dX8_turn_59 : decode cX8_turn 59 = .ok (.putfield 258, 3) := by decide +kernel
theorem dX8_turn_62 : decode cX8_turn 62 = .ok (.aload_n 0, 1) := by decide +kernel
theorem dX8_turn_63 : decode cX8_turn 63 = .ok (.dup, 1) := by decide +kernel
theorem dX8_turn_64 : decode cX8_turn 64 = .ok (.getfield 261, 3) := by decide +kernel
theorem dX8_turn_67 : decode cX8_turn 67 = .ok (.iload 4, 2) := by decide +kernel
theorem dX8_turn_69 : decode cX8_turn 69 = .ok (.ifCond .ne 7, 3) := by decide +kernel
theorem dX8_turn_72 : decode cX8_turn 72 = .ok (.iconst 1, 1) := by decide +kernel
theorem dX8_turn_73 : decode cX8_turn 73 = .ok (.goto 4, 3) := by decide +kernel
theorem dX8_turn_76 : decode cX8_turn 76 = .ok (.iconst 0, 1) := by decide +kernel
theorem dX8_turn_77 : decode cX8_turn 77 = .ok (.iadd, 1) := by decide +kernel
theorem dX8_turn_78 : decode cX8_turn 78 = .ok (.putfield 261, 3) := by decide +kernel
theorem dX8_turn_81 : decode cX8_turn 81 = .ok (.iload 5, 2) := by decide +kernel
theorem dX8_turn_83 : decode cX8_turn 83 = .ok (.invokestatic 214, 3) := by decide +kernel
theorem dX8_turn_86 : decode cX8_turn 86 = .ok (.aload_n 0, 1) := by decide +kernel
theorem dX8_turn_87 : decode cX8_turn 87 = .ok (.getfield 134, 3) := by decide +kernel
theorem dX8_turn_90 : decode cX8_turn 90 = .ok (.if_icmp .gt 31, 3) := by decide +kernel
theorem dX8_turn_93 : decode cX8_turn 93 = .ok (.aload_n 0, 1) := by decide +kernel
theorem dX8_turn_94 : decode cX8_turn 94 = .ok (.dup, 1) := by decide +kernel
theorem dX8_turn_95 : decode cX8_turn 95 = .ok (.getfield 264, 3) := by decide +kernel
theorem dX8_turn_98 : decode cX8_turn 98 = .ok (.iconst 1, 1) := by decide +kernel
theorem dX8_turn_99 : decode cX8_turn 99 = .ok (.iadd, 1) := by decide +kernel
theorem dX8_turn_100 : decode cX8_turn 100 = .ok (.putfield 264, 3) := by decide +kernel
theorem dX8_turn_103 : decode cX8_turn 103 = .ok (.aload_n 0, 1) := by decide +kernel
theorem dX8_turn_104 : decode cX8_turn 104 = .ok (.iconst 0, 1) := by decide +kernel
theorem dX8_turn_105 : decode cX8_turn 105 = .ok (.invokevirtual 246, 3) := by decide +kernel
theorem dX8_turn_108 : decode cX8_turn 108 = .ok (.aload_n 0, 1) := by decide +kernel
theorem dX8_turn_109 : decode cX8_turn 109 = .ok (.iload 4, 2) := by decide +kernel
theorem dX8_turn_111 : decode cX8_turn 111 = .ok (.iload 5, 2) := by decide +kernel
theorem dX8_turn_113 : decode cX8_turn 113 = .ok (.iload 6, 2) := by decide +kernel
theorem dX8_turn_115 : decode cX8_turn 115 = .ok (.invokevirtual 255, 3) := by decide +kernel
theorem dX8_turn_118 : decode cX8_turn 118 = .ok (.goto 70, 3) := by decide +kernel
theorem dX8_turn_121 : decode cX8_turn 121 = .ok (.iload_n 1, 1) := by decide +kernel
theorem dX8_turn_122 : decode cX8_turn 122 = .ok (.iconst 4, 1) := by decide +kernel
theorem dX8_turn_123 : decode cX8_turn 123 = .ok (.if_icmp .eq 14, 3) := by decide +kernel
theorem dX8_turn_126 : decode cX8_turn 126 = .ok (.aload_n 0, 1) := by decide +kernel
theorem dX8_turn_127 : decode cX8_turn 127 = .ok (.iload 4, 2) := by decide +kernel
theorem dX8_turn_129 : decode cX8_turn 129 = .ok (.iload 5, 2) := by decide +kernel
theorem dX8_turn_131 : decode cX8_turn 131 = .ok (.invokevirtual 267, 3) := by decide +kernel
theorem dX8_turn_134 : decode cX8_turn 134 = .ok (.ifCond .eq 31, 3) := by decide +kernel
theorem dX8_turn_137 : decode cX8_turn 137 = .ok (.aload_n 0, 1) := by decide +kernel
theorem dX8_turn_138 : decode cX8_turn 138 = .ok (.dup, 1) := by decide +kernel
theorem dX8_turn_139 : decode cX8_turn 139 = .ok (.getfield 270, 3) := by decide +kernel
theorem dX8_turn_142 : decode cX8_turn 142 = .ok (.iconst 1, 1) := by decide +kernel
theorem dX8_turn_143 : decode cX8_turn 143 = .ok (.iadd, 1) := by decide +kernel
theorem dX8_turn_144 : decode cX8_turn 144 = .ok (.putfield 270, 3) := by decide +kernel
theorem dX8_turn_147 : decode cX8_turn 147 = .ok (.aload_n 0, 1) := by decide +kernel
theorem dX8_turn_148 : decode cX8_turn 148 = .ok (.iconst 1, 1) := by decide +kernel
theorem dX8_turn_149 : decode cX8_turn 149 = .ok (.invokevirtual 246, 3) := by decide +kernel
theorem dX8_turn_152 : decode cX8_turn 152 = .ok (.aload_n 0, 1) := by decide +kernel
theorem dX8_turn_153 : decode cX8_turn 153 = .ok (.iload 4, 2) := by decide +kernel
theorem dX8_turn_155 : decode cX8_turn 155 = .ok (.iload 5, 2) := by decide +kernel
theorem dX8_turn_157 : decode cX8_turn 157 = .ok (.iload 6, 2) := by decide +kernel
theorem dX8_turn_159 : decode cX8_turn 159 = .ok (.invokevirtual 273, 3) := by decide +kernel
theorem dX8_turn_162 : decode cX8_turn 162 = .ok (.goto 26, 3) := by decide +kernel
theorem dX8_turn_165 : decode cX8_turn 165 = .ok (.aload_n 0, 1) := by decide +kernel
theorem dX8_turn_166 : decode cX8_turn 166 = .ok (.getfield 51, 3) := by decide +kernel
theorem dX8_turn_169 : decode cX8_turn 169 = .ok (.iload_n 1, 1) := by decide +kernel
theorem dX8_turn_170 : decode cX8_turn 170 = .ok (.iload_n 2, 1) := by decide +kernel
theorem dX8_turn_171 : decode cX8_turn 171 = .ok (.iastore, 1) := by decide +kernel
theorem dX8_turn_172 : decode cX8_turn 172 = .ok (.aload_n 0, 1) := by decide +kernel
theorem dX8_turn_173 : decode cX8_turn 173 = .ok (.getfield 54, 3) := by decide +kernel
theorem dX8_turn_176 : decode cX8_turn 176 = .ok (.iload_n 1, 1) := by decide +kernel
theorem dX8_turn_177 : decode cX8_turn 177 = .ok (.iload_n 3, 1) := by decide +kernel
theorem dX8_turn_178 : decode cX8_turn 178 = .ok (.iastore, 1) := by decide +kernel
theorem dX8_turn_179 : decode cX8_turn 179 = .ok (.aload_n 0, 1) := by decide +kernel
theorem dX8_turn_180 : decode cX8_turn 180 = .ok (.iload_n 1, 1) := by decide +kernel
theorem dX8_turn_181 : decode cX8_turn 181 = .ok (.iload 4, 2) := by decide +kernel
theorem dX8_turn_183 : decode cX8_turn 183 = .ok (.invokevirtual 276, 3) := by decide +kernel
theorem dX8_turn_186 : decode cX8_turn 186 = .ok (.iconst 1, 1) := by decide +kernel
theorem dX8_turn_187 : decode cX8_turn 187 = .ok (.ireturn, 1) := by decide +kernel
theorem dX8_turn_188 : decode cX8_turn 188 = .ok (.aload_n 0, 1) := by decide +kernel
theorem dX8_turn_189 : decode cX8_turn 189 = .ok (.getfield 183, 3) := by decide +kernel
theorem dX8_turn_192 : decode cX8_turn 192 = .ok (.ifCond .ne 7, 3) := by decide +kernel
theorem dX8_turn_195 : decode cX8_turn 195 = .ok (.aload_n 0, 1) := by decide +kernel
theorem dX8_turn_196 : decode cX8_turn 196 = .ok (.invokevirtual 279, 3) := by decide +kernel
theorem dX8_turn_199 : decode cX8_turn 199 = .ok (.iconst 0, 1) := by decide +kernel
theorem dX8_turn_200 : decode cX8_turn 200 = .ok (.ireturn, 1) := by decide +kernel
theorem dX8_shutPart_0 : decode cX8_shutPart 0 = .ok (.iconst 0, 1) := by decide +kernel
theorem dX8_shutPart_1 : decode cX8_shutPart 1 = .ok (.istore_n 2, 1) := by decide +kernel
theorem dX8_shutPart_2 : decode cX8_shutPart 2 = .ok (.iload_n 2, 1) := by decide +kernel
theorem dX8_shutPart_3 : decode cX8_shutPart 3 = .ok (.aload_n 0, 1) := by decide +kernel
theorem dX8_shutPart_4 : decode cX8_shutPart 4 = .ok (.getfield 63, 3) := by decide +kernel
theorem dX8_shutPart_7 : decode cX8_shutPart 7 = .ok (.iload_n 1, 1) := by decide +kernel
theorem dX8_shutPart_8 : decode cX8_shutPart 8 = .ok (.iaload, 1) := by decide +kernel
theorem dX8_shutPart_9 : decode cX8_shutPart 9 = .ok (.if_icmp .ge 13, 3) := by decide +kernel
theorem dX8_shutPart_12 : decode cX8_shutPart 12 = .ok (.aload_n 0, 1) := by decide +kernel
theorem dX8_shutPart_13 : decode cX8_shutPart 13 = .ok (.invokevirtual 279, 3) := by decide +kernel
theorem dX8_shutPart_16 : decode cX8_shutPart 16 = .ok (.iinc 2 1, 3) := by decide +kernel
theorem dX8_shutPart_19 : decode cX8_shutPart 19 = .ok (.goto (-17), 3) := by decide +kernel
theorem dX8_shutPart_22 : decode cX8_shutPart 22 = .ok (.aload_n 0, 1) := by decide +kernel
theorem dX8_shutPart_23 : decode cX8_shutPart 23 = .ok (.invokevirtual 279, 3) := by decide +kernel
theorem dX8_shutPart_26 : decode cX8_shutPart 26 = .ok (.return_, 1) := by decide +kernel
theorem dX8_nextHalf_0 : decode cX8_nextHalf 0 = .ok (.aload_n 0, 1) := by decide +kernel
theorem dX8_nextHalf_1 : decode cX8_nextHalf 1 = .ok (.getfield 57, 3) := by decide +kernel
theorem dX8_nextHalf_4 : decode cX8_nextHalf 4 = .ok (.iload_n 1, 1) := by decide +kernel
theorem dX8_nextHalf_5 : decode cX8_nextHalf 5 = .ok (.iaload, 1) := by decide +kernel
theorem dX8_nextHalf_6 : decode cX8_nextHalf 6 = .ok (.istore_n 2, 1) := by decide +kernel
theorem dX8_nextHalf_7 : decode cX8_nextHalf 7 = .ok (.iload_n 2, 1) := by decide +kernel
theorem dX8_nextHalf_8 : decode cX8_nextHalf 8 = .ok (.iconst 2, 1) := by decide +kernel
theorem dX8_nextHalf_9 : decode cX8_nextHalf 9 = .ok (.if_icmp .ge 28, 3) := by decide +kernel
theorem dX8_nextHalf_12 : decode cX8_nextHalf 12 = .ok (.iload_n 2, 1) := by decide +kernel
theorem dX8_nextHalf_13 : decode cX8_nextHalf 13 = .ok (.aload_n 0, 1) := by decide +kernel
theorem dX8_nextHalf_14 : decode cX8_nextHalf 14 = .ok (.getfield 60, 3) := by decide +kernel
theorem dX8_nextHalf_17 : decode cX8_nextHalf 17 = .ok (.iload_n 1, 1) := by decide +kernel
theorem dX8_nextHalf_18 : decode cX8_nextHalf 18 = .ok (.iaload, 1) := by decide +kernel
theorem dX8_nextHalf_19 : decode cX8_nextHalf 19 = .ok (.if_icmp .eq 12, 3) := by decide +kernel
theorem dX8_nextHalf_22 : decode cX8_nextHalf 22 = .ok (.aload_n 0, 1) := by decide +kernel
theorem dX8_nextHalf_23 : decode cX8_nextHalf 23 = .ok (.iload_n 1, 1) := by decide +kernel
theorem dX8_nextHalf_24 : decode cX8_nextHalf 24 = .ok (.iload_n 2, 1) := by decide +kernel
theorem dX8_nextHalf_25 : decode cX8_nextHalf 25 = .ok (.invokevirtual 240, 3) := by decide +kernel
theorem dX8_nextHalf_28 : decode cX8_nextHalf 28 = .ok (.ifCond .ne 9, 3) := by decide +kernel
theorem dX8_nextHalf_31 : decode cX8_nextHalf 31 = .ok (.iinc 2 1, 3) := by decide +kernel
theorem dX8_nextHalf_34 : decode cX8_nextHalf 34 = .ok (.goto (-27), 3) := by decide +kernel
theorem dX8_nextHalf_37 : decode cX8_nextHalf 37 = .ok (.aload_n 0, 1) := by decide +kernel
theorem dX8_nextHalf_38 : decode cX8_nextHalf 38 = .ok (.getfield 57, 3) := by decide +kernel
theorem dX8_nextHalf_41 : decode cX8_nextHalf 41 = .ok (.iload_n 1, 1) := by decide +kernel
theorem dX8_nextHalf_42 : decode cX8_nextHalf 42 = .ok (.iload_n 2, 1) := by decide +kernel
theorem dX8_nextHalf_43 : decode cX8_nextHalf 43 = .ok (.iconst 1, 1) := by decide +kernel
theorem dX8_nextHalf_44 : decode cX8_nextHalf 44 = .ok (.iadd, 1) := by decide +kernel
theorem dX8_nextHalf_45 : decode cX8_nextHalf 45 = .ok (.iastore, 1) := by decide +kernel
theorem dX8_nextHalf_46 : decode cX8_nextHalf 46 = .ok (.iload_n 2, 1) := by decide +kernel
theorem dX8_nextHalf_47 : decode cX8_nextHalf 47 = .ok (.iconst 2, 1) := by decide +kernel
theorem dX8_nextHalf_48 : decode cX8_nextHalf 48 = .ok (.if_icmp .ge 7, 3) := by decide +kernel
theorem dX8_nextHalf_51 : decode cX8_nextHalf 51 = .ok (.iload_n 2, 1) := by decide +kernel
theorem dX8_nextHalf_52 : decode cX8_nextHalf 52 = .ok (.goto 4, 3) := by decide +kernel
theorem dX8_nextHalf_55 : decode cX8_nextHalf 55 = .ok (.iconst (-1), 1) := by decide +kernel
theorem dX8_nextHalf_56 : decode cX8_nextHalf 56 = .ok (.ireturn, 1) := by decide +kernel
theorem dX8_withKeys_0 : decode cX8_withKeys 0 = .ok (.iconst 0, 1) := by decide +kernel
theorem dX8_withKeys_1 : decode cX8_withKeys 1 = .ok (.istore_n 3, 1) := by decide +kernel
theorem dX8_withKeys_2 : decode cX8_withKeys 2 = .ok (.iconst 0, 1) := by decide +kernel
theorem dX8_withKeys_3 : decode cX8_withKeys 3 = .ok (.istore 4, 2) := by decide +kernel
theorem dX8_withKeys_5 : decode cX8_withKeys 5 = .ok (.iload 4, 2) := by decide +kernel
theorem dX8_withKeys_7 : decode cX8_withKeys 7 = .ok (.aload_n 0, 1) := by decide +kernel
theorem dX8_withKeys_8 : decode cX8_withKeys 8 = .ok (.getfield 17, 3) := by decide +kernel
theorem dX8_withKeys_11 : decode cX8_withKeys 11 = .ok (.iload_n 1, 1) := by decide +kernel
theorem dX8_withKeys_12 : decode cX8_withKeys 12 = .ok (.iaload, 1) := by decide +kernel
theorem dX8_withKeys_13 : decode cX8_withKeys 13 = .ok (.if_icmp .ge 40, 3) := by decide +kernel
theorem dX8_withKeys_16 : decode cX8_withKeys 16 = .ok (.iload_n 3, 1) := by decide +kernel
theorem dX8_withKeys_17 : decode cX8_withKeys 17 = .ok (.aload_n 0, 1) := by decide +kernel
theorem dX8_withKeys_18 : decode cX8_withKeys 18 = .ok (.iload_n 1, 1) := by decide +kernel
theorem dX8_withKeys_19 : decode cX8_withKeys 19 = .ok (.iload 4, 2) := by decide +kernel
theorem dX8_withKeys_21 : decode cX8_withKeys 21 = .ok (.invokevirtual 152, 3) := by decide +kernel
theorem dX8_withKeys_24 : decode cX8_withKeys 24 = .ok (.iconst (-1), 1) := by decide +kernel
theorem dX8_withKeys_25 : decode cX8_withKeys 25 = .ok (.if_icmp .eq 7, 3) := by decide +kernel
theorem dX8_withKeys_28 : decode cX8_withKeys 28 = .ok (.iconst 1, 1) := by decide +kernel
theorem dX8_withKeys_29 : decode cX8_withKeys 29 = .ok (.goto 4, 3) := by decide +kernel
theorem dX8_withKeys_32 : decode cX8_withKeys 32 = .ok (.iconst 0, 1) := by decide +kernel
theorem dX8_withKeys_33 : decode cX8_withKeys 33 = .ok (.iload_n 2, 1) := by decide +kernel
theorem dX8_withKeys_34 : decode cX8_withKeys 34 = .ok (.if_icmp .ne 10, 3) := by decide +kernel
theorem dX8_withKeys_37 : decode cX8_withKeys 37 = .ok (.iconst 1, 1) := by decide +kernel
theorem dX8_withKeys_38 : decode cX8_withKeys 38 = .ok (.iload 4, 2) := by decide +kernel
theorem dX8_withKeys_40 : decode cX8_withKeys 40 = .ok (.ishl, 1) := by decide +kernel
theorem dX8_withKeys_41 : decode cX8_withKeys 41 = .ok (.goto 4, 3) := by decide +kernel
theorem dX8_withKeys_44 : decode cX8_withKeys 44 = .ok (.iconst 0, 1) := by decide +kernel
theorem dX8_withKeys_45 : decode cX8_withKeys 45 = .ok (.ior, 1) := by decide +kernel
theorem dX8_withKeys_46 : decode cX8_withKeys 46 = .ok (.istore_n 3, 1) := by decide +kernel
theorem dX8_withKeys_47 : decode cX8_withKeys 47 = .ok (.iinc 4 1, 3) := by decide +kernel
theorem dX8_withKeys_50 : decode cX8_withKeys 50 = .ok (.goto (-45), 3) := by decide +kernel
theorem dX8_withKeys_53 : decode cX8_withKeys 53 = .ok (.iload_n 3, 1) := by decide +kernel
theorem dX8_withKeys_54 : decode cX8_withKeys 54 = .ok (.ireturn, 1) := by decide +kernel
theorem dX8_clearRun_0 : decode cX8_clearRun 0 = .ok (.aload_n 0, 1) := by decide +kernel
theorem dX8_clearRun_1 : decode cX8_clearRun 1 = .ok (.iconst 0, 1) := by decide +kernel
theorem dX8_clearRun_2 : decode cX8_clearRun 2 = .ok (.putfield 183, 3) := by decide +kernel
theorem dX8_clearRun_5 : decode cX8_clearRun 5 = .ok (.aload_n 0, 1) := by decide +kernel
theorem dX8_clearRun_6 : decode cX8_clearRun 6 = .ok (.iconst 0, 1) := by decide +kernel
theorem dX8_clearRun_7 : decode cX8_clearRun 7 = .ok (.putfield 199, 3) := by decide +kernel
theorem dX8_clearRun_10 : decode cX8_clearRun 10 = .ok (.aload_n 0, 1) := by decide +kernel
theorem dX8_clearRun_11 : decode cX8_clearRun 11 = .ok (.iconst 0, 1) := by decide +kernel
theorem dX8_clearRun_12 : decode cX8_clearRun 12 = .ok (.putfield 186, 3) := by decide +kernel
theorem dX8_clearRun_15 : decode cX8_clearRun 15 = .ok (.aload_n 0, 1) := by decide +kernel
theorem dX8_clearRun_16 : decode cX8_clearRun 16 = .ok (.iconst 0, 1) := by decide +kernel
theorem dX8_clearRun_17 : decode cX8_clearRun 17 = .ok (.putfield 252, 3) := by decide +kernel
theorem dX8_clearRun_20 : decode cX8_clearRun 20 = .ok (.aload_n 0, 1) := by decide +kernel
theorem dX8_clearRun_21 : decode cX8_clearRun 21 = .ok (.iconst 0, 1) := by decide +kernel
theorem dX8_clearRun_22 : decode cX8_clearRun 22 = .ok (.putfield 230, 3) := by decide +kernel
theorem dX8_clearRun_25 : decode cX8_clearRun 25 = .ok (.aload_n 0, 1) := by decide +kernel
theorem dX8_clearRun_26 : decode cX8_clearRun 26 = .ok (.iconst 0, 1) := by decide +kernel
theorem dX8_clearRun_27 : decode cX8_clearRun 27 = .ok (.putfield 205, 3) := by decide +kernel
theorem dX8_clearRun_30 : decode cX8_clearRun 30 = .ok (.aload_n 0, 1) := by decide +kernel
theorem dX8_clearRun_31 : decode cX8_clearRun 31 = .ok (.iconst (-1), 1) := by decide +kernel
theorem dX8_clearRun_32 : decode cX8_clearRun 32 = .ok (.putfield 258, 3) := by decide +kernel
theorem dX8_clearRun_35 : decode cX8_clearRun 35 = .ok (.aload_n 0, 1) := by decide +kernel
theorem dX8_clearRun_36 : decode cX8_clearRun 36 = .ok (.iconst 0, 1) := by decide +kernel
theorem dX8_clearRun_37 : decode cX8_clearRun 37 = .ok (.putfield 264, 3) := by decide +kernel
theorem dX8_clearRun_40 : decode cX8_clearRun 40 = .ok (.aload_n 0, 1) := by decide +kernel
theorem dX8_clearRun_41 : decode cX8_clearRun 41 = .ok (.iconst 0, 1) := by decide +kernel
theorem dX8_clearRun_42 : decode cX8_clearRun 42 = .ok (.putfield 270, 3) := by decide +kernel
theorem dX8_clearRun_45 : decode cX8_clearRun 45 = .ok (.aload_n 0, 1) := by decide +kernel
theorem dX8_clearRun_46 : decode cX8_clearRun 46 = .ok (.iconst 0, 1) := by decide +kernel
theorem dX8_clearRun_47 : decode cX8_clearRun 47 = .ok (.putfield 243, 3) := by decide +kernel
theorem dX8_clearRun_50 : decode cX8_clearRun 50 = .ok (.aload_n 0, 1) := by decide +kernel
theorem dX8_clearRun_51 : decode cX8_clearRun 51 = .ok (.iconst 0, 1) := by decide +kernel
theorem dX8_clearRun_52 : decode cX8_clearRun 52 = .ok (.putfield 261, 3) := by decide +kernel
theorem dX8_clearRun_55 : decode cX8_clearRun 55 = .ok (.aload_n 0, 1) := by decide +kernel
theorem dX8_clearRun_56 : decode cX8_clearRun 56 = .ok (.iconst 0, 1) := by decide +kernel
theorem dX8_clearRun_57 : decode cX8_clearRun 57 = .ok (.putfield 170, 3) := by decide +kernel
theorem dX8_clearRun_60 : decode cX8_clearRun 60 = .ok (.aload_n 0, 1) := by decide +kernel
theorem dX8_clearRun_61 : decode cX8_clearRun 61 = .ok (.iconst 0, 1) := by decide +kernel
theorem dX8_clearRun_62 : decode cX8_clearRun 62 = .ok (.putfield 176, 3) := by decide +kernel
theorem dX8_clearRun_65 : decode cX8_clearRun 65 = .ok (.aload_n 0, 1) := by decide +kernel
theorem dX8_clearRun_66 : decode cX8_clearRun 66 = .ok (.iconst 0, 1) := by decide +kernel
theorem dX8_clearRun_67 : decode cX8_clearRun 67 = .ok (.putfield 173, 3) := by decide +kernel
theorem dX8_clearRun_70 : decode cX8_clearRun 70 = .ok (.return_, 1) := by decide +kernel
theorem dX8_runNow_0 : decode cX8_runNow 0 = .ok (.aload_n 0, 1) := by decide +kernel
theorem dX8_runNow_1 : decode cX8_runNow 1 = .ok (.invokevirtual 282, 3) := by decide +kernel
theorem dX8_runNow_4 : decode cX8_runNow 4 = .ok (.aload_n 0, 1) := by decide +kernel
theorem dX8_runNow_5 : decode cX8_runNow 5 = .ok (.iload_n 1, 1) := by decide +kernel
theorem dX8_runNow_6 : decode cX8_runNow 6 = .ok (.putfield 189, 3) := by decide +kernel
theorem dX8_runNow_9 : decode cX8_runNow 9 = .ok (.aload_n 0, 1) := by decide +kernel
theorem dX8_runNow_10 : decode cX8_runNow 10 = .ok (.iconst 0, 1) := by decide +kernel
theorem dX8_runNow_11 : decode cX8_runNow 11 = .ok (.iconst 1, 1) := by decide +kernel
theorem dX8_runNow_12 : decode cX8_runNow 12 = .ok (.invokevirtual 285, 3) := by decide +kernel
theorem dX8_runNow_15 : decode cX8_runNow 15 = .ok (.istore_n 2, 1) := by decide +kernel
theorem dX8_runNow_16 : decode cX8_runNow 16 = .ok (.aload_n 0, 1) := by decide +kernel
theorem dX8_runNow_17 : decode cX8_runNow 17 = .ok (.iconst 1, 1) := by decide +kernel
theorem dX8_runNow_18 : decode cX8_runNow 18 = .ok (.iconst 1, 1) := by decide +kernel
theorem dX8_runNow_19 : decode cX8_runNow 19 = .ok (.invokevirtual 285, 3) := by decide +kernel
theorem dX8_runNow_22 : decode cX8_runNow 22 = .ok (.istore_n 3, 1) := by decide +kernel
theorem dX8_runNow_23 : decode cX8_runNow 23 = .ok (.iload_n 2, 1) := by decide +kernel
theorem dX8_runNow_24 : decode cX8_runNow 24 = .ok (.iload_n 3, 1) := by decide +kernel
theorem dX8_runNow_25 : decode cX8_runNow 25 = .ok (.ior, 1) := by decide +kernel
theorem dX8_runNow_26 : decode cX8_runNow 26 = .ok (.ifCond .eq 17, 3) := by decide +kernel
theorem dX8_runNow_29 : decode cX8_runNow 29 = .ok (.aload_n 0, 1) := by decide +kernel
theorem dX8_runNow_30 : decode cX8_runNow 30 = .ok (.iconst 0, 1) := by decide +kernel
theorem dX8_runNow_31 : decode cX8_runNow 31 = .ok (.iload_n 2, 1) := by decide +kernel
theorem dX8_runNow_32 : decode cX8_runNow 32 = .ok (.iload_n 3, 1) := by decide +kernel
theorem dX8_runNow_33 : decode cX8_runNow 33 = .ok (.invokevirtual 289, 3) := by decide +kernel
theorem dX8_runNow_36 : decode cX8_runNow 36 = .ok (.ifCond .eq 7, 3) := by decide +kernel
theorem dX8_runNow_39 : decode cX8_runNow 39 = .ok (.iconst 0, 1) := by decide +kernel
theorem dX8_runNow_40 : decode cX8_runNow 40 = .ok (.goto 4, 3) := by decide +kernel
theorem dX8_runNow_43 : decode cX8_runNow 43 = .ok (.iconst (-1), 1) := by decide +kernel
theorem dX8_runNow_44 : decode cX8_runNow 44 = .ok (.istore 4, 2) := by decide +kernel
theorem dX8_runNow_46 : decode cX8_runNow 46 = .ok (.iload 4, 2) := by decide +kernel
theorem dX8_runNow_48 : decode cX8_runNow 48 = .ok (.ifCond .lt 95, 3) := by decide +kernel
theorem dX8_runNow_51 : decode cX8_runNow 51 = .ok (.aload_n 0, 1) := by decide +kernel
theorem dX8_runNow_52 : decode cX8_runNow 52 = .ok (.getfield 183, 3) := by decide +kernel
theorem dX8_runNow_55 : decode cX8_runNow 55 = .ok (.ifCond .ne 88, 3) := by decide +kernel
theorem dX8_runNow_58 : decode cX8_runNow 58 = .ok (.aload_n 0, 1) := by decide +kernel
theorem dX8_runNow_59 : decode cX8_runNow 59 = .ok (.iload 4, 2) := by decide +kernel
theorem dX8_runNow_61 : decode cX8_runNow 61 = .ok (.invokevirtual 292, 3) := by decide +kernel
theorem dX8_runNow_64 : decode cX8_runNow 64 = .ok (.istore 5, 2) := by decide +kernel
theorem dX8_runNow_66 : decode cX8_runNow 66 = .ok (.iload 5, 2) := by decide +kernel
theorem dX8_runNow_68 : decode cX8_runNow 68 = .ok (.iconst (-1), 1) := by decide +kernel
theorem dX8_runNow_69 : decode cX8_runNow 69 = .ok (.if_icmp .ne 15, 3) := by decide +kernel
theorem dX8_runNow_72 : decode cX8_runNow 72 = .ok (.aload_n 0, 1) := by decide +kernel
theorem dX8_runNow_73 : decode cX8_runNow 73 = .ok (.iload 4, 2) := by decide +kernel
theorem dX8_runNow_75 : decode cX8_runNow 75 = .ok (.invokevirtual 295, 3) := by decide +kernel
theorem dX8_runNow_78 : decode cX8_runNow 78 = .ok (.iinc 4 (-1), 3) := by decide +kernel
theorem dX8_runNow_81 : decode cX8_runNow 81 = .ok (.goto 59, 3) := by decide +kernel
theorem dX8_runNow_84 : decode cX8_runNow 84 = .ok (.aload_n 0, 1) := by decide +kernel
theorem dX8_runNow_85 : decode cX8_runNow 85 = .ok (.dup, 1) := by decide +kernel
theorem dX8_runNow_86 : decode cX8_runNow 86 = .ok (.getfield 230, 3) := by decide +kernel
theorem dX8_runNow_89 : decode cX8_runNow 89 = .ok (.aload_n 0, 1) := by decide +kernel
theorem dX8_runNow_90 : decode cX8_runNow 90 = .ok (.iload 4, 2) := by decide +kernel
theorem dX8_runNow_92 : decode cX8_runNow 92 = .ok (.iload 5, 2) := by decide +kernel
theorem dX8_runNow_94 : decode cX8_runNow 94 = .ok (.invokevirtual 240, 3) := by decide +kernel
theorem dX8_runNow_97 : decode cX8_runNow 97 = .ok (.iadd, 1) := by decide +kernel
theorem dX8_runNow_98 : decode cX8_runNow 98 = .ok (.putfield 230, 3) := by decide +kernel
theorem dX8_runNow_101 : decode cX8_runNow 101 = .ok (.iload 4, 2) := by decide +kernel
theorem dX8_runNow_103 : decode cX8_runNow 103 = .ok (.aload_n 0, 1) := by decide +kernel
theorem dX8_runNow_104 : decode cX8_runNow 104 = .ok (.iload 4, 2) := by decide +kernel
theorem dX8_runNow_106 : decode cX8_runNow 106 = .ok (.iconst 1, 1) := by decide +kernel
theorem dX8_runNow_107 : decode cX8_runNow 107 = .ok (.iadd, 1) := by decide +kernel
theorem dX8_runNow_108 : decode cX8_runNow 108 = .ok (.aload_n 0, 1) := by decide +kernel
theorem dX8_runNow_109 : decode cX8_runNow 109 = .ok (.iload 4, 2) := by decide +kernel
theorem dX8_runNow_111 : decode cX8_runNow 111 = .ok (.iconst 0, 1) := by decide +kernel
theorem dX8_runNow_112 : decode cX8_runNow 112 = .ok (.iload 5, 2) := by decide +kernel
theorem dX8_runNow_114 : decode cX8_runNow 114 = .ok (.invokevirtual 237, 3) := by decide +kernel
theorem dX8_runNow_117 : decode cX8_runNow 117 = .ok (.aload_n 0, 1) := by decide +kernel
theorem dX8_runNow_118 : decode cX8_runNow 118 = .ok (.iload 4, 2) := by decide +kernel
theorem dX8_runNow_120 : decode cX8_runNow 120 = .ok (.iconst 1, 1) := by decide +kernel
theorem dX8_runNow_121 : decode cX8_runNow 121 = .ok (.iload 5, 2) := by decide +kernel
theorem dX8_runNow_123 : decode cX8_runNow 123 = .ok (.invokevirtual 237, 3) := by decide +kernel
theorem dX8_runNow_126 : decode cX8_runNow 126 = .ok (.invokevirtual 289, 3) := by decide +kernel
theorem dX8_runNow_129 : decode cX8_runNow 129 = .ok (.ifCond .eq 7, 3) := by decide +kernel
theorem dX8_runNow_132 : decode cX8_runNow 132 = .ok (.iconst 1, 1) := by decide +kernel
theorem dX8_runNow_133 : decode cX8_runNow 133 = .ok (.goto 4, 3) := by decide +kernel
theorem dX8_runNow_136 : decode cX8_runNow 136 = .ok (.iconst 0, 1) := by decide +kernel
theorem dX8_runNow_137 : decode cX8_runNow 137 = .ok (.iadd, 1) := by decide +kernel
theorem dX8_runNow_138 : decode cX8_runNow 138 = .ok (.istore 4, 2) := by decide +kernel
theorem dX8_runNow_140 : decode cX8_runNow 140 = .ok (.goto (-94), 3) := by decide +kernel
theorem dX8_runNow_143 : decode cX8_runNow 143 = .ok (.aload_n 0, 1) := by decide +kernel
theorem dX8_runNow_144 : decode cX8_runNow 144 = .ok (.iconst 0, 1) := by decide +kernel
theorem dX8_runNow_145 : decode cX8_runNow 145 = .ok (.aload_n 0, 1) := by decide +kernel
theorem dX8_runNow_146 : decode cX8_runNow 146 = .ok (.iconst 0, 1) := by decide +kernel
theorem dX8_runNow_147 : decode cX8_runNow 147 = .ok (.iconst 0, 1) := by decide +kernel
theorem dX8_runNow_148 : decode cX8_runNow 148 = .ok (.invokevirtual 285, 3) := by decide +kernel
theorem dX8_runNow_151 : decode cX8_runNow 151 = .ok (.invokevirtual 224, 3) := by decide +kernel
theorem dX8_runNow_154 : decode cX8_runNow 154 = .ok (.aload_n 0, 1) := by decide +kernel
theorem dX8_runNow_155 : decode cX8_runNow 155 = .ok (.iconst 1, 1) := by decide +kernel
theorem dX8_runNow_156 : decode cX8_runNow 156 = .ok (.aload_n 0, 1) := by decide +kernel
theorem dX8_runNow_157 : decode cX8_runNow 157 = .ok (.iconst 1, 1) := by decide +kernel
theorem dX8_runNow_158 : decode cX8_runNow 158 = .ok (.iconst 0, 1) := by decide +kernel
theorem dX8_runNow_159 : decode cX8_runNow 159 = .ok (.invokevirtual 285, 3) := by decide +kernel
theorem dX8_runNow_162 : decode cX8_runNow 162 = .ok (.invokevirtual 224, 3) := by decide +kernel
theorem dX8_runNow_165 : decode cX8_runNow 165 = .ok (.aload_n 0, 1) := by decide +kernel
theorem dX8_runNow_166 : decode cX8_runNow 166 = .ok (.getfield 173, 3) := by decide +kernel
theorem dX8_runNow_169 : decode cX8_runNow 169 = .ok (.ifCond .le 10, 3) := by decide +kernel
theorem dX8_runNow_172 : decode cX8_runNow 172 = .ok (.aload_n 0, 1) := by decide +kernel
theorem dX8_runNow_173 : decode cX8_runNow 173 = .ok (.invokevirtual 279, 3) := by decide +kernel
theorem dX8_runNow_176 : decode cX8_runNow 176 = .ok (.goto (-11), 3) := by decide +kernel
theorem dX8_runNow_179 : decode cX8_runNow 179 = .ok (.return_, 1) := by decide +kernel
theorem dX8_clearTold_0 : decode cX8_clearTold 0 = .ok (.aload_n 0, 1) := by decide +kernel
theorem dX8_clearTold_1 : decode cX8_clearTold 1 = .ok (.iconst 0, 1) := by decide +kernel
theorem dX8_clearTold_2 : decode cX8_clearTold 2 = .ok (.putfield 298, 3) := by decide +kernel
theorem dX8_clearTold_5 : decode cX8_clearTold 5 = .ok (.aload_n 0, 1) := by decide +kernel
theorem dX8_clearTold_6 : decode cX8_clearTold 6 = .ok (.iconst 0, 1) := by decide +kernel
theorem dX8_clearTold_7 : decode cX8_clearTold 7 = .ok (.putfield 301, 3) := by decide +kernel
theorem dX8_clearTold_10 : decode cX8_clearTold 10 = .ok (.iconst 0, 1) := by decide +kernel
theorem dX8_clearTold_11 : decode cX8_clearTold 11 = .ok (.istore_n 1, 1) := by decide +kernel
theorem dX8_clearTold_12 : decode cX8_clearTold 12 = .ok (.iload_n 1, 1) := by decide +kernel
theorem dX8_clearTold_13 : decode cX8_clearTold 13 = .ok (.bipush 10, 2) := by decide +kernel
theorem dX8_clearTold_15 : decode cX8_clearTold 15 = .ok (.if_icmp .ge 25, 3) := by decide +kernel
theorem dX8_clearTold_18 : decode cX8_clearTold 18 = .ok (.aload_n 0, 1) := by decide +kernel
theorem dX8_clearTold_19 : decode cX8_clearTold 19 = .ok (.getfield 66, 3) := by decide +kernel
theorem dX8_clearTold_22 : decode cX8_clearTold 22 = .ok (.iload_n 1, 1) := by decide +kernel
theorem dX8_clearTold_23 : decode cX8_clearTold 23 = .ok (.iload_n 1, 1) := by decide +kernel
theorem dX8_clearTold_24 : decode cX8_clearTold 24 = .ok (.iconst 4, 1) := by decide +kernel
theorem dX8_clearTold_25 : decode cX8_clearTold 25 = .ok (.if_icmp .ne 7, 3) := by decide +kernel
theorem dX8_clearTold_28 : decode cX8_clearTold 28 = .ok (.iconst (-1), 1) := by decide +kernel
theorem dX8_clearTold_29 : decode cX8_clearTold 29 = .ok (.goto 4, 3) := by decide +kernel
theorem dX8_clearTold_32 : decode cX8_clearTold 32 = .ok (.iconst 0, 1) := by decide +kernel
theorem dX8_clearTold_33 : decode cX8_clearTold 33 = .ok (.iastore, 1) := by decide +kernel
theorem dX8_clearTold_34 : decode cX8_clearTold 34 = .ok (.iinc 1 1, 3) := by decide +kernel
theorem dX8_clearTold_37 : decode cX8_clearTold 37 = .ok (.goto (-25), 3) := by decide +kernel
theorem dX8_clearTold_40 : decode cX8_clearTold 40 = .ok (.return_, 1) := by decide +kernel
theorem dX8_tell_0 : decode cX8_tell 0 = .ok (.aload_n 0, 1) := by decide +kernel
theorem dX8_tell_1 : decode cX8_tell 1 = .ok (.aload_n 0, 1) := by decide +kernel
theorem dX8_tell_2 : decode cX8_tell 2 = .ok (.getfield 186, 3) := by decide +kernel
theorem dX8_tell_5 : decode cX8_tell 5 = .ok (.putfield 298, 3) := by decide +kernel
theorem dX8_tell_8 : decode cX8_tell 8 = .ok (.aload_n 0, 1) := by decide +kernel
theorem dX8_tell_9 : decode cX8_tell 9 = .ok (.aload_n 0, 1) := by decide +kernel
theorem dX8_tell_10 : decode cX8_tell 10 = .ok (.getfield 170, 3) := by decide +kernel
theorem dX8_tell_13 : decode cX8_tell 13 = .ok (.putfield 301, 3) := by decide +kernel
theorem dX8_tell_16 : decode cX8_tell 16 = .ok (.iconst 0, 1) := by decide +kernel
theorem dX8_tell_17 : decode cX8_tell 17 = .ok (.istore_n 1, 1) := by decide +kernel
theorem dX8_tell_18 : decode cX8_tell 18 = .ok (.iload_n 1, 1) := by decide +kernel
theorem dX8_tell_19 : decode cX8_tell 19 = .ok (.aload_n 0, 1) := by decide +kernel
theorem dX8_tell_20 : decode cX8_tell 20 = .ok (.getfield 186, 3) := by decide +kernel
theorem dX8_tell_23 : decode cX8_tell 23 = .ok (.if_icmp .ge 33, 3) := by decide +kernel
theorem dX8_tell_26 : decode cX8_tell 26 = .ok (.aload_n 0, 1) := by decide +kernel
theorem dX8_tell_27 : decode cX8_tell 27 = .ok (.getfield 69, 3) := by decide +kernel
theorem dX8_tell_30 : decode cX8_tell 30 = .ok (.iload_n 1, 1) := by decide +kernel
theorem dX8_tell_31 : decode cX8_tell 31 = .ok (.aload_n 0, 1) := by decide +kernel
theorem dX8_tell_32 : decode cX8_tell 32 = .ok (.getfield 36, 3) := by decide +kernel
theorem dX8_tell_35 : decode cX8_tell 35 = .ok (.iload_n 1, 1) := by decide +kernel
theorem dX8_tell_36 : decode cX8_tell 36 = .ok (.iaload, 1) := by decide +kernel
theorem dX8_tell_37 : decode cX8_tell 37 = .ok (.iastore, 1) := by decide +kernel
theorem dX8_tell_38 : decode cX8_tell 38 = .ok (.aload_n 0, 1) := by decide +kernel
theorem dX8_tell_39 : decode cX8_tell 39 = .ok (.getfield 72, 3) := by decide +kernel
theorem dX8_tell_42 : decode cX8_tell 42 = .ok (.iload_n 1, 1) := by decide +kernel
theorem dX8_tell_43 : decode cX8_tell 43 = .ok (.aload_n 0, 1) := by decide +kernel
theorem dX8_tell_44 : decode cX8_tell 44 = .ok (.getfield 39, 3) := by decide +kernel
theorem dX8_tell_47 : decode cX8_tell 47 = .ok (.iload_n 1, 1) := by decide +kernel
theorem dX8_tell_48 : decode cX8_tell 48 = .ok (.iaload, 1) := by decide +kernel
theorem dX8_tell_49 : decode cX8_tell 49 = .ok (.iastore, 1) := by decide +kernel
theorem dX8_tell_50 : decode cX8_tell 50 = .ok (.iinc 1 1, 3) := by decide +kernel
theorem dX8_tell_53 : decode cX8_tell 53 = .ok (.goto (-35), 3) := by decide +kernel
theorem dX8_tell_56 : decode cX8_tell 56 = .ok (.iconst 0, 1) := by decide +kernel
theorem dX8_tell_57 : decode cX8_tell 57 = .ok (.istore_n 1, 1) := by decide +kernel
theorem dX8_tell_58 : decode cX8_tell 58 = .ok (.iload_n 1, 1) := by decide +kernel
theorem dX8_tell_59 : decode cX8_tell 59 = .ok (.aload_n 0, 1) := by decide +kernel
theorem dX8_tell_60 : decode cX8_tell 60 = .ok (.getfield 170, 3) := by decide +kernel
theorem dX8_tell_63 : decode cX8_tell 63 = .ok (.if_icmp .ge 45, 3) := by decide +kernel
theorem dX8_tell_66 : decode cX8_tell 66 = .ok (.aload_n 0, 1) := by decide +kernel
theorem dX8_tell_67 : decode cX8_tell 67 = .ok (.getfield 75, 3) := by decide +kernel
theorem dX8_tell_70 : decode cX8_tell 70 = .ok (.iload_n 1, 1) := by decide +kernel
theorem dX8_tell_71 : decode cX8_tell 71 = .ok (.aload_n 0, 1) := by decide +kernel
theorem dX8_tell_72 : decode cX8_tell 72 = .ok (.getfield 42, 3) := by decide +kernel
theorem dX8_tell_75 : decode cX8_tell 75 = .ok (.iload_n 1, 1) := by decide +kernel
theorem dX8_tell_76 : decode cX8_tell 76 = .ok (.iaload, 1) := by decide +kernel
theorem dX8_tell_77 : decode cX8_tell 77 = .ok (.iastore, 1) := by decide +kernel
theorem dX8_tell_78 : decode cX8_tell 78 = .ok (.aload_n 0, 1) := by decide +kernel
theorem dX8_tell_79 : decode cX8_tell 79 = .ok (.getfield 78, 3) := by decide +kernel
theorem dX8_tell_82 : decode cX8_tell 82 = .ok (.iload_n 1, 1) := by decide +kernel
theorem dX8_tell_83 : decode cX8_tell 83 = .ok (.aload_n 0, 1) := by decide +kernel
theorem dX8_tell_84 : decode cX8_tell 84 = .ok (.getfield 45, 3) := by decide +kernel
theorem dX8_tell_87 : decode cX8_tell 87 = .ok (.iload_n 1, 1) := by decide +kernel
theorem dX8_tell_88 : decode cX8_tell 88 = .ok (.iaload, 1) := by decide +kernel
theorem dX8_tell_89 : decode cX8_tell 89 = .ok (.iastore, 1) := by decide +kernel
theorem dX8_tell_90 : decode cX8_tell 90 = .ok (.aload_n 0, 1) := by decide +kernel
theorem dX8_tell_91 : decode cX8_tell 91 = .ok (.getfield 81, 3) := by decide +kernel
theorem dX8_tell_94 : decode cX8_tell 94 = .ok (.iload_n 1, 1) := by decide +kernel
theorem dX8_tell_95 : decode cX8_tell 95 = .ok (.aload_n 0, 1) := by decide +kernel
theorem dX8_tell_96 : decode cX8_tell 96 = .ok (.getfield 48, 3) := by decide +kernel
theorem dX8_tell_99 : decode cX8_tell 99 = .ok (.iload_n 1, 1) := by decide +kernel
theorem dX8_tell_100 : decode cX8_tell 100 = .ok (.iaload, 1) := by decide +kernel
theorem dX8_tell_101 : decode cX8_tell 101 = .ok (.iastore, 1) := by decide +kernel
theorem dX8_tell_102 : decode cX8_tell 102 = .ok (.iinc 1 1, 3) := by decide +kernel
theorem dX8_tell_105 : decode cX8_tell 105 = .ok (.goto (-47), 3) := by decide +kernel
theorem dX8_tell_108 : decode cX8_tell 108 = .ok (.aload_n 0, 1) := by decide +kernel
theorem dX8_tell_109 : decode cX8_tell 109 = .ok (.getfield 66, 3) := by decide +kernel
theorem dX8_tell_112 : decode cX8_tell 112 = .ok (.iconst 0, 1) := by decide +kernel
theorem dX8_tell_113 : decode cX8_tell 113 = .ok (.aload_n 0, 1) := by decide +kernel
theorem dX8_tell_114 : decode cX8_tell 114 = .ok (.getfield 186, 3) := by decide +kernel
theorem dX8_tell_117 : decode cX8_tell 117 = .ok (.iastore, 1) := by decide +kernel
theorem dX8_tell_118 : decode cX8_tell 118 = .ok (.aload_n 0, 1) := by decide +kernel
theorem dX8_tell_119 : decode cX8_tell 119 = .ok (.getfield 66, 3) := by decide +kernel
theorem dX8_tell_122 : decode cX8_tell 122 = .ok (.iconst 1, 1) := by decide +kernel
theorem dX8_tell_123 : decode cX8_tell 123 = .ok (.aload_n 0, 1) := by decide +kernel
theorem dX8_tell_124 : decode cX8_tell 124 = .ok (.getfield 252, 3) := by decide +kernel
theorem dX8_tell_127 : decode cX8_tell 127 = .ok (.iastore, 1) := by decide +kernel
theorem dX8_tell_128 : decode cX8_tell 128 = .ok (.aload_n 0, 1) := by decide +kernel
theorem dX8_tell_129 : decode cX8_tell 129 = .ok (.getfield 66, 3) := by decide +kernel
theorem dX8_tell_132 : decode cX8_tell 132 = .ok (.iconst 2, 1) := by decide +kernel
theorem dX8_tell_133 : decode cX8_tell 133 = .ok (.aload_n 0, 1) := by decide +kernel
theorem dX8_tell_134 : decode cX8_tell 134 = .ok (.getfield 230, 3) := by decide +kernel
theorem dX8_tell_137 : decode cX8_tell 137 = .ok (.iastore, 1) := by decide +kernel
theorem dX8_tell_138 : decode cX8_tell 138 = .ok (.aload_n 0, 1) := by decide +kernel
theorem dX8_tell_139 : decode cX8_tell 139 = .ok (.getfield 66, 3) := by decide +kernel
theorem dX8_tell_142 : decode cX8_tell 142 = .ok (.iconst 3, 1) := by decide +kernel
theorem dX8_tell_143 : decode cX8_tell 143 = .ok (.aload_n 0, 1) := by decide +kernel
theorem dX8_tell_144 : decode cX8_tell 144 = .ok (.getfield 205, 3) := by decide +kernel
theorem dX8_tell_147 : decode cX8_tell 147 = .ok (.iastore, 1) := by decide +kernel
theorem dX8_tell_148 : decode cX8_tell 148 = .ok (.aload_n 0, 1) := by decide +kernel
theorem dX8_tell_149 : decode cX8_tell 149 = .ok (.getfield 66, 3) := by decide +kernel
theorem dX8_tell_152 : decode cX8_tell 152 = .ok (.iconst 4, 1) := by decide +kernel
theorem dX8_tell_153 : decode cX8_tell 153 = .ok (.aload_n 0, 1) := by decide +kernel
theorem dX8_tell_154 : decode cX8_tell 154 = .ok (.getfield 258, 3) := by decide +kernel
theorem dX8_tell_157 : decode cX8_tell 157 = .ok (.iastore, 1) := by decide +kernel
theorem dX8_tell_158 : decode cX8_tell 158 = .ok (.aload_n 0, 1) := by decide +kernel
theorem dX8_tell_159 : decode cX8_tell 159 = .ok (.getfield 66, 3) := by decide +kernel
theorem dX8_tell_162 : decode cX8_tell 162 = .ok (.iconst 5, 1) := by decide +kernel
theorem dX8_tell_163 : decode cX8_tell 163 = .ok (.aload_n 0, 1) := by decide +kernel
theorem dX8_tell_164 : decode cX8_tell 164 = .ok (.getfield 264, 3) := by decide +kernel
theorem dX8_tell_167 : decode cX8_tell 167 = .ok (.iastore, 1) := by decide +kernel
theorem dX8_tell_168 : decode cX8_tell 168 = .ok (.aload_n 0, 1) := by decide +kernel
theorem dX8_tell_169 : decode cX8_tell 169 = .ok (.getfield 66, 3) := by decide +kernel
theorem dX8_tell_172 : decode cX8_tell 172 = .ok (.bipush 6, 2) := by decide +kernel
theorem dX8_tell_174 : decode cX8_tell 174 = .ok (.aload_n 0, 1) := by decide +kernel
theorem dX8_tell_175 : decode cX8_tell 175 = .ok (.getfield 270, 3) := by decide +kernel
theorem dX8_tell_178 : decode cX8_tell 178 = .ok (.iastore, 1) := by decide +kernel
theorem dX8_tell_179 : decode cX8_tell 179 = .ok (.aload_n 0, 1) := by decide +kernel
theorem dX8_tell_180 : decode cX8_tell 180 = .ok (.getfield 66, 3) := by decide +kernel
theorem dX8_tell_183 : decode cX8_tell 183 = .ok (.bipush 7, 2) := by decide +kernel
theorem dX8_tell_185 : decode cX8_tell 185 = .ok (.aload_n 0, 1) := by decide +kernel
theorem dX8_tell_186 : decode cX8_tell 186 = .ok (.getfield 243, 3) := by decide +kernel
theorem dX8_tell_189 : decode cX8_tell 189 = .ok (.iastore, 1) := by decide +kernel
theorem dX8_tell_190 : decode cX8_tell 190 = .ok (.aload_n 0, 1) := by decide +kernel
theorem dX8_tell_191 : decode cX8_tell 191 = .ok (.getfield 66, 3) := by decide +kernel
theorem dX8_tell_194 : decode cX8_tell 194 = .ok (.bipush 8, 2) := by decide +kernel
theorem dX8_tell_196 : decode cX8_tell 196 = .ok (.aload_n 0, 1) := by decide +kernel
theorem dX8_tell_197 : decode cX8_tell 197 = .ok (.getfield 261, 3) := by decide +kernel
theorem dX8_tell_200 : decode cX8_tell 200 = .ok (.iastore, 1) := by decide +kernel
theorem dX8_tell_201 : decode cX8_tell 201 = .ok (.aload_n 0, 1) := by decide +kernel
theorem dX8_tell_202 : decode cX8_tell 202 = .ok (.getfield 66, 3) := by decide +kernel
theorem dX8_tell_205 : decode cX8_tell 205 = .ok (.bipush 9, 2) := by decide +kernel
theorem dX8_tell_207 : decode cX8_tell 207 = .ok (.aload_n 0, 1) := by decide +kernel
theorem dX8_tell_208 : decode cX8_tell 208 = .ok (.getfield 170, 3) := by decide +kernel
theorem dX8_tell_211 : decode cX8_tell 211 = .ok (.iastore, 1) := by decide +kernel
theorem dX8_tell_212 : decode cX8_tell 212 = .ok (.return_, 1) := by decide +kernel
theorem dX8_run_0 : decode cX8_run 0 = .ok (.iload_n 1, 1) := by decide +kernel
theorem dX8_run_1 : decode cX8_run 1 = .ok (.iconst 0, 1) := by decide +kernel
theorem dX8_run_2 : decode cX8_run 2 = .ok (.sipush 250, 3) := by decide +kernel
theorem dX8_run_5 : decode cX8_run 5 = .ok (.invokestatic 99, 3) := by decide +kernel
theorem dX8_run_8 : decode cX8_run 8 = .ok (.ifCond .ne 6, 3) := by decide +kernel
theorem dX8_run_11 : decode cX8_run 11 = .ok (.bipush (-102), 2) := by decide +kernel
theorem dX8_run_13 : decode cX8_run 13 = .ok (.ireturn, 1) := by decide +kernel
theorem dX8_run_14 : decode cX8_run 14 = .ok (.aload_n 0, 1) := by decide +kernel
theorem dX8_run_15 : decode cX8_run 15 = .ok (.getfield 143, 3) := by decide +kernel
theorem dX8_run_18 : decode cX8_run 18 = .ok (.ifCond .ne 6, 3) := by decide +kernel
theorem dX8_run_21 : decode cX8_run 21 = .ok (.bipush (-103), 2) := by decide +kernel
theorem dX8_run_23 : decode cX8_run 23 = .ok (.ireturn, 1) := by decide +kernel
theorem dX8_run_24 : decode cX8_run 24 = .ok (.aload_n 0, 1) := by decide +kernel
theorem dX8_run_25 : decode cX8_run 25 = .ok (.iload_n 1, 1) := by decide +kernel
theorem dX8_run_26 : decode cX8_run 26 = .ok (.invokevirtual 304, 3) := by decide +kernel
theorem dX8_run_29 : decode cX8_run 29 = .ok (.aload_n 0, 1) := by decide +kernel
theorem dX8_run_30 : decode cX8_run 30 = .ok (.invokevirtual 307, 3) := by decide +kernel
theorem dX8_run_33 : decode cX8_run 33 = .ok (.aload_n 0, 1) := by decide +kernel
theorem dX8_run_34 : decode cX8_run 34 = .ok (.dup, 1) := by decide +kernel
theorem dX8_run_35 : decode cX8_run 35 = .ok (.getfield 140, 3) := by decide +kernel
theorem dX8_run_38 : decode cX8_run 38 = .ok (.iconst 1, 1) := by decide +kernel
theorem dX8_run_39 : decode cX8_run 39 = .ok (.iadd, 1) := by decide +kernel
theorem dX8_run_40 : decode cX8_run 40 = .ok (.putfield 140, 3) := by decide +kernel
theorem dX8_run_43 : decode cX8_run 43 = .ok (.aload_n 0, 1) := by decide +kernel
theorem dX8_run_44 : decode cX8_run 44 = .ok (.getfield 183, 3) := by decide +kernel
theorem dX8_run_47 : decode cX8_run 47 = .ok (.ifCond .eq 8, 3) := by decide +kernel
theorem dX8_run_50 : decode cX8_run 50 = .ok (.bipush (-2), 2) := by decide +kernel
theorem dX8_run_52 : decode cX8_run 52 = .ok (.goto 7, 3) := by decide +kernel
theorem dX8_run_55 : decode cX8_run 55 = .ok (.aload_n 0, 1) := by decide +kernel
theorem dX8_run_56 : decode cX8_run 56 = .ok (.getfield 186, 3) := by decide +kernel
theorem dX8_run_59 : decode cX8_run 59 = .ok (.ireturn, 1) := by decide +kernel
theorem dX8_outNow_0 : decode cX8_outNow 0 = .ok (.iload_n 2, 1) := by decide +kernel
theorem dX8_outNow_1 : decode cX8_outNow 1 = .ok (.ifCond .ne 12, 3) := by decide +kernel
theorem dX8_outNow_4 : decode cX8_outNow 4 = .ok (.aload_n 0, 1) := by decide +kernel
theorem dX8_outNow_5 : decode cX8_outNow 5 = .ok (.getfield 69, 3) := by decide +kernel
theorem dX8_outNow_8 : decode cX8_outNow 8 = .ok (.iload_n 1, 1) := by decide +kernel
theorem dX8_outNow_9 : decode cX8_outNow 9 = .ok (.iaload, 1) := by decide +kernel
theorem dX8_outNow_10 : decode cX8_outNow 10 = .ok (.goto 9, 3) := by decide +kernel
theorem dX8_outNow_13 : decode cX8_outNow 13 = .ok (.aload_n 0, 1) := by decide +kernel
theorem dX8_outNow_14 : decode cX8_outNow 14 = .ok (.getfield 72, 3) := by decide +kernel
theorem dX8_outNow_17 : decode cX8_outNow 17 = .ok (.iload_n 1, 1) := by decide +kernel
theorem dX8_outNow_18 : decode cX8_outNow 18 = .ok (.iaload, 1) := by decide +kernel
theorem dX8_outNow_19 : decode cX8_outNow 19 = .ok (.ireturn, 1) := by decide +kernel
theorem dX8_out_0 : decode cX8_out 0 = .ok (.iload_n 1, 1) := by decide +kernel
theorem dX8_out_1 : decode cX8_out 1 = .ok (.iconst 0, 1) := by decide +kernel
theorem dX8_out_2 : decode cX8_out 2 = .ok (.aload_n 0, 1) := by decide +kernel
theorem dX8_out_3 : decode cX8_out 3 = .ok (.getfield 298, 3) := by decide +kernel
theorem dX8_out_6 : decode cX8_out 6 = .ok (.iconst 1, 1) := by decide +kernel
theorem dX8_out_7 : decode cX8_out 7 = .ok (.isub, 1) := by decide +kernel
theorem dX8_out_8 : decode cX8_out 8 = .ok (.invokestatic 99, 3) := by decide +kernel
theorem dX8_out_11 : decode cX8_out 11 = .ok (.ifCond .ne 8, 3) := by decide +kernel
theorem dX8_out_14 : decode cX8_out 14 = .ok (.bipush (-101), 2) := by decide +kernel
theorem dX8_out_16 : decode cX8_out 16 = .ok (.goto 23, 3) := by decide +kernel
theorem dX8_out_19 : decode cX8_out 19 = .ok (.iload_n 2, 1) := by decide +kernel
theorem dX8_out_20 : decode cX8_out 20 = .ok (.iconst 0, 1) := by decide +kernel
theorem dX8_out_21 : decode cX8_out 21 = .ok (.iconst 1, 1) := by decide +kernel
theorem dX8_out_22 : decode cX8_out 22 = .ok (.invokestatic 99, 3) := by decide +kernel
theorem dX8_out_25 : decode cX8_out 25 = .ok (.ifCond .eq 12, 3) := by decide +kernel
theorem dX8_out_28 : decode cX8_out 28 = .ok (.aload_n 0, 1) := by decide +kernel
theorem dX8_out_29 : decode cX8_out 29 = .ok (.iload_n 1, 1) := by decide +kernel
theorem dX8_out_30 : decode cX8_out 30 = .ok (.iload_n 2, 1) := by decide +kernel
theorem dX8_out_31 : decode cX8_out 31 = .ok (.invokevirtual 310, 3) := by decide +kernel
theorem dX8_out_34 : decode cX8_out 34 = .ok (.goto 5, 3) := by decide +kernel
theorem dX8_out_37 : decode cX8_out 37 = .ok (.bipush (-102), 2) := by decide +kernel
theorem dX8_out_39 : decode cX8_out 39 = .ok (.ireturn, 1) := by decide +kernel
theorem dX8_logNow_0 : decode cX8_logNow 0 = .ok (.iload_n 2, 1) := by decide +kernel
theorem dX8_logNow_1 : decode cX8_logNow 1 = .ok (.ifCond .ne 12, 3) := by decide +kernel
theorem dX8_logNow_4 : decode cX8_logNow 4 = .ok (.aload_n 0, 1) := by decide +kernel
theorem dX8_logNow_5 : decode cX8_logNow 5 = .ok (.getfield 75, 3) := by decide +kernel
theorem dX8_logNow_8 : decode cX8_logNow 8 = .ok (.iload_n 1, 1) := by decide +kernel
theorem dX8_logNow_9 : decode cX8_logNow 9 = .ok (.iaload, 1) := by decide +kernel
theorem dX8_logNow_10 : decode cX8_logNow 10 = .ok (.goto 23, 3) := by decide +kernel
theorem dX8_logNow_13 : decode cX8_logNow 13 = .ok (.iload_n 2, 1) := by decide +kernel
theorem dX8_logNow_14 : decode cX8_logNow 14 = .ok (.iconst 1, 1) := by decide +kernel
theorem dX8_logNow_15 : decode cX8_logNow 15 = .ok (.if_icmp .ne 12, 3) := by decide +kernel
theorem dX8_logNow_18 : decode cX8_logNow 18 = .ok (.aload_n 0, 1) := by decide +kernel
theorem dX8_logNow_19 : decode cX8_logNow 19 = .ok (.getfield 78, 3) := by decide +kernel
theorem dX8_logNow_22 : decode cX8_logNow 22 = .ok (.iload_n 1, 1) := by decide +kernel
theorem dX8_logNow_23 : decode cX8_logNow 23 = .ok (.iaload, 1) := by decide +kernel
theorem dX8_logNow_24 : decode cX8_logNow 24 = .ok (.goto 9, 3) := by decide +kernel
theorem dX8_logNow_27 : decode cX8_logNow 27 = .ok (.aload_n 0, 1) := by decide +kernel
theorem dX8_logNow_28 : decode cX8_logNow 28 = .ok (.getfield 81, 3) := by decide +kernel
theorem dX8_logNow_31 : decode cX8_logNow 31 = .ok (.iload_n 1, 1) := by decide +kernel
theorem dX8_logNow_32 : decode cX8_logNow 32 = .ok (.iaload, 1) := by decide +kernel
theorem dX8_logNow_33 : decode cX8_logNow 33 = .ok (.ireturn, 1) := by decide +kernel
theorem dX8_log_0 : decode cX8_log 0 = .ok (.iload_n 1, 1) := by decide +kernel
theorem dX8_log_1 : decode cX8_log 1 = .ok (.iconst 0, 1) := by decide +kernel
theorem dX8_log_2 : decode cX8_log 2 = .ok (.aload_n 0, 1) := by decide +kernel
theorem dX8_log_3 : decode cX8_log 3 = .ok (.getfield 301, 3) := by decide +kernel
theorem dX8_log_6 : decode cX8_log 6 = .ok (.iconst 1, 1) := by decide +kernel
theorem dX8_log_7 : decode cX8_log 7 = .ok (.isub, 1) := by decide +kernel
theorem dX8_log_8 : decode cX8_log 8 = .ok (.invokestatic 99, 3) := by decide +kernel
theorem dX8_log_11 : decode cX8_log 11 = .ok (.ifCond .ne 8, 3) := by decide +kernel
theorem dX8_log_14 : decode cX8_log 14 = .ok (.bipush (-101), 2) := by decide +kernel
theorem dX8_log_16 : decode cX8_log 16 = .ok (.goto 23, 3) := by decide +kernel
theorem dX8_log_19 : decode cX8_log 19 = .ok (.iload_n 2, 1) := by decide +kernel
theorem dX8_log_20 : decode cX8_log 20 = .ok (.iconst 0, 1) := by decide +kernel
theorem dX8_log_21 : decode cX8_log 21 = .ok (.iconst 2, 1) := by decide +kernel
theorem dX8_log_22 : decode cX8_log 22 = .ok (.invokestatic 99, 3) := by decide +kernel
theorem dX8_log_25 : decode cX8_log 25 = .ok (.ifCond .eq 12, 3) := by decide +kernel
theorem dX8_log_28 : decode cX8_log 28 = .ok (.aload_n 0, 1) := by decide +kernel
theorem dX8_log_29 : decode cX8_log 29 = .ok (.iload_n 1, 1) := by decide +kernel
theorem dX8_log_30 : decode cX8_log 30 = .ok (.iload_n 2, 1) := by decide +kernel
theorem dX8_log_31 : decode cX8_log 31 = .ok (.invokevirtual 313, 3) := by decide +kernel
theorem dX8_log_34 : decode cX8_log 34 = .ok (.goto 5, 3) := by decide +kernel
theorem dX8_log_37 : decode cX8_log 37 = .ok (.bipush (-102), 2) := by decide +kernel
theorem dX8_log_39 : decode cX8_log 39 = .ok (.ireturn, 1) := by decide +kernel
theorem dX8_ledger_0 : decode cX8_ledger 0 = .ok (.iload_n 1, 1) := by decide +kernel
theorem dX8_ledger_1 : decode cX8_ledger 1 = .ok (.iconst 0, 1) := by decide +kernel
theorem dX8_ledger_2 : decode cX8_ledger 2 = .ok (.bipush 9, 2) := by decide +kernel
theorem dX8_ledger_4 : decode cX8_ledger 4 = .ok (.invokestatic 99, 3) := by decide +kernel
theorem dX8_ledger_7 : decode cX8_ledger 7 = .ok (.ifCond .eq 12, 3) := by decide +kernel
theorem dX8_ledger_10 : decode cX8_ledger 10 = .ok (.aload_n 0, 1) := by decide +kernel
theorem dX8_ledger_11 : decode cX8_ledger 11 = .ok (.getfield 66, 3) := by decide +kernel
theorem dX8_ledger_14 : decode cX8_ledger 14 = .ok (.iload_n 1, 1) := by decide +kernel
theorem dX8_ledger_15 : decode cX8_ledger 15 = .ok (.iaload, 1) := by decide +kernel
theorem dX8_ledger_16 : decode cX8_ledger 16 = .ok (.goto 5, 3) := by decide +kernel
theorem dX8_ledger_19 : decode cX8_ledger 19 = .ok (.bipush (-102), 2) := by decide +kernel
theorem dX8_ledger_21 : decode cX8_ledger 21 = .ok (.ireturn, 1) := by decide +kernel
theorem dX8_spareNow_0 : decode cX8_spareNow 0 = .ok (.aload_n 0, 1) := by decide +kernel
theorem dX8_spareNow_1 : decode cX8_spareNow 1 = .ok (.getfield 134, 3) := by decide +kernel
theorem dX8_spareNow_4 : decode cX8_spareNow 4 = .ok (.istore_n 1, 1) := by decide +kernel
theorem dX8_spareNow_5 : decode cX8_spareNow 5 = .ok (.iconst (-1), 1) := by decide +kernel
theorem dX8_spareNow_6 : decode cX8_spareNow 6 = .ok (.istore_n 2, 1) := by decide +kernel
theorem dX8_spareNow_7 : decode cX8_spareNow 7 = .ok (.bipush 9, 2) := by decide +kernel
theorem dX8_spareNow_9 : decode cX8_spareNow 9 = .ok (.istore_n 3, 1) := by decide +kernel
theorem dX8_spareNow_10 : decode cX8_spareNow 10 = .ok (.iload_n 3, 1) := by decide +kernel
theorem dX8_spareNow_11 : decode cX8_spareNow 11 = .ok (.ifCond .le 34, 3) := by decide +kernel
theorem dX8_spareNow_14 : decode cX8_spareNow 14 = .ok (.aload_n 0, 1) := by decide +kernel
theorem dX8_spareNow_15 : decode cX8_spareNow 15 = .ok (.iload_n 3, 1) := by decide +kernel
theorem dX8_spareNow_16 : decode cX8_spareNow 16 = .ok (.putfield 134, 3) := by decide +kernel
theorem dX8_spareNow_19 : decode cX8_spareNow 19 = .ok (.aload_n 0, 1) := by decide +kernel
theorem dX8_spareNow_20 : decode cX8_spareNow 20 = .ok (.ldc_w 316, 3) := by decide +kernel
theorem dX8_spareNow_23 : decode cX8_spareNow 23 = .ok (.invokevirtual 304, 3) := by decide +kernel
theorem dX8_spareNow_26 : decode cX8_spareNow 26 = .ok (.aload_n 0, 1) := by decide +kernel
theorem dX8_spareNow_27 : decode cX8_spareNow 27 = .ok (.getfield 252, 3) := by decide +kernel
theorem dX8_spareNow_30 : decode cX8_spareNow 30 = .ok (.ifCond .ne 7, 3) := by decide +kernel
theorem dX8_spareNow_33 : decode cX8_spareNow 33 = .ok (.iload_n 3, 1) := by decide +kernel
theorem dX8_spareNow_34 : decode cX8_spareNow 34 = .ok (.goto 4, 3) := by decide +kernel
theorem dX8_spareNow_37 : decode cX8_spareNow 37 = .ok (.iload_n 2, 1) := by decide +kernel
theorem dX8_spareNow_38 : decode cX8_spareNow 38 = .ok (.istore_n 2, 1) := by decide +kernel
theorem dX8_spareNow_39 : decode cX8_spareNow 39 = .ok (.iinc 3 (-1), 3) := by decide +kernel
theorem dX8_spareNow_42 : decode cX8_spareNow 42 = .ok (.goto (-32), 3) := by decide +kernel
theorem dX8_spareNow_45 : decode cX8_spareNow 45 = .ok (.aload_n 0, 1) := by decide +kernel
theorem dX8_spareNow_46 : decode cX8_spareNow 46 = .ok (.iload_n 1, 1) := by decide +kernel
theorem dX8_spareNow_47 : decode cX8_spareNow 47 = .ok (.putfield 134, 3) := by decide +kernel
theorem dX8_spareNow_50 : decode cX8_spareNow 50 = .ok (.iload_n 2, 1) := by decide +kernel
theorem dX8_spareNow_51 : decode cX8_spareNow 51 = .ok (.ireturn, 1) := by decide +kernel
theorem dX8_spare_0 : decode cX8_spare 0 = .ok (.aload_n 0, 1) := by decide +kernel
theorem dX8_spare_1 : decode cX8_spare 1 = .ok (.getfield 143, 3) := by decide +kernel
theorem dX8_spare_4 : decode cX8_spare 4 = .ok (.ifCond .ne 8, 3) := by decide +kernel
theorem dX8_spare_7 : decode cX8_spare 7 = .ok (.bipush (-103), 2) := by decide +kernel
theorem dX8_spare_9 : decode cX8_spare 9 = .ok (.goto 7, 3) := by decide +kernel
theorem dX8_spare_12 : decode cX8_spare 12 = .ok (.aload_n 0, 1) := by decide +kernel
theorem dX8_spare_13 : decode cX8_spare 13 = .ok (.invokevirtual 317, 3) := by decide +kernel
theorem dX8_spare_16 : decode cX8_spare 16 = .ok (.ireturn, 1) := by decide +kernel
theorem dX8_could_0 : decode cX8_could 0 = .ok (.iload_n 1, 1) := by decide +kernel
theorem dX8_could_1 : decode cX8_could 1 = .ok (.tableswitch 79 0 2 #[27, 47, 68], 27) := by decide +kernel
theorem dX8_could_28 : decode cX8_could 28 = .ok (.iload_n 0, 1) := by decide +kernel
theorem dX8_could_29 : decode cX8_could 29 = .ok (.ifCond .eq 13, 3) := by decide +kernel
theorem dX8_could_32 : decode cX8_could 32 = .ok (.iload_n 0, 1) := by decide +kernel
theorem dX8_could_33 : decode cX8_could 33 = .ok (.iconst 1, 1) := by decide +kernel
theorem dX8_could_34 : decode cX8_could 34 = .ok (.if_icmp .eq 8, 3) := by decide +kernel
theorem dX8_could_37 : decode cX8_could 37 = .ok (.iload_n 0, 1) := by decide +kernel
theorem dX8_could_38 : decode cX8_could 38 = .ok (.iconst 4, 1) := by decide +kernel
theorem dX8_could_39 : decode cX8_could 39 = .ok (.if_icmp .ne 7, 3) := by decide +kernel
theorem dX8_could_42 : decode cX8_could 42 = .ok (.iconst 1, 1) := by decide +kernel
theorem dX8_could_43 : decode cX8_could 43 = .ok (.goto 4, 3) := by decide +kernel
theorem dX8_could_46 : decode cX8_could 46 = .ok (.iconst 0, 1) := by decide +kernel
theorem dX8_could_47 : decode cX8_could 47 = .ok (.ireturn, 1) := by decide +kernel
theorem dX8_could_48 : decode cX8_could 48 = .ok (.iload_n 0, 1) := by decide +kernel
theorem dX8_could_49 : decode cX8_could 49 = .ok (.iconst 1, 1) := by decide +kernel
theorem dX8_could_50 : decode cX8_could 50 = .ok (.if_icmp .eq 13, 3) := by decide +kernel
theorem dX8_could_53 : decode cX8_could 53 = .ok (.iload_n 0, 1) := by decide +kernel
theorem dX8_could_54 : decode cX8_could 54 = .ok (.iconst 2, 1) := by decide +kernel
theorem dX8_could_55 : decode cX8_could 55 = .ok (.if_icmp .eq 8, 3) := by decide +kernel
theorem dX8_could_58 : decode cX8_could 58 = .ok (.iload_n 0, 1) := by decide +kernel
theorem dX8_could_59 : decode cX8_could 59 = .ok (.iconst 4, 1) := by decide +kernel
theorem dX8_could_60 : decode cX8_could 60 = .ok (.if_icmp .ne 7, 3) := by decide +kernel
theorem dX8_could_63 : decode cX8_could 63 = .ok (.iconst 1, 1) := by decide +kernel
theorem dX8_could_64 : decode cX8_could 64 = .ok (.goto 4, 3) := by decide +kernel
theorem dX8_could_67 : decode cX8_could 67 = .ok (.iconst 0, 1) := by decide +kernel
theorem dX8_could_68 : decode cX8_could 68 = .ok (.ireturn, 1) := by decide +kernel
theorem dX8_could_69 : decode cX8_could 69 = .ok (.iload_n 0, 1) := by decide +kernel
theorem dX8_could_70 : decode cX8_could 70 = .ok (.iconst 4, 1) := by decide +kernel
theorem dX8_could_71 : decode cX8_could 71 = .ok (.if_icmp .ne 7, 3) := by decide +kernel
theorem dX8_could_74 : decode cX8_could 74 = .ok (.iconst 1, 1) := by decide +kernel
theorem dX8_could_75 : decode cX8_could 75 = .ok (.goto 4, 3) := by decide +kernel
theorem dX8_could_78 : decode cX8_could 78 = .ok (.iconst 0, 1) := by decide +kernel
theorem dX8_could_79 : decode cX8_could 79 = .ok (.ireturn, 1) := by decide +kernel
theorem dX8_could_80 : decode cX8_could 80 = .ok (.iload_n 0, 1) := by decide +kernel
theorem dX8_could_81 : decode cX8_could 81 = .ok (.iconst 3, 1) := by decide +kernel
theorem dX8_could_82 : decode cX8_could 82 = .ok (.if_icmp .ne 7, 3) := by decide +kernel
theorem dX8_could_85 : decode cX8_could 85 = .ok (.iconst 1, 1) := by decide +kernel
theorem dX8_could_86 : decode cX8_could 86 = .ok (.goto 4, 3) := by decide +kernel
theorem dX8_could_89 : decode cX8_could 89 = .ok (.iconst 0, 1) := by decide +kernel
theorem dX8_could_90 : decode cX8_could 90 = .ok (.ireturn, 1) := by decide +kernel
theorem dX8_see_0 : decode cX8_see 0 = .ok (.iload_n 1, 1) := by decide +kernel
theorem dX8_see_1 : decode cX8_see 1 = .ok (.iconst 0, 1) := by decide +kernel
theorem dX8_see_2 : decode cX8_see 2 = .ok (.iconst 3, 1) := by decide +kernel
theorem dX8_see_3 : decode cX8_see 3 = .ok (.invokestatic 99, 3) := by decide +kernel
theorem dX8_see_6 : decode cX8_see 6 = .ok (.ifCond .ne 6, 3) := by decide +kernel
theorem dX8_see_9 : decode cX8_see 9 = .ok (.bipush (-102), 2) := by decide +kernel
theorem dX8_see_11 : decode cX8_see 11 = .ok (.ireturn, 1) := by decide +kernel
theorem dX8_see_12 : decode cX8_see 12 = .ok (.aload_n 0, 1) := by decide +kernel
theorem dX8_see_13 : decode cX8_see 13 = .ok (.getfield 143, 3) := by decide +kernel
theorem dX8_see_16 : decode cX8_see 16 = .ok (.ifCond .ne 6, 3) := by decide +kernel
theorem dX8_see_19 : decode cX8_see 19 = .ok (.bipush (-103), 2) := by decide +kernel
theorem dX8_see_21 : decode cX8_see 21 = .ok (.ireturn, 1) := by decide +kernel
theorem dX8_see_22 : decode cX8_see 22 = .ok (.aload_n 0, 1) := by decide +kernel
theorem dX8_see_23 : decode cX8_see 23 = .ok (.getfield 146, 3) := by decide +kernel
theorem dX8_see_26 : decode cX8_see 26 = .ok (.bipush 6, 2) := by decide +kernel
theorem dX8_see_28 : decode cX8_see 28 = .ok (.if_icmp .ne 6, 3) := by decide +kernel
theorem dX8_see_31 : decode cX8_see 31 = .ok (.bipush (-104), 2) := by decide +kernel
theorem dX8_see_33 : decode cX8_see 33 = .ok (.ireturn, 1) := by decide +kernel
theorem dX8_see_34 : decode cX8_see 34 = .ok (.aload_n 0, 1) := by decide +kernel
theorem dX8_see_35 : decode cX8_see 35 = .ok (.getfield 20, 3) := by decide +kernel
theorem dX8_see_38 : decode cX8_see 38 = .ok (.aload_n 0, 1) := by decide +kernel
theorem dX8_see_39 : decode cX8_see 39 = .ok (.getfield 146, 3) := by decide +kernel
theorem dX8_see_42 : decode cX8_see 42 = .ok (.iload_n 1, 1) := by decide +kernel
theorem dX8_see_43 : decode cX8_see 43 = .ok (.iastore, 1) := by decide +kernel
theorem dX8_see_44 : decode cX8_see 44 = .ok (.aload_n 0, 1) := by decide +kernel
theorem dX8_see_45 : decode cX8_see 45 = .ok (.getfield 23, 3) := by decide +kernel
theorem dX8_see_48 : decode cX8_see 48 = .ok (.aload_n 0, 1) := by decide +kernel
theorem dX8_see_49 : decode cX8_see 49 = .ok (.getfield 146, 3) := by decide +kernel
theorem dX8_see_52 : decode cX8_see 52 = .ok (.iload_n 2, 1) := by decide +kernel
theorem dX8_see_53 : decode cX8_see 53 = .ok (.ifCond .eq 7, 3) := by decide +kernel
theorem dX8_see_56 : decode cX8_see 56 = .ok (.iconst 1, 1) := by decide +kernel
theorem dX8_see_57 : decode cX8_see 57 = .ok (.goto 4, 3) := by decide +kernel
theorem dX8_see_60 : decode cX8_see 60 = .ok (.iconst 0, 1) := by decide +kernel
theorem dX8_see_61 : decode cX8_see 61 = .ok (.iastore, 1) := by decide +kernel
theorem dX8_see_62 : decode cX8_see 62 = .ok (.aload_n 0, 1) := by decide +kernel
theorem dX8_see_63 : decode cX8_see 63 = .ok (.dup, 1) := by decide +kernel
theorem dX8_see_64 : decode cX8_see 64 = .ok (.getfield 146, 3) := by decide +kernel
theorem dX8_see_67 : decode cX8_see 67 = .ok (.iconst 1, 1) := by decide +kernel
theorem dX8_see_68 : decode cX8_see 68 = .ok (.iadd, 1) := by decide +kernel
theorem dX8_see_69 : decode cX8_see 69 = .ok (.putfield 146, 3) := by decide +kernel
theorem dX8_see_72 : decode cX8_see 72 = .ok (.aload_n 0, 1) := by decide +kernel
theorem dX8_see_73 : decode cX8_see 73 = .ok (.getfield 146, 3) := by decide +kernel
theorem dX8_see_76 : decode cX8_see 76 = .ok (.ireturn, 1) := by decide +kernel
theorem dX8_forget_0 : decode cX8_forget 0 = .ok (.aload_n 0, 1) := by decide +kernel
theorem dX8_forget_1 : decode cX8_forget 1 = .ok (.getfield 146, 3) := by decide +kernel
theorem dX8_forget_4 : decode cX8_forget 4 = .ok (.istore_n 1, 1) := by decide +kernel
theorem dX8_forget_5 : decode cX8_forget 5 = .ok (.aload_n 0, 1) := by decide +kernel
theorem dX8_forget_6 : decode cX8_forget 6 = .ok (.iconst 0, 1) := by decide +kernel
theorem dX8_forget_7 : decode cX8_forget 7 = .ok (.putfield 146, 3) := by decide +kernel
theorem dX8_forget_10 : decode cX8_forget 10 = .ok (.iload_n 1, 1) := by decide +kernel
theorem dX8_forget_11 : decode cX8_forget 11 = .ok (.ireturn, 1) := by decide +kernel
theorem dX8_sortsNow_0 : decode cX8_sortsNow 0 = .ok (.iconst 0, 1) := by decide +kernel
theorem dX8_sortsNow_1 : decode cX8_sortsNow 1 = .ok (.istore_n 1, 1) := by decide +kernel
theorem dX8_sortsNow_2 : decode cX8_sortsNow 2 = .ok (.iconst 0, 1) := by decide +kernel
theorem dX8_sortsNow_3 : decode cX8_sortsNow 3 = .ok (.istore_n 2, 1) := by decide +kernel
theorem dX8_sortsNow_4 : decode cX8_sortsNow 4 = .ok (.iload_n 2, 1) := by decide +kernel
theorem dX8_sortsNow_5 : decode cX8_sortsNow 5 = .ok (.iconst 4, 1) := by decide +kernel
theorem dX8_sortsNow_6 : decode cX8_sortsNow 6 = .ok (.if_icmp .gt 83, 3) := by decide +kernel
theorem dX8_sortsNow_9 : decode cX8_sortsNow 9 = .ok (.iconst 1, 1) := by decide +kernel
theorem dX8_sortsNow_10 : decode cX8_sortsNow 10 = .ok (.istore_n 3, 1) := by decide +kernel
theorem dX8_sortsNow_11 : decode cX8_sortsNow 11 = .ok (.iconst 0, 1) := by decide +kernel
theorem dX8_sortsNow_12 : decode cX8_sortsNow 12 = .ok (.istore 4, 2) := by decide +kernel
theorem dX8_sortsNow_14 : decode cX8_sortsNow 14 = .ok (.iload 4, 2) := by decide +kernel
theorem dX8_sortsNow_16 : decode cX8_sortsNow 16 = .ok (.aload_n 0, 1) := by decide +kernel
theorem dX8_sortsNow_17 : decode cX8_sortsNow 17 = .ok (.getfield 146, 3) := by decide +kernel
theorem dX8_sortsNow_20 : decode cX8_sortsNow 20 = .ok (.if_icmp .ge 49, 3) := by decide +kernel
theorem dX8_sortsNow_23 : decode cX8_sortsNow 23 = .ok (.iload_n 3, 1) := by decide +kernel
theorem dX8_sortsNow_24 : decode cX8_sortsNow 24 = .ok (.ifCond .eq 37, 3) := by decide +kernel
theorem dX8_sortsNow_27 : decode cX8_sortsNow 27 = .ok (.iload_n 2, 1) := by decide +kernel
theorem dX8_sortsNow_28 : decode cX8_sortsNow 28 = .ok (.aload_n 0, 1) := by decide +kernel
theorem dX8_sortsNow_29 : decode cX8_sortsNow 29 = .ok (.getfield 20, 3) := by decide +kernel
theorem dX8_sortsNow_32 : decode cX8_sortsNow 32 = .ok (.iload 4, 2) := by decide +kernel
theorem dX8_sortsNow_34 : decode cX8_sortsNow 34 = .ok (.iaload, 1) := by decide +kernel
theorem dX8_sortsNow_35 : decode cX8_sortsNow 35 = .ok (.invokestatic 320, 3) := by decide +kernel
theorem dX8_sortsNow_38 : decode cX8_sortsNow 38 = .ok (.aload_n 0, 1) := by decide +kernel
theorem dX8_sortsNow_39 : decode cX8_sortsNow 39 = .ok (.getfield 23, 3) := by decide +kernel
theorem dX8_sortsNow_42 : decode cX8_sortsNow 42 = .ok (.iload 4, 2) := by decide +kernel
theorem dX8_sortsNow_44 : decode cX8_sortsNow 44 = .ok (.iaload, 1) := by decide +kernel
theorem dX8_sortsNow_45 : decode cX8_sortsNow 45 = .ok (.iconst 1, 1) := by decide +kernel
theorem dX8_sortsNow_46 : decode cX8_sortsNow 46 = .ok (.if_icmp .ne 7, 3) := by decide +kernel
theorem dX8_sortsNow_49 : decode cX8_sortsNow 49 = .ok (.iconst 1, 1) := by decide +kernel
theorem dX8_sortsNow_50 : decode cX8_sortsNow 50 = .ok (.goto 4, 3) := by decide +kernel
theorem dX8_sortsNow_53 : decode cX8_sortsNow 53 = .ok (.iconst 0, 1) := by decide +kernel
theorem dX8_sortsNow_54 : decode cX8_sortsNow 54 = .ok (.if_icmp .ne 7, 3) := by decide +kernel
theorem dX8_sortsNow_57 : decode cX8_sortsNow 57 = .ok (.iconst 1, 1) := by decide +kernel
theorem dX8_sortsNow_58 : decode cX8_sortsNow 58 = .ok (.goto 4, 3) := by decide +kernel
theorem dX8_sortsNow_61 : decode cX8_sortsNow 61 = .ok (.iconst 0, 1) := by decide +kernel
theorem dX8_sortsNow_62 : decode cX8_sortsNow 62 = .ok (.istore_n 3, 1) := by decide +kernel
theorem dX8_sortsNow_63 : decode cX8_sortsNow 63 = .ok (.iinc 4 1, 3) := by decide +kernel
theorem dX8_sortsNow_66 : decode cX8_sortsNow 66 = .ok (.goto (-52), 3) := by decide +kernel
theorem dX8_sortsNow_69 : decode cX8_sortsNow 69 = .ok (.iload_n 1, 1) := by decide +kernel
theorem dX8_sortsNow_70 : decode cX8_sortsNow 70 = .ok (.iload_n 3, 1) := by decide +kernel
theorem dX8_sortsNow_71 : decode cX8_sortsNow 71 = .ok (.ifCond .eq 9, 3) := by decide +kernel
theorem dX8_sortsNow_74 : decode cX8_sortsNow 74 = .ok (.iconst 1, 1) := by decide +kernel
theorem dX8_sortsNow_75 : decode cX8_sortsNow 75 = .ok (.iload_n 2, 1) := by decide +kernel
theorem dX8_sortsNow_76 : decode cX8_sortsNow 76 = .ok (.ishl, 1) := by decide +kernel
theorem dX8_sortsNow_77 : decode cX8_sortsNow 77 = .ok (.goto 4, 3) := by decide +kernel
theorem dX8_sortsNow_80 : decode cX8_sortsNow 80 = .ok (.iconst 0, 1) := by decide +kernel
theorem dX8_sortsNow_81 : decode cX8_sortsNow 81 = .ok (.ior, 1) := by decide +kernel
theorem dX8_sortsNow_82 : decode cX8_sortsNow 82 = .ok (.istore_n 1, 1) := by decide +kernel
theorem dX8_sortsNow_83 : decode cX8_sortsNow 83 = .ok (.iinc 2 1, 3) := by decide +kernel
theorem dX8_sortsNow_86 : decode cX8_sortsNow 86 = .ok (.goto (-82), 3) := by decide +kernel
theorem dX8_sortsNow_89 : decode cX8_sortsNow 89 = .ok (.iload_n 1, 1) := by decide +kernel
theorem dX8_sortsNow_90 : decode cX8_sortsNow 90 = .ok (.ireturn, 1) := by decide +kernel
theorem dX8_askNow_0 : decode cX8_askNow 0 = .ok (.aload_n 0, 1) := by decide +kernel
theorem dX8_askNow_1 : decode cX8_askNow 1 = .ok (.invokevirtual 323, 3) := by decide +kernel
theorem dX8_askNow_4 : decode cX8_askNow 4 = .ok (.istore_n 1, 1) := by decide +kernel
theorem dX8_askNow_5 : decode cX8_askNow 5 = .ok (.iconst (-1), 1) := by decide +kernel
theorem dX8_askNow_6 : decode cX8_askNow 6 = .ok (.istore_n 2, 1) := by decide +kernel
theorem dX8_askNow_7 : decode cX8_askNow 7 = .ok (.ldc_w 316, 3) := by decide +kernel
theorem dX8_askNow_10 : decode cX8_askNow 10 = .ok (.istore_n 3, 1) := by decide +kernel
theorem dX8_askNow_11 : decode cX8_askNow 11 = .ok (.iconst 0, 1) := by decide +kernel
theorem dX8_askNow_12 : decode cX8_askNow 12 = .ok (.istore 4, 2) := by decide +kernel
theorem dX8_askNow_14 : decode cX8_askNow 14 = .ok (.iload 4, 2) := by decide +kernel
theorem dX8_askNow_16 : decode cX8_askNow 16 = .ok (.iconst 4, 1) := by decide +kernel
theorem dX8_askNow_17 : decode cX8_askNow 17 = .ok (.if_icmp .ge 111, 3) := by decide +kernel
theorem dX8_askNow_20 : decode cX8_askNow 20 = .ok (.iload_n 1, 1) := by decide +kernel
theorem dX8_askNow_21 : decode cX8_askNow 21 = .ok (.ifCond .eq 107, 3) := by decide +kernel
theorem dX8_askNow_24 : decode cX8_askNow 24 = .ok (.iconst 0, 1) := by decide +kernel
theorem dX8_askNow_25 : decode cX8_askNow 25 = .ok (.istore 5, 2) := by decide +kernel
theorem dX8_askNow_27 : decode cX8_askNow 27 = .ok (.iconst 0, 1) := by decide +kernel
theorem dX8_askNow_28 : decode cX8_askNow 28 = .ok (.istore 6, 2) := by decide +kernel
theorem dX8_askNow_30 : decode cX8_askNow 30 = .ok (.iload 6, 2) := by decide +kernel
theorem dX8_askNow_32 : decode cX8_askNow 32 = .ok (.iconst 4, 1) := by decide +kernel
theorem dX8_askNow_33 : decode cX8_askNow 33 = .ok (.if_icmp .gt 38, 3) := by decide +kernel
theorem dX8_askNow_36 : decode cX8_askNow 36 = .ok (.iload 5, 2) := by decide +kernel
theorem dX8_askNow_38 : decode cX8_askNow 38 = .ok (.iload_n 1, 1) := by decide +kernel
theorem dX8_askNow_39 : decode cX8_askNow 39 = .ok (.iload 6, 2) := by decide +kernel
theorem dX8_askNow_41 : decode cX8_askNow 41 = .ok (.invokestatic 202, 3) := by decide +kernel
theorem dX8_askNow_44 : decode cX8_askNow 44 = .ok (.ifCond .eq 17, 3) := by decide +kernel
theorem dX8_askNow_47 : decode cX8_askNow 47 = .ok (.iload 6, 2) := by decide +kernel
theorem dX8_askNow_49 : decode cX8_askNow 49 = .ok (.iload 4, 2) := by decide +kernel
theorem dX8_askNow_51 : decode cX8_askNow 51 = .ok (.invokestatic 320, 3) := by decide +kernel
theorem dX8_askNow_54 : decode cX8_askNow 54 = .ok (.ifCond .eq 7, 3) := by decide +kernel
theorem dX8_askNow_57 : decode cX8_askNow 57 = .ok (.iconst 1, 1) := by decide +kernel
theorem dX8_askNow_58 : decode cX8_askNow 58 = .ok (.goto 4, 3) := by decide +kernel
theorem dX8_askNow_61 : decode cX8_askNow 61 = .ok (.iconst 0, 1) := by decide +kernel
theorem dX8_askNow_62 : decode cX8_askNow 62 = .ok (.iadd, 1) := by decide +kernel
theorem dX8_askNow_63 : decode cX8_askNow 63 = .ok (.istore 5, 2) := by decide +kernel
theorem dX8_askNow_65 : decode cX8_askNow 65 = .ok (.iinc 6 1, 3) := by decide +kernel
theorem dX8_askNow_68 : decode cX8_askNow 68 = .ok (.goto (-38), 3) := by decide +kernel
theorem dX8_askNow_71 : decode cX8_askNow 71 = .ok (.iload_n 1, 1) := by decide +kernel
theorem dX8_askNow_72 : decode cX8_askNow 72 = .ok (.invokestatic 214, 3) := by decide +kernel
theorem dX8_askNow_75 : decode cX8_askNow 75 = .ok (.iload 5, 2) := by decide +kernel
theorem dX8_askNow_77 : decode cX8_askNow 77 = .ok (.isub, 1) := by decide +kernel
theorem dX8_askNow_78 : decode cX8_askNow 78 = .ok (.istore 6, 2) := by decide +kernel
theorem dX8_askNow_80 : decode cX8_askNow 80 = .ok (.iload 5, 2) := by decide +kernel
theorem dX8_askNow_82 : decode cX8_askNow 82 = .ok (.iload 6, 2) := by decide +kernel
theorem dX8_askNow_84 : decode cX8_askNow 84 = .ok (.if_icmp .le 8, 3) := by decide +kernel
theorem dX8_askNow_87 : decode cX8_askNow 87 = .ok (.iload 5, 2) := by decide +kernel
theorem dX8_askNow_89 : decode cX8_askNow 89 = .ok (.goto 5, 3) := by decide +kernel
theorem dX8_askNow_92 : decode cX8_askNow 92 = .ok (.iload 6, 2) := by decide +kernel
theorem dX8_askNow_94 : decode cX8_askNow 94 = .ok (.istore 7, 2) := by decide +kernel
theorem dX8_askNow_96 : decode cX8_askNow 96 = .ok (.iload 7, 2) := by decide +kernel
theorem dX8_askNow_98 : decode cX8_askNow 98 = .ok (.iload_n 3, 1) := by decide +kernel
theorem dX8_askNow_99 : decode cX8_askNow 99 = .ok (.if_icmp .ge 8, 3) := by decide +kernel
theorem dX8_askNow_102 : decode cX8_askNow 102 = .ok (.iload 4, 2) := by decide +kernel
theorem dX8_askNow_104 : decode cX8_askNow 104 = .ok (.goto 4, 3) := by decide +kernel
theorem dX8_askNow_107 : decode cX8_askNow 107 = .ok (.iload_n 2, 1) := by decide +kernel
theorem dX8_askNow_108 : decode cX8_askNow 108 = .ok (.istore_n 2, 1) := by decide +kernel
theorem dX8_askNow_109 : decode cX8_askNow 109 = .ok (.iload 7, 2) := by decide +kernel
theorem dX8_askNow_111 : decode cX8_askNow 111 = .ok (.iload_n 3, 1) := by decide +kernel
theorem dX8_askNow_112 : decode cX8_askNow 112 = .ok (.if_icmp .ge 8, 3) := by decide +kernel
theorem dX8_askNow_115 : decode cX8_askNow 115 = .ok (.iload 7, 2) := by decide +kernel
theorem dX8_askNow_117 : decode cX8_askNow 117 = .ok (.goto 4, 3) := by decide +kernel
theorem dX8_askNow_120 : decode cX8_askNow 120 = .ok (.iload_n 3, 1) := by decide +kernel
theorem dX8_askNow_121 : decode cX8_askNow 121 = .ok (.istore_n 3, 1) := by decide +kernel
theorem dX8_askNow_122 : decode cX8_askNow 122 = .ok (.iinc 4 1, 3) := by decide +kernel
theorem dX8_askNow_125 : decode cX8_askNow 125 = .ok (.goto (-111), 3) := by decide +kernel
theorem dX8_askNow_128 : decode cX8_askNow 128 = .ok (.iload_n 2, 1) := by decide +kernel
theorem dX8_askNow_129 : decode cX8_askNow 129 = .ok (.ireturn, 1) := by decide +kernel
theorem dX8_sorts_0 : decode cX8_sorts 0 = .ok (.iload_n 1, 1) := by decide +kernel
theorem dX8_sorts_1 : decode cX8_sorts 1 = .ok (.iconst 0, 1) := by decide +kernel
theorem dX8_sorts_2 : decode cX8_sorts 2 = .ok (.iconst 1, 1) := by decide +kernel
theorem dX8_sorts_3 : decode cX8_sorts 3 = .ok (.invokestatic 99, 3) := by decide +kernel
theorem dX8_sorts_6 : decode cX8_sorts 6 = .ok (.ifCond .ne 8, 3) := by decide +kernel
theorem dX8_sorts_9 : decode cX8_sorts 9 = .ok (.bipush (-102), 2) := by decide +kernel
theorem dX8_sorts_11 : decode cX8_sorts 11 = .ok (.goto 18, 3) := by decide +kernel
theorem dX8_sorts_14 : decode cX8_sorts 14 = .ok (.iload_n 1, 1) := by decide +kernel
theorem dX8_sorts_15 : decode cX8_sorts 15 = .ok (.ifCond .ne 10, 3) := by decide +kernel
theorem dX8_sorts_18 : decode cX8_sorts 18 = .ok (.aload_n 0, 1) := by decide +kernel
theorem dX8_sorts_19 : decode cX8_sorts 19 = .ok (.invokevirtual 323, 3) := by decide +kernel
theorem dX8_sorts_22 : decode cX8_sorts 22 = .ok (.goto 7, 3) := by decide +kernel
theorem dX8_sorts_25 : decode cX8_sorts 25 = .ok (.aload_n 0, 1) := by decide +kernel
theorem dX8_sorts_26 : decode cX8_sorts 26 = .ok (.invokevirtual 326, 3) := by decide +kernel
theorem dX8_sorts_29 : decode cX8_sorts 29 = .ok (.ireturn, 1) := by decide +kernel
theorem dX8_draw_0 : decode cX8_draw 0 = .ok (.aload_n 0, 1) := by decide +kernel
theorem dX8_draw_1 : decode cX8_draw 1 = .ok (.ldc2_w 329, 3) := by decide +kernel
theorem dX8_draw_4 : decode cX8_draw 4 = .ok (.aload_n 0, 1) := by decide +kernel
theorem dX8_draw_5 : decode cX8_draw 5 = .ok (.getfield 331, 3) := by decide +kernel
theorem dX8_draw_8 : decode cX8_draw 8 = .ok (.lmul, 1) := by decide +kernel
theorem dX8_draw_9 : decode cX8_draw 9 = .ok (.ldc2_w 335, 3) := by decide +kernel
theorem dX8_draw_12 : decode cX8_draw 12 = .ok (.ladd, 1) := by decide +kernel
theorem dX8_draw_13 : decode cX8_draw 13 = .ok (.ldc2_w 337, 3) := by decide +kernel
theorem dX8_draw_16 : decode cX8_draw 16 = .ok (.land, 1) := by decide +kernel
theorem dX8_draw_17 : decode cX8_draw 17 = .ok (.putfield 331, 3) := by decide +kernel
theorem dX8_draw_20 : decode cX8_draw 20 = .ok (.aload_n 0, 1) := by decide +kernel
theorem dX8_draw_21 : decode cX8_draw 21 = .ok (.getfield 331, 3) := by decide +kernel
theorem dX8_draw_24 : decode cX8_draw 24 = .ok (.ldc2_w 339, 3) := by decide +kernel
theorem dX8_draw_27 : decode cX8_draw 27 = .ok (.ldiv, 1) := by decide +kernel
theorem dX8_draw_28 : decode cX8_draw 28 = .ok (.iload_n 1, 1) := by decide +kernel
theorem dX8_draw_29 : decode cX8_draw 29 = .ok (.i2l, 1) := by decide +kernel
theorem dX8_draw_30 : decode cX8_draw 30 = .ok (.lrem, 1) := by decide +kernel
theorem dX8_draw_31 : decode cX8_draw 31 = .ok (.l2i, 1) := by decide +kernel
theorem dX8_draw_32 : decode cX8_draw 32 = .ok (.ireturn, 1) := by decide +kernel
theorem dX8_drawnNow_0 : decode cX8_drawnNow 0 = .ok (.aload_n 0, 1) := by decide +kernel
theorem dX8_drawnNow_1 : decode cX8_drawnNow 1 = .ok (.getfield 17, 3) := by decide +kernel
theorem dX8_drawnNow_4 : decode cX8_drawnNow 4 = .ok (.iconst 0, 1) := by decide +kernel
theorem dX8_drawnNow_5 : decode cX8_drawnNow 5 = .ok (.iaload, 1) := by decide +kernel
theorem dX8_drawnNow_6 : decode cX8_drawnNow 6 = .ok (.istore 4, 2) := by decide +kernel
theorem dX8_drawnNow_8 : decode cX8_drawnNow 8 = .ok (.aload_n 0, 1) := by decide +kernel
theorem dX8_drawnNow_9 : decode cX8_drawnNow 9 = .ok (.getfield 17, 3) := by decide +kernel
theorem dX8_drawnNow_12 : decode cX8_drawnNow 12 = .ok (.iconst 1, 1) := by decide +kernel
theorem dX8_drawnNow_13 : decode cX8_drawnNow 13 = .ok (.iaload, 1) := by decide +kernel
theorem dX8_drawnNow_14 : decode cX8_drawnNow 14 = .ok (.istore 5, 2) := by decide +kernel
theorem dX8_drawnNow_16 : decode cX8_drawnNow 16 = .ok (.iconst 0, 1) := by decide +kernel
theorem dX8_drawnNow_17 : decode cX8_drawnNow 17 = .ok (.istore 6, 2) := by decide +kernel
theorem dX8_drawnNow_19 : decode cX8_drawnNow 19 = .ok (.iload 6, 2) := by decide +kernel
theorem dX8_drawnNow_21 : decode cX8_drawnNow 21 = .ok (.bipush 28, 2) := by decide +kernel
theorem dX8_drawnNow_23 : decode cX8_drawnNow 23 = .ok (.if_icmp .ge 23, 3) := by decide +kernel
theorem dX8_drawnNow_26 : decode cX8_drawnNow 26 = .ok (.aload_n 0, 1) := by decide +kernel
theorem dX8_drawnNow_27 : decode cX8_drawnNow 27 = .ok (.getfield 84, 3) := by decide +kernel
theorem dX8_drawnNow_30 : decode cX8_drawnNow 30 = .ok (.iload 6, 2) := by decide +kernel
theorem dX8_drawnNow_32 : decode cX8_drawnNow 32 = .ok (.aload_n 0, 1) := by decide +kernel
theorem dX8_drawnNow_33 : decode cX8_drawnNow 33 = .ok (.getfield 13, 3) := by decide +kernel
theorem dX8_drawnNow_36 : decode cX8_drawnNow 36 = .ok (.iload 6, 2) := by decide +kernel
theorem dX8_drawnNow_38 : decode cX8_drawnNow 38 = .ok (.iaload, 1) := by decide +kernel
theorem dX8_drawnNow_39 : decode cX8_drawnNow 39 = .ok (.iastore, 1) := by decide +kernel
theorem dX8_drawnNow_40 : decode cX8_drawnNow 40 = .ok (.iinc 6 1, 3) := by decide +kernel
theorem dX8_drawnNow_43 : decode cX8_drawnNow 43 = .ok (.goto (-24), 3) := by decide +kernel
theorem dX8_drawnNow_46 : decode cX8_drawnNow 46 = .ok (.aload_n 0, 1) := by decide +kernel
theorem dX8_drawnNow_47 : decode cX8_drawnNow 47 = .ok (.getfield 17, 3) := by decide +kernel
theorem dX8_drawnNow_50 : decode cX8_drawnNow 50 = .ok (.iconst 0, 1) := by decide +kernel
theorem dX8_drawnNow_51 : decode cX8_drawnNow 51 = .ok (.bipush 8, 2) := by decide +kernel
theorem dX8_drawnNow_53 : decode cX8_drawnNow 53 = .ok (.iastore, 1) := by decide +kernel
theorem dX8_drawnNow_54 : decode cX8_drawnNow 54 = .ok (.aload_n 0, 1) := by decide +kernel
theorem dX8_drawnNow_55 : decode cX8_drawnNow 55 = .ok (.getfield 17, 3) := by decide +kernel
theorem dX8_drawnNow_58 : decode cX8_drawnNow 58 = .ok (.iconst 1, 1) := by decide +kernel
theorem dX8_drawnNow_59 : decode cX8_drawnNow 59 = .ok (.bipush 8, 2) := by decide +kernel
theorem dX8_drawnNow_61 : decode cX8_drawnNow 61 = .ok (.iastore, 1) := by decide +kernel
theorem dX8_drawnNow_62 : decode cX8_drawnNow 62 = .ok (.aload_n 0, 1) := by decide +kernel
theorem dX8_drawnNow_63 : decode cX8_drawnNow 63 = .ok (.iload_n 2, 1) := by decide +kernel
theorem dX8_drawnNow_64 : decode cX8_drawnNow 64 = .ok (.i2l, 1) := by decide +kernel
theorem dX8_drawnNow_65 : decode cX8_drawnNow 65 = .ok (.putfield 331, 3) := by decide +kernel
theorem dX8_drawnNow_68 : decode cX8_drawnNow 68 = .ok (.iconst 0, 1) := by decide +kernel
theorem dX8_drawnNow_69 : decode cX8_drawnNow 69 = .ok (.istore 6, 2) := by decide +kernel
theorem dX8_drawnNow_71 : decode cX8_drawnNow 71 = .ok (.iconst 0, 1) := by decide +kernel
theorem dX8_drawnNow_72 : decode cX8_drawnNow 72 = .ok (.istore 7, 2) := by decide +kernel
theorem dX8_drawnNow_74 : decode cX8_drawnNow 74 = .ok (.iconst 0, 1) := by decide +kernel
theorem dX8_drawnNow_75 : decode cX8_drawnNow 75 = .ok (.istore 8, 2) := by decide +kernel
theorem dX8_drawnNow_77 : decode cX8_drawnNow 77 = .ok (.iload 8, 2) := by decide +kernel
theorem dX8_drawnNow_79 : decode cX8_drawnNow 79 = .ok (.iload_n 1, 1) := by decide +kernel
theorem dX8_drawnNow_80 : decode cX8_drawnNow 80 = .ok (.if_icmp .ge 96, 3) := by decide +kernel
theorem dX8_drawnNow_83 : decode cX8_drawnNow 83 = .ok (.iconst 0, 1) := by decide +kernel
theorem dX8_drawnNow_84 : decode cX8_drawnNow 84 = .ok (.istore 9, 2) := by decide +kernel
theorem dX8_drawnNow_86 : decode cX8_drawnNow 86 = .ok (.iload 9, 2) := by decide +kernel
theorem dX8_drawnNow_88 : decode cX8_drawnNow 88 = .ok (.bipush 16, 2) := by decide +kernel
theorem dX8_drawnNow_90 : decode cX8_drawnNow 90 = .ok (.if_icmp .ge 55, 3) := by decide +kernel
theorem dX8_drawnNow_93 : decode cX8_drawnNow 93 = .ok (.aload_n 0, 1) := by decide +kernel
theorem dX8_drawnNow_94 : decode cX8_drawnNow 94 = .ok (.bipush 17, 2) := by decide +kernel
theorem dX8_drawnNow_96 : decode cX8_drawnNow 96 = .ok (.invokevirtual 341, 3) := by decide +kernel
theorem dX8_drawnNow_99 : decode cX8_drawnNow 99 = .ok (.istore 10, 2) := by decide +kernel
theorem dX8_drawnNow_101 : decode cX8_drawnNow 101 = .ok (.aload_n 0, 1) := by decide +kernel
theorem dX8_drawnNow_102 : decode cX8_drawnNow 102 = .ok (.getfield 13, 3) := by decide +kernel
theorem dX8_drawnNow_105 : decode cX8_drawnNow 105 = .ok (.iload 9, 2) := by decide +kernel
theorem dX8_drawnNow_107 : decode cX8_drawnNow 107 = .ok (.bipush 8, 2) := by decide +kernel
theorem dX8_drawnNow_109 : decode cX8_drawnNow 109 = .ok (.if_icmp .ge 8, 3) := by decide +kernel
theorem dX8_drawnNow_112 : decode cX8_drawnNow 112 = .ok (.iload 9, 2) := by decide +kernel
theorem dX8_drawnNow_114 : decode cX8_drawnNow 114 = .ok (.goto 11, 3) := by decide +kernel
theorem dX8_drawnNow_117 : decode cX8_drawnNow 117 = .ok (.bipush 14, 2) := by decide +kernel
theorem dX8_drawnNow_119 : decode cX8_drawnNow 119 = .ok (.iload 9, 2) := by decide +kernel
theorem dX8_drawnNow_121 : decode cX8_drawnNow 121 = .ok (.iadd, 1) := by decide +kernel
theorem dX8_drawnNow_122 : decode cX8_drawnNow 122 = .ok (.bipush 8, 2) := by decide +kernel
theorem dX8_drawnNow_124 : decode cX8_drawnNow 124 = .ok (.isub, 1) := by decide +kernel
theorem dX8_drawnNow_125 : decode cX8_drawnNow 125 = .ok (.iload 10, 2) := by decide +kernel
theorem dX8_drawnNow_127 : decode cX8_drawnNow 127 = .ok (.bipush 16, 2) := by decide +kernel
theorem dX8_drawnNow_129 : decode cX8_drawnNow 129 = .ok (.if_icmp .ne 7, 3) := by decide +kernel
theorem dX8_drawnNow_132 : decode cX8_drawnNow 132 = .ok (.iconst (-1), 1) := by decide +kernel
theorem dX8_drawnNow_133 : decode cX8_drawnNow 133 = .ok (.goto 5, 3) := by decide +kernel
theorem dX8_drawnNow_136 : decode cX8_drawnNow 136 = .ok (.iload 10, 2) := by decide +kernel
theorem dX8_drawnNow_138 : decode cX8_drawnNow 138 = .ok (.iastore, 1) := by decide +kernel
theorem dX8_drawnNow_139 : decode cX8_drawnNow 139 = .ok (.iinc 9 1, 3) := by decide +kernel
theorem dX8_drawnNow_142 : decode cX8_drawnNow 142 = .ok (.goto (-56), 3) := by decide +kernel
theorem dX8_drawnNow_145 : decode cX8_drawnNow 145 = .ok (.aload_n 0, 1) := by decide +kernel
theorem dX8_drawnNow_146 : decode cX8_drawnNow 146 = .ok (.ldc_w 316, 3) := by decide +kernel
theorem dX8_drawnNow_149 : decode cX8_drawnNow 149 = .ok (.invokevirtual 304, 3) := by decide +kernel
theorem dX8_drawnNow_152 : decode cX8_drawnNow 152 = .ok (.iload 6, 2) := by decide +kernel
theorem dX8_drawnNow_154 : decode cX8_drawnNow 154 = .ok (.aload_n 0, 1) := by decide +kernel
theorem dX8_drawnNow_155 : decode cX8_drawnNow 155 = .ok (.getfield 186, 3) := by decide +kernel
theorem dX8_drawnNow_158 : decode cX8_drawnNow 158 = .ok (.iadd, 1) := by decide +kernel
theorem dX8_drawnNow_159 : decode cX8_drawnNow 159 = .ok (.istore 6, 2) := by decide +kernel
theorem dX8_drawnNow_161 : decode cX8_drawnNow 161 = .ok (.iload 7, 2) := by decide +kernel
theorem dX8_drawnNow_163 : decode cX8_drawnNow 163 = .ok (.aload_n 0, 1) := by decide +kernel
theorem dX8_drawnNow_164 : decode cX8_drawnNow 164 = .ok (.getfield 252, 3) := by decide +kernel
theorem dX8_drawnNow_167 : decode cX8_drawnNow 167 = .ok (.iadd, 1) := by decide +kernel
theorem dX8_drawnNow_168 : decode cX8_drawnNow 168 = .ok (.istore 7, 2) := by decide +kernel
theorem dX8_drawnNow_170 : decode cX8_drawnNow 170 = .ok (.iinc 8 1, 3) := by decide +kernel
theorem dX8_drawnNow_173 : decode cX8_drawnNow 173 = .ok (.goto (-96), 3) := by decide +kernel
theorem dX8_drawnNow_176 : decode cX8_drawnNow 176 = .ok (.aload_n 0, 1) := by decide +kernel
theorem dX8_drawnNow_177 : decode cX8_drawnNow 177 = .ok (.getfield 17, 3) := by decide +kernel
theorem dX8_drawnNow_180 : decode cX8_drawnNow 180 = .ok (.iconst 0, 1) := by decide +kernel
theorem dX8_drawnNow_181 : decode cX8_drawnNow 181 = .ok (.iload 4, 2) := by decide +kernel
theorem dX8_drawnNow_183 : decode cX8_drawnNow 183 = .ok (.iastore, 1) := by decide +kernel
theorem dX8_drawnNow_184 : decode cX8_drawnNow 184 = .ok (.aload_n 0, 1) := by decide +kernel
theorem dX8_drawnNow_185 : decode cX8_drawnNow 185 = .ok (.getfield 17, 3) := by decide +kernel
theorem dX8_drawnNow_188 : decode cX8_drawnNow 188 = .ok (.iconst 1, 1) := by decide +kernel
theorem dX8_drawnNow_189 : decode cX8_drawnNow 189 = .ok (.iload 5, 2) := by decide +kernel
theorem dX8_drawnNow_191 : decode cX8_drawnNow 191 = .ok (.iastore, 1) := by decide +kernel
theorem dX8_drawnNow_192 : decode cX8_drawnNow 192 = .ok (.iconst 0, 1) := by decide +kernel
theorem dX8_drawnNow_193 : decode cX8_drawnNow 193 = .ok (.istore 8, 2) := by decide +kernel
theorem dX8_drawnNow_195 : decode cX8_drawnNow 195 = .ok (.iload 8, 2) := by decide +kernel
theorem dX8_drawnNow_197 : decode cX8_drawnNow 197 = .ok (.bipush 28, 2) := by decide +kernel
theorem dX8_drawnNow_199 : decode cX8_drawnNow 199 = .ok (.if_icmp .ge 23, 3) := by decide +kernel
theorem dX8_drawnNow_202 : decode cX8_drawnNow 202 = .ok (.aload_n 0, 1) := by decide +kernel
theorem dX8_drawnNow_203 : decode cX8_drawnNow 203 = .ok (.getfield 13, 3) := by decide +kernel
theorem dX8_drawnNow_206 : decode cX8_drawnNow 206 = .ok (.iload 8, 2) := by decide +kernel
theorem dX8_drawnNow_208 : decode cX8_drawnNow 208 = .ok (.aload_n 0, 1) := by decide +kernel
theorem dX8_drawnNow_209 : decode cX8_drawnNow 209 = .ok (.getfield 84, 3) := by decide +kernel
theorem dX8_drawnNow_212 : decode cX8_drawnNow 212 = .ok (.iload 8, 2) := by decide +kernel
theorem dX8_drawnNow_214 : decode cX8_drawnNow 214 = .ok (.iaload, 1) := by decide +kernel
theorem dX8_drawnNow_215 : decode cX8_drawnNow 215 = .ok (.iastore, 1) := by decide +kernel
theorem dX8_drawnNow_216 : decode cX8_drawnNow 216 = .ok (.iinc 8 1, 3) := by decide +kernel
theorem dX8_drawnNow_219 : decode cX8_drawnNow 219 = .ok (.goto (-24), 3) := by decide +kernel
theorem dX8_drawnNow_222 : decode cX8_drawnNow 222 = .ok (.iload_n 3, 1) := by decide +kernel
theorem dX8_drawnNow_223 : decode cX8_drawnNow 223 = .ok (.ifCond .ne 8, 3) := by decide +kernel
theorem dX8_drawnNow_226 : decode cX8_drawnNow 226 = .ok (.iload 6, 2) := by decide +kernel
theorem dX8_drawnNow_228 : decode cX8_drawnNow 228 = .ok (.goto 18, 3) := by decide +kernel
theorem dX8_drawnNow_231 : decode cX8_drawnNow 231 = .ok (.iload_n 3, 1) := by decide +kernel
theorem dX8_drawnNow_232 : decode cX8_drawnNow 232 = .ok (.iconst 1, 1) := by decide +kernel
theorem dX8_drawnNow_233 : decode cX8_drawnNow 233 = .ok (.if_icmp .ne 8, 3) := by decide +kernel
theorem dX8_drawnNow_236 : decode cX8_drawnNow 236 = .ok (.iload 7, 2) := by decide +kernel
theorem dX8_drawnNow_238 : decode cX8_drawnNow 238 = .ok (.goto 8, 3) := by decide +kernel
theorem dX8_drawnNow_241 : decode cX8_drawnNow 241 = .ok (.aload_n 0, 1) := by decide +kernel
theorem dX8_drawnNow_242 : decode cX8_drawnNow 242 = .ok (.getfield 331, 3) := by decide +kernel
theorem dX8_drawnNow_245 : decode cX8_drawnNow 245 = .ok (.l2i, 1) := by decide +kernel
theorem dX8_drawnNow_246 : decode cX8_drawnNow 246 = .ok (.ireturn, 1) := by decide +kernel
theorem dX8_drawn_0 : decode cX8_drawn 0 = .ok (.iload_n 1, 1) := by decide +kernel
theorem dX8_drawn_1 : decode cX8_drawn 1 = .ok (.iconst 1, 1) := by decide +kernel
theorem dX8_drawn_2 : decode cX8_drawn 2 = .ok (.bipush 10, 2) := by decide +kernel
theorem dX8_drawn_4 : decode cX8_drawn 4 = .ok (.invokestatic 99, 3) := by decide +kernel
theorem dX8_drawn_7 : decode cX8_drawn 7 = .ok (.ifCond .eq 16, 3) := by decide +kernel
theorem dX8_drawn_10 : decode cX8_drawn 10 = .ok (.iload_n 2, 1) := by decide +kernel
theorem dX8_drawn_11 : decode cX8_drawn 11 = .ok (.ifCond .lt 12, 3) := by decide +kernel
theorem dX8_drawn_14 : decode cX8_drawn 14 = .ok (.iload_n 3, 1) := by decide +kernel
theorem dX8_drawn_15 : decode cX8_drawn 15 = .ok (.iconst 0, 1) := by decide +kernel
theorem dX8_drawn_16 : decode cX8_drawn 16 = .ok (.iconst 2, 1) := by decide +kernel
theorem dX8_drawn_17 : decode cX8_drawn 17 = .ok (.invokestatic 99, 3) := by decide +kernel
theorem dX8_drawn_20 : decode cX8_drawn 20 = .ok (.ifCond .ne 6, 3) := by decide +kernel
theorem dX8_drawn_23 : decode cX8_drawn 23 = .ok (.bipush (-102), 2) := by decide +kernel
theorem dX8_drawn_25 : decode cX8_drawn 25 = .ok (.ireturn, 1) := by decide +kernel
theorem dX8_drawn_26 : decode cX8_drawn 26 = .ok (.aload_n 0, 1) := by decide +kernel
theorem dX8_drawn_27 : decode cX8_drawn 27 = .ok (.getfield 143, 3) := by decide +kernel
theorem dX8_drawn_30 : decode cX8_drawn 30 = .ok (.ifCond .ne 8, 3) := by decide +kernel
theorem dX8_drawn_33 : decode cX8_drawn 33 = .ok (.bipush (-103), 2) := by decide +kernel
theorem dX8_drawn_35 : decode cX8_drawn 35 = .ok (.goto 10, 3) := by decide +kernel
theorem dX8_drawn_38 : decode cX8_drawn 38 = .ok (.aload_n 0, 1) := by decide +kernel
theorem dX8_drawn_39 : decode cX8_drawn 39 = .ok (.iload_n 1, 1) := by decide +kernel
theorem dX8_drawn_40 : decode cX8_drawn 40 = .ok (.iload_n 2, 1) := by decide +kernel
theorem dX8_drawn_41 : decode cX8_drawn 41 = .ok (.iload_n 3, 1) := by decide +kernel
theorem dX8_drawn_42 : decode cX8_drawn 42 = .ok (.invokevirtual 344, 3) := by decide +kernel
theorem dX8_drawn_45 : decode cX8_drawn 45 = .ok (.ireturn, 1) := by decide +kernel
theorem dX8_image_0 : decode cX8_image 0 = .ok (.aload_n 0, 1) := by decide +kernel
theorem dX8_image_1 : decode cX8_image 1 = .ok (.getfield 143, 3) := by decide +kernel
theorem dX8_image_4 : decode cX8_image 4 = .ok (.ifCond .ne 6, 3) := by decide +kernel
theorem dX8_image_7 : decode cX8_image 7 = .ok (.bipush (-103), 2) := by decide +kernel
theorem dX8_image_9 : decode cX8_image 9 = .ok (.ireturn, 1) := by decide +kernel
theorem dX8_image_10 : decode cX8_image 10 = .ok (.aload_n 0, 1) := by decide +kernel
theorem dX8_image_11 : decode cX8_image 11 = .ok (.iconst 1, 1) := by decide +kernel
theorem dX8_image_12 : decode cX8_image 12 = .ok (.putfield 347, 3) := by decide +kernel
theorem dX8_image_15 : decode cX8_image 15 = .ok (.aload_n 0, 1) := by decide +kernel
theorem dX8_image_16 : decode cX8_image 16 = .ok (.aload_n 0, 1) := by decide +kernel
theorem dX8_image_17 : decode cX8_image 17 = .ok (.getfield 143, 3) := by decide +kernel
theorem dX8_image_20 : decode cX8_image 20 = .ok (.putfield 350, 3) := by decide +kernel
theorem dX8_image_23 : decode cX8_image 23 = .ok (.aload_n 0, 1) := by decide +kernel
theorem dX8_image_24 : decode cX8_image 24 = .ok (.aload_n 0, 1) := by decide +kernel
theorem dX8_image_25 : decode cX8_image 25 = .ok (.getfield 134, 3) := by decide +kernel
theorem dX8_image_28 : decode cX8_image 28 = .ok (.putfield 353, 3) := by decide +kernel
theorem dX8_image_31 : decode cX8_image 31 = .ok (.aload_n 0, 1) := by decide +kernel
theorem dX8_image_32 : decode cX8_image 32 = .ok (.aload_n 0, 1) := by decide +kernel
theorem dX8_image_33 : decode cX8_image 33 = .ok (.getfield 9, 3) := by decide +kernel
theorem dX8_image_36 : decode cX8_image 36 = .ok (.putfield 356, 3) := by decide +kernel
theorem dX8_image_39 : decode cX8_image 39 = .ok (.aload_n 0, 1) := by decide +kernel
theorem dX8_image_40 : decode cX8_image 40 = .ok (.aload_n 0, 1) := by decide +kernel
theorem dX8_image_41 : decode cX8_image 41 = .ok (.getfield 17, 3) := by decide +kernel
theorem dX8_image_44 : decode cX8_image 44 = .ok (.iconst 0, 1) := by decide +kernel
theorem dX8_image_45 : decode cX8_image 45 = .ok (.iaload, 1) := by decide +kernel
theorem dX8_image_46 : decode cX8_image 46 = .ok (.putfield 359, 3) := by decide +kernel
theorem dX8_image_49 : decode cX8_image 49 = .ok (.aload_n 0, 1) := by decide +kernel
theorem dX8_image_50 : decode cX8_image 50 = .ok (.aload_n 0, 1) := by decide +kernel
theorem dX8_image_51 : decode cX8_image 51 = .ok (.getfield 17, 3) := by decide +kernel
theorem dX8_image_54 : decode cX8_image 54 = .ok (.iconst 1, 1) := by decide +kernel
theorem dX8_image_55 : decode cX8_image 55 = .ok (.iaload, 1) := by decide +kernel
theorem dX8_image_56 : decode cX8_image 56 = .ok (.putfield 362, 3) := by decide +kernel
theorem dX8_image_59 : decode cX8_image 59 = .ok (.aload_n 0, 1) := by decide +kernel
theorem dX8_image_60 : decode cX8_image 60 = .ok (.aload_n 0, 1) := by decide +kernel
theorem dX8_image_61 : decode cX8_image 61 = .ok (.getfield 146, 3) := by decide +kernel
theorem dX8_image_64 : decode cX8_image 64 = .ok (.putfield 365, 3) := by decide +kernel
theorem dX8_image_67 : decode cX8_image 67 = .ok (.iconst 0, 1) := by decide +kernel
theorem dX8_image_68 : decode cX8_image 68 = .ok (.istore_n 1, 1) := by decide +kernel
theorem dX8_image_69 : decode cX8_image 69 = .ok (.iload_n 1, 1) := by decide +kernel
theorem dX8_image_70 : decode cX8_image 70 = .ok (.bipush 28, 2) := by decide +kernel
theorem dX8_image_72 : decode cX8_image 72 = .ok (.if_icmp .ge 21, 3) := by decide +kernel
theorem dX8_image_75 : decode cX8_image 75 = .ok (.aload_n 0, 1) := by decide +kernel
theorem dX8_image_76 : decode cX8_image 76 = .ok (.getfield 87, 3) := by decide +kernel
theorem dX8_image_79 : decode cX8_image 79 = .ok (.iload_n 1, 1) := by decide +kernel
theorem dX8_image_80 : decode cX8_image 80 = .ok (.aload_n 0, 1) := by decide +kernel
theorem dX8_image_81 : decode cX8_image 81 = .ok (.getfield 13, 3) := by decide +kernel
theorem dX8_image_84 : decode cX8_image 84 = .ok (.iload_n 1, 1) := by decide +kernel
theorem dX8_image_85 : decode cX8_image 85 = .ok (.iaload, 1) := by decide +kernel
theorem dX8_image_86 : decode cX8_image 86 = .ok (.iastore, 1) := by decide +kernel
theorem dX8_image_87 : decode cX8_image 87 = .ok (.iinc 1 1, 3) := by decide +kernel
theorem dX8_image_90 : decode cX8_image 90 = .ok (.goto (-21), 3) := by decide +kernel
theorem dX8_image_93 : decode cX8_image 93 = .ok (.iconst 0, 1) := by decide +kernel
theorem dX8_image_94 : decode cX8_image 94 = .ok (.istore_n 1, 1) := by decide +kernel
theorem dX8_image_95 : decode cX8_image 95 = .ok (.iload_n 1, 1) := by decide +kernel
theorem dX8_image_96 : decode cX8_image 96 = .ok (.bipush 6, 2) := by decide +kernel
theorem dX8_image_98 : decode cX8_image 98 = .ok (.if_icmp .ge 33, 3) := by decide +kernel
theorem dX8_image_101 : decode cX8_image 101 = .ok (.aload_n 0, 1) := by decide +kernel
theorem dX8_image_102 : decode cX8_image 102 = .ok (.getfield 90, 3) := by decide +kernel
theorem dX8_image_105 : decode cX8_image 105 = .ok (.iload_n 1, 1) := by decide +kernel
theorem dX8_image_106 : decode cX8_image 106 = .ok (.aload_n 0, 1) := by decide +kernel
theorem dX8_image_107 : decode cX8_image 107 = .ok (.getfield 20, 3) := by decide +kernel
theorem dX8_image_110 : decode cX8_image 110 = .ok (.iload_n 1, 1) := by decide +kernel
theorem dX8_image_111 : decode cX8_image 111 = .ok (.iaload, 1) := by decide +kernel
theorem dX8_image_112 : decode cX8_image 112 = .ok (.iastore, 1) := by decide +kernel
theorem dX8_image_113 : decode cX8_image 113 = .ok (.aload_n 0, 1) := by decide +kernel
theorem dX8_image_114 : decode cX8_image 114 = .ok (.getfield 93, 3) := by decide +kernel
theorem dX8_image_117 : decode cX8_image 117 = .ok (.iload_n 1, 1) := by decide +kernel
theorem dX8_image_118 : decode cX8_image 118 = .ok (.aload_n 0, 1) := by decide +kernel
theorem dX8_image_119 : decode cX8_image 119 = .ok (.getfield 23, 3) := by decide +kernel
theorem dX8_image_122 : decode cX8_image 122 = .ok (.iload_n 1, 1) := by decide +kernel
theorem dX8_image_123 : decode cX8_image 123 = .ok (.iaload, 1) := by decide +kernel
theorem dX8_image_124 : decode cX8_image 124 = .ok (.iastore, 1) := by decide +kernel
theorem dX8_image_125 : decode cX8_image 125 = .ok (.iinc 1 1, 3) := by decide +kernel
theorem dX8_image_128 : decode cX8_image 128 = .ok (.goto (-33), 3) := by decide +kernel
theorem dX8_image_131 : decode cX8_image 131 = .ok (.aload_n 0, 1) := by decide +kernel
theorem dX8_image_132 : decode cX8_image 132 = .ok (.getfield 17, 3) := by decide +kernel
theorem dX8_image_135 : decode cX8_image 135 = .ok (.iconst 0, 1) := by decide +kernel
theorem dX8_image_136 : decode cX8_image 136 = .ok (.iaload, 1) := by decide +kernel
theorem dX8_image_137 : decode cX8_image 137 = .ok (.aload_n 0, 1) := by decide +kernel
theorem dX8_image_138 : decode cX8_image 138 = .ok (.getfield 17, 3) := by decide +kernel
theorem dX8_image_141 : decode cX8_image 141 = .ok (.iconst 1, 1) := by decide +kernel
theorem dX8_image_142 : decode cX8_image 142 = .ok (.iaload, 1) := by decide +kernel
theorem dX8_image_143 : decode cX8_image 143 = .ok (.iadd, 1) := by decide +kernel
theorem dX8_image_144 : decode cX8_image 144 = .ok (.ireturn, 1) := by decide +kernel
theorem dX8_restore_0 : decode cX8_restore 0 = .ok (.aload_n 0, 1) := by decide +kernel
theorem dX8_restore_1 : decode cX8_restore 1 = .ok (.getfield 347, 3) := by decide +kernel
theorem dX8_restore_4 : decode cX8_restore 4 = .ok (.ifCond .eq 14, 3) := by decide +kernel
theorem dX8_restore_7 : decode cX8_restore 7 = .ok (.aload_n 0, 1) := by decide +kernel
theorem dX8_restore_8 : decode cX8_restore 8 = .ok (.getfield 350, 3) := by decide +kernel
theorem dX8_restore_11 : decode cX8_restore 11 = .ok (.aload_n 0, 1) := by decide +kernel
theorem dX8_restore_12 : decode cX8_restore 12 = .ok (.getfield 143, 3) := by decide +kernel
theorem dX8_restore_15 : decode cX8_restore 15 = .ok (.if_icmp .eq 6, 3) := by decide +kernel
theorem dX8_restore_18 : decode cX8_restore 18 = .ok (.bipush (-103), 2) := by decide +kernel
theorem dX8_restore_20 : decode cX8_restore 20 = .ok (.ireturn, 1) := by decide +kernel
theorem dX8_restore_21 : decode cX8_restore 21 = .ok (.aload_n 0, 1) := by decide +kernel
theorem dX8_restore_22 : decode cX8_restore 22 = .ok (.aload_n 0, 1) := by decide +kernel
theorem dX8_restore_23 : decode cX8_restore 23 = .ok (.getfield 353, 3) := by decide +kernel
theorem dX8_restore_26 : decode cX8_restore 26 = .ok (.putfield 134, 3) := by decide +kernel
theorem dX8_restore_29 : decode cX8_restore 29 = .ok (.aload_n 0, 1) := by decide +kernel
theorem dX8_restore_30 : decode cX8_restore 30 = .ok (.aload_n 0, 1) := by decide +kernel
theorem dX8_restore_31 : decode cX8_restore 31 = .ok (.getfield 356, 3) := by decide +kernel
theorem dX8_restore_34 : decode cX8_restore 34 = .ok (.putfield 9, 3) := by decide +kernel
theorem dX8_restore_37 : decode cX8_restore 37 = .ok (.aload_n 0, 1) := by decide +kernel
theorem dX8_restore_38 : decode cX8_restore 38 = .ok (.getfield 17, 3) := by decide +kernel
theorem dX8_restore_41 : decode cX8_restore 41 = .ok (.iconst 0, 1) := by decide +kernel
theorem dX8_restore_42 : decode cX8_restore 42 = .ok (.aload_n 0, 1) := by decide +kernel
theorem dX8_restore_43 : decode cX8_restore 43 = .ok (.getfield 359, 3) := by decide +kernel
theorem dX8_restore_46 : decode cX8_restore 46 = .ok (.iastore, 1) := by decide +kernel
theorem dX8_restore_47 : decode cX8_restore 47 = .ok (.aload_n 0, 1) := by decide +kernel
theorem dX8_restore_48 : decode cX8_restore 48 = .ok (.getfield 17, 3) := by decide +kernel
theorem dX8_restore_51 : decode cX8_restore 51 = .ok (.iconst 1, 1) := by decide +kernel
theorem dX8_restore_52 : decode cX8_restore 52 = .ok (.aload_n 0, 1) := by decide +kernel
theorem dX8_restore_53 : decode cX8_restore 53 = .ok (.getfield 362, 3) := by decide +kernel
theorem dX8_restore_56 : decode cX8_restore 56 = .ok (.iastore, 1) := by decide +kernel
theorem dX8_restore_57 : decode cX8_restore 57 = .ok (.aload_n 0, 1) := by decide +kernel
theorem dX8_restore_58 : decode cX8_restore 58 = .ok (.aload_n 0, 1) := by decide +kernel
theorem dX8_restore_59 : decode cX8_restore 59 = .ok (.getfield 365, 3) := by decide +kernel
theorem dX8_restore_62 : decode cX8_restore 62 = .ok (.putfield 146, 3) := by decide +kernel
theorem dX8_restore_65 : decode cX8_restore 65 = .ok (.iconst 0, 1) := by decide +kernel
theorem dX8_restore_66 : decode cX8_restore 66 = .ok (.istore_n 1, 1) := by decide +kernel
theorem dX8_restore_67 : decode cX8_restore 67 = .ok (.iload_n 1, 1) := by decide +kernel
theorem dX8_restore_68 : decode cX8_restore 68 = .ok (.bipush 28, 2) := by decide +kernel
theorem dX8_restore_70 : decode cX8_restore 70 = .ok (.if_icmp .ge 21, 3) := by decide +kernel
theorem dX8_restore_73 : decode cX8_restore 73 = .ok (.aload_n 0, 1) := by decide +kernel
theorem dX8_restore_74 : decode cX8_restore 74 = .ok (.getfield 13, 3) := by decide +kernel
theorem dX8_restore_77 : decode cX8_restore 77 = .ok (.iload_n 1, 1) := by decide +kernel
theorem dX8_restore_78 : decode cX8_restore 78 = .ok (.aload_n 0, 1) := by decide +kernel
theorem dX8_restore_79 : decode cX8_restore 79 = .ok (.getfield 87, 3) := by decide +kernel
theorem dX8_restore_82 : decode cX8_restore 82 = .ok (.iload_n 1, 1) := by decide +kernel
theorem dX8_restore_83 : decode cX8_restore 83 = .ok (.iaload, 1) := by decide +kernel
theorem dX8_restore_84 : decode cX8_restore 84 = .ok (.iastore, 1) := by decide +kernel
theorem dX8_restore_85 : decode cX8_restore 85 = .ok (.iinc 1 1, 3) := by decide +kernel
theorem dX8_restore_88 : decode cX8_restore 88 = .ok (.goto (-21), 3) := by decide +kernel
theorem dX8_restore_91 : decode cX8_restore 91 = .ok (.iconst 0, 1) := by decide +kernel
theorem dX8_restore_92 : decode cX8_restore 92 = .ok (.istore_n 1, 1) := by decide +kernel
theorem dX8_restore_93 : decode cX8_restore 93 = .ok (.iload_n 1, 1) := by decide +kernel
theorem dX8_restore_94 : decode cX8_restore 94 = .ok (.bipush 6, 2) := by decide +kernel
theorem dX8_restore_96 : decode cX8_restore 96 = .ok (.if_icmp .ge 33, 3) := by decide +kernel
theorem dX8_restore_99 : decode cX8_restore 99 = .ok (.aload_n 0, 1) := by decide +kernel
theorem dX8_restore_100 : decode cX8_restore 100 = .ok (.getfield 20, 3) := by decide +kernel
theorem dX8_restore_103 : decode cX8_restore 103 = .ok (.iload_n 1, 1) := by decide +kernel
theorem dX8_restore_104 : decode cX8_restore 104 = .ok (.aload_n 0, 1) := by decide +kernel
theorem dX8_restore_105 : decode cX8_restore 105 = .ok (.getfield 90, 3) := by decide +kernel
theorem dX8_restore_108 : decode cX8_restore 108 = .ok (.iload_n 1, 1) := by decide +kernel
theorem dX8_restore_109 : decode cX8_restore 109 = .ok (.iaload, 1) := by decide +kernel
theorem dX8_restore_110 : decode cX8_restore 110 = .ok (.iastore, 1) := by decide +kernel
theorem dX8_restore_111 : decode cX8_restore 111 = .ok (.aload_n 0, 1) := by decide +kernel
theorem dX8_restore_112 : decode cX8_restore 112 = .ok (.getfield 23, 3) := by decide +kernel
theorem dX8_restore_115 : decode cX8_restore 115 = .ok (.iload_n 1, 1) := by decide +kernel
theorem dX8_restore_116 : decode cX8_restore 116 = .ok (.aload_n 0, 1) := by decide +kernel
theorem dX8_restore_117 : decode cX8_restore 117 = .ok (.getfield 93, 3) := by decide +kernel
theorem dX8_restore_120 : decode cX8_restore 120 = .ok (.iload_n 1, 1) := by decide +kernel
theorem dX8_restore_121 : decode cX8_restore 121 = .ok (.iaload, 1) := by decide +kernel
theorem dX8_restore_122 : decode cX8_restore 122 = .ok (.iastore, 1) := by decide +kernel
theorem dX8_restore_123 : decode cX8_restore 123 = .ok (.iinc 1 1, 3) := by decide +kernel
theorem dX8_restore_126 : decode cX8_restore 126 = .ok (.goto (-33), 3) := by decide +kernel
theorem dX8_restore_129 : decode cX8_restore 129 = .ok (.aload_n 0, 1) := by decide +kernel
theorem dX8_restore_130 : decode cX8_restore 130 = .ok (.getfield 17, 3) := by decide +kernel
theorem dX8_restore_133 : decode cX8_restore 133 = .ok (.iconst 0, 1) := by decide +kernel
theorem dX8_restore_134 : decode cX8_restore 134 = .ok (.iaload, 1) := by decide +kernel
theorem dX8_restore_135 : decode cX8_restore 135 = .ok (.aload_n 0, 1) := by decide +kernel
theorem dX8_restore_136 : decode cX8_restore 136 = .ok (.getfield 17, 3) := by decide +kernel
theorem dX8_restore_139 : decode cX8_restore 139 = .ok (.iconst 1, 1) := by decide +kernel
theorem dX8_restore_140 : decode cX8_restore 140 = .ok (.iaload, 1) := by decide +kernel
theorem dX8_restore_141 : decode cX8_restore 141 = .ok (.iadd, 1) := by decide +kernel
theorem dX8_restore_142 : decode cX8_restore 142 = .ok (.ireturn, 1) := by decide +kernel
theorem dX8_keysOfAll_0 : decode cX8_keysOfAll 0 = .ok (.iconst 0, 1) := by decide +kernel
theorem dX8_keysOfAll_1 : decode cX8_keysOfAll 1 = .ok (.istore_n 1, 1) := by decide +kernel
theorem dX8_keysOfAll_2 : decode cX8_keysOfAll 2 = .ok (.iconst 0, 1) := by decide +kernel
theorem dX8_keysOfAll_3 : decode cX8_keysOfAll 3 = .ok (.istore_n 2, 1) := by decide +kernel
theorem dX8_keysOfAll_4 : decode cX8_keysOfAll 4 = .ok (.iload_n 2, 1) := by decide +kernel
theorem dX8_keysOfAll_5 : decode cX8_keysOfAll 5 = .ok (.iconst 2, 1) := by decide +kernel
theorem dX8_keysOfAll_6 : decode cX8_keysOfAll 6 = .ok (.if_icmp .ge 52, 3) := by decide +kernel
theorem dX8_keysOfAll_9 : decode cX8_keysOfAll 9 = .ok (.iconst 0, 1) := by decide +kernel
theorem dX8_keysOfAll_10 : decode cX8_keysOfAll 10 = .ok (.istore_n 3, 1) := by decide +kernel
theorem dX8_keysOfAll_11 : decode cX8_keysOfAll 11 = .ok (.iload_n 3, 1) := by decide +kernel
theorem dX8_keysOfAll_12 : decode cX8_keysOfAll 12 = .ok (.aload_n 0, 1) := by decide +kernel
theorem dX8_keysOfAll_13 : decode cX8_keysOfAll 13 = .ok (.getfield 17, 3) := by decide +kernel
theorem dX8_keysOfAll_16 : decode cX8_keysOfAll 16 = .ok (.iload_n 2, 1) := by decide +kernel
theorem dX8_keysOfAll_17 : decode cX8_keysOfAll 17 = .ok (.iaload, 1) := by decide +kernel
theorem dX8_keysOfAll_18 : decode cX8_keysOfAll 18 = .ok (.if_icmp .ge 34, 3) := by decide +kernel
theorem dX8_keysOfAll_21 : decode cX8_keysOfAll 21 = .ok (.iload_n 1, 1) := by decide +kernel
theorem dX8_keysOfAll_22 : decode cX8_keysOfAll 22 = .ok (.aload_n 0, 1) := by decide +kernel
theorem dX8_keysOfAll_23 : decode cX8_keysOfAll 23 = .ok (.iload_n 2, 1) := by decide +kernel
theorem dX8_keysOfAll_24 : decode cX8_keysOfAll 24 = .ok (.iload_n 3, 1) := by decide +kernel
theorem dX8_keysOfAll_25 : decode cX8_keysOfAll 25 = .ok (.invokevirtual 152, 3) := by decide +kernel
theorem dX8_keysOfAll_28 : decode cX8_keysOfAll 28 = .ok (.iconst (-1), 1) := by decide +kernel
theorem dX8_keysOfAll_29 : decode cX8_keysOfAll 29 = .ok (.if_icmp .ne 7, 3) := by decide +kernel
theorem dX8_keysOfAll_32 : decode cX8_keysOfAll 32 = .ok (.iconst 0, 1) := by decide +kernel
theorem dX8_keysOfAll_33 : decode cX8_keysOfAll 33 = .ok (.goto 11, 3) := by decide +kernel
theorem dX8_keysOfAll_36 : decode cX8_keysOfAll 36 = .ok (.iconst 1, 1) := by decide +kernel
theorem dX8_keysOfAll_37 : decode cX8_keysOfAll 37 = .ok (.aload_n 0, 1) := by decide +kernel
theorem dX8_keysOfAll_38 : decode cX8_keysOfAll 38 = .ok (.iload_n 2, 1) := by decide +kernel
theorem dX8_keysOfAll_39 : decode cX8_keysOfAll 39 = .ok (.iload_n 3, 1) := by decide +kernel
theorem dX8_keysOfAll_40 : decode cX8_keysOfAll 40 = .ok (.invokevirtual 152, 3) := by decide +kernel
theorem dX8_keysOfAll_43 : decode cX8_keysOfAll 43 = .ok (.ishl, 1) := by decide +kernel
theorem dX8_keysOfAll_44 : decode cX8_keysOfAll 44 = .ok (.ior, 1) := by decide +kernel
theorem dX8_keysOfAll_45 : decode cX8_keysOfAll 45 = .ok (.istore_n 1, 1) := by decide +kernel
theorem dX8_keysOfAll_46 : decode cX8_keysOfAll 46 = .ok (.iinc 3 1, 3) := by decide +kernel
theorem dX8_keysOfAll_49 : decode cX8_keysOfAll 49 = .ok (.goto (-38), 3) := by decide +kernel
theorem dX8_keysOfAll_52 : decode cX8_keysOfAll 52 = .ok (.iinc 2 1, 3) := by decide +kernel
theorem dX8_keysOfAll_55 : decode cX8_keysOfAll 55 = .ok (.goto (-51), 3) := by decide +kernel
theorem dX8_keysOfAll_58 : decode cX8_keysOfAll 58 = .ok (.iload_n 1, 1) := by decide +kernel
theorem dX8_keysOfAll_59 : decode cX8_keysOfAll 59 = .ok (.invokestatic 214, 3) := by decide +kernel
theorem dX8_keysOfAll_62 : decode cX8_keysOfAll 62 = .ok (.ireturn, 1) := by decide +kernel
theorem dX8_pairs_0 : decode cX8_pairs 0 = .ok (.iconst 0, 1) := by decide +kernel
theorem dX8_pairs_1 : decode cX8_pairs 1 = .ok (.istore_n 1, 1) := by decide +kernel
theorem dX8_pairs_2 : decode cX8_pairs 2 = .ok (.iconst 0, 1) := by decide +kernel
theorem dX8_pairs_3 : decode cX8_pairs 3 = .ok (.istore_n 2, 1) := by decide +kernel
theorem dX8_pairs_4 : decode cX8_pairs 4 = .ok (.iload_n 2, 1) := by decide +kernel
theorem dX8_pairs_5 : decode cX8_pairs 5 = .ok (.aload_n 0, 1) := by decide +kernel
theorem dX8_pairs_6 : decode cX8_pairs 6 = .ok (.getfield 17, 3) := by decide +kernel
theorem dX8_pairs_9 : decode cX8_pairs 9 = .ok (.iconst 0, 1) := by decide +kernel
theorem dX8_pairs_10 : decode cX8_pairs 10 = .ok (.iaload, 1) := by decide +kernel
theorem dX8_pairs_11 : decode cX8_pairs 11 = .ok (.if_icmp .ge 18, 3) := by decide +kernel
theorem dX8_pairs_14 : decode cX8_pairs 14 = .ok (.iload_n 1, 1) := by decide +kernel
theorem dX8_pairs_15 : decode cX8_pairs 15 = .ok (.aload_n 0, 1) := by decide +kernel
theorem dX8_pairs_16 : decode cX8_pairs 16 = .ok (.iconst 0, 1) := by decide +kernel
theorem dX8_pairs_17 : decode cX8_pairs 17 = .ok (.iload_n 2, 1) := by decide +kernel
theorem dX8_pairs_18 : decode cX8_pairs 18 = .ok (.invokevirtual 156, 3) := by decide +kernel
theorem dX8_pairs_21 : decode cX8_pairs 21 = .ok (.iadd, 1) := by decide +kernel
theorem dX8_pairs_22 : decode cX8_pairs 22 = .ok (.istore_n 1, 1) := by decide +kernel
theorem dX8_pairs_23 : decode cX8_pairs 23 = .ok (.iinc 2 1, 3) := by decide +kernel
theorem dX8_pairs_26 : decode cX8_pairs 26 = .ok (.goto (-22), 3) := by decide +kernel
theorem dX8_pairs_29 : decode cX8_pairs 29 = .ok (.iload_n 1, 1) := by decide +kernel
theorem dX8_pairs_30 : decode cX8_pairs 30 = .ok (.ireturn, 1) := by decide +kernel
theorem dX8_howMany_0 : decode cX8_howMany 0 = .ok (.iload_n 1, 1) := by decide +kernel
theorem dX8_howMany_1 : decode cX8_howMany 1 = .ok (.tableswitch 102 0 9 #[55, 55, 62, 67, 72, 77, 82, 87, 92, 97], 55) := by decide +kernel
theorem dX8_howMany_56 : decode cX8_howMany 56 = .ok (.aload_n 0, 1) := by decide +kernel
theorem dX8_howMany_57 : decode cX8_howMany 57 = .ok (.getfield 17, 3) := by decide +kernel
theorem dX8_howMany_60 : decode cX8_howMany 60 = .ok (.iload_n 1, 1) := by decide +kernel
theorem dX8_howMany_61 : decode cX8_howMany 61 = .ok (.iaload, 1) := by decide +kernel
theorem dX8_howMany_62 : decode cX8_howMany 62 = .ok (.ireturn, 1) := by decide +kernel
theorem dX8_howMany_63 : decode cX8_howMany 63 = .ok (.aload_n 0, 1) := by decide +kernel
theorem dX8_howMany_64 : decode cX8_howMany 64 = .ok (.getfield 134, 3) := by decide +kernel
theorem dX8_howMany_67 : decode cX8_howMany 67 = .ok (.ireturn, 1) := by decide +kernel
theorem dX8_howMany_68 : decode cX8_howMany 68 = .ok (.aload_n 0, 1) := by decide +kernel
theorem dX8_howMany_69 : decode cX8_howMany 69 = .ok (.getfield 9, 3) := by decide +kernel
theorem dX8_howMany_72 : decode cX8_howMany 72 = .ok (.ireturn, 1) := by decide +kernel
theorem dX8_howMany_73 : decode cX8_howMany 73 = .ok (.aload_n 0, 1) := by decide +kernel
theorem dX8_howMany_74 : decode cX8_howMany 74 = .ok (.invokevirtual 368, 3) := by decide +kernel
theorem dX8_howMany_77 : decode cX8_howMany 77 = .ok (.ireturn, 1) := by decide +kernel
theorem dX8_howMany_78 : decode cX8_howMany 78 = .ok (.aload_n 0, 1) := by decide +kernel
theorem dX8_howMany_79 : decode cX8_howMany 79 = .ok (.invokevirtual 371, 3) := by decide +kernel
theorem dX8_howMany_82 : decode cX8_howMany 82 = .ok (.ireturn, 1) := by decide +kernel
theorem dX8_howMany_83 : decode cX8_howMany 83 = .ok (.aload_n 0, 1) := by decide +kernel
theorem dX8_howMany_84 : decode cX8_howMany 84 = .ok (.getfield 140, 3) := by decide +kernel
theorem dX8_howMany_87 : decode cX8_howMany 87 = .ok (.ireturn, 1) := by decide +kernel
theorem dX8_howMany_88 : decode cX8_howMany 88 = .ok (.aload_n 0, 1) := by decide +kernel
theorem dX8_howMany_89 : decode cX8_howMany 89 = .ok (.getfield 146, 3) := by decide +kernel
theorem dX8_howMany_92 : decode cX8_howMany 92 = .ok (.ireturn, 1) := by decide +kernel
theorem dX8_howMany_93 : decode cX8_howMany 93 = .ok (.aload_n 0, 1) := by decide +kernel
theorem dX8_howMany_94 : decode cX8_howMany 94 = .ok (.getfield 103, 3) := by decide +kernel
theorem dX8_howMany_97 : decode cX8_howMany 97 = .ok (.ireturn, 1) := by decide +kernel
theorem dX8_howMany_98 : decode cX8_howMany 98 = .ok (.aload_n 0, 1) := by decide +kernel
theorem dX8_howMany_99 : decode cX8_howMany 99 = .ok (.getfield 143, 3) := by decide +kernel
theorem dX8_howMany_102 : decode cX8_howMany 102 = .ok (.ireturn, 1) := by decide +kernel
theorem dX8_howMany_103 : decode cX8_howMany 103 = .ok (.bipush (-102), 2) := by decide +kernel
theorem dX8_howMany_105 : decode cX8_howMany 105 = .ok (.ireturn, 1) := by decide +kernel
theorem dX8_count_0 : decode cX8_count 0 = .ok (.aload_n 0, 1) := by decide +kernel
theorem dX8_count_1 : decode cX8_count 1 = .ok (.iload_n 1, 1) := by decide +kernel
theorem dX8_count_2 : decode cX8_count 2 = .ok (.invokevirtual 374, 3) := by decide +kernel
theorem dX8_count_5 : decode cX8_count 5 = .ok (.ireturn, 1) := by decide +kernel
theorem dX8_mix_0 : decode cX8_mix 0 = .ok (.aload_n 0, 1) := by decide +kernel
theorem dX8_mix_1 : decode cX8_mix 1 = .ok (.ldc2_w 377, 3) := by decide +kernel
theorem dX8_mix_4 : decode cX8_mix 4 = .ok (.aload_n 0, 1) := by decide +kernel
theorem dX8_mix_5 : decode cX8_mix 5 = .ok (.getfield 379, 3) := by decide +kernel
theorem dX8_mix_8 : decode cX8_mix 8 = .ok (.lmul, 1) := by decide +kernel
theorem dX8_mix_9 : decode cX8_mix 9 = .ok (.lload_n 1, 1) := by decide +kernel
theorem dX8_mix_10 : decode cX8_mix 10 = .ok (.ladd, 1) := by decide +kernel
theorem dX8_mix_11 : decode cX8_mix 11 = .ok (.putfield 379, 3) := by decide +kernel
theorem dX8_mix_14 : decode cX8_mix 14 = .ok (.return_, 1) := by decide +kernel
theorem dX8_mixRows_0 : decode cX8_mixRows 0 = .ok (.iconst 0, 1) := by decide +kernel
theorem dX8_mixRows_1 : decode cX8_mixRows 1 = .ok (.istore_n 1, 1) := by decide +kernel
theorem dX8_mixRows_2 : decode cX8_mixRows 2 = .ok (.iload_n 1, 1) := by decide +kernel
theorem dX8_mixRows_3 : decode cX8_mixRows 3 = .ok (.iconst 2, 1) := by decide +kernel
theorem dX8_mixRows_4 : decode cX8_mixRows 4 = .ok (.if_icmp .ge 49, 3) := by decide +kernel
theorem dX8_mixRows_7 : decode cX8_mixRows 7 = .ok (.iconst 0, 1) := by decide +kernel
theorem dX8_mixRows_8 : decode cX8_mixRows 8 = .ok (.istore_n 2, 1) := by decide +kernel
theorem dX8_mixRows_9 : decode cX8_mixRows 9 = .ok (.iload_n 2, 1) := by decide +kernel
theorem dX8_mixRows_10 : decode cX8_mixRows 10 = .ok (.aload_n 0, 1) := by decide +kernel
theorem dX8_mixRows_11 : decode cX8_mixRows 11 = .ok (.getfield 17, 3) := by decide +kernel
theorem dX8_mixRows_14 : decode cX8_mixRows 14 = .ok (.iload_n 1, 1) := by decide +kernel
theorem dX8_mixRows_15 : decode cX8_mixRows 15 = .ok (.iaload, 1) := by decide +kernel
theorem dX8_mixRows_16 : decode cX8_mixRows 16 = .ok (.if_icmp .ge 31, 3) := by decide +kernel
theorem dX8_mixRows_19 : decode cX8_mixRows 19 = .ok (.aload_n 0, 1) := by decide +kernel
theorem dX8_mixRows_20 : decode cX8_mixRows 20 = .ok (.aload_n 0, 1) := by decide +kernel
theorem dX8_mixRows_21 : decode cX8_mixRows 21 = .ok (.iload_n 1, 1) := by decide +kernel
theorem dX8_mixRows_22 : decode cX8_mixRows 22 = .ok (.iload_n 2, 1) := by decide +kernel
theorem dX8_mixRows_23 : decode cX8_mixRows 23 = .ok (.invokevirtual 152, 3) := by decide +kernel
theorem dX8_mixRows_26 : decode cX8_mixRows 26 = .ok (.i2l, 1) := by decide +kernel
theorem dX8_mixRows_27 : decode cX8_mixRows 27 = .ok (.invokevirtual 382, 3) := by decide +kernel
theorem dX8_mixRows_30 : decode cX8_mixRows 30 = .ok (.aload_n 0, 1) := by decide +kernel
theorem dX8_mixRows_31 : decode cX8_mixRows 31 = .ok (.aload_n 0, 1) := by decide +kernel
theorem dX8_mixRows_32 : decode cX8_mixRows 32 = .ok (.iload_n 1, 1) := by decide +kernel
theorem dX8_mixRows_33 : decode cX8_mixRows 33 = .ok (.iload_n 2, 1) := by decide +kernel
theorem dX8_mixRows_34 : decode cX8_mixRows 34 = .ok (.invokevirtual 156, 3) := by decide +kernel
theorem dX8_mixRows_37 : decode cX8_mixRows 37 = .ok (.i2l, 1) := by decide +kernel
theorem dX8_mixRows_38 : decode cX8_mixRows 38 = .ok (.invokevirtual 382, 3) := by decide +kernel
theorem dX8_mixRows_41 : decode cX8_mixRows 41 = .ok (.iinc 2 1, 3) := by decide +kernel
theorem dX8_mixRows_44 : decode cX8_mixRows 44 = .ok (.goto (-35), 3) := by decide +kernel
theorem dX8_mixRows_47 : decode cX8_mixRows 47 = .ok (.iinc 1 1, 3) := by decide +kernel
theorem dX8_mixRows_50 : decode cX8_mixRows 50 = .ok (.goto (-48), 3) := by decide +kernel
theorem dX8_mixRows_53 : decode cX8_mixRows 53 = .ok (.return_, 1) := by decide +kernel
theorem dX8_mixTold_0 : decode cX8_mixTold 0 = .ok (.iconst 0, 1) := by decide +kernel
theorem dX8_mixTold_1 : decode cX8_mixTold 1 = .ok (.istore_n 1, 1) := by decide +kernel
theorem dX8_mixTold_2 : decode cX8_mixTold 2 = .ok (.iload_n 1, 1) := by decide +kernel
theorem dX8_mixTold_3 : decode cX8_mixTold 3 = .ok (.bipush 10, 2) := by decide +kernel
theorem dX8_mixTold_5 : decode cX8_mixTold 5 = .ok (.if_icmp .ge 20, 3) := by decide +kernel
theorem dX8_mixTold_8 : decode cX8_mixTold 8 = .ok (.aload_n 0, 1) := by decide +kernel
theorem dX8_mixTold_9 : decode cX8_mixTold 9 = .ok (.aload_n 0, 1) := by decide +kernel
theorem dX8_mixTold_10 : decode cX8_mixTold 10 = .ok (.getfield 66, 3) := by decide +kernel
theorem dX8_mixTold_13 : decode cX8_mixTold 13 = .ok (.iload_n 1, 1) := by decide +kernel
theorem dX8_mixTold_14 : decode cX8_mixTold 14 = .ok (.iaload, 1) := by decide +kernel
theorem dX8_mixTold_15 : decode cX8_mixTold 15 = .ok (.i2l, 1) := by decide +kernel
theorem dX8_mixTold_16 : decode cX8_mixTold 16 = .ok (.invokevirtual 382, 3) := by decide +kernel
theorem dX8_mixTold_19 : decode cX8_mixTold 19 = .ok (.iinc 1 1, 3) := by decide +kernel
theorem dX8_mixTold_22 : decode cX8_mixTold 22 = .ok (.goto (-20), 3) := by decide +kernel
theorem dX8_mixTold_25 : decode cX8_mixTold 25 = .ok (.iconst 0, 1) := by decide +kernel
theorem dX8_mixTold_26 : decode cX8_mixTold 26 = .ok (.istore_n 1, 1) := by decide +kernel
theorem dX8_mixTold_27 : decode cX8_mixTold 27 = .ok (.iload_n 1, 1) := by decide +kernel
theorem dX8_mixTold_28 : decode cX8_mixTold 28 = .ok (.aload_n 0, 1) := by decide +kernel
theorem dX8_mixTold_29 : decode cX8_mixTold 29 = .ok (.getfield 298, 3) := by decide +kernel
theorem dX8_mixTold_32 : decode cX8_mixTold 32 = .ok (.if_icmp .ge 31, 3) := by decide +kernel
theorem dX8_mixTold_35 : decode cX8_mixTold 35 = .ok (.aload_n 0, 1) := by decide +kernel
theorem dX8_mixTold_36 : decode cX8_mixTold 36 = .ok (.aload_n 0, 1) := by decide +kernel
theorem dX8_mixTold_37 : decode cX8_mixTold 37 = .ok (.getfield 69, 3) := by decide +kernel
theorem dX8_mixTold_40 : decode cX8_mixTold 40 = .ok (.iload_n 1, 1) := by decide +kernel
theorem dX8_mixTold_41 : decode cX8_mixTold 41 = .ok (.iaload, 1) := by decide +kernel
theorem dX8_mixTold_42 : decode cX8_mixTold 42 = .ok (.i2l, 1) := by decide +kernel
theorem dX8_mixTold_43 : decode cX8_mixTold 43 = .ok (.invokevirtual 382, 3) := by decide +kernel
theorem dX8_mixTold_46 : decode cX8_mixTold 46 = .ok (.aload_n 0, 1) := by decide +kernel
theorem dX8_mixTold_47 : decode cX8_mixTold 47 = .ok (.aload_n 0, 1) := by decide +kernel
theorem dX8_mixTold_48 : decode cX8_mixTold 48 = .ok (.getfield 72, 3) := by decide +kernel
theorem dX8_mixTold_51 : decode cX8_mixTold 51 = .ok (.iload_n 1, 1) := by decide +kernel
theorem dX8_mixTold_52 : decode cX8_mixTold 52 = .ok (.iaload, 1) := by decide +kernel
theorem dX8_mixTold_53 : decode cX8_mixTold 53 = .ok (.i2l, 1) := by decide +kernel
theorem dX8_mixTold_54 : decode cX8_mixTold 54 = .ok (.invokevirtual 382, 3) := by decide +kernel
theorem dX8_mixTold_57 : decode cX8_mixTold 57 = .ok (.iinc 1 1, 3) := by decide +kernel
theorem dX8_mixTold_60 : decode cX8_mixTold 60 = .ok (.goto (-33), 3) := by decide +kernel
theorem dX8_mixTold_63 : decode cX8_mixTold 63 = .ok (.iconst 0, 1) := by decide +kernel
theorem dX8_mixTold_64 : decode cX8_mixTold 64 = .ok (.istore_n 1, 1) := by decide +kernel
theorem dX8_mixTold_65 : decode cX8_mixTold 65 = .ok (.iload_n 1, 1) := by decide +kernel
theorem dX8_mixTold_66 : decode cX8_mixTold 66 = .ok (.aload_n 0, 1) := by decide +kernel
theorem dX8_mixTold_67 : decode cX8_mixTold 67 = .ok (.getfield 301, 3) := by decide +kernel
theorem dX8_mixTold_70 : decode cX8_mixTold 70 = .ok (.if_icmp .ge 33, 3) := by decide +kernel
theorem dX8_mixTold_73 : decode cX8_mixTold 73 = .ok (.iconst 0, 1) := by decide +kernel
theorem dX8_mixTold_74 : decode cX8_mixTold 74 = .ok (.istore_n 2, 1) := by decide +kernel
theorem dX8_mixTold_75 : decode cX8_mixTold 75 = .ok (.iload_n 2, 1) := by decide +kernel
theorem dX8_mixTold_76 : decode cX8_mixTold 76 = .ok (.iconst 3, 1) := by decide +kernel
theorem dX8_mixTold_77 : decode cX8_mixTold 77 = .ok (.if_icmp .ge 20, 3) := by decide +kernel
theorem dX8_mixTold_80 : decode cX8_mixTold 80 = .ok (.aload_n 0, 1) := by decide +kernel
theorem dX8_mixTold_81 : decode cX8_mixTold 81 = .ok (.aload_n 0, 1) := by decide +kernel
theorem dX8_mixTold_82 : decode cX8_mixTold 82 = .ok (.iload_n 1, 1) := by decide +kernel
theorem dX8_mixTold_83 : decode cX8_mixTold 83 = .ok (.iload_n 2, 1) := by decide +kernel
theorem dX8_mixTold_84 : decode cX8_mixTold 84 = .ok (.invokevirtual 313, 3) := by decide +kernel
theorem dX8_mixTold_87 : decode cX8_mixTold 87 = .ok (.i2l, 1) := by decide +kernel
theorem dX8_mixTold_88 : decode cX8_mixTold 88 = .ok (.invokevirtual 382, 3) := by decide +kernel
theorem dX8_mixTold_91 : decode cX8_mixTold 91 = .ok (.iinc 2 1, 3) := by decide +kernel
theorem dX8_mixTold_94 : decode cX8_mixTold 94 = .ok (.goto (-19), 3) := by decide +kernel
theorem dX8_mixTold_97 : decode cX8_mixTold 97 = .ok (.iinc 1 1, 3) := by decide +kernel
theorem dX8_mixTold_100 : decode cX8_mixTold 100 = .ok (.goto (-35), 3) := by decide +kernel
theorem dX8_mixTold_103 : decode cX8_mixTold 103 = .ok (.return_, 1) := by decide +kernel
theorem dX8_digest_0 : decode cX8_digest 0 = .ok (.aload_n 0, 1) := by decide +kernel
theorem dX8_digest_1 : decode cX8_digest 1 = .ok (.ldc2_w 386, 3) := by decide +kernel
theorem dX8_digest_4 : decode cX8_digest 4 = .ok (.putfield 379, 3) := by decide +kernel
theorem dX8_digest_7 : decode cX8_digest 7 = .ok (.aload_n 0, 1) := by decide +kernel
theorem dX8_digest_8 : decode cX8_digest 8 = .ok (.invokevirtual 388, 3) := by decide +kernel
theorem dX8_digest_11 : decode cX8_digest 11 = .ok (.aload_n 0, 1) := by decide +kernel
theorem dX8_digest_12 : decode cX8_digest 12 = .ok (.invokevirtual 391, 3) := by decide +kernel
theorem dX8_digest_15 : decode cX8_digest 15 = .ok (.aload_n 0, 1) := by decide +kernel
theorem dX8_digest_16 : decode cX8_digest 16 = .ok (.getfield 143, 3) := by decide +kernel
theorem dX8_digest_19 : decode cX8_digest 19 = .ok (.ifCond .le 12, 3) := by decide +kernel
theorem dX8_digest_22 : decode cX8_digest 22 = .ok (.aload_n 0, 1) := by decide +kernel
theorem dX8_digest_23 : decode cX8_digest 23 = .ok (.aload_n 0, 1) := by decide +kernel
theorem dX8_digest_24 : decode cX8_digest 24 = .ok (.invokevirtual 317, 3) := by decide +kernel
theorem dX8_digest_27 : decode cX8_digest 27 = .ok (.i2l, 1) := by decide +kernel
theorem dX8_digest_28 : decode cX8_digest 28 = .ok (.invokevirtual 382, 3) := by decide +kernel
theorem dX8_digest_31 : decode cX8_digest 31 = .ok (.aload_n 0, 1) := by decide +kernel
theorem dX8_digest_32 : decode cX8_digest 32 = .ok (.aload_n 0, 1) := by decide +kernel
theorem dX8_digest_33 : decode cX8_digest 33 = .ok (.invokevirtual 323, 3) := by decide +kernel
theorem dX8_digest_36 : decode cX8_digest 36 = .ok (.i2l, 1) := by decide +kernel
theorem dX8_digest_37 : decode cX8_digest 37 = .ok (.invokevirtual 382, 3) := by decide +kernel
theorem dX8_digest_40 : decode cX8_digest 40 = .ok (.aload_n 0, 1) := by decide +kernel
theorem dX8_digest_41 : decode cX8_digest 41 = .ok (.aload_n 0, 1) := by decide +kernel
theorem dX8_digest_42 : decode cX8_digest 42 = .ok (.invokevirtual 326, 3) := by decide +kernel
theorem dX8_digest_45 : decode cX8_digest 45 = .ok (.i2l, 1) := by decide +kernel
theorem dX8_digest_46 : decode cX8_digest 46 = .ok (.invokevirtual 382, 3) := by decide +kernel
theorem dX8_digest_49 : decode cX8_digest 49 = .ok (.iconst 0, 1) := by decide +kernel
theorem dX8_digest_50 : decode cX8_digest 50 = .ok (.istore_n 1, 1) := by decide +kernel
theorem dX8_digest_51 : decode cX8_digest 51 = .ok (.iload_n 1, 1) := by decide +kernel
theorem dX8_digest_52 : decode cX8_digest 52 = .ok (.aload_n 0, 1) := by decide +kernel
theorem dX8_digest_53 : decode cX8_digest 53 = .ok (.getfield 103, 3) := by decide +kernel
theorem dX8_digest_56 : decode cX8_digest 56 = .ok (.if_icmp .ge 20, 3) := by decide +kernel
theorem dX8_digest_59 : decode cX8_digest 59 = .ok (.aload_n 0, 1) := by decide +kernel
theorem dX8_digest_60 : decode cX8_digest 60 = .ok (.aload_n 0, 1) := by decide +kernel
theorem dX8_digest_61 : decode cX8_digest 61 = .ok (.getfield 26, 3) := by decide +kernel
theorem dX8_digest_64 : decode cX8_digest 64 = .ok (.iload_n 1, 1) := by decide +kernel
theorem dX8_digest_65 : decode cX8_digest 65 = .ok (.baload, 1) := by decide +kernel
theorem dX8_digest_66 : decode cX8_digest 66 = .ok (.i2l, 1) := by decide +kernel
theorem dX8_digest_67 : decode cX8_digest 67 = .ok (.invokevirtual 382, 3) := by decide +kernel
theorem dX8_digest_70 : decode cX8_digest 70 = .ok (.iinc 1 1, 3) := by decide +kernel
theorem dX8_digest_73 : decode cX8_digest 73 = .ok (.goto (-22), 3) := by decide +kernel
theorem dX8_digest_76 : decode cX8_digest 76 = .ok (.iconst 0, 1) := by decide +kernel
theorem dX8_digest_77 : decode cX8_digest 77 = .ok (.istore_n 1, 1) := by decide +kernel
theorem dX8_digest_78 : decode cX8_digest 78 = .ok (.iload_n 1, 1) := by decide +kernel
theorem dX8_digest_79 : decode cX8_digest 79 = .ok (.bipush 10, 2) := by decide +kernel
theorem dX8_digest_81 : decode cX8_digest 81 = .ok (.if_icmp .ge 19, 3) := by decide +kernel
theorem dX8_digest_84 : decode cX8_digest 84 = .ok (.aload_n 0, 1) := by decide +kernel
theorem dX8_digest_85 : decode cX8_digest 85 = .ok (.aload_n 0, 1) := by decide +kernel
theorem dX8_digest_86 : decode cX8_digest 86 = .ok (.iload_n 1, 1) := by decide +kernel
theorem dX8_digest_87 : decode cX8_digest 87 = .ok (.invokevirtual 374, 3) := by decide +kernel
theorem dX8_digest_90 : decode cX8_digest 90 = .ok (.i2l, 1) := by decide +kernel
theorem dX8_digest_91 : decode cX8_digest 91 = .ok (.invokevirtual 382, 3) := by decide +kernel
theorem dX8_digest_94 : decode cX8_digest 94 = .ok (.iinc 1 1, 3) := by decide +kernel
theorem dX8_digest_97 : decode cX8_digest 97 = .ok (.goto (-19), 3) := by decide +kernel
theorem dX8_digest_100 : decode cX8_digest 100 = .ok (.aload_n 0, 1) := by decide +kernel
theorem dX8_digest_101 : decode cX8_digest 101 = .ok (.getfield 379, 3) := by decide +kernel
theorem dX8_digest_104 : decode cX8_digest 104 = .ok (.lreturn, 1) := by decide +kernel
end
section
theorem dL_law_0 : decode cL_law 0 = .ok (.new 7, 3) := by decide +kernel
theorem dL_law_3 : decode cL_law 3 = .ok (.dup, 1) := by decide +kernel
theorem dL_law_4 : decode cL_law 4 = .ok (.invokespecial 9, 3) := by decide +kernel
theorem dL_law_7 : decode cL_law 7 = .ok (.astore_n 1, 1) := by decide +kernel
theorem dL_law_8 : decode cL_law 8 = .ok (.new 10, 3) := by decide +kernel
theorem dL_law_11 : decode cL_law 11 = .ok (.dup, 1) := by decide +kernel
theorem dL_law_12 : decode cL_law 12 = .ok (.invokespecial 12, 3) := by decide +kernel
theorem dL_law_15 : decode cL_law 15 = .ok (.astore_n 2, 1) := by decide +kernel
theorem dL_law_16 : decode cL_law 16 = .ok (.iconst 0, 1) := by decide +kernel
theorem dL_law_17 : decode cL_law 17 = .ok (.istore_n 3, 1) := by decide +kernel
theorem dL_law_18 : decode cL_law 18 = .ok (.iload_n 3, 1) := by decide +kernel
theorem dL_law_19 : decode cL_law 19 = .ok (.aload_n 0, 1) := by decide +kernel
theorem dL_law_20 : decode cL_law 20 = .ok (.arraylength, 1) := by decide +kernel
theorem dL_law_21 : decode cL_law 21 = .ok (.iconst 4, 1) := by decide +kernel
theorem dL_law_22 : decode cL_law 22 = .ok (.isub, 1) := by decide +kernel
theorem dL_law_23 : decode cL_law 23 = .ok (.if_icmp .gt 726, 3) := by decide +kernel
theorem dL_law_26 : decode cL_law 26 = .ok (.aload_n 0, 1) := by decide +kernel
theorem dL_law_27 : decode cL_law 27 = .ok (.iload_n 3, 1) := by decide +kernel
theorem dL_law_28 : decode cL_law 28 = .ok (.iaload, 1) := by decide +kernel
theorem dL_law_29 : decode cL_law 29 = .ok (.bipush 31, 2) := by decide +kernel
theorem dL_law_31 : decode cL_law 31 = .ok (.iand, 1) := by decide +kernel
theorem dL_law_32 : decode cL_law 32 = .ok (.tableswitch 711 0 23 #[112, 135, 148, 161, 174, 217, 240, 273, 306, 349, 372, 395, 418, 451, 484, 507, 520, 569, 582, 605, 648, 661, 674, 697], 112) := by decide +kernel
theorem dL_law_144 : decode cL_law 144 = .ok (.aload_n 1, 1) := by decide +kernel
theorem dL_law_145 : decode cL_law 145 = .ok (.aload_n 0, 1) := by decide +kernel
theorem dL_law_146 : decode cL_law 146 = .ok (.iload_n 3, 1) := by decide +kernel
theorem dL_law_147 : decode cL_law 147 = .ok (.iconst 1, 1) := by decide +kernel
theorem dL_law_148 : decode cL_law 148 = .ok (.iadd, 1) := by decide +kernel
theorem dL_law_149 : decode cL_law 149 = .ok (.iaload, 1) := by decide +kernel
theorem dL_law_150 : decode cL_law 150 = .ok (.invokevirtual 13, 3) := by decide +kernel
theorem dL_law_153 : decode cL_law 153 = .ok (.aload_n 2, 1) := by decide +kernel
theorem dL_law_154 : decode cL_law 154 = .ok (.aload_n 0, 1) := by decide +kernel
theorem dL_law_155 : decode cL_law 155 = .ok (.iload_n 3, 1) := by decide +kernel
theorem dL_law_156 : decode cL_law 156 = .ok (.iconst 1, 1) := by decide +kernel
theorem dL_law_157 : decode cL_law 157 = .ok (.iadd, 1) := by decide +kernel
theorem dL_law_158 : decode cL_law 158 = .ok (.iaload, 1) := by decide +kernel
theorem dL_law_159 : decode cL_law 159 = .ok (.invokevirtual 17, 3) := by decide +kernel
theorem dL_law_162 : decode cL_law 162 = .ok (.if_icmp .eq 581, 3) := by decide +kernel
theorem dL_law_165 : decode cL_law 165 = .ok (.iconst 0, 1) := by decide +kernel
theorem dL_law_166 : decode cL_law 166 = .ok (.ireturn, 1) := by decide +kernel
theorem dL_law_167 : decode cL_law 167 = .ok (.aload_n 1, 1) := by decide +kernel
theorem dL_law_168 : decode cL_law 168 = .ok (.invokevirtual 18, 3) := by decide +kernel
theorem dL_law_171 : decode cL_law 171 = .ok (.aload_n 2, 1) := by decide +kernel
theorem dL_law_172 : decode cL_law 172 = .ok (.invokevirtual 22, 3) := by decide +kernel
theorem dL_law_175 : decode cL_law 175 = .ok (.if_icmp .eq 568, 3) := by decide +kernel
theorem dL_law_178 : decode cL_law 178 = .ok (.iconst 0, 1) := by decide +kernel
theorem dL_law_179 : decode cL_law 179 = .ok (.ireturn, 1) := by decide +kernel
theorem dL_law_180 : decode cL_law 180 = .ok (.aload_n 1, 1) := by decide +kernel
theorem dL_law_181 : decode cL_law 181 = .ok (.invokevirtual 23, 3) := by decide +kernel
theorem dL_law_184 : decode cL_law 184 = .ok (.aload_n 2, 1) := by decide +kernel
theorem dL_law_185 : decode cL_law 185 = .ok (.invokevirtual 26, 3) := by decide +kernel
theorem dL_law_188 : decode cL_law 188 = .ok (.if_icmp .eq 555, 3) := by decide +kernel
theorem dL_law_191 : decode cL_law 191 = .ok (.iconst 0, 1) := by decide +kernel
theorem dL_law_192 : decode cL_law 192 = .ok (.ireturn, 1) := by decide +kernel
theorem dL_law_193 : decode cL_law 193 = .ok (.aload_n 1, 1) := by decide +kernel
theorem dL_law_194 : decode cL_law 194 = .ok (.invokevirtual 27, 3) := by decide +kernel
theorem dL_law_197 : decode cL_law 197 = .ok (.aload_n 2, 1) := by decide +kernel
theorem dL_law_198 : decode cL_law 198 = .ok (.invokevirtual 30, 3) := by decide +kernel
theorem dL_law_201 : decode cL_law 201 = .ok (.if_icmp .eq 542, 3) := by decide +kernel
theorem dL_law_204 : decode cL_law 204 = .ok (.iconst 0, 1) := by decide +kernel
theorem dL_law_205 : decode cL_law 205 = .ok (.ireturn, 1) := by decide +kernel
theorem dL_law_206 : decode cL_law 206 = .ok (.aload_n 1, 1) := by decide +kernel
theorem dL_law_207 : decode cL_law 207 = .ok (.aload_n 0, 1) := by decide +kernel
theorem dL_law_208 : decode cL_law 208 = .ok (.iload_n 3, 1) := by decide +kernel
theorem dL_law_209 : decode cL_law 209 = .ok (.iconst 1, 1) := by decide +kernel
theorem dL_law_210 : decode cL_law 210 = .ok (.iadd, 1) := by decide +kernel
theorem dL_law_211 : decode cL_law 211 = .ok (.iaload, 1) := by decide +kernel
theorem dL_law_212 : decode cL_law 212 = .ok (.aload_n 0, 1) := by decide +kernel
theorem dL_law_213 : decode cL_law 213 = .ok (.iload_n 3, 1) := by decide +kernel
theorem dL_law_214 : decode cL_law 214 = .ok (.iconst 2, 1) := by decide +kernel
theorem dL_law_215 : decode cL_law 215 = .ok (.iadd, 1) := by decide +kernel
theorem dL_law_216 : decode cL_law 216 = .ok (.iaload, 1) := by decide +kernel
theorem dL_law_217 : decode cL_law 217 = .ok (.aload_n 0, 1) := by decide +kernel
theorem dL_law_218 : decode cL_law 218 = .ok (.iload_n 3, 1) := by decide +kernel
theorem dL_law_219 : decode cL_law 219 = .ok (.iconst 3, 1) := by decide +kernel
theorem dL_law_220 : decode cL_law 220 = .ok (.iadd, 1) := by decide +kernel
theorem dL_law_221 : decode cL_law 221 = .ok (.iaload, 1) := by decide +kernel
theorem dL_law_222 : decode cL_law 222 = .ok (.invokevirtual 31, 3) := by decide +kernel
theorem dL_law_225 : decode cL_law 225 = .ok (.aload_n 2, 1) := by decide +kernel
theorem dL_law_226 : decode cL_law 226 = .ok (.aload_n 0, 1) := by decide +kernel
theorem dL_law_227 : decode cL_law 227 = .ok (.iload_n 3, 1) := by decide +kernel
theorem dL_law_228 : decode cL_law 228 = .ok (.iconst 1, 1) := by decide +kernel
theorem dL_law_229 : decode cL_law 229 = .ok (.iadd, 1) := by decide +kernel
theorem dL_law_230 : decode cL_law 230 = .ok (.iaload, 1) := by decide +kernel
theorem dL_law_231 : decode cL_law 231 = .ok (.aload_n 0, 1) := by decide +kernel
theorem dL_law_232 : decode cL_law 232 = .ok (.iload_n 3, 1) := by decide +kernel
theorem dL_law_233 : decode cL_law 233 = .ok (.iconst 2, 1) := by decide +kernel
theorem dL_law_234 : decode cL_law 234 = .ok (.iadd, 1) := by decide +kernel
theorem dL_law_235 : decode cL_law 235 = .ok (.iaload, 1) := by decide +kernel
theorem dL_law_236 : decode cL_law 236 = .ok (.aload_n 0, 1) := by decide +kernel
theorem dL_law_237 : decode cL_law 237 = .ok (.iload_n 3, 1) := by decide +kernel
theorem dL_law_238 : decode cL_law 238 = .ok (.iconst 3, 1) := by decide +kernel
theorem dL_law_239 : decode cL_law 239 = .ok (.iadd, 1) := by decide +kernel
theorem dL_law_240 : decode cL_law 240 = .ok (.iaload, 1) := by decide +kernel
theorem dL_law_241 : decode cL_law 241 = .ok (.invokevirtual 35, 3) := by decide +kernel
theorem dL_law_244 : decode cL_law 244 = .ok (.if_icmp .eq 499, 3) := by decide +kernel
theorem dL_law_247 : decode cL_law 247 = .ok (.iconst 0, 1) := by decide +kernel
theorem dL_law_248 : decode cL_law 248 = .ok (.ireturn, 1) := by decide +kernel
theorem dL_law_249 : decode cL_law 249 = .ok (.aload_n 1, 1) := by decide +kernel
theorem dL_law_250 : decode cL_law 250 = .ok (.aload_n 0, 1) := by decide +kernel
theorem dL_law_251 : decode cL_law 251 = .ok (.iload_n 3, 1) := by decide +kernel
theorem dL_law_252 : decode cL_law 252 = .ok (.iconst 1, 1) := by decide +kernel
theorem dL_law_253 : decode cL_law 253 = .ok (.iadd, 1) := by decide +kernel
theorem dL_law_254 : decode cL_law 254 = .ok (.iaload, 1) := by decide +kernel
theorem dL_law_255 : decode cL_law 255 = .ok (.invokevirtual 36, 3) := by decide +kernel
theorem dL_law_258 : decode cL_law 258 = .ok (.aload_n 2, 1) := by decide +kernel
theorem dL_law_259 : decode cL_law 259 = .ok (.aload_n 0, 1) := by decide +kernel
theorem dL_law_260 : decode cL_law 260 = .ok (.iload_n 3, 1) := by decide +kernel
theorem dL_law_261 : decode cL_law 261 = .ok (.iconst 1, 1) := by decide +kernel
theorem dL_law_262 : decode cL_law 262 = .ok (.iadd, 1) := by decide +kernel
theorem dL_law_263 : decode cL_law 263 = .ok (.iaload, 1) := by decide +kernel
theorem dL_law_264 : decode cL_law 264 = .ok (.invokevirtual 39, 3) := by decide +kernel
theorem dL_law_267 : decode cL_law 267 = .ok (.if_icmp .eq 476, 3) := by decide +kernel
theorem dL_law_270 : decode cL_law 270 = .ok (.iconst 0, 1) := by decide +kernel
theorem dL_law_271 : decode cL_law 271 = .ok (.ireturn, 1) := by decide +kernel
theorem dL_law_272 : decode cL_law 272 = .ok (.aload_n 1, 1) := by decide +kernel
theorem dL_law_273 : decode cL_law 273 = .ok (.aload_n 0, 1) := by decide +kernel
theorem dL_law_274 : decode cL_law 274 = .ok (.iload_n 3, 1) := by decide +kernel
theorem dL_law_275 : decode cL_law 275 = .ok (.iconst 1, 1) := by decide +kernel
theorem dL_law_276 : decode cL_law 276 = .ok (.iadd, 1) := by decide +kernel
theorem dL_law_277 : decode cL_law 277 = .ok (.iaload, 1) := by decide +kernel
theorem dL_law_278 : decode cL_law 278 = .ok (.aload_n 0, 1) := by decide +kernel
theorem dL_law_279 : decode cL_law 279 = .ok (.iload_n 3, 1) := by decide +kernel
theorem dL_law_280 : decode cL_law 280 = .ok (.iconst 2, 1) := by decide +kernel
theorem dL_law_281 : decode cL_law 281 = .ok (.iadd, 1) := by decide +kernel
theorem dL_law_282 : decode cL_law 282 = .ok (.iaload, 1) := by decide +kernel
theorem dL_law_283 : decode cL_law 283 = .ok (.invokevirtual 40, 3) := by decide +kernel
theorem dL_law_286 : decode cL_law 286 = .ok (.aload_n 2, 1) := by decide +kernel
theorem dL_law_287 : decode cL_law 287 = .ok (.aload_n 0, 1) := by decide +kernel
theorem dL_law_288 : decode cL_law 288 = .ok (.iload_n 3, 1) := by decide +kernel
theorem dL_law_289 : decode cL_law 289 = .ok (.iconst 1, 1) := by decide +kernel
theorem dL_law_290 : decode cL_law 290 = .ok (.iadd, 1) := by decide +kernel
theorem dL_law_291 : decode cL_law 291 = .ok (.iaload, 1) := by decide +kernel
theorem dL_law_292 : decode cL_law 292 = .ok (.aload_n 0, 1) := by decide +kernel
theorem dL_law_293 : decode cL_law 293 = .ok (.iload_n 3, 1) := by decide +kernel
theorem dL_law_294 : decode cL_law 294 = .ok (.iconst 2, 1) := by decide +kernel
theorem dL_law_295 : decode cL_law 295 = .ok (.iadd, 1) := by decide +kernel
theorem dL_law_296 : decode cL_law 296 = .ok (.iaload, 1) := by decide +kernel
theorem dL_law_297 : decode cL_law 297 = .ok (.invokevirtual 44, 3) := by decide +kernel
theorem dL_law_300 : decode cL_law 300 = .ok (.if_icmp .eq 443, 3) := by decide +kernel
theorem dL_law_303 : decode cL_law 303 = .ok (.iconst 0, 1) := by decide +kernel
theorem dL_law_304 : decode cL_law 304 = .ok (.ireturn, 1) := by decide +kernel
theorem dL_law_305 : decode cL_law 305 = .ok (.aload_n 1, 1) := by decide +kernel
theorem dL_law_306 : decode cL_law 306 = .ok (.aload_n 0, 1) := by decide +kernel
theorem dL_law_307 : decode cL_law 307 = .ok (.iload_n 3, 1) := by decide +kernel
theorem dL_law_308 : decode cL_law 308 = .ok (.iconst 1, 1) := by decide +kernel
theorem dL_law_309 : decode cL_law 309 = .ok (.iadd, 1) := by decide +kernel
theorem dL_law_310 : decode cL_law 310 = .ok (.iaload, 1) := by decide +kernel
theorem dL_law_311 : decode cL_law 311 = .ok (.aload_n 0, 1) := by decide +kernel
theorem dL_law_312 : decode cL_law 312 = .ok (.iload_n 3, 1) := by decide +kernel
theorem dL_law_313 : decode cL_law 313 = .ok (.iconst 2, 1) := by decide +kernel
theorem dL_law_314 : decode cL_law 314 = .ok (.iadd, 1) := by decide +kernel
theorem dL_law_315 : decode cL_law 315 = .ok (.iaload, 1) := by decide +kernel
theorem dL_law_316 : decode cL_law 316 = .ok (.invokevirtual 45, 3) := by decide +kernel
theorem dL_law_319 : decode cL_law 319 = .ok (.aload_n 2, 1) := by decide +kernel
theorem dL_law_320 : decode cL_law 320 = .ok (.aload_n 0, 1) := by decide +kernel
theorem dL_law_321 : decode cL_law 321 = .ok (.iload_n 3, 1) := by decide +kernel
theorem dL_law_322 : decode cL_law 322 = .ok (.iconst 1, 1) := by decide +kernel
theorem dL_law_323 : decode cL_law 323 = .ok (.iadd, 1) := by decide +kernel
theorem dL_law_324 : decode cL_law 324 = .ok (.iaload, 1) := by decide +kernel
theorem dL_law_325 : decode cL_law 325 = .ok (.aload_n 0, 1) := by decide +kernel
theorem dL_law_326 : decode cL_law 326 = .ok (.iload_n 3, 1) := by decide +kernel
theorem dL_law_327 : decode cL_law 327 = .ok (.iconst 2, 1) := by decide +kernel
theorem dL_law_328 : decode cL_law 328 = .ok (.iadd, 1) := by decide +kernel
theorem dL_law_329 : decode cL_law 329 = .ok (.iaload, 1) := by decide +kernel
theorem dL_law_330 : decode cL_law 330 = .ok (.invokevirtual 48, 3) := by decide +kernel
theorem dL_law_333 : decode cL_law 333 = .ok (.if_icmp .eq 410, 3) := by decide +kernel
theorem dL_law_336 : decode cL_law 336 = .ok (.iconst 0, 1) := by decide +kernel
theorem dL_law_337 : decode cL_law 337 = .ok (.ireturn, 1) := by decide +kernel
theorem dL_law_338 : decode cL_law 338 = .ok (.aload_n 1, 1) := by decide +kernel
theorem dL_law_339 : decode cL_law 339 = .ok (.aload_n 0, 1) := by decide +kernel
theorem dL_law_340 : decode cL_law 340 = .ok (.iload_n 3, 1) := by decide +kernel
theorem dL_law_341 : decode cL_law 341 = .ok (.iconst 1, 1) := by decide +kernel
theorem dL_law_342 : decode cL_law 342 = .ok (.iadd, 1) := by decide +kernel
theorem dL_law_343 : decode cL_law 343 = .ok (.iaload, 1) := by decide +kernel
theorem dL_law_344 : decode cL_law 344 = .ok (.aload_n 0, 1) := by decide +kernel
theorem dL_law_345 : decode cL_law 345 = .ok (.iload_n 3, 1) := by decide +kernel
theorem dL_law_346 : decode cL_law 346 = .ok (.iconst 2, 1) := by decide +kernel
theorem dL_law_347 : decode cL_law 347 = .ok (.iadd, 1) := by decide +kernel
theorem dL_law_348 : decode cL_law 348 = .ok (.iaload, 1) := by decide +kernel
theorem dL_law_349 : decode cL_law 349 = .ok (.aload_n 0, 1) := by decide +kernel
theorem dL_law_350 : decode cL_law 350 = .ok (.iload_n 3, 1) := by decide +kernel
theorem dL_law_351 : decode cL_law 351 = .ok (.iconst 3, 1) := by decide +kernel
theorem dL_law_352 : decode cL_law 352 = .ok (.iadd, 1) := by decide +kernel
theorem dL_law_353 : decode cL_law 353 = .ok (.iaload, 1) := by decide +kernel
theorem dL_law_354 : decode cL_law 354 = .ok (.invokevirtual 49, 3) := by decide +kernel
theorem dL_law_357 : decode cL_law 357 = .ok (.aload_n 2, 1) := by decide +kernel
theorem dL_law_358 : decode cL_law 358 = .ok (.aload_n 0, 1) := by decide +kernel
theorem dL_law_359 : decode cL_law 359 = .ok (.iload_n 3, 1) := by decide +kernel
theorem dL_law_360 : decode cL_law 360 = .ok (.iconst 1, 1) := by decide +kernel
theorem dL_law_361 : decode cL_law 361 = .ok (.iadd, 1) := by decide +kernel
theorem dL_law_362 : decode cL_law 362 = .ok (.iaload, 1) := by decide +kernel
theorem dL_law_363 : decode cL_law 363 = .ok (.aload_n 0, 1) := by decide +kernel
theorem dL_law_364 : decode cL_law 364 = .ok (.iload_n 3, 1) := by decide +kernel
theorem dL_law_365 : decode cL_law 365 = .ok (.iconst 2, 1) := by decide +kernel
theorem dL_law_366 : decode cL_law 366 = .ok (.iadd, 1) := by decide +kernel
theorem dL_law_367 : decode cL_law 367 = .ok (.iaload, 1) := by decide +kernel
theorem dL_law_368 : decode cL_law 368 = .ok (.aload_n 0, 1) := by decide +kernel
theorem dL_law_369 : decode cL_law 369 = .ok (.iload_n 3, 1) := by decide +kernel
theorem dL_law_370 : decode cL_law 370 = .ok (.iconst 3, 1) := by decide +kernel
theorem dL_law_371 : decode cL_law 371 = .ok (.iadd, 1) := by decide +kernel
theorem dL_law_372 : decode cL_law 372 = .ok (.iaload, 1) := by decide +kernel
theorem dL_law_373 : decode cL_law 373 = .ok (.invokevirtual 52, 3) := by decide +kernel
theorem dL_law_376 : decode cL_law 376 = .ok (.if_icmp .eq 367, 3) := by decide +kernel
theorem dL_law_379 : decode cL_law 379 = .ok (.iconst 0, 1) := by decide +kernel
theorem dL_law_380 : decode cL_law 380 = .ok (.ireturn, 1) := by decide +kernel
theorem dL_law_381 : decode cL_law 381 = .ok (.aload_n 1, 1) := by decide +kernel
theorem dL_law_382 : decode cL_law 382 = .ok (.aload_n 0, 1) := by decide +kernel
theorem dL_law_383 : decode cL_law 383 = .ok (.iload_n 3, 1) := by decide +kernel
theorem dL_law_384 : decode cL_law 384 = .ok (.iconst 1, 1) := by decide +kernel
theorem dL_law_385 : decode cL_law 385 = .ok (.iadd, 1) := by decide +kernel
theorem dL_law_386 : decode cL_law 386 = .ok (.iaload, 1) := by decide +kernel
theorem dL_law_387 : decode cL_law 387 = .ok (.invokevirtual 53, 3) := by decide +kernel
theorem dL_law_390 : decode cL_law 390 = .ok (.aload_n 2, 1) := by decide +kernel
theorem dL_law_391 : decode cL_law 391 = .ok (.aload_n 0, 1) := by decide +kernel
theorem dL_law_392 : decode cL_law 392 = .ok (.iload_n 3, 1) := by decide +kernel
theorem dL_law_393 : decode cL_law 393 = .ok (.iconst 1, 1) := by decide +kernel
theorem dL_law_394 : decode cL_law 394 = .ok (.iadd, 1) := by decide +kernel
theorem dL_law_395 : decode cL_law 395 = .ok (.iaload, 1) := by decide +kernel
theorem dL_law_396 : decode cL_law 396 = .ok (.invokevirtual 56, 3) := by decide +kernel
theorem dL_law_399 : decode cL_law 399 = .ok (.if_icmp .eq 344, 3) := by decide +kernel
theorem dL_law_402 : decode cL_law 402 = .ok (.iconst 0, 1) := by decide +kernel
theorem dL_law_403 : decode cL_law 403 = .ok (.ireturn, 1) := by decide +kernel
theorem dL_law_404 : decode cL_law 404 = .ok (.aload_n 1, 1) := by decide +kernel
theorem dL_law_405 : decode cL_law 405 = .ok (.aload_n 0, 1) := by decide +kernel
theorem dL_law_406 : decode cL_law 406 = .ok (.iload_n 3, 1) := by decide +kernel
theorem dL_law_407 : decode cL_law 407 = .ok (.iconst 1, 1) := by decide +kernel
theorem dL_law_408 : decode cL_law 408 = .ok (.iadd, 1) := by decide +kernel
theorem dL_law_409 : decode cL_law 409 = .ok (.iaload, 1) := by decide +kernel
theorem dL_law_410 : decode cL_law 410 = .ok (.invokevirtual 57, 3) := by decide +kernel
theorem dL_law_413 : decode cL_law 413 = .ok (.aload_n 2, 1) := by decide +kernel
theorem dL_law_414 : decode cL_law 414 = .ok (.aload_n 0, 1) := by decide +kernel
theorem dL_law_415 : decode cL_law 415 = .ok (.iload_n 3, 1) := by decide +kernel
theorem dL_law_416 : decode cL_law 416 = .ok (.iconst 1, 1) := by decide +kernel
theorem dL_law_417 : decode cL_law 417 = .ok (.iadd, 1) := by decide +kernel
theorem dL_law_418 : decode cL_law 418 = .ok (.iaload, 1) := by decide +kernel
theorem dL_law_419 : decode cL_law 419 = .ok (.invokevirtual 60, 3) := by decide +kernel
theorem dL_law_422 : decode cL_law 422 = .ok (.if_icmp .eq 321, 3) := by decide +kernel
theorem dL_law_425 : decode cL_law 425 = .ok (.iconst 0, 1) := by decide +kernel
theorem dL_law_426 : decode cL_law 426 = .ok (.ireturn, 1) := by decide +kernel
theorem dL_law_427 : decode cL_law 427 = .ok (.aload_n 1, 1) := by decide +kernel
theorem dL_law_428 : decode cL_law 428 = .ok (.aload_n 0, 1) := by decide +kernel
theorem dL_law_429 : decode cL_law 429 = .ok (.iload_n 3, 1) := by decide +kernel
theorem dL_law_430 : decode cL_law 430 = .ok (.iconst 1, 1) := by decide +kernel
theorem dL_law_431 : decode cL_law 431 = .ok (.iadd, 1) := by decide +kernel
theorem dL_law_432 : decode cL_law 432 = .ok (.iaload, 1) := by decide +kernel
theorem dL_law_433 : decode cL_law 433 = .ok (.invokevirtual 61, 3) := by decide +kernel
theorem dL_law_436 : decode cL_law 436 = .ok (.aload_n 2, 1) := by decide +kernel
theorem dL_law_437 : decode cL_law 437 = .ok (.aload_n 0, 1) := by decide +kernel
theorem dL_law_438 : decode cL_law 438 = .ok (.iload_n 3, 1) := by decide +kernel
theorem dL_law_439 : decode cL_law 439 = .ok (.iconst 1, 1) := by decide +kernel
theorem dL_law_440 : decode cL_law 440 = .ok (.iadd, 1) := by decide +kernel
theorem dL_law_441 : decode cL_law 441 = .ok (.iaload, 1) := by decide +kernel
theorem dL_law_442 : decode cL_law 442 = .ok (.invokevirtual 64, 3) := by decide +kernel
theorem dL_law_445 : decode cL_law 445 = .ok (.if_icmp .eq 298, 3) := by decide +kernel
theorem dL_law_448 : decode cL_law 448 = .ok (.iconst 0, 1) := by decide +kernel
theorem dL_law_449 : decode cL_law 449 = .ok (.ireturn, 1) := by decide +kernel
theorem dL_law_450 : decode cL_law 450 = .ok (.aload_n 1, 1) := by decide +kernel
theorem dL_law_451 : decode cL_law 451 = .ok (.aload_n 0, 1) := by decide +kernel
theorem dL_law_452 : decode cL_law 452 = .ok (.iload_n 3, 1) := by decide +kernel
theorem dL_law_453 : decode cL_law 453 = .ok (.iconst 1, 1) := by decide +kernel
theorem dL_law_454 : decode cL_law 454 = .ok (.iadd, 1) := by decide +kernel
theorem dL_law_455 : decode cL_law 455 = .ok (.iaload, 1) := by decide +kernel
theorem dL_law_456 : decode cL_law 456 = .ok (.aload_n 0, 1) := by decide +kernel
theorem dL_law_457 : decode cL_law 457 = .ok (.iload_n 3, 1) := by decide +kernel
theorem dL_law_458 : decode cL_law 458 = .ok (.iconst 2, 1) := by decide +kernel
theorem dL_law_459 : decode cL_law 459 = .ok (.iadd, 1) := by decide +kernel
theorem dL_law_460 : decode cL_law 460 = .ok (.iaload, 1) := by decide +kernel
theorem dL_law_461 : decode cL_law 461 = .ok (.invokevirtual 65, 3) := by decide +kernel
theorem dL_law_464 : decode cL_law 464 = .ok (.aload_n 2, 1) := by decide +kernel
theorem dL_law_465 : decode cL_law 465 = .ok (.aload_n 0, 1) := by decide +kernel
theorem dL_law_466 : decode cL_law 466 = .ok (.iload_n 3, 1) := by decide +kernel
theorem dL_law_467 : decode cL_law 467 = .ok (.iconst 1, 1) := by decide +kernel
theorem dL_law_468 : decode cL_law 468 = .ok (.iadd, 1) := by decide +kernel
theorem dL_law_469 : decode cL_law 469 = .ok (.iaload, 1) := by decide +kernel
theorem dL_law_470 : decode cL_law 470 = .ok (.aload_n 0, 1) := by decide +kernel
theorem dL_law_471 : decode cL_law 471 = .ok (.iload_n 3, 1) := by decide +kernel
theorem dL_law_472 : decode cL_law 472 = .ok (.iconst 2, 1) := by decide +kernel
theorem dL_law_473 : decode cL_law 473 = .ok (.iadd, 1) := by decide +kernel
theorem dL_law_474 : decode cL_law 474 = .ok (.iaload, 1) := by decide +kernel
theorem dL_law_475 : decode cL_law 475 = .ok (.invokevirtual 68, 3) := by decide +kernel
theorem dL_law_478 : decode cL_law 478 = .ok (.if_icmp .eq 265, 3) := by decide +kernel
theorem dL_law_481 : decode cL_law 481 = .ok (.iconst 0, 1) := by decide +kernel
theorem dL_law_482 : decode cL_law 482 = .ok (.ireturn, 1) := by decide +kernel
theorem dL_law_483 : decode cL_law 483 = .ok (.aload_n 1, 1) := by decide +kernel
theorem dL_law_484 : decode cL_law 484 = .ok (.aload_n 0, 1) := by decide +kernel
theorem dL_law_485 : decode cL_law 485 = .ok (.iload_n 3, 1) := by decide +kernel
theorem dL_law_486 : decode cL_law 486 = .ok (.iconst 1, 1) := by decide +kernel
theorem dL_law_487 : decode cL_law 487 = .ok (.iadd, 1) := by decide +kernel
theorem dL_law_488 : decode cL_law 488 = .ok (.iaload, 1) := by decide +kernel
theorem dL_law_489 : decode cL_law 489 = .ok (.aload_n 0, 1) := by decide +kernel
theorem dL_law_490 : decode cL_law 490 = .ok (.iload_n 3, 1) := by decide +kernel
theorem dL_law_491 : decode cL_law 491 = .ok (.iconst 2, 1) := by decide +kernel
theorem dL_law_492 : decode cL_law 492 = .ok (.iadd, 1) := by decide +kernel
theorem dL_law_493 : decode cL_law 493 = .ok (.iaload, 1) := by decide +kernel
theorem dL_law_494 : decode cL_law 494 = .ok (.invokevirtual 69, 3) := by decide +kernel
theorem dL_law_497 : decode cL_law 497 = .ok (.aload_n 2, 1) := by decide +kernel
theorem dL_law_498 : decode cL_law 498 = .ok (.aload_n 0, 1) := by decide +kernel
theorem dL_law_499 : decode cL_law 499 = .ok (.iload_n 3, 1) := by decide +kernel
theorem dL_law_500 : decode cL_law 500 = .ok (.iconst 1, 1) := by decide +kernel
theorem dL_law_501 : decode cL_law 501 = .ok (.iadd, 1) := by decide +kernel
theorem dL_law_502 : decode cL_law 502 = .ok (.iaload, 1) := by decide +kernel
theorem dL_law_503 : decode cL_law 503 = .ok (.aload_n 0, 1) := by decide +kernel
theorem dL_law_504 : decode cL_law 504 = .ok (.iload_n 3, 1) := by decide +kernel
theorem dL_law_505 : decode cL_law 505 = .ok (.iconst 2, 1) := by decide +kernel
theorem dL_law_506 : decode cL_law 506 = .ok (.iadd, 1) := by decide +kernel
theorem dL_law_507 : decode cL_law 507 = .ok (.iaload, 1) := by decide +kernel
theorem dL_law_508 : decode cL_law 508 = .ok (.invokevirtual 72, 3) := by decide +kernel
theorem dL_law_511 : decode cL_law 511 = .ok (.if_icmp .eq 232, 3) := by decide +kernel
theorem dL_law_514 : decode cL_law 514 = .ok (.iconst 0, 1) := by decide +kernel
theorem dL_law_515 : decode cL_law 515 = .ok (.ireturn, 1) := by decide +kernel
theorem dL_law_516 : decode cL_law 516 = .ok (.aload_n 1, 1) := by decide +kernel
theorem dL_law_517 : decode cL_law 517 = .ok (.aload_n 0, 1) := by decide +kernel
theorem dL_law_518 : decode cL_law 518 = .ok (.iload_n 3, 1) := by decide +kernel
theorem dL_law_519 : decode cL_law 519 = .ok (.iconst 1, 1) := by decide +kernel
theorem dL_law_520 : decode cL_law 520 = .ok (.iadd, 1) := by decide +kernel
theorem dL_law_521 : decode cL_law 521 = .ok (.iaload, 1) := by decide +kernel
theorem dL_law_522 : decode cL_law 522 = .ok (.invokevirtual 73, 3) := by decide +kernel
theorem dL_law_525 : decode cL_law 525 = .ok (.aload_n 2, 1) := by decide +kernel
theorem dL_law_526 : decode cL_law 526 = .ok (.aload_n 0, 1) := by decide +kernel
theorem dL_law_527 : decode cL_law 527 = .ok (.iload_n 3, 1) := by decide +kernel
theorem dL_law_528 : decode cL_law 528 = .ok (.iconst 1, 1) := by decide +kernel
theorem dL_law_529 : decode cL_law 529 = .ok (.iadd, 1) := by decide +kernel
theorem dL_law_530 : decode cL_law 530 = .ok (.iaload, 1) := by decide +kernel
theorem dL_law_531 : decode cL_law 531 = .ok (.invokevirtual 76, 3) := by decide +kernel
theorem dL_law_534 : decode cL_law 534 = .ok (.if_icmp .eq 209, 3) := by decide +kernel
theorem dL_law_537 : decode cL_law 537 = .ok (.iconst 0, 1) := by decide +kernel
theorem dL_law_538 : decode cL_law 538 = .ok (.ireturn, 1) := by decide +kernel
theorem dL_law_539 : decode cL_law 539 = .ok (.aload_n 1, 1) := by decide +kernel
theorem dL_law_540 : decode cL_law 540 = .ok (.invokevirtual 77, 3) := by decide +kernel
theorem dL_law_543 : decode cL_law 543 = .ok (.aload_n 2, 1) := by decide +kernel
theorem dL_law_544 : decode cL_law 544 = .ok (.invokevirtual 80, 3) := by decide +kernel
theorem dL_law_547 : decode cL_law 547 = .ok (.if_icmp .eq 196, 3) := by decide +kernel
theorem dL_law_550 : decode cL_law 550 = .ok (.iconst 0, 1) := by decide +kernel
theorem dL_law_551 : decode cL_law 551 = .ok (.ireturn, 1) := by decide +kernel
theorem dL_law_552 : decode cL_law 552 = .ok (.aload_n 1, 1) := by decide +kernel
theorem dL_law_553 : decode cL_law 553 = .ok (.aload_n 0, 1) := by decide +kernel
theorem dL_law_554 : decode cL_law 554 = .ok (.iload_n 3, 1) := by decide +kernel
theorem dL_law_555 : decode cL_law 555 = .ok (.iconst 1, 1) := by decide +kernel
theorem dL_law_556 : decode cL_law 556 = .ok (.iadd, 1) := by decide +kernel
theorem dL_law_557 : decode cL_law 557 = .ok (.iaload, 1) := by decide +kernel
theorem dL_law_558 : decode cL_law 558 = .ok (.aload_n 0, 1) := by decide +kernel
theorem dL_law_559 : decode cL_law 559 = .ok (.iload_n 3, 1) := by decide +kernel
theorem dL_law_560 : decode cL_law 560 = .ok (.iconst 2, 1) := by decide +kernel
theorem dL_law_561 : decode cL_law 561 = .ok (.iadd, 1) := by decide +kernel
theorem dL_law_562 : decode cL_law 562 = .ok (.iaload, 1) := by decide +kernel
theorem dL_law_563 : decode cL_law 563 = .ok (.ifCond .eq 7, 3) := by decide +kernel
theorem dL_law_566 : decode cL_law 566 = .ok (.iconst 1, 1) := by decide +kernel
theorem dL_law_567 : decode cL_law 567 = .ok (.goto 4, 3) := by decide +kernel
theorem dL_law_570 : decode cL_law 570 = .ok (.iconst 0, 1) := by decide +kernel
theorem dL_law_571 : decode cL_law 571 = .ok (.invokevirtual 81, 3) := by decide +kernel
theorem dL_law_574 : decode cL_law 574 = .ok (.aload_n 2, 1) := by decide +kernel
theorem dL_law_575 : decode cL_law 575 = .ok (.aload_n 0, 1) := by decide +kernel
theorem dL_law_576 : decode cL_law 576 = .ok (.iload_n 3, 1) := by decide +kernel
theorem dL_law_577 : decode cL_law 577 = .ok (.iconst 1, 1) := by decide +kernel
theorem dL_law_578 : decode cL_law 578 = .ok (.iadd, 1) := by decide +kernel
theorem dL_law_579 : decode cL_law 579 = .ok (.iaload, 1) := by decide +kernel
theorem dL_law_580 : decode cL_law 580 = .ok (.aload_n 0, 1) := by decide +kernel
theorem dL_law_581 : decode cL_law 581 = .ok (.iload_n 3, 1) := by decide +kernel
theorem dL_law_582 : decode cL_law 582 = .ok (.iconst 2, 1) := by decide +kernel
theorem dL_law_583 : decode cL_law 583 = .ok (.iadd, 1) := by decide +kernel
theorem dL_law_584 : decode cL_law 584 = .ok (.iaload, 1) := by decide +kernel
theorem dL_law_585 : decode cL_law 585 = .ok (.ifCond .eq 7, 3) := by decide +kernel
theorem dL_law_588 : decode cL_law 588 = .ok (.iconst 1, 1) := by decide +kernel
theorem dL_law_589 : decode cL_law 589 = .ok (.goto 4, 3) := by decide +kernel
theorem dL_law_592 : decode cL_law 592 = .ok (.iconst 0, 1) := by decide +kernel
theorem dL_law_593 : decode cL_law 593 = .ok (.invokevirtual 85, 3) := by decide +kernel
theorem dL_law_596 : decode cL_law 596 = .ok (.if_icmp .eq 147, 3) := by decide +kernel
theorem dL_law_599 : decode cL_law 599 = .ok (.iconst 0, 1) := by decide +kernel
theorem dL_law_600 : decode cL_law 600 = .ok (.ireturn, 1) := by decide +kernel
theorem dL_law_601 : decode cL_law 601 = .ok (.aload_n 1, 1) := by decide +kernel
theorem dL_law_602 : decode cL_law 602 = .ok (.invokevirtual 86, 3) := by decide +kernel
theorem dL_law_605 : decode cL_law 605 = .ok (.aload_n 2, 1) := by decide +kernel
theorem dL_law_606 : decode cL_law 606 = .ok (.invokevirtual 89, 3) := by decide +kernel
theorem dL_law_609 : decode cL_law 609 = .ok (.if_icmp .eq 134, 3) := by decide +kernel
theorem dL_law_612 : decode cL_law 612 = .ok (.iconst 0, 1) := by decide +kernel
theorem dL_law_613 : decode cL_law 613 = .ok (.ireturn, 1) := by decide +kernel
theorem dL_law_614 : decode cL_law 614 = .ok (.aload_n 1, 1) := by decide +kernel
theorem dL_law_615 : decode cL_law 615 = .ok (.aload_n 0, 1) := by decide +kernel
theorem dL_law_616 : decode cL_law 616 = .ok (.iload_n 3, 1) := by decide +kernel
theorem dL_law_617 : decode cL_law 617 = .ok (.iconst 1, 1) := by decide +kernel
theorem dL_law_618 : decode cL_law 618 = .ok (.iadd, 1) := by decide +kernel
theorem dL_law_619 : decode cL_law 619 = .ok (.iaload, 1) := by decide +kernel
theorem dL_law_620 : decode cL_law 620 = .ok (.invokevirtual 90, 3) := by decide +kernel
theorem dL_law_623 : decode cL_law 623 = .ok (.aload_n 2, 1) := by decide +kernel
theorem dL_law_624 : decode cL_law 624 = .ok (.aload_n 0, 1) := by decide +kernel
theorem dL_law_625 : decode cL_law 625 = .ok (.iload_n 3, 1) := by decide +kernel
theorem dL_law_626 : decode cL_law 626 = .ok (.iconst 1, 1) := by decide +kernel
theorem dL_law_627 : decode cL_law 627 = .ok (.iadd, 1) := by decide +kernel
theorem dL_law_628 : decode cL_law 628 = .ok (.iaload, 1) := by decide +kernel
theorem dL_law_629 : decode cL_law 629 = .ok (.invokevirtual 93, 3) := by decide +kernel
theorem dL_law_632 : decode cL_law 632 = .ok (.if_icmp .eq 111, 3) := by decide +kernel
theorem dL_law_635 : decode cL_law 635 = .ok (.iconst 0, 1) := by decide +kernel
theorem dL_law_636 : decode cL_law 636 = .ok (.ireturn, 1) := by decide +kernel
theorem dL_law_637 : decode cL_law 637 = .ok (.aload_n 1, 1) := by decide +kernel
theorem dL_law_638 : decode cL_law 638 = .ok (.aload_n 0, 1) := by decide +kernel
theorem dL_law_639 : decode cL_law 639 = .ok (.iload_n 3, 1) := by decide +kernel
theorem dL_law_640 : decode cL_law 640 = .ok (.iconst 1, 1) := by decide +kernel
theorem dL_law_641 : decode cL_law 641 = .ok (.iadd, 1) := by decide +kernel
theorem dL_law_642 : decode cL_law 642 = .ok (.iaload, 1) := by decide +kernel
theorem dL_law_643 : decode cL_law 643 = .ok (.aload_n 0, 1) := by decide +kernel
theorem dL_law_644 : decode cL_law 644 = .ok (.iload_n 3, 1) := by decide +kernel
theorem dL_law_645 : decode cL_law 645 = .ok (.iconst 2, 1) := by decide +kernel
theorem dL_law_646 : decode cL_law 646 = .ok (.iadd, 1) := by decide +kernel
theorem dL_law_647 : decode cL_law 647 = .ok (.iaload, 1) := by decide +kernel
theorem dL_law_648 : decode cL_law 648 = .ok (.aload_n 0, 1) := by decide +kernel
theorem dL_law_649 : decode cL_law 649 = .ok (.iload_n 3, 1) := by decide +kernel
theorem dL_law_650 : decode cL_law 650 = .ok (.iconst 3, 1) := by decide +kernel
theorem dL_law_651 : decode cL_law 651 = .ok (.iadd, 1) := by decide +kernel
theorem dL_law_652 : decode cL_law 652 = .ok (.iaload, 1) := by decide +kernel
theorem dL_law_653 : decode cL_law 653 = .ok (.invokevirtual 94, 3) := by decide +kernel
theorem dL_law_656 : decode cL_law 656 = .ok (.aload_n 2, 1) := by decide +kernel
theorem dL_law_657 : decode cL_law 657 = .ok (.aload_n 0, 1) := by decide +kernel
theorem dL_law_658 : decode cL_law 658 = .ok (.iload_n 3, 1) := by decide +kernel
theorem dL_law_659 : decode cL_law 659 = .ok (.iconst 1, 1) := by decide +kernel
theorem dL_law_660 : decode cL_law 660 = .ok (.iadd, 1) := by decide +kernel
theorem dL_law_661 : decode cL_law 661 = .ok (.iaload, 1) := by decide +kernel
theorem dL_law_662 : decode cL_law 662 = .ok (.aload_n 0, 1) := by decide +kernel
theorem dL_law_663 : decode cL_law 663 = .ok (.iload_n 3, 1) := by decide +kernel
theorem dL_law_664 : decode cL_law 664 = .ok (.iconst 2, 1) := by decide +kernel
theorem dL_law_665 : decode cL_law 665 = .ok (.iadd, 1) := by decide +kernel
theorem dL_law_666 : decode cL_law 666 = .ok (.iaload, 1) := by decide +kernel
theorem dL_law_667 : decode cL_law 667 = .ok (.aload_n 0, 1) := by decide +kernel
theorem dL_law_668 : decode cL_law 668 = .ok (.iload_n 3, 1) := by decide +kernel
theorem dL_law_669 : decode cL_law 669 = .ok (.iconst 3, 1) := by decide +kernel
theorem dL_law_670 : decode cL_law 670 = .ok (.iadd, 1) := by decide +kernel
theorem dL_law_671 : decode cL_law 671 = .ok (.iaload, 1) := by decide +kernel
theorem dL_law_672 : decode cL_law 672 = .ok (.invokevirtual 97, 3) := by decide +kernel
theorem dL_law_675 : decode cL_law 675 = .ok (.if_icmp .eq 68, 3) := by decide +kernel
theorem dL_law_678 : decode cL_law 678 = .ok (.iconst 0, 1) := by decide +kernel
theorem dL_law_679 : decode cL_law 679 = .ok (.ireturn, 1) := by decide +kernel
theorem dL_law_680 : decode cL_law 680 = .ok (.aload_n 1, 1) := by decide +kernel
theorem dL_law_681 : decode cL_law 681 = .ok (.invokevirtual 98, 3) := by decide +kernel
theorem dL_law_684 : decode cL_law 684 = .ok (.aload_n 2, 1) := by decide +kernel
theorem dL_law_685 : decode cL_law 685 = .ok (.invokevirtual 101, 3) := by decide +kernel
theorem dL_law_688 : decode cL_law 688 = .ok (.if_icmp .eq 55, 3) := by decide +kernel
theorem dL_law_691 : decode cL_law 691 = .ok (.iconst 0, 1) := by decide +kernel
theorem dL_law_692 : decode cL_law 692 = .ok (.ireturn, 1) := by decide +kernel
theorem dL_law_693 : decode cL_law 693 = .ok (.aload_n 1, 1) := by decide +kernel
theorem dL_law_694 : decode cL_law 694 = .ok (.invokevirtual 102, 3) := by decide +kernel
theorem dL_law_697 : decode cL_law 697 = .ok (.aload_n 2, 1) := by decide +kernel
theorem dL_law_698 : decode cL_law 698 = .ok (.invokevirtual 105, 3) := by decide +kernel
theorem dL_law_701 : decode cL_law 701 = .ok (.if_icmp .eq 42, 3) := by decide +kernel
theorem dL_law_704 : decode cL_law 704 = .ok (.iconst 0, 1) := by decide +kernel
theorem dL_law_705 : decode cL_law 705 = .ok (.ireturn, 1) := by decide +kernel
theorem dL_law_706 : decode cL_law 706 = .ok (.aload_n 1, 1) := by decide +kernel
theorem dL_law_707 : decode cL_law 707 = .ok (.aload_n 0, 1) := by decide +kernel
theorem dL_law_708 : decode cL_law 708 = .ok (.iload_n 3, 1) := by decide +kernel
theorem dL_law_709 : decode cL_law 709 = .ok (.iconst 1, 1) := by decide +kernel
theorem dL_law_710 : decode cL_law 710 = .ok (.iadd, 1) := by decide +kernel
theorem dL_law_711 : decode cL_law 711 = .ok (.iaload, 1) := by decide +kernel
theorem dL_law_712 : decode cL_law 712 = .ok (.invokevirtual 106, 3) := by decide +kernel
theorem dL_law_715 : decode cL_law 715 = .ok (.aload_n 2, 1) := by decide +kernel
theorem dL_law_716 : decode cL_law 716 = .ok (.aload_n 0, 1) := by decide +kernel
theorem dL_law_717 : decode cL_law 717 = .ok (.iload_n 3, 1) := by decide +kernel
theorem dL_law_718 : decode cL_law 718 = .ok (.iconst 1, 1) := by decide +kernel
theorem dL_law_719 : decode cL_law 719 = .ok (.iadd, 1) := by decide +kernel
theorem dL_law_720 : decode cL_law 720 = .ok (.iaload, 1) := by decide +kernel
theorem dL_law_721 : decode cL_law 721 = .ok (.invokevirtual 109, 3) := by decide +kernel
theorem dL_law_724 : decode cL_law 724 = .ok (.if_icmp .eq 19, 3) := by decide +kernel
theorem dL_law_727 : decode cL_law 727 = .ok (.iconst 0, 1) := by decide +kernel
theorem dL_law_728 : decode cL_law 728 = .ok (.ireturn, 1) := by decide +kernel
theorem dL_law_729 : decode cL_law 729 = .ok (.aload_n 1, 1) := by decide +kernel
theorem dL_law_730 : decode cL_law 730 = .ok (.invokevirtual 110, 3) := by decide +kernel
theorem dL_law_733 : decode cL_law 733 = .ok (.aload_n 2, 1) := by decide +kernel
theorem dL_law_734 : decode cL_law 734 = .ok (.invokevirtual 114, 3) := by decide +kernel
theorem dL_law_737 : decode cL_law 737 = .ok (.lcmp, 1) := by decide +kernel
theorem dL_law_738 : decode cL_law 738 = .ok (.ifCond .eq 5, 3) := by decide +kernel
theorem dL_law_741 : decode cL_law 741 = .ok (.iconst 0, 1) := by decide +kernel
theorem dL_law_742 : decode cL_law 742 = .ok (.ireturn, 1) := by decide +kernel
theorem dL_law_743 : decode cL_law 743 = .ok (.iinc 3 4, 3) := by decide +kernel
theorem dL_law_746 : decode cL_law 746 = .ok (.goto (-728), 3) := by decide +kernel
theorem dL_law_749 : decode cL_law 749 = .ok (.iconst 1, 1) := by decide +kernel
theorem dL_law_750 : decode cL_law 750 = .ok (.ireturn, 1) := by decide +kernel
theorem dJ6_numberOfTrailingZeros_0f7a4_0 : decode cJ6_numberOfTrailingZeros_0f7a4 0 = .ok (.iload_n 0, 1) := by decide +kernel
theorem dJ6_numberOfTrailingZeros_0f7a4_1 : decode cJ6_numberOfTrailingZeros_0f7a4 1 = .ok (.iconst (-1), 1) := by decide +kernel
theorem dJ6_numberOfTrailingZeros_0f7a4_2 : decode cJ6_numberOfTrailingZeros_0f7a4 2 = .ok (.ixor, 1) := by decide +kernel
theorem dJ6_numberOfTrailingZeros_0f7a4_3 : decode cJ6_numberOfTrailingZeros_0f7a4 3 = .ok (.iload_n 0, 1) := by decide +kernel
theorem dJ6_numberOfTrailingZeros_0f7a4_4 : decode cJ6_numberOfTrailingZeros_0f7a4 4 = .ok (.iconst 1, 1) := by decide +kernel
theorem dJ6_numberOfTrailingZeros_0f7a4_5 : decode cJ6_numberOfTrailingZeros_0f7a4 5 = .ok (.isub, 1) := by decide +kernel
theorem dJ6_numberOfTrailingZeros_0f7a4_6 : decode cJ6_numberOfTrailingZeros_0f7a4 6 = .ok (.iand, 1) := by decide +kernel
theorem dJ6_numberOfTrailingZeros_0f7a4_7 : decode cJ6_numberOfTrailingZeros_0f7a4 7 = .ok (.istore_n 0, 1) := by decide +kernel
theorem dJ6_numberOfTrailingZeros_0f7a4_8 : decode cJ6_numberOfTrailingZeros_0f7a4 8 = .ok (.iload_n 0, 1) := by decide +kernel
theorem dJ6_numberOfTrailingZeros_0f7a4_9 : decode cJ6_numberOfTrailingZeros_0f7a4 9 = .ok (.ifCond .gt 8, 3) := by decide +kernel
theorem dJ6_numberOfTrailingZeros_0f7a4_12 : decode cJ6_numberOfTrailingZeros_0f7a4 12 = .ok (.iload_n 0, 1) := by decide +kernel
theorem dJ6_numberOfTrailingZeros_0f7a4_13 : decode cJ6_numberOfTrailingZeros_0f7a4 13 = .ok (.bipush 32, 2) := by decide +kernel
theorem dJ6_numberOfTrailingZeros_0f7a4_15 : decode cJ6_numberOfTrailingZeros_0f7a4 15 = .ok (.iand, 1) := by decide +kernel
theorem dJ6_numberOfTrailingZeros_0f7a4_16 : decode cJ6_numberOfTrailingZeros_0f7a4 16 = .ok (.ireturn, 1) := by decide +kernel
theorem dJ6_numberOfTrailingZeros_0f7a4_17 : decode cJ6_numberOfTrailingZeros_0f7a4 17 = .ok (.iconst 1, 1) := by decide +kernel
theorem dJ6_numberOfTrailingZeros_0f7a4_18 : decode cJ6_numberOfTrailingZeros_0f7a4 18 = .ok (.istore_n 1, 1) := by decide +kernel
theorem dJ6_numberOfTrailingZeros_0f7a4_19 : decode cJ6_numberOfTrailingZeros_0f7a4 19 = .ok (.iload_n 0, 1) := by decide +kernel
theorem dJ6_numberOfTrailingZeros_0f7a4_20 : decode cJ6_numberOfTrailingZeros_0f7a4 20 = .ok (.ldc_w 264, 3) := by decide +kernel
theorem dJ6_numberOfTrailingZeros_0f7a4_23 : decode cJ6_numberOfTrailingZeros_0f7a4 23 = .ok (.if_icmp .le 11, 3) := by decide +kernel
theorem dJ6_numberOfTrailingZeros_0f7a4_26 : decode cJ6_numberOfTrailingZeros_0f7a4 26 = .ok (.iinc 1 16, 3) := by decide +kernel
theorem dJ6_numberOfTrailingZeros_0f7a4_29 : decode cJ6_numberOfTrailingZeros_0f7a4 29 = .ok (.iload_n 0, 1) := by decide +kernel
theorem dJ6_numberOfTrailingZeros_0f7a4_30 : decode cJ6_numberOfTrailingZeros_0f7a4 30 = .ok (.bipush 16, 2) := by decide +kernel
theorem dJ6_numberOfTrailingZeros_0f7a4_32 : decode cJ6_numberOfTrailingZeros_0f7a4 32 = .ok (.iushr, 1) := by decide +kernel
theorem dJ6_numberOfTrailingZeros_0f7a4_33 : decode cJ6_numberOfTrailingZeros_0f7a4 33 = .ok (.istore_n 0, 1) := by decide +kernel
theorem dJ6_numberOfTrailingZeros_0f7a4_34 : decode cJ6_numberOfTrailingZeros_0f7a4 34 = .ok (.iload_n 0, 1) := by decide +kernel
theorem dJ6_numberOfTrailingZeros_0f7a4_35 : decode cJ6_numberOfTrailingZeros_0f7a4 35 = .ok (.sipush 256, 3) := by decide +kernel
theorem dJ6_numberOfTrailingZeros_0f7a4_38 : decode cJ6_numberOfTrailingZeros_0f7a4 38 = .ok (.if_icmp .le 11, 3) := by decide +kernel
theorem dJ6_numberOfTrailingZeros_0f7a4_41 : decode cJ6_numberOfTrailingZeros_0f7a4 41 = .ok (.iinc 1 8, 3) := by decide +kernel
theorem dJ6_numberOfTrailingZeros_0f7a4_44 : decode cJ6_numberOfTrailingZeros_0f7a4 44 = .ok (.iload_n 0, 1) := by decide +kernel
theorem dJ6_numberOfTrailingZeros_0f7a4_45 : decode cJ6_numberOfTrailingZeros_0f7a4 45 = .ok (.bipush 8, 2) := by decide +kernel
theorem dJ6_numberOfTrailingZeros_0f7a4_47 : decode cJ6_numberOfTrailingZeros_0f7a4 47 = .ok (.iushr, 1) := by decide +kernel
theorem dJ6_numberOfTrailingZeros_0f7a4_48 : decode cJ6_numberOfTrailingZeros_0f7a4 48 = .ok (.istore_n 0, 1) := by decide +kernel
theorem dJ6_numberOfTrailingZeros_0f7a4_49 : decode cJ6_numberOfTrailingZeros_0f7a4 49 = .ok (.iload_n 0, 1) := by decide +kernel
theorem dJ6_numberOfTrailingZeros_0f7a4_50 : decode cJ6_numberOfTrailingZeros_0f7a4 50 = .ok (.bipush 16, 2) := by decide +kernel
theorem dJ6_numberOfTrailingZeros_0f7a4_52 : decode cJ6_numberOfTrailingZeros_0f7a4 52 = .ok (.if_icmp .le 10, 3) := by decide +kernel
theorem dJ6_numberOfTrailingZeros_0f7a4_55 : decode cJ6_numberOfTrailingZeros_0f7a4 55 = .ok (.iinc 1 4, 3) := by decide +kernel
theorem dJ6_numberOfTrailingZeros_0f7a4_58 : decode cJ6_numberOfTrailingZeros_0f7a4 58 = .ok (.iload_n 0, 1) := by decide +kernel
theorem dJ6_numberOfTrailingZeros_0f7a4_59 : decode cJ6_numberOfTrailingZeros_0f7a4 59 = .ok (.iconst 4, 1) := by decide +kernel
theorem dJ6_numberOfTrailingZeros_0f7a4_60 : decode cJ6_numberOfTrailingZeros_0f7a4 60 = .ok (.iushr, 1) := by decide +kernel
theorem dJ6_numberOfTrailingZeros_0f7a4_61 : decode cJ6_numberOfTrailingZeros_0f7a4 61 = .ok (.istore_n 0, 1) := by decide +kernel
theorem dJ6_numberOfTrailingZeros_0f7a4_62 : decode cJ6_numberOfTrailingZeros_0f7a4 62 = .ok (.iload_n 0, 1) := by decide +kernel
theorem dJ6_numberOfTrailingZeros_0f7a4_63 : decode cJ6_numberOfTrailingZeros_0f7a4 63 = .ok (.iconst 4, 1) := by decide +kernel
theorem dJ6_numberOfTrailingZeros_0f7a4_64 : decode cJ6_numberOfTrailingZeros_0f7a4 64 = .ok (.if_icmp .le 10, 3) := by decide +kernel
theorem dJ6_numberOfTrailingZeros_0f7a4_67 : decode cJ6_numberOfTrailingZeros_0f7a4 67 = .ok (.iinc 1 2, 3) := by decide +kernel
theorem dJ6_numberOfTrailingZeros_0f7a4_70 : decode cJ6_numberOfTrailingZeros_0f7a4 70 = .ok (.iload_n 0, 1) := by decide +kernel
theorem dJ6_numberOfTrailingZeros_0f7a4_71 : decode cJ6_numberOfTrailingZeros_0f7a4 71 = .ok (.iconst 2, 1) := by decide +kernel
theorem dJ6_numberOfTrailingZeros_0f7a4_72 : decode cJ6_numberOfTrailingZeros_0f7a4 72 = .ok (.iushr, 1) := by decide +kernel
theorem dJ6_numberOfTrailingZeros_0f7a4_73 : decode cJ6_numberOfTrailingZeros_0f7a4 73 = .ok (.istore_n 0, 1) := by decide +kernel
theorem dJ6_numberOfTrailingZeros_0f7a4_74 : decode cJ6_numberOfTrailingZeros_0f7a4 74 = .ok (.iload_n 1, 1) := by decide +kernel
theorem dJ6_numberOfTrailingZeros_0f7a4_75 : decode cJ6_numberOfTrailingZeros_0f7a4 75 = .ok (.iload_n 0, 1) := by decide +kernel
theorem dJ6_numberOfTrailingZeros_0f7a4_76 : decode cJ6_numberOfTrailingZeros_0f7a4 76 = .ok (.iconst 1, 1) := by decide +kernel
theorem dJ6_numberOfTrailingZeros_0f7a4_77 : decode cJ6_numberOfTrailingZeros_0f7a4 77 = .ok (.iushr, 1) := by decide +kernel
theorem dJ6_numberOfTrailingZeros_0f7a4_78 : decode cJ6_numberOfTrailingZeros_0f7a4 78 = .ok (.iadd, 1) := by decide +kernel
theorem dJ6_numberOfTrailingZeros_0f7a4_79 : decode cJ6_numberOfTrailingZeros_0f7a4 79 = .ok (.ireturn, 1) := by decide +kernel
theorem dJ6_bitCount_0f7a4_0 : decode cJ6_bitCount_0f7a4 0 = .ok (.iload_n 0, 1) := by decide +kernel
theorem dJ6_bitCount_0f7a4_1 : decode cJ6_bitCount_0f7a4 1 = .ok (.iload_n 0, 1) := by decide +kernel
theorem dJ6_bitCount_0f7a4_2 : decode cJ6_bitCount_0f7a4 2 = .ok (.iconst 1, 1) := by decide +kernel
theorem dJ6_bitCount_0f7a4_3 : decode cJ6_bitCount_0f7a4 3 = .ok (.iushr, 1) := by decide +kernel
theorem dJ6_bitCount_0f7a4_4 : decode cJ6_bitCount_0f7a4 4 = .ok (.ldc_w 265, 3) := by decide +kernel
theorem dJ6_bitCount_0f7a4_7 : decode cJ6_bitCount_0f7a4 7 = .ok (.iand, 1) := by decide +kernel
theorem dJ6_bitCount_0f7a4_8 : decode cJ6_bitCount_0f7a4 8 = .ok (.isub, 1) := by decide +kernel
theorem dJ6_bitCount_0f7a4_9 : decode cJ6_bitCount_0f7a4 9 = .ok (.istore_n 0, 1) := by decide +kernel
theorem dJ6_bitCount_0f7a4_10 : decode cJ6_bitCount_0f7a4 10 = .ok (.iload_n 0, 1) := by decide +kernel
theorem dJ6_bitCount_0f7a4_11 : decode cJ6_bitCount_0f7a4 11 = .ok (.ldc_w 266, 3) := by decide +kernel
theorem dJ6_bitCount_0f7a4_14 : decode cJ6_bitCount_0f7a4 14 = .ok (.iand, 1) := by decide +kernel
theorem dJ6_bitCount_0f7a4_15 : decode cJ6_bitCount_0f7a4 15 = .ok (.iload_n 0, 1) := by decide +kernel
theorem dJ6_bitCount_0f7a4_16 : decode cJ6_bitCount_0f7a4 16 = .ok (.iconst 2, 1) := by decide +kernel
theorem dJ6_bitCount_0f7a4_17 : decode cJ6_bitCount_0f7a4 17 = .ok (.iushr, 1) := by decide +kernel
theorem dJ6_bitCount_0f7a4_18 : decode cJ6_bitCount_0f7a4 18 = .ok (.ldc_w 266, 3) := by decide +kernel
theorem dJ6_bitCount_0f7a4_21 : decode cJ6_bitCount_0f7a4 21 = .ok (.iand, 1) := by decide +kernel
theorem dJ6_bitCount_0f7a4_22 : decode cJ6_bitCount_0f7a4 22 = .ok (.iadd, 1) := by decide +kernel
theorem dJ6_bitCount_0f7a4_23 : decode cJ6_bitCount_0f7a4 23 = .ok (.istore_n 0, 1) := by decide +kernel
theorem dJ6_bitCount_0f7a4_24 : decode cJ6_bitCount_0f7a4 24 = .ok (.iload_n 0, 1) := by decide +kernel
theorem dJ6_bitCount_0f7a4_25 : decode cJ6_bitCount_0f7a4 25 = .ok (.iload_n 0, 1) := by decide +kernel
theorem dJ6_bitCount_0f7a4_26 : decode cJ6_bitCount_0f7a4 26 = .ok (.iconst 4, 1) := by decide +kernel
theorem dJ6_bitCount_0f7a4_27 : decode cJ6_bitCount_0f7a4 27 = .ok (.iushr, 1) := by decide +kernel
theorem dJ6_bitCount_0f7a4_28 : decode cJ6_bitCount_0f7a4 28 = .ok (.iadd, 1) := by decide +kernel
theorem dJ6_bitCount_0f7a4_29 : decode cJ6_bitCount_0f7a4 29 = .ok (.ldc_w 267, 3) := by decide +kernel
theorem dJ6_bitCount_0f7a4_32 : decode cJ6_bitCount_0f7a4 32 = .ok (.iand, 1) := by decide +kernel
theorem dJ6_bitCount_0f7a4_33 : decode cJ6_bitCount_0f7a4 33 = .ok (.istore_n 0, 1) := by decide +kernel
theorem dJ6_bitCount_0f7a4_34 : decode cJ6_bitCount_0f7a4 34 = .ok (.iload_n 0, 1) := by decide +kernel
theorem dJ6_bitCount_0f7a4_35 : decode cJ6_bitCount_0f7a4 35 = .ok (.iload_n 0, 1) := by decide +kernel
theorem dJ6_bitCount_0f7a4_36 : decode cJ6_bitCount_0f7a4 36 = .ok (.bipush 8, 2) := by decide +kernel
theorem dJ6_bitCount_0f7a4_38 : decode cJ6_bitCount_0f7a4 38 = .ok (.iushr, 1) := by decide +kernel
theorem dJ6_bitCount_0f7a4_39 : decode cJ6_bitCount_0f7a4 39 = .ok (.iadd, 1) := by decide +kernel
theorem dJ6_bitCount_0f7a4_40 : decode cJ6_bitCount_0f7a4 40 = .ok (.istore_n 0, 1) := by decide +kernel
theorem dJ6_bitCount_0f7a4_41 : decode cJ6_bitCount_0f7a4 41 = .ok (.iload_n 0, 1) := by decide +kernel
theorem dJ6_bitCount_0f7a4_42 : decode cJ6_bitCount_0f7a4 42 = .ok (.iload_n 0, 1) := by decide +kernel
theorem dJ6_bitCount_0f7a4_43 : decode cJ6_bitCount_0f7a4 43 = .ok (.bipush 16, 2) := by decide +kernel
theorem dJ6_bitCount_0f7a4_45 : decode cJ6_bitCount_0f7a4 45 = .ok (.iushr, 1) := by decide +kernel
theorem dJ6_bitCount_0f7a4_46 : decode cJ6_bitCount_0f7a4 46 = .ok (.iadd, 1) := by decide +kernel
theorem dJ6_bitCount_0f7a4_47 : decode cJ6_bitCount_0f7a4 47 = .ok (.istore_n 0, 1) := by decide +kernel
theorem dJ6_bitCount_0f7a4_48 : decode cJ6_bitCount_0f7a4 48 = .ok (.iload_n 0, 1) := by decide +kernel
theorem dJ6_bitCount_0f7a4_49 : decode cJ6_bitCount_0f7a4 49 = .ok (.bipush 63, 2) := by decide +kernel
theorem dJ6_bitCount_0f7a4_51 : decode cJ6_bitCount_0f7a4 51 = .ok (.iand, 1) := by decide +kernel
theorem dJ6_bitCount_0f7a4_52 : decode cJ6_bitCount_0f7a4 52 = .ok (.ireturn, 1) := by decide +kernel
theorem dJ7_fill_53178_0 : decode cJ7_fill_53178 0 = .ok (.iconst 0, 1) := by decide +kernel
theorem dJ7_fill_53178_1 : decode cJ7_fill_53178 1 = .ok (.istore_n 2, 1) := by decide +kernel
theorem dJ7_fill_53178_2 : decode cJ7_fill_53178 2 = .ok (.aload_n 0, 1) := by decide +kernel
theorem dJ7_fill_53178_3 : decode cJ7_fill_53178 3 = .ok (.arraylength, 1) := by decide +kernel
theorem dJ7_fill_53178_4 : decode cJ7_fill_53178 4 = .ok (.istore_n 3, 1) := by decide +kernel
theorem dJ7_fill_53178_5 : decode cJ7_fill_53178 5 = .ok (.iload_n 2, 1) := by decide +kernel
theorem dJ7_fill_53178_6 : decode cJ7_fill_53178 6 = .ok (.iload_n 3, 1) := by decide +kernel
theorem dJ7_fill_53178_7 : decode cJ7_fill_53178 7 = .ok (.if_icmp .ge 13, 3) := by decide +kernel
theorem dJ7_fill_53178_10 : decode cJ7_fill_53178 10 = .ok (.aload_n 0, 1) := by decide +kernel
theorem dJ7_fill_53178_11 : decode cJ7_fill_53178 11 = .ok (.iload_n 2, 1) := by decide +kernel
theorem dJ7_fill_53178_12 : decode cJ7_fill_53178 12 = .ok (.iload_n 1, 1) := by decide +kernel
theorem dJ7_fill_53178_13 : decode cJ7_fill_53178 13 = .ok (.iastore, 1) := by decide +kernel
theorem dJ7_fill_53178_14 : decode cJ7_fill_53178 14 = .ok (.iinc 2 1, 3) := by decide +kernel
theorem dJ7_fill_53178_17 : decode cJ7_fill_53178 17 = .ok (.goto (-12), 3) := by decide +kernel
theorem dJ7_fill_53178_20 : decode cJ7_fill_53178 20 = .ok (.return_, 1) := by decide +kernel
theorem dJ0_length_8abf5_0 : decode cJ0_length_8abf5 0 = .ok (.aload_n 0, 1) := by decide +kernel
theorem dJ0_length_8abf5_1 : decode cJ0_length_8abf5 1 = .ok (.getfield 9, 3) := by decide +kernel
theorem dJ0_length_8abf5_4 : decode cJ0_length_8abf5 4 = .ok (.arraylength, 1) := by decide +kernel
theorem dJ0_length_8abf5_5 : decode cJ0_length_8abf5 5 = .ok (.aload_n 0, 1) := by decide +kernel
theorem dJ0_length_8abf5_6 : decode cJ0_length_8abf5 6 = .ok (.invokevirtual 335, 3) := by decide +kernel
theorem dJ0_length_8abf5_9 : decode cJ0_length_8abf5 9 = .ok (.ishr, 1) := by decide +kernel
theorem dJ0_length_8abf5_10 : decode cJ0_length_8abf5 10 = .ok (.ireturn, 1) := by decide +kernel
theorem dJ0_indexOf_0f7a4_0 : decode cJ0_indexOf_0f7a4 0 = .ok (.aload_n 0, 1) := by decide +kernel
theorem dJ0_indexOf_0f7a4_1 : decode cJ0_indexOf_0f7a4 1 = .ok (.iload_n 1, 1) := by decide +kernel
theorem dJ0_indexOf_0f7a4_2 : decode cJ0_indexOf_0f7a4 2 = .ok (.iconst 0, 1) := by decide +kernel
theorem dJ0_indexOf_0f7a4_3 : decode cJ0_indexOf_0f7a4 3 = .ok (.invokevirtual 633, 3) := by decide +kernel
theorem dJ0_indexOf_0f7a4_6 : decode cJ0_indexOf_0f7a4 6 = .ok (.ireturn, 1) := by decide +kernel
theorem dJ0_indexOf_7cf53_0 : decode cJ0_indexOf_7cf53 0 = .ok (.aload_n 0, 1) := by decide +kernel
theorem dJ0_indexOf_7cf53_1 : decode cJ0_indexOf_7cf53 1 = .ok (.invokevirtual 492, 3) := by decide +kernel
theorem dJ0_indexOf_7cf53_4 : decode cJ0_indexOf_7cf53 4 = .ok (.ifCond .eq 19, 3) := by decide +kernel
theorem dJ0_indexOf_7cf53_7 : decode cJ0_indexOf_7cf53 7 = .ok (.aload_n 0, 1) := by decide +kernel
theorem dJ0_indexOf_7cf53_8 : decode cJ0_indexOf_7cf53 8 = .ok (.getfield 9, 3) := by decide +kernel
theorem dJ0_indexOf_7cf53_11 : decode cJ0_indexOf_7cf53 11 = .ok (.iload_n 1, 1) := by decide +kernel
theorem dJ0_indexOf_7cf53_12 : decode cJ0_indexOf_7cf53 12 = .ok (.iload_n 2, 1) := by decide +kernel
theorem dJ0_indexOf_7cf53_13 : decode cJ0_indexOf_7cf53 13 = .ok (.aload_n 0, 1) := by decide +kernel
theorem dJ0_indexOf_7cf53_14 : decode cJ0_indexOf_7cf53 14 = .ok (.invokevirtual 505, 3) := by decide +kernel
theorem dJ0_indexOf_7cf53_17 : decode cJ0_indexOf_7cf53 17 = .ok (.invokestatic 637, 3) := by decide +kernel
theorem dJ0_indexOf_7cf53_20 : decode cJ0_indexOf_7cf53 20 = .ok (.goto 16, 3) := by decide +kernel
theorem dJ0_indexOf_7cf53_23 : decode cJ0_indexOf_7cf53 23 = .ok (.aload_n 0, 1) := by decide +kernel
theorem dJ0_indexOf_7cf53_24 : decode cJ0_indexOf_7cf53 24 = .ok (.getfield 9, 3) := by decide +kernel
theorem dJ0_indexOf_7cf53_27 : decode cJ0_indexOf_7cf53 27 = .ok (.iload_n 1, 1) := by decide +kernel
theorem dJ0_indexOf_7cf53_28 : decode cJ0_indexOf_7cf53 28 = .ok (.iload_n 2, 1) := by decide +kernel
theorem dJ0_indexOf_7cf53_29 : decode cJ0_indexOf_7cf53 29 = .ok (.aload_n 0, 1) := by decide +kernel
theorem dJ0_indexOf_7cf53_30 : decode cJ0_indexOf_7cf53 30 = .ok (.invokevirtual 505, 3) := by decide +kernel
theorem dJ0_indexOf_7cf53_33 : decode cJ0_indexOf_7cf53 33 = .ok (.invokestatic 640, 3) := by decide +kernel
theorem dJ0_indexOf_7cf53_36 : decode cJ0_indexOf_7cf53 36 = .ok (.ireturn, 1) := by decide +kernel
theorem dJ0_coder_7d493_0 : decode cJ0_coder_7d493 0 = .ok (.getstatic 38, 3) := by decide +kernel
theorem dJ0_coder_7d493_3 : decode cJ0_coder_7d493 3 = .ok (.ifCond .eq 10, 3) := by decide +kernel
theorem dJ0_coder_7d493_6 : decode cJ0_coder_7d493 6 = .ok (.aload_n 0, 1) := by decide +kernel
theorem dJ0_coder_7d493_7 : decode cJ0_coder_7d493 7 = .ok (.getfield 15, 3) := by decide +kernel
theorem dJ0_coder_7d493_10 : decode cJ0_coder_7d493 10 = .ok (.goto 4, 3) := by decide +kernel
theorem dJ0_coder_7d493_13 : decode cJ0_coder_7d493 13 = .ok (.iconst 1, 1) := by decide +kernel
theorem dJ0_coder_7d493_14 : decode cJ0_coder_7d493 14 = .ok (.ireturn, 1) := by decide +kernel
theorem dJ0_isLatin1_aae02_0 : decode cJ0_isLatin1_aae02 0 = .ok (.getstatic 38, 3) := by decide +kernel
theorem dJ0_isLatin1_aae02_3 : decode cJ0_isLatin1_aae02 3 = .ok (.ifCond .eq 14, 3) := by decide +kernel
theorem dJ0_isLatin1_aae02_6 : decode cJ0_isLatin1_aae02 6 = .ok (.aload_n 0, 1) := by decide +kernel
theorem dJ0_isLatin1_aae02_7 : decode cJ0_isLatin1_aae02 7 = .ok (.getfield 15, 3) := by decide +kernel
theorem dJ0_isLatin1_aae02_10 : decode cJ0_isLatin1_aae02 10 = .ok (.ifCond .ne 7, 3) := by decide +kernel
theorem dJ0_isLatin1_aae02_13 : decode cJ0_isLatin1_aae02 13 = .ok (.iconst 1, 1) := by decide +kernel
theorem dJ0_isLatin1_aae02_14 : decode cJ0_isLatin1_aae02 14 = .ok (.goto 4, 3) := by decide +kernel
theorem dJ0_isLatin1_aae02_17 : decode cJ0_isLatin1_aae02 17 = .ok (.iconst 0, 1) := by decide +kernel
theorem dJ0_isLatin1_aae02_18 : decode cJ0_isLatin1_aae02 18 = .ok (.ireturn, 1) := by decide +kernel
theorem dJ0_checkBoundsBeginEnd_23922_0 : decode cJ0_checkBoundsBeginEnd_23922 0 = .ok (.iload_n 0, 1) := by decide +kernel
theorem dJ0_checkBoundsBeginEnd_23922_1 : decode cJ0_checkBoundsBeginEnd_23922 1 = .ok (.iload_n 1, 1) := by decide +kernel
theorem dJ0_checkBoundsBeginEnd_23922_2 : decode cJ0_checkBoundsBeginEnd_23922 2 = .ok (.iload_n 2, 1) := by decide +kernel
theorem dJ0_checkBoundsBeginEnd_23922_3 : decode cJ0_checkBoundsBeginEnd_23922 3 = .ok (.getstatic 1053, 3) := by decide +kernel
theorem dJ0_checkBoundsBeginEnd_23922_6 : decode cJ0_checkBoundsBeginEnd_23922 6 = .ok (.invokestatic 1062, 3) := by decide +kernel
theorem dJ0_checkBoundsBeginEnd_23922_9 : decode cJ0_checkBoundsBeginEnd_23922 9 = .ok (.pop, 1) := by decide +kernel
theorem dJ0_checkBoundsBeginEnd_23922_10 : decode cJ0_checkBoundsBeginEnd_23922 10 = .ok (.return_, 1) := by decide +kernel
theorem dJ1_canEncode_9a6ad_0 : decode cJ1_canEncode_9a6ad 0 = .ok (.iload_n 0, 1) := by decide +kernel
theorem dJ1_canEncode_9a6ad_1 : decode cJ1_canEncode_9a6ad 1 = .ok (.ifCond .lt 14, 3) := by decide +kernel
theorem dJ1_canEncode_9a6ad_4 : decode cJ1_canEncode_9a6ad 4 = .ok (.iload_n 0, 1) := by decide +kernel
theorem dJ1_canEncode_9a6ad_5 : decode cJ1_canEncode_9a6ad 5 = .ok (.sipush 255, 3) := by decide +kernel
theorem dJ1_canEncode_9a6ad_8 : decode cJ1_canEncode_9a6ad 8 = .ok (.if_icmp .gt 7, 3) := by decide +kernel
theorem dJ1_canEncode_9a6ad_11 : decode cJ1_canEncode_9a6ad 11 = .ok (.iconst 1, 1) := by decide +kernel
theorem dJ1_canEncode_9a6ad_12 : decode cJ1_canEncode_9a6ad 12 = .ok (.goto 4, 3) := by decide +kernel
theorem dJ1_canEncode_9a6ad_15 : decode cJ1_canEncode_9a6ad 15 = .ok (.iconst 0, 1) := by decide +kernel
theorem dJ1_canEncode_9a6ad_16 : decode cJ1_canEncode_9a6ad 16 = .ok (.ireturn, 1) := by decide +kernel
theorem dJ1_indexOf_4cfef_0 : decode cJ1_indexOf_4cfef 0 = .ok (.iload_n 1, 1) := by decide +kernel
theorem dJ1_indexOf_4cfef_1 : decode cJ1_indexOf_4cfef 1 = .ok (.invokestatic 88, 3) := by decide +kernel
theorem dJ1_indexOf_4cfef_4 : decode cJ1_indexOf_4cfef 4 = .ok (.ifCond .ne 5, 3) := by decide +kernel
theorem dJ1_indexOf_4cfef_7 : decode cJ1_indexOf_4cfef 7 = .ok (.iconst (-1), 1) := by decide +kernel
theorem dJ1_indexOf_4cfef_8 : decode cJ1_indexOf_4cfef 8 = .ok (.ireturn, 1) := by decide +kernel
theorem dJ1_indexOf_4cfef_9 : decode cJ1_indexOf_4cfef 9 = .ok (.iload_n 2, 1) := by decide +kernel
theorem dJ1_indexOf_4cfef_10 : decode cJ1_indexOf_4cfef 10 = .ok (.iconst 0, 1) := by decide +kernel
theorem dJ1_indexOf_4cfef_11 : decode cJ1_indexOf_4cfef 11 = .ok (.invokestatic 92, 3) := by decide +kernel
theorem dJ1_indexOf_4cfef_14 : decode cJ1_indexOf_4cfef 14 = .ok (.istore_n 2, 1) := by decide +kernel
theorem dJ1_indexOf_4cfef_15 : decode cJ1_indexOf_4cfef 15 = .ok (.iload_n 3, 1) := by decide +kernel
theorem dJ1_indexOf_4cfef_16 : decode cJ1_indexOf_4cfef 16 = .ok (.aload_n 0, 1) := by decide +kernel
theorem dJ1_indexOf_4cfef_17 : decode cJ1_indexOf_4cfef 17 = .ok (.arraylength, 1) := by decide +kernel
theorem dJ1_indexOf_4cfef_18 : decode cJ1_indexOf_4cfef 18 = .ok (.invokestatic 38, 3) := by decide +kernel
theorem dJ1_indexOf_4cfef_21 : decode cJ1_indexOf_4cfef 21 = .ok (.istore_n 3, 1) := by decide +kernel
theorem dJ1_indexOf_4cfef_22 : decode cJ1_indexOf_4cfef 22 = .ok (.iload_n 2, 1) := by decide +kernel
theorem dJ1_indexOf_4cfef_23 : decode cJ1_indexOf_4cfef 23 = .ok (.iload_n 3, 1) := by decide +kernel
theorem dJ1_indexOf_4cfef_24 : decode cJ1_indexOf_4cfef 24 = .ok (.if_icmp .lt 5, 3) := by decide +kernel
theorem dJ1_indexOf_4cfef_27 : decode cJ1_indexOf_4cfef 27 = .ok (.iconst (-1), 1) := by decide +kernel
theorem dJ1_indexOf_4cfef_28 : decode cJ1_indexOf_4cfef 28 = .ok (.ireturn, 1) := by decide +kernel
theorem dJ1_indexOf_4cfef_29 : decode cJ1_indexOf_4cfef 29 = .ok (.aload_n 0, 1) := by decide +kernel
theorem dJ1_indexOf_4cfef_30 : decode cJ1_indexOf_4cfef 30 = .ok (.iload_n 1, 1) := by decide +kernel
theorem dJ1_indexOf_4cfef_31 : decode cJ1_indexOf_4cfef 31 = .ok (.iload_n 2, 1) := by decide +kernel
theorem dJ1_indexOf_4cfef_32 : decode cJ1_indexOf_4cfef 32 = .ok (.iload_n 3, 1) := by decide +kernel
theorem dJ1_indexOf_4cfef_33 : decode cJ1_indexOf_4cfef 33 = .ok (.invokestatic 95, 3) := by decide +kernel
theorem dJ1_indexOf_4cfef_36 : decode cJ1_indexOf_4cfef 36 = .ok (.ireturn, 1) := by decide +kernel
theorem dJ1_indexOfChar_4cfef_0 : decode cJ1_indexOfChar_4cfef 0 = .ok (.iload_n 1, 1) := by decide +kernel
theorem dJ1_indexOfChar_4cfef_1 : decode cJ1_indexOfChar_4cfef 1 = .ok (.i2b, 1) := by decide +kernel
theorem dJ1_indexOfChar_4cfef_2 : decode cJ1_indexOfChar_4cfef 2 = .ok (.istore 4, 2) := by decide +kernel
theorem dJ1_indexOfChar_4cfef_4 : decode cJ1_indexOfChar_4cfef 4 = .ok (.iload_n 2, 1) := by decide +kernel
theorem dJ1_indexOfChar_4cfef_5 : decode cJ1_indexOfChar_4cfef 5 = .ok (.istore 5, 2) := by decide +kernel
theorem dJ1_indexOfChar_4cfef_7 : decode cJ1_indexOfChar_4cfef 7 = .ok (.iload 5, 2) := by decide +kernel
theorem dJ1_indexOfChar_4cfef_9 : decode cJ1_indexOfChar_4cfef 9 = .ok (.iload_n 3, 1) := by decide +kernel
theorem dJ1_indexOfChar_4cfef_10 : decode cJ1_indexOfChar_4cfef 10 = .ok (.if_icmp .ge 21, 3) := by decide +kernel
theorem dJ1_indexOfChar_4cfef_13 : decode cJ1_indexOfChar_4cfef 13 = .ok (.aload_n 0, 1) := by decide +kernel
theorem dJ1_indexOfChar_4cfef_14 : decode cJ1_indexOfChar_4cfef 14 = .ok (.iload 5, 2) := by decide +kernel
theorem dJ1_indexOfChar_4cfef_16 : decode cJ1_indexOfChar_4cfef 16 = .ok (.baload, 1) := by decide +kernel
theorem dJ1_indexOfChar_4cfef_17 : decode cJ1_indexOfChar_4cfef 17 = .ok (.iload 4, 2) := by decide +kernel
theorem dJ1_indexOfChar_4cfef_19 : decode cJ1_indexOfChar_4cfef 19 = .ok (.if_icmp .ne 6, 3) := by decide +kernel
theorem dJ1_indexOfChar_4cfef_22 : decode cJ1_indexOfChar_4cfef 22 = .ok (.iload 5, 2) := by decide +kernel
theorem dJ1_indexOfChar_4cfef_24 : decode cJ1_indexOfChar_4cfef 24 = .ok (.ireturn, 1) := by decide +kernel
theorem dJ1_indexOfChar_4cfef_25 : decode cJ1_indexOfChar_4cfef 25 = .ok (.iinc 5 1, 3) := by decide +kernel
theorem dJ1_indexOfChar_4cfef_28 : decode cJ1_indexOfChar_4cfef 28 = .ok (.goto (-21), 3) := by decide +kernel
theorem dJ1_indexOfChar_4cfef_31 : decode cJ1_indexOfChar_4cfef 31 = .ok (.iconst (-1), 1) := by decide +kernel
theorem dJ1_indexOfChar_4cfef_32 : decode cJ1_indexOfChar_4cfef 32 = .ok (.ireturn, 1) := by decide +kernel
end
section
/-! THE BASE: one context for all methods. Words: the whole table tb. The world: a list of cells; contracts say which world a call leaves behind. -/
def rmd (d : Nat) : Room := { frames := d, cells := 0, slots := 0, locals := 40 * d }
abbrev coF : Nat → Value := fun j => .int (([1, 3, 2, 8, 7] : List Int32).getD j 0)
abbrev klL : List Int32 := [106, 108, 97, 115, 102]
/-- what stands beside the world: words on nest mates; the static array; the text constant -/
def Nt (A : Nat → Prop) (g : Nat → Nat) (U : State) : Prop :=
  (∀ w ∈ nst, va_Nw w U) ∧ va_Z "SpillJoin" "COMES_OUT" "[I" (.ref (g 0)) A U U.heap ∧ va_T .int (g 0) 5 coF A U U.heap ∧
  vk_R "SpillJoin$Page" 15 "jlasf" (g 1) U ∧ vk_S 1 [5] [klL] (fun _ => g 1) (fun _ => g 2) A U U.heap ∧ va_Z "java/lang/String" "COMPACT_STRINGS" "Z" (.int 1) A U U.heap
theorem nst_form {w : Cond} (h : w ∈ nst) : (∃ a i b n d h, w = .fieldLinkNest a i b n d h) ∨ ∃ a i x h, w = .methodLinkNest a i x h := by
  have h2 := (List.mem_filter.mp h).2
  cases w <;> first | (exact Or.inl ⟨_, _, _, _, _, _, rfl⟩) | (exact Or.inr ⟨_, _, _, _, rfl⟩) | (cases h2)
theorem nst_tab {w : Cond} (h : w ∈ nst) : w.onTables = true := by
  rcases nst_form h with ⟨_, _, _, _, _, _, rfl⟩ | ⟨_, _, _, _, rfl⟩ <;> rfl
theorem Nt.moved {A : Nat → Prop} {g : Nat → Nat} {s U : State} {H : Heap} {locs : List Loc} (h : Nt A g s) (hW : s.WarmedH U.vm) (hS : va_S A s.heap H locs) (hU : U.heap = H) : Nt A g U := by
  obtain ⟨h1, h2, h3, h4, h5, h6⟩ := h
  subst hU
  refine ⟨fun w hw => ?_, (va_Z.moved hW.alike h2).kept hS.2.1, (va_T.moved hW.alike h3).kept hS.2.1, h4.warm hW, (vk_S.moved hW.alike h5).kept hS.2.1, (va_Z.moved hW.alike h6).kept hS.2.1⟩
  have q := h1 w hw
  rcases nst_form hw with ⟨_, _, _, _, _, _, rfl⟩ | ⟨_, _, _, _, rfl⟩
  · exact va_Nw.warmF hW q
  · exact va_Nw.warmM hW q
theorem Nt.blind {A : Nat → Prop} {g : Nat → Nat} {U V : State} (h : Nt A g U) (hv : V.vm = U.vm) (hh : V.heap = U.heap) : Nt A g V := by
  obtain ⟨h1, h2, h3, h4, h5, h6⟩ := h
  have ha : U.vm.Alike V.vm := by rw [hv]; exact Vm.Alike.refl U.vm
  refine ⟨fun w hw => va_Nw.same (nst_tab hw) hv.symm (h1 w hw), ?_, ?_, h4.same hv, ?_, ?_⟩
  · rw [hh]; exact va_Z.moved ha h2
  · rw [hh]; exact va_T.moved ha h3
  · rw [hh]; exact vk_S.moved ha h5
  · rw [hh]; exact va_Z.moved ha h6
def Bd (own : String) (cc : ByteArray) (nL : Nat) (ret : Option FieldType) (d : Nat) (A : Nat → Prop) (g : Nat → Nat) (D : va_G) (tys : List (ClassId × FieldType)) (p : Program) (R : Room) (s : State) (m : MethodId) (args : Array Value) (meth : Method) (c : Code) : Prop :=
  p.tables.exec = Jvm.exec ∧ c.code = cc ∧ c.maxLocals = nL ∧ s.vm.findClass own = some m.cls ∧ (∀ w ∈ tb, w.before args s = true) ∧ va_K D vwCl tys s ∧ (∀ q : Nat, s.heap.size ≤ q → A q) ∧ Nt A g s ∧ meth.sig.returnType = ret ∧ meth.locks = false ∧ d ≤ R.frames ∧ 40 * d ≤ R.locals
def Hx (A : Nat → Prop) (D : va_G) (H0 : Heap) (w : va_W) (H : Heap) (locs : List Loc) : Prop := va_P D vwCl w H ∧ va_D A w ∧ va_S A H0 H locs
def Pre0 (A : Nat → Prop) (g : Nat → Nat) (D : va_G) (tys : List (ClassId × FieldType)) (w : va_W) (U : State) : Prop :=
  va_P D vwCl w U.heap ∧ va_D A w ∧ va_K D vwCl tys U ∧ (∀ q : Nat, U.heap.size ≤ q → A q) ∧ Nt A g U
def Pos0 (A : Nat → Prop) (D : va_G) (w : va_W) (t : State) : Prop := va_P D vwCl w t.heap ∧ va_D A w
abbrev QI (A : Nat → Prop) (D : va_G) (w : va_W) (r : Int32) : Array Value → State → Outcome → State → Prop := va_Qi (fun (x : Int32) (_ : Unit) => x = r) (fun _ => Pos0 A D w) A
abbrev QJ (A : Nat → Prop) (D : va_G) (w : va_W) (r : Int64) : Array Value → State → Outcome → State → Prop := va_Ql (fun (x : Int64) (_ : Unit) => x = r) (fun _ => Pos0 A D w) A
abbrev QV (A : Nat → Prop) (D : va_G) (w : va_W) : Array Value → State → Outcome → State → Prop := va_Qv (fun (_ : Unit) => True) (fun _ => Pos0 A D w) A
abbrev QR (A : Nat → Prop) (D : va_G) (w : va_W) (b : Nat) : Array Value → State → Outcome → State → Prop := va_Qr (fun (_ : Unit) => True) (fun _ a t => a = b ∧ Pos0 A D w t) A
/-- a method's contract: called with av in the world w0, it ends as Qc says -/
def Ct (l : Launch) (y : MethodName) (cc : ByteArray) (nL : Nat) (ret : Option FieldType) (d : Nat) (A : Nat → Prop) (g : Nat → Nat) (D : va_G) (tys : List (ClassId × FieldType)) (av : List Value) (w0 : va_W) (Qc : Array Value → State → Outcome → State → Prop) : Prop :=
  Met l y (.code y cc nL ret :: tb) (rmd d) (va_Pc av (Pre0 A g D tys w0)) Qc 0 0 A
theorem Pre0.blind {A : Nat → Prop} {g : Nat → Nat} {D : va_G} {tys : List (ClassId × FieldType)} {w : va_W} {av : List Value} : FrameBlind (va_Pc av (Pre0 A g D tys w)) := by
  intro a U gg mk q
  obtain ⟨q0, qP, qD, qK, qA, qN⟩ := q
  exact ⟨q0, qP, qD, va_K.moved (u := U) (U := U.calling gg mk a) (Vm.Alike.refl U.vm) qK, qA, Nt.blind qN rfl rfl⟩
theorem Pre0.at {A : Nat → Prop} {g : Nat → Nat} {D : va_G} {tys : List (ClassId × FieldType)} {w : va_W} {own : String} {cc : ByteArray} {nL : Nat} {ret : Option FieldType} {d : Nat} {p : Program} {R : Room} {s : State} {m : MethodId} {args : Array Value} {meth : Method} {c : Code} {H : Heap} {locs : List Loc}
    (B : Bd own cc nL ret d A g D tys p R s m args meth c) (X : Hx A D s.heap w H locs) {U : State} (hU : U.heap = H) (hW : s.WarmedH U.vm) : Pre0 A g D tys w U := by
  obtain ⟨-, -, -, -, -, bK, bA, bN, -⟩ := B
  obtain ⟨xP, xD, xS⟩ := X
  refine ⟨by rw [hU]; exact xP, xD, va_K.moved hW.alike bK, fun q hq => bA q ?_, bN.moved hW xS hU⟩
  rw [hU] at hq
  exact Nat.le_trans xS.1 hq
theorem mkM {l : Launch} {y : MethodName} {cc : ByteArray} {nL : Nat} {ret : Option FieldType} {d : Nat} {A : Nat → Prop} {g : Nat → Nat} {D : va_G} {tys : List (ClassId × FieldType)} {av : List Value} {w0 : va_W} {Qc : Array Value → State → Outcome → State → Prop}
    (hy : plainName y.cls = true) (hn : (lg_sl av).length ≤ nL)
    (body : ∀ (p : Program) (e : Env) (s : State) (m : MethodId) (args : Array Value) (below : List Frame) (meth : Method) (c : Code), Bd y.cls cc nL ret d A g D tys p (rmd d) s m args meth c → Hx A D s.heap w0 s.heap [] → ∀ ls : Array Slot, lv_has ls nL (lv_args 0 av) →
      W p l e (rmd d) s m args below meth c s.heap [] 0 0 (MQ below Qc args s 0 0 A) (F0 m 0 ls [])) : Ct l y cc nL ret d A g D tys av w0 Qc := by
  unfold Ct
  refine Met.ofW (cc := cc) (maxL := nL) (ret := ret) hy rfl ?_
  intro p e s m args below meth c s₁ B hml hv
  obtain ⟨rfl, qP, qD, qK, qA, qN⟩ := hv
  have hts := atoms_spec (ws := .code y cc nL ret :: tb) B.pre
  have hl := lv_entry av (n := nL) hn
  rw [lg_entry_eq]
  exact body p e s m av.toArray below meth c ⟨B.exec, B.bytes, hml, findClass_of_methodNamed B.named, fun w h => hts w (List.mem_cons_of_mem _ h), qK, qA, qN, B.returns, B.notSynchronized, Nat.le_refl _, Nat.le_refl _⟩ ⟨qP, qD, va_S.rf⟩ _ hl
section Rows
variable {p : Program} {l : Launch} {e : Env} {R : Room} {s : State} {m : MethodId} {args : Array Value} {below : List Frame} {meth : Method} {c : Code} {H : Heap} {locs : List Loc} {cells slots : Nat} {Q : State → Prop}
variable {own : String} {cc : ByteArray} {nL : Nat} {ret : Option FieldType} {d : Nat} {A : Nat → Prop} {g : Nat → Nat} {D : va_G} {tys : List (ClassId × FieldType)} {w w1 : va_W} {pc : Nat} {ls : Array Slot} {rest st : List Value} {a : Nat}
theorem rI {v r : Int32} (B : Bd own cc nL (some .int) d A g D tys p R s m args meth c) (X : Hx A D s.heap w H locs) (hw : w = w1) (hr : v = r) (hd : decode cc pc = .ok (.ireturn, 1)) :
    W p l e R s m args below meth c H locs 0 0 (MQ below (QI A D w1 r) args s 0 0 A) (F0 m pc ls [.int v]) := by
  subst hw; subst hr
  obtain ⟨b1, b2, b3, b4, b5, b6, b7, b8, b9, b10, -⟩ := B
  exact W.iret b1 b2 b9 (fun t ht hW => ⟨⟨v, (), rfl, rfl, by rw [ht]; exact X.1, X.2.1⟩, X.2.2.F ht⟩) X.2.2.2.2 hd b10
theorem rZ {v r : Int32} (B : Bd own cc nL (some .boolean) d A g D tys p R s m args meth c) (X : Hx A D s.heap w H locs) (hw : w = w1) (hr : v = r) (hn : narrow .boolean (.int v) = .int v) (hd : decode cc pc = .ok (.ireturn, 1)) :
    W p l e R s m args below meth c H locs 0 0 (MQ below (QI A D w1 r) args s 0 0 A) (F0 m pc ls [.int v]) := by
  subst hw; subst hr
  obtain ⟨b1, b2, b3, b4, b5, b6, b7, b8, b9, b10, -⟩ := B
  exact W.zret b1 b2 b9 hn (fun t ht hW => ⟨⟨v, (), rfl, rfl, by rw [ht]; exact X.1, X.2.1⟩, X.2.2.F ht⟩) X.2.2.2.2 hd b10
theorem rJ {v r : Int64} (B : Bd own cc nL (some .long) d A g D tys p R s m args meth c) (X : Hx A D s.heap w H locs) (hw : w = w1) (hr : v = r) (hd : decode cc pc = .ok (.lreturn, 1)) :
    W p l e R s m args below meth c H locs 0 0 (MQ below (QJ A D w1 r) args s 0 0 A) (F0 m pc ls [.long v]) := by
  subst hw; subst hr
  obtain ⟨b1, b2, b3, b4, b5, b6, b7, b8, b9, b10, -⟩ := B
  exact W.lret b1 b2 b9 (fun t ht hW => ⟨⟨v, (), rfl, rfl, by rw [ht]; exact X.1, X.2.1⟩, X.2.2.F ht⟩) X.2.2.2.2 hd b10
theorem rV (B : Bd own cc nL none d A g D tys p R s m args meth c) (X : Hx A D s.heap w H locs) (hw : w = w1) (hd : decode cc pc = .ok (.return_, 1)) :
    W p l e R s m args below meth c H locs 0 0 (MQ below (QV A D w1) args s 0 0 A) (F0 m pc ls []) := by
  subst hw
  obtain ⟨b1, b2, b3, b4, b5, b6, b7, b8, b9, b10, -⟩ := B
  exact W.vret b1 b2 b9 (fun t ht hW => ⟨⟨(), rfl, trivial, by rw [ht]; exact X.1, X.2.1⟩, X.2.2.F ht⟩) X.2.2.2.2 hd b10
theorem rR {b b' : Nat} {o : String} (B : Bd own cc nL (some (.object o)) d A g D tys p R s m args meth c) (X : Hx A D s.heap w H locs) (hw : w = w1) (hr : b = b') (hd : decode cc pc = .ok (.areturn, 1)) :
    W p l e R s m args below meth c H locs 0 0 (MQ below (QR A D w1 b') args s 0 0 A) (F0 m pc ls [.ref b]) := by
  subst hw; subst hr
  obtain ⟨b1, b2, b3, b4, b5, b6, b7, b8, b9, b10, -⟩ := B
  exact W.aret b1 b2 b9 (Or.inl ⟨_, rfl⟩) (Or.inr ⟨_, rfl⟩) (fun t ht hW => ⟨⟨(), b, rfl, trivial, rfl, by rw [ht]; exact X.1, X.2.1⟩, X.2.2.F ht⟩) X.2.2.2.2 hd b10
/-- fields -/
theorem fG {C : String} {T : u_T} {N ci idx : Nat} {fs : List Value} {v : Value} (B : Bd own cc nL ret d A g D tys p R s m args meth c) (X : Hx A D s.heap w H locs) {q0 : Nat} (he : w[q0]? = some (a, .inr (ci, fs))) (k : Nat) (hc : vwCl[ci]? = some (C, T, N)) (hin : ∀ w ∈ u_ws C T N, w ∈ tb) (hk : k < N)
    (hl : Cond.fieldLink own idx (T k).1 (T k).2.1 (T k).2.2.1 ∈ tb) (hv : fs[k]? = some v) (hdg : decode cc pc = .ok (.getfield idx, 3)) (kk : W p l e R s m args below meth c H locs cells slots Q (F0 m (pc + 3) ls (v :: rest))) :
    W p l e R s m args below meth c H locs cells slots Q (F0 m pc ls (.ref a :: rest)) := by
  obtain ⟨b1, b2, b3, b4, b5, b6, -⟩ := B
  exact va_get b1 b2 b5 hin b4 b6 X.1 q0 he hc k hk (b5 _ hl) (fun _ h => h) hv hdg kk
theorem fGN {C host : String} {T : u_T} {N ci idx : Nat} {fs : List Value} {v : Value} (B : Bd own cc nL ret d A g D tys p R s m args meth c) (X : Hx A D s.heap w H locs) {q0 : Nat} (he : w[q0]? = some (a, .inr (ci, fs))) (k : Nat) (hc : vwCl[ci]? = some (C, T, N)) (hin : ∀ w ∈ u_ws C T N, w ∈ tb) (hk : k < N)
    (hl : Cond.fieldLinkNest own idx (T k).1 (T k).2.1 (T k).2.2.1 host ∈ nst) (hv : fs[k]? = some v) (hdg : decode cc pc = .ok (.getfield idx, 3)) (kk : W p l e R s m args below meth c H locs cells slots Q (F0 m (pc + 3) ls (v :: rest))) :
    W p l e R s m args below meth c H locs cells slots Q (F0 m pc ls (.ref a :: rest)) := by
  obtain ⟨b1, b2, b3, b4, b5, b6, b7, b8, -⟩ := B
  exact va_getN b1 b2 b5 hin b4 b6 X.1 q0 he hc k hk (va_Nw.use (nst_tab hl) (b8.1 _ hl)) (fun _ h => h) hv hdg kk
theorem fP {C : String} {T : u_T} {N ci idx : Nat} {fs : List Value} {v : Value} (ty0 : Nat → FieldType) {ty : FieldType} (B : Bd own cc nL ret d A g D tys p R s m args meth c) (X : Hx A D s.heap w H locs) {q0 : Nat} (he : w[q0]? = some (a, .inr (ci, fs))) (k : Nat) (hs : w.set q0 (a, .inr (ci, fs.set k v)) = w1) (hc : vwCl[ci]? = some (C, T, N)) (hin : ∀ w ∈ u_ws C T N, w ∈ tb) (hty : ∀ k, k < N → parseFieldDescriptor (T k).2.2.1 = some (ty0 k)) (hnm : ∀ a, a < N → ∀ b, b < N → a ≠ b → (T a).2.1 ≠ (T b).2.1) (hk : k < N)
    (hl : Cond.fieldLink own idx (T k).1 (T k).2.1 (T k).2.2.1 ∈ tb) (hfin : (T k).2.2.2 = false) (hyk : ty0 k = ty) (hn : narrow ty v = v) (hfit : fits ty v = true) (hlen : k < fs.length) (hdg : decode cc pc = .ok (.putfield idx, 3)) (kk : ∀ (H1 : Heap) (locs1 : List Loc), Hx A D s.heap w1 H1 locs1 → W p l e R s m args below meth c H1 locs1 cells slots Q (F0 m (pc + 3) ls rest)) :
    W p l e R s m args below meth c H locs cells slots Q (F0 m pc ls (v :: .ref a :: rest)) := by
  obtain ⟨b1, b2, b3, b4, b5, b6, -⟩ := B
  subst hs
  exact va_put b1 b2 b5 hin ty0 hty hnm b4 b6 X.1 X.2.1 X.2.2 q0 he hc k hk (b5 _ hl) (fun _ h => h) hfin ((hty k hk).trans (congrArg some hyk)) hn hfit hlen hdg (fun H1 locs1 q1 q2 q3 => kk H1 locs1 ⟨q1, q2, q3⟩)
theorem fPN {C host : String} {T : u_T} {N ci idx : Nat} {fs : List Value} {v : Value} (ty0 : Nat → FieldType) {ty : FieldType} (B : Bd own cc nL ret d A g D tys p R s m args meth c) (X : Hx A D s.heap w H locs) {q0 : Nat} (he : w[q0]? = some (a, .inr (ci, fs))) (k : Nat) (hs : w.set q0 (a, .inr (ci, fs.set k v)) = w1) (hc : vwCl[ci]? = some (C, T, N)) (hin : ∀ w ∈ u_ws C T N, w ∈ tb) (hty : ∀ k, k < N → parseFieldDescriptor (T k).2.2.1 = some (ty0 k)) (hnm : ∀ a, a < N → ∀ b, b < N → a ≠ b → (T a).2.1 ≠ (T b).2.1) (hk : k < N)
    (hl : Cond.fieldLinkNest own idx (T k).1 (T k).2.1 (T k).2.2.1 host ∈ nst) (hfin : (T k).2.2.2 = false) (hyk : ty0 k = ty) (hn : narrow ty v = v) (hfit : fits ty v = true) (hlen : k < fs.length) (hdg : decode cc pc = .ok (.putfield idx, 3)) (kk : ∀ (H1 : Heap) (locs1 : List Loc), Hx A D s.heap w1 H1 locs1 → W p l e R s m args below meth c H1 locs1 cells slots Q (F0 m (pc + 3) ls rest)) :
    W p l e R s m args below meth c H locs cells slots Q (F0 m pc ls (v :: .ref a :: rest)) := by
  obtain ⟨b1, b2, b3, b4, b5, b6, b7, b8, -⟩ := B
  subst hs
  exact va_putN b1 b2 b5 hin ty0 hty hnm b4 b6 X.1 X.2.1 X.2.2 q0 he hc k hk (va_Nw.use (nst_tab hl) (b8.1 _ hl)) (fun _ h => h) hfin ((hty k hk).trans (congrArg some hyk)) hn hfit hlen hdg (fun H1 locs1 q1 q2 q3 => kk H1 locs1 ⟨q1, q2, q3⟩)
/-- int arrays -/
theorem aG {cA : ClassId} {n : Nat} {f : Nat → Int32} {i : Int32} (B : Bd own cc nL ret d A g D tys p R s m args meth c) (X : Hx A D s.heap w H locs) {q0 : Nat} (he : w[q0]? = some (a, .inl (cA, n, .inl f))) (t0 : Nat) (ht : tys[t0]? = some (cA, .int)) (hin : ¬ (i < 0 ∨ n ≤ i.toNatClampNeg)) (hdg : decode cc pc = .ok (.iaload, 1))
    (kk : W p l e R s m args below meth c H locs cells slots Q (F0 m (pc + 1) ls (.int (f i.toNatClampNeg) :: rest))) : W p l e R s m args below meth c H locs cells slots Q (F0 m pc ls (.int i :: .ref a :: rest)) :=
  va_iald B.1 B.2.1 B.2.2.2.2.2.1 X.1 q0 t0 he ht hin hdg kk
theorem aGb {cA : ClassId} {n : Nat} {f : Nat → Int32} {i : Int32} (B : Bd own cc nL ret d A g D tys p R s m args meth c) (X : Hx A D s.heap w H locs) {q0 : Nat} (he : w[q0]? = some (a, .inl (cA, n, .inl f))) (t0 : Nat) (ht : tys[t0]? = some (cA, .byte)) (hin : ¬ (i < 0 ∨ n ≤ i.toNatClampNeg)) (hdg : decode cc pc = .ok (.baload, 1))
    (kk : W p l e R s m args below meth c H locs cells slots Q (F0 m (pc + 1) ls (.int (f i.toNatClampNeg) :: rest))) : W p l e R s m args below meth c H locs cells slots Q (F0 m pc ls (.int i :: .ref a :: rest)) :=
  va_bald B.1 B.2.1 B.2.2.2.2.2.1 X.1 q0 t0 he ht hin hdg kk
theorem aP {cA : ClassId} {n : Nat} {f : Nat → Int32} {i x : Int32} (B : Bd own cc nL ret d A g D tys p R s m args meth c) (X : Hx A D s.heap w H locs) {q0 : Nat} (he : w[q0]? = some (a, .inl (cA, n, .inl f))) (hs : w.set q0 (a, .inl (cA, n, .inl (upd f i.toNatClampNeg x))) = w1) (t0 : Nat) (ht : tys[t0]? = some (cA, .int)) (hin : ¬ (i < 0 ∨ n ≤ i.toNatClampNeg)) (hdg : decode cc pc = .ok (.iastore, 1))
    (kk : ∀ (H1 : Heap) (locs1 : List Loc), Hx A D s.heap w1 H1 locs1 → W p l e R s m args below meth c H1 locs1 cells slots Q (F0 m (pc + 1) ls rest)) : W p l e R s m args below meth c H locs cells slots Q (F0 m pc ls (.int x :: .int i :: .ref a :: rest)) := by
  subst hs
  exact va_iast B.1 B.2.1 B.2.2.2.2.2.1 X.1 X.2.1 X.2.2 q0 t0 he ht hin hdg (fun H1 locs1 q1 q2 q3 => kk H1 locs1 ⟨q1, q2, q3⟩)
theorem aPb {cA : ClassId} {n : Nat} {f : Nat → Int32} {i x : Int32} (B : Bd own cc nL ret d A g D tys p R s m args meth c) (X : Hx A D s.heap w H locs) {q0 : Nat} (he : w[q0]? = some (a, .inl (cA, n, .inl f))) (hs : w.set q0 (a, .inl (cA, n, .inl (upd f i.toNatClampNeg (vp_nar .byte x)))) = w1) (t0 : Nat) (ht : tys[t0]? = some (cA, .byte)) (hin : ¬ (i < 0 ∨ n ≤ i.toNatClampNeg)) (hdg : decode cc pc = .ok (.bastore, 1))
    (kk : ∀ (H1 : Heap) (locs1 : List Loc), Hx A D s.heap w1 H1 locs1 → W p l e R s m args below meth c H1 locs1 cells slots Q (F0 m (pc + 1) ls rest)) : W p l e R s m args below meth c H locs cells slots Q (F0 m pc ls (.int x :: .int i :: .ref a :: rest)) := by
  subst hs
  exact va_bast B.1 B.2.1 B.2.2.2.2.2.1 X.1 X.2.1 X.2.2 q0 t0 he ht hin hdg (fun H1 locs1 q1 q2 q3 => kk H1 locs1 ⟨q1, q2, q3⟩)
end Rows
/-- a method's words: an object's method, a static one -/
def MF (y : MethodName) (cc : ByteArray) (nL : Nat) (ret : Option FieldType) (n : Nat) : Prop :=
  Cond.code y cc nL ret ∈ tb ∧ Cond.instanceMethod y ∈ tb ∧ Cond.selects y.cls y y ∈ tb ∧ Cond.initialized y.cls ∈ tb ∧ (y.cls ≠ "java/lang/invoke/MethodHandle" ∧ y.cls ≠ "java/lang/invoke/VarHandle" ∧ (parseMethodDescriptor y.desc).map (fun d => d.parameters.length) = some n) ∧ nL ≤ 21
def MS (y : MethodName) (cc : ByteArray) (nL : Nat) (ret : Option FieldType) (n : Nat) : Prop :=
  Cond.code y cc nL ret ∈ tb ∧ Cond.static y ∈ tb ∧ Cond.initialized y.cls ∈ tb ∧ (y.cls ≠ "java/lang/invoke/MethodHandle" ∧ y.cls ≠ "java/lang/invoke/VarHandle" ∧ (parseMethodDescriptor y.desc).map (fun d => d.parameters.length) = some n) ∧ nL ≤ 21
theorem tb_good {y : MethodName} {cc : ByteArray} {nL : Nat} {ret : Option FieldType} (h : Cond.code y cc nL ret ∈ tb) : GoodIn tb (.code y cc nL ret :: tb) := by
  intro w hw
  have hm : w ∈ tb := (List.mem_cons.mp hw).elim (fun e => by rw [e]; exact h) id
  exact ⟨hm, good_of_word (List.mem_filter.mp hm).2⟩
theorem rmd_ok {d' d nL' : Nat} {R : Room} (hd : d' + 1 ≤ d) (hR1 : d ≤ R.frames) (hR2 : 40 * d ≤ R.locals) (hn : nL' ≤ 21) : (rmd d').frames + 1 ≤ R.frames ∧ 8 + (nL' + 11) + (rmd d').locals ≤ R.locals := by
  show d' + 1 ≤ R.frames ∧ 8 + (nL' + 11) + 40 * d' ≤ R.locals
  omega
section Calls1
variable {p : Program} {l : Launch} {e : Env} {R : Room} {s : State} {m : MethodId} {args : Array Value} {below : List Frame} {meth : Method} {c : Code} {H : Heap} {locs : List Loc} {cells slots : Nat} {Q : State → Prop}
variable {own : String} {cc : ByteArray} {nL : Nat} {ret : Option FieldType} {d : Nat} {A : Nat → Prop} {g : Nat → Nat} {D : va_G} {tys : List (ClassId × FieldType)} {w w1 : va_W} {pc : Nat} {ls : Array Slot} {rest : List Value}
variable {y : MethodName} {cc' : ByteArray} {nL' n idx d' ci q0 N b : Nat} {ret' : Option FieldType} {T : u_T} {fs As : List Value} {host : String} {Qc : Array Value → State → Outcome → State → Prop}
theorem cV (B : Bd own cc nL ret d A g D tys p R s m args meth c) (X : Hx A D s.heap w H locs) (hM : Ct l y cc' nL' ret' d' A g D tys (.ref b :: As) w Qc) (F : MF y cc' nL' ret' n) (hl : Cond.methodLink own idx y ∈ tb) (hd : d' + 1 ≤ d) (he : w[q0]? = some (b, .inr (ci, fs))) (hc : vwCl[ci]? = some (y.cls, T, N)) (hn : As.length = n)
    (hr : (rest.map fun v => v.category).sum ≤ 8) (hls : ls.size = nL) (hcs : cells ≤ R.cells ∧ slots ≤ R.slots) (hdg : decode cc pc = .ok (.invokevirtual idx, 3)) :
    va_Run p l e R s m args below meth c H locs cells slots 0 0 (F0 m pc ls (As.reverse ++ .ref b :: rest)) rest (Qc (Value.ref b :: As).toArray) A := by
  have B0 := B
  obtain ⟨b1, b2, b3, b4, b5, b6, b7, b8, b9, b10, b11, b12⟩ := B
  obtain ⟨f1, f2, f3, f4, f5, f6⟩ := F
  exact va_runV (As := As) (rest := rest) ⟨b1, b2, b3, b4, b5⟩ hM ⟨callB_of n b5 (tb_good f1) rfl rfl rfl (b5 _ f4) (b5 _ hl) f5 (rmd_ok hd b11 b12 f6), b5 _ f2, b5 _ f3⟩ ⟨Pre0.blind, va_recv b6 X.1 hc he, fun U hU hW => ⟨rfl, Pre0.at B0 X hU hW⟩⟩ rfl hn hls rfl (lv_room hr) hdg hcs
theorem cVN (B : Bd own cc nL ret d A g D tys p R s m args meth c) (X : Hx A D s.heap w H locs) (hM : Ct l y cc' nL' ret' d' A g D tys (.ref b :: As) w Qc) (F : MF y cc' nL' ret' n) (hl : Cond.methodLinkNest own idx y host ∈ nst) (hd : d' + 1 ≤ d) (he : w[q0]? = some (b, .inr (ci, fs))) (hc : vwCl[ci]? = some (y.cls, T, N)) (hn : As.length = n)
    (hr : (rest.map fun v => v.category).sum ≤ 8) (hls : ls.size = nL) (hcs : cells ≤ R.cells ∧ slots ≤ R.slots) (hdg : decode cc pc = .ok (.invokevirtual idx, 3)) :
    va_Run p l e R s m args below meth c H locs cells slots 0 0 (F0 m pc ls (As.reverse ++ .ref b :: rest)) rest (Qc (Value.ref b :: As).toArray) A := by
  have B0 := B
  obtain ⟨b1, b2, b3, b4, b5, b6, b7, b8, b9, b10, b11, b12⟩ := B
  obtain ⟨f1, f2, f3, f4, f5, f6⟩ := F
  exact va_runVN (As := As) (rest := rest) ⟨b1, b2, b3, b4, b5⟩ hM ⟨va_cnB n b5 (tb_good f1) rfl rfl rfl (b8.1 _ hl) (b5 _ f4) f5 (rmd_ok hd b11 b12 f6), b5 _ f2, b5 _ f3⟩ ⟨Pre0.blind, va_recv b6 X.1 hc he, fun U hU hW => ⟨rfl, Pre0.at B0 X hU hW⟩⟩ rfl hn hls rfl (lv_room hr) hdg hcs
theorem cS (B : Bd own cc nL ret d A g D tys p R s m args meth c) (X : Hx A D s.heap w H locs) (hM : Ct l y cc' nL' ret' d' A g D tys As w Qc) (F : MS y cc' nL' ret' n) (hl : Cond.methodLink own idx y ∈ tb) (hd : d' + 1 ≤ d) (hn : As.length = n)
    (hr : (rest.map fun v => v.category).sum ≤ 8) (hls : ls.size = nL) (hcs : cells ≤ R.cells ∧ slots ≤ R.slots) (hdg : decode cc pc = .ok (.invokestatic idx, 3)) :
    va_Run p l e R s m args below meth c H locs cells slots 0 0 (F0 m pc ls (As.reverse ++ rest)) rest (Qc As.toArray) A := by
  have B0 := B
  obtain ⟨b1, b2, b3, b4, b5, b6, b7, b8, b9, b10, b11, b12⟩ := B
  obtain ⟨f1, f2, f4, f5, f6⟩ := F
  exact va_runS (As := As) (rest := rest) ⟨b1, b2, b3, b4, b5⟩ hM ⟨callB_of n b5 (tb_good f1) rfl rfl rfl (b5 _ f4) (b5 _ hl) f5 (rmd_ok hd b11 b12 f6), b5 _ f2⟩ ⟨Pre0.blind, fun U hU hW => ⟨rfl, Pre0.at B0 X hU hW⟩⟩ rfl hn hls rfl (lv_room hr) hdg hcs
theorem cSN (B : Bd own cc nL ret d A g D tys p R s m args meth c) (X : Hx A D s.heap w H locs) (hM : Ct l y cc' nL' ret' d' A g D tys As w Qc) (F : MS y cc' nL' ret' n) (hl : Cond.methodLinkNest own idx y host ∈ nst) (hd : d' + 1 ≤ d) (hn : As.length = n)
    (hr : (rest.map fun v => v.category).sum ≤ 8) (hls : ls.size = nL) (hcs : cells ≤ R.cells ∧ slots ≤ R.slots) (hdg : decode cc pc = .ok (.invokestatic idx, 3)) :
    va_Run p l e R s m args below meth c H locs cells slots 0 0 (F0 m pc ls (As.reverse ++ rest)) rest (Qc As.toArray) A := by
  have B0 := B
  obtain ⟨b1, b2, b3, b4, b5, b6, b7, b8, b9, b10, b11, b12⟩ := B
  obtain ⟨f1, f2, f4, f5, f6⟩ := F
  exact va_runSN (As := As) (rest := rest) ⟨b1, b2, b3, b4, b5⟩ hM ⟨va_cnB n b5 (tb_good f1) rfl rfl rfl (b8.1 _ hl) (b5 _ f4) f5 (rmd_ok hd b11 b12 f6), b5 _ f2, trivial⟩ ⟨Pre0.blind, fun U hU hW => ⟨rfl, Pre0.at B0 X hU hW⟩⟩ rfl hn hls rfl (lv_room hr) hdg hcs
variable {st0 : List Value} {av : Array Value}
theorem kI {r : Int32} (X : Hx A D s.heap w H locs) (hr : va_Run p l e R s m args below meth c H locs cells slots 0 0 (F0 m pc ls st0) rest (QI A D w1 r av) A)
    (kk : ∀ (H1 : Heap) (locs1 : List Loc), Hx A D s.heap w1 H1 locs1 → W p l e R s m args below meth c H1 locs1 cells slots Q (F0 m (pc + 3) ls (.int r :: rest))) : W p l e R s m args below meth c H locs cells slots Q (F0 m pc ls st0) :=
  va_calli hr X.2.2 (fun _ _ h => h) (fun _ h => h) (fun r' u t H1 locs1 ht hvm hw hB hz hk hS => by
    subst hw
    exact kk H1 locs1 ⟨by rw [← ht]; exact hB.1, hB.2, hS⟩)
theorem kJ {r : Int64} (X : Hx A D s.heap w H locs) (hr : va_Run p l e R s m args below meth c H locs cells slots 0 0 (F0 m pc ls st0) rest (QJ A D w1 r av) A)
    (kk : ∀ (H1 : Heap) (locs1 : List Loc), Hx A D s.heap w1 H1 locs1 → W p l e R s m args below meth c H1 locs1 cells slots Q (F0 m (pc + 3) ls (.long r :: rest))) : W p l e R s m args below meth c H locs cells slots Q (F0 m pc ls st0) :=
  va_calll hr X.2.2 (fun _ _ h => h) (fun _ h => h) (fun r' u t H1 locs1 ht hvm hw hB hz hk hS => by
    subst hw
    exact kk H1 locs1 ⟨by rw [← ht]; exact hB.1, hB.2, hS⟩)
theorem kV (X : Hx A D s.heap w H locs) (hr : va_Run p l e R s m args below meth c H locs cells slots 0 0 (F0 m pc ls st0) rest (QV A D w1 av) A)
    (kk : ∀ (H1 : Heap) (locs1 : List Loc), Hx A D s.heap w1 H1 locs1 → W p l e R s m args below meth c H1 locs1 cells slots Q (F0 m (pc + 3) ls rest)) : W p l e R s m args below meth c H locs cells slots Q (F0 m pc ls st0) :=
  va_callv hr X.2.2 (fun _ _ h => h) (fun _ h => h) (fun u t H1 locs1 ht hvm hw hB hz hk hS => by
    exact kk H1 locs1 ⟨by rw [← ht]; exact hB.1, hB.2, hS⟩)
theorem kR {r : Nat} (X : Hx A D s.heap w H locs) (hr : va_Run p l e R s m args below meth c H locs cells slots 0 0 (F0 m pc ls st0) rest (QR A D w1 r av) A)
    (kk : ∀ (H1 : Heap) (locs1 : List Loc), Hx A D s.heap w1 H1 locs1 → W p l e R s m args below meth c H1 locs1 cells slots Q (F0 m (pc + 3) ls (.ref r :: rest))) : W p l e R s m args below meth c H locs cells slots Q (F0 m pc ls st0) := by
  refine va_callr hr X.2.2 (fun _ _ h => h) (fun _ h => h) ?_
  intro u b t H1 locs1 ht hvm hw hB hz hk hS
  obtain ⟨rfl, hB⟩ := hB
  exact kk H1 locs1 ⟨by rw [← ht]; exact hB.1, hB.2, hS⟩
end Calls1
/-- an option that is there, and what goes on -/
theorem bs {α β : Type} {o : Option α} {f : α → Option β} {b : β} (h : o.bind f = some b) : ∃ q, o = some q ∧ f q = some b := by
  cases o with
  | none => cases h
  | some q => exact ⟨q, rfl, h⟩
theorem it {α : Type} {c : Prop} {i : Decidable c} {x y z : α} (h : (if c then x else y) = z) (hc : c) : x = z := (if_pos hc).symm.trans h
theorem ie {α : Type} {c : Prop} {i : Decidable c} {x y z : α} (h : (if c then x else y) = z) (hc : ¬ c) : y = z := (if_neg hc).symm.trans h
end
section
/-! THE LENSES: how a state of a class lies in a world of cells, at which addresses (a..) and places (p..). -/
def LnA (a0 p0 N0 : Nat) (cI : ClassId) (wf : (Nat → Int32) → va_W) : Prop := (∀ z, (wf z)[p0]? = some (a0, .inl (cI, N0, .inl z))) ∧ ∀ z f, (wf z).set p0 (a0, .inl (cI, N0, .inl f)) = wf f
abbrev SX5 : Type := (Nat → Int32) × Int32
def LnX5 (a0 a1 p0 p1 : Nat) (cI : ClassId) (wf : SX5 → va_W) : Prop :=
  (∀ z : SX5, (wf z)[p0]? = some (a0, .inr (5, [.ref a1, .int z.2]))) ∧
  (∀ z : SX5, (wf z)[p1]? = some (a1, .inl (cI, 14, .inl z.1))) ∧
  (∀ (z : SX5) (f : Nat → Int32), (wf z).set p1 (a1, .inl (cI, 14, .inl f)) = wf (f, z.2)) ∧
  (∀ (z : SX5) (v : Int32), (wf z).set p0 (a0, .inr (5, [.ref a1, .int v])) = wf (z.1, v))
theorem LnX5_g {a0 a1 p0 p1 : Nat} {cI : ClassId} {wf : SX5 → va_W} (L : LnX5 a0 a1 p0 p1 cI wf) (z : SX5) : (wf z)[p0]? = some (a0, .inr (5, [.ref a1, .int z.2])) := L.1 z
theorem LnX5_a0 {a0 a1 p0 p1 : Nat} {cI : ClassId} {wf : SX5 → va_W} (L : LnX5 a0 a1 p0 p1 cI wf) (z : SX5) : (wf z)[p1]? = some (a1, .inl (cI, 14, .inl z.1)) := L.2.1 z
theorem LnX5_b0 {a0 a1 p0 p1 : Nat} {cI : ClassId} {wf : SX5 → va_W} (L : LnX5 a0 a1 p0 p1 cI wf) (z : SX5) (f : Nat → Int32) : (wf z).set p1 (a1, .inl (cI, 14, .inl f)) = wf (f, z.2) := L.2.2.1 z f
theorem LnX5_i1 {a0 a1 p0 p1 : Nat} {cI : ClassId} {wf : SX5 → va_W} (L : LnX5 a0 a1 p0 p1 cI wf) (z : SX5) (v : Int32) : (wf z).set p0 (a0, .inr (5, [.ref a1, .int v])) = wf (z.1, v) := L.2.2.2 z v
abbrev SX1 : Type := (Nat → Int32) × (Nat → Int32) × Int32 × Int32 × Int32
def LnX1 (a0 a1 a2 p0 p1 p2 : Nat) (cI : ClassId) (wf : SX1 → va_W) : Prop :=
  (∀ z : SX1, (wf z)[p0]? = some (a0, .inr (1, [.ref a1, .ref a2, .int z.2.2.1, .int z.2.2.2.1, .int z.2.2.2.2]))) ∧
  (∀ z : SX1, (wf z)[p1]? = some (a1, .inl (cI, 250, .inl z.1))) ∧
  (∀ (z : SX1) (f : Nat → Int32), (wf z).set p1 (a1, .inl (cI, 250, .inl f)) = wf (f, z.2.1, z.2.2.1, z.2.2.2.1, z.2.2.2.2)) ∧
  (∀ z : SX1, (wf z)[p2]? = some (a2, .inl (cI, 250, .inl z.2.1))) ∧
  (∀ (z : SX1) (f : Nat → Int32), (wf z).set p2 (a2, .inl (cI, 250, .inl f)) = wf (z.1, f, z.2.2.1, z.2.2.2.1, z.2.2.2.2)) ∧
  (∀ (z : SX1) (v : Int32), (wf z).set p0 (a0, .inr (1, [.ref a1, .ref a2, .int v, .int z.2.2.2.1, .int z.2.2.2.2])) = wf (z.1, z.2.1, v, z.2.2.2.1, z.2.2.2.2)) ∧
  (∀ (z : SX1) (v : Int32), (wf z).set p0 (a0, .inr (1, [.ref a1, .ref a2, .int z.2.2.1, .int v, .int z.2.2.2.2])) = wf (z.1, z.2.1, z.2.2.1, v, z.2.2.2.2)) ∧
  (∀ (z : SX1) (v : Int32), (wf z).set p0 (a0, .inr (1, [.ref a1, .ref a2, .int z.2.2.1, .int z.2.2.2.1, .int v])) = wf (z.1, z.2.1, z.2.2.1, z.2.2.2.1, v))
theorem LnX1_g {a0 a1 a2 p0 p1 p2 : Nat} {cI : ClassId} {wf : SX1 → va_W} (L : LnX1 a0 a1 a2 p0 p1 p2 cI wf) (z : SX1) : (wf z)[p0]? = some (a0, .inr (1, [.ref a1, .ref a2, .int z.2.2.1, .int z.2.2.2.1, .int z.2.2.2.2])) := L.1 z
theorem LnX1_a0 {a0 a1 a2 p0 p1 p2 : Nat} {cI : ClassId} {wf : SX1 → va_W} (L : LnX1 a0 a1 a2 p0 p1 p2 cI wf) (z : SX1) : (wf z)[p1]? = some (a1, .inl (cI, 250, .inl z.1)) := L.2.1 z
theorem LnX1_b0 {a0 a1 a2 p0 p1 p2 : Nat} {cI : ClassId} {wf : SX1 → va_W} (L : LnX1 a0 a1 a2 p0 p1 p2 cI wf) (z : SX1) (f : Nat → Int32) : (wf z).set p1 (a1, .inl (cI, 250, .inl f)) = wf (f, z.2.1, z.2.2.1, z.2.2.2.1, z.2.2.2.2) := L.2.2.1 z f
theorem LnX1_a1 {a0 a1 a2 p0 p1 p2 : Nat} {cI : ClassId} {wf : SX1 → va_W} (L : LnX1 a0 a1 a2 p0 p1 p2 cI wf) (z : SX1) : (wf z)[p2]? = some (a2, .inl (cI, 250, .inl z.2.1)) := L.2.2.2.1 z
theorem LnX1_b1 {a0 a1 a2 p0 p1 p2 : Nat} {cI : ClassId} {wf : SX1 → va_W} (L : LnX1 a0 a1 a2 p0 p1 p2 cI wf) (z : SX1) (f : Nat → Int32) : (wf z).set p2 (a2, .inl (cI, 250, .inl f)) = wf (z.1, f, z.2.2.1, z.2.2.2.1, z.2.2.2.2) := L.2.2.2.2.1 z f
theorem LnX1_i2 {a0 a1 a2 p0 p1 p2 : Nat} {cI : ClassId} {wf : SX1 → va_W} (L : LnX1 a0 a1 a2 p0 p1 p2 cI wf) (z : SX1) (v : Int32) : (wf z).set p0 (a0, .inr (1, [.ref a1, .ref a2, .int v, .int z.2.2.2.1, .int z.2.2.2.2])) = wf (z.1, z.2.1, v, z.2.2.2.1, z.2.2.2.2) := L.2.2.2.2.2.1 z v
theorem LnX1_i3 {a0 a1 a2 p0 p1 p2 : Nat} {cI : ClassId} {wf : SX1 → va_W} (L : LnX1 a0 a1 a2 p0 p1 p2 cI wf) (z : SX1) (v : Int32) : (wf z).set p0 (a0, .inr (1, [.ref a1, .ref a2, .int z.2.2.1, .int v, .int z.2.2.2.2])) = wf (z.1, z.2.1, z.2.2.1, v, z.2.2.2.2) := L.2.2.2.2.2.2.1 z v
theorem LnX1_i4 {a0 a1 a2 p0 p1 p2 : Nat} {cI : ClassId} {wf : SX1 → va_W} (L : LnX1 a0 a1 a2 p0 p1 p2 cI wf) (z : SX1) (v : Int32) : (wf z).set p0 (a0, .inr (1, [.ref a1, .ref a2, .int z.2.2.1, .int z.2.2.2.1, .int v])) = wf (z.1, z.2.1, z.2.2.1, z.2.2.2.1, v) := L.2.2.2.2.2.2.2 z v
abbrev SX0 : Type := (Nat → Int32) × (Nat → Int32) × (Nat → Int32) × Int32 × (Nat → Int32) × (Nat → Int32) × Int32 × Int32
def LnX0 (a0 a1 a2 a3 a4 a5 p0 p1 p2 p3 p4 p5 : Nat) (cI : ClassId) (wf : SX0 → va_W) : Prop :=
  (∀ z : SX0, (wf z)[p0]? = some (a0, .inr (0, [.ref a1, .ref a2, .ref a3, .int z.2.2.2.1, .ref a4, .ref a5, .int z.2.2.2.2.2.2.1, .int z.2.2.2.2.2.2.2]))) ∧
  (∀ z : SX0, (wf z)[p1]? = some (a1, .inl (cI, 200, .inl z.1))) ∧
  (∀ (z : SX0) (f : Nat → Int32), (wf z).set p1 (a1, .inl (cI, 200, .inl f)) = wf (f, z.2.1, z.2.2.1, z.2.2.2.1, z.2.2.2.2.1, z.2.2.2.2.2.1, z.2.2.2.2.2.2.1, z.2.2.2.2.2.2.2)) ∧
  (∀ z : SX0, (wf z)[p2]? = some (a2, .inl (cI, 200, .inl z.2.1))) ∧
  (∀ (z : SX0) (f : Nat → Int32), (wf z).set p2 (a2, .inl (cI, 200, .inl f)) = wf (z.1, f, z.2.2.1, z.2.2.2.1, z.2.2.2.2.1, z.2.2.2.2.2.1, z.2.2.2.2.2.2.1, z.2.2.2.2.2.2.2)) ∧
  (∀ z : SX0, (wf z)[p3]? = some (a3, .inl (cI, 200, .inl z.2.2.1))) ∧
  (∀ (z : SX0) (f : Nat → Int32), (wf z).set p3 (a3, .inl (cI, 200, .inl f)) = wf (z.1, z.2.1, f, z.2.2.2.1, z.2.2.2.2.1, z.2.2.2.2.2.1, z.2.2.2.2.2.2.1, z.2.2.2.2.2.2.2)) ∧
  (∀ (z : SX0) (v : Int32), (wf z).set p0 (a0, .inr (0, [.ref a1, .ref a2, .ref a3, .int v, .ref a4, .ref a5, .int z.2.2.2.2.2.2.1, .int z.2.2.2.2.2.2.2])) = wf (z.1, z.2.1, z.2.2.1, v, z.2.2.2.2.1, z.2.2.2.2.2.1, z.2.2.2.2.2.2.1, z.2.2.2.2.2.2.2)) ∧
  (∀ z : SX0, (wf z)[p4]? = some (a4, .inl (cI, 30, .inl z.2.2.2.2.1))) ∧
  (∀ (z : SX0) (f : Nat → Int32), (wf z).set p4 (a4, .inl (cI, 30, .inl f)) = wf (z.1, z.2.1, z.2.2.1, z.2.2.2.1, f, z.2.2.2.2.2.1, z.2.2.2.2.2.2.1, z.2.2.2.2.2.2.2)) ∧
  (∀ z : SX0, (wf z)[p5]? = some (a5, .inl (cI, 30, .inl z.2.2.2.2.2.1))) ∧
  (∀ (z : SX0) (f : Nat → Int32), (wf z).set p5 (a5, .inl (cI, 30, .inl f)) = wf (z.1, z.2.1, z.2.2.1, z.2.2.2.1, z.2.2.2.2.1, f, z.2.2.2.2.2.2.1, z.2.2.2.2.2.2.2)) ∧
  (∀ (z : SX0) (v : Int32), (wf z).set p0 (a0, .inr (0, [.ref a1, .ref a2, .ref a3, .int z.2.2.2.1, .ref a4, .ref a5, .int v, .int z.2.2.2.2.2.2.2])) = wf (z.1, z.2.1, z.2.2.1, z.2.2.2.1, z.2.2.2.2.1, z.2.2.2.2.2.1, v, z.2.2.2.2.2.2.2)) ∧
  (∀ (z : SX0) (v : Int32), (wf z).set p0 (a0, .inr (0, [.ref a1, .ref a2, .ref a3, .int z.2.2.2.1, .ref a4, .ref a5, .int z.2.2.2.2.2.2.1, .int v])) = wf (z.1, z.2.1, z.2.2.1, z.2.2.2.1, z.2.2.2.2.1, z.2.2.2.2.2.1, z.2.2.2.2.2.2.1, v))
theorem LnX0_g {a0 a1 a2 a3 a4 a5 p0 p1 p2 p3 p4 p5 : Nat} {cI : ClassId} {wf : SX0 → va_W} (L : LnX0 a0 a1 a2 a3 a4 a5 p0 p1 p2 p3 p4 p5 cI wf) (z : SX0) : (wf z)[p0]? = some (a0, .inr (0, [.ref a1, .ref a2, .ref a3, .int z.2.2.2.1, .ref a4, .ref a5, .int z.2.2.2.2.2.2.1, .int z.2.2.2.2.2.2.2])) := L.1 z
theorem LnX0_a0 {a0 a1 a2 a3 a4 a5 p0 p1 p2 p3 p4 p5 : Nat} {cI : ClassId} {wf : SX0 → va_W} (L : LnX0 a0 a1 a2 a3 a4 a5 p0 p1 p2 p3 p4 p5 cI wf) (z : SX0) : (wf z)[p1]? = some (a1, .inl (cI, 200, .inl z.1)) := L.2.1 z
theorem LnX0_b0 {a0 a1 a2 a3 a4 a5 p0 p1 p2 p3 p4 p5 : Nat} {cI : ClassId} {wf : SX0 → va_W} (L : LnX0 a0 a1 a2 a3 a4 a5 p0 p1 p2 p3 p4 p5 cI wf) (z : SX0) (f : Nat → Int32) : (wf z).set p1 (a1, .inl (cI, 200, .inl f)) = wf (f, z.2.1, z.2.2.1, z.2.2.2.1, z.2.2.2.2.1, z.2.2.2.2.2.1, z.2.2.2.2.2.2.1, z.2.2.2.2.2.2.2) := L.2.2.1 z f
theorem LnX0_a1 {a0 a1 a2 a3 a4 a5 p0 p1 p2 p3 p4 p5 : Nat} {cI : ClassId} {wf : SX0 → va_W} (L : LnX0 a0 a1 a2 a3 a4 a5 p0 p1 p2 p3 p4 p5 cI wf) (z : SX0) : (wf z)[p2]? = some (a2, .inl (cI, 200, .inl z.2.1)) := L.2.2.2.1 z
theorem LnX0_b1 {a0 a1 a2 a3 a4 a5 p0 p1 p2 p3 p4 p5 : Nat} {cI : ClassId} {wf : SX0 → va_W} (L : LnX0 a0 a1 a2 a3 a4 a5 p0 p1 p2 p3 p4 p5 cI wf) (z : SX0) (f : Nat → Int32) : (wf z).set p2 (a2, .inl (cI, 200, .inl f)) = wf (z.1, f, z.2.2.1, z.2.2.2.1, z.2.2.2.2.1, z.2.2.2.2.2.1, z.2.2.2.2.2.2.1, z.2.2.2.2.2.2.2) := L.2.2.2.2.1 z f
theorem LnX0_a2 {a0 a1 a2 a3 a4 a5 p0 p1 p2 p3 p4 p5 : Nat} {cI : ClassId} {wf : SX0 → va_W} (L : LnX0 a0 a1 a2 a3 a4 a5 p0 p1 p2 p3 p4 p5 cI wf) (z : SX0) : (wf z)[p3]? = some (a3, .inl (cI, 200, .inl z.2.2.1)) := L.2.2.2.2.2.1 z
theorem LnX0_b2 {a0 a1 a2 a3 a4 a5 p0 p1 p2 p3 p4 p5 : Nat} {cI : ClassId} {wf : SX0 → va_W} (L : LnX0 a0 a1 a2 a3 a4 a5 p0 p1 p2 p3 p4 p5 cI wf) (z : SX0) (f : Nat → Int32) : (wf z).set p3 (a3, .inl (cI, 200, .inl f)) = wf (z.1, z.2.1, f, z.2.2.2.1, z.2.2.2.2.1, z.2.2.2.2.2.1, z.2.2.2.2.2.2.1, z.2.2.2.2.2.2.2) := L.2.2.2.2.2.2.1 z f
theorem LnX0_i3 {a0 a1 a2 a3 a4 a5 p0 p1 p2 p3 p4 p5 : Nat} {cI : ClassId} {wf : SX0 → va_W} (L : LnX0 a0 a1 a2 a3 a4 a5 p0 p1 p2 p3 p4 p5 cI wf) (z : SX0) (v : Int32) : (wf z).set p0 (a0, .inr (0, [.ref a1, .ref a2, .ref a3, .int v, .ref a4, .ref a5, .int z.2.2.2.2.2.2.1, .int z.2.2.2.2.2.2.2])) = wf (z.1, z.2.1, z.2.2.1, v, z.2.2.2.2.1, z.2.2.2.2.2.1, z.2.2.2.2.2.2.1, z.2.2.2.2.2.2.2) := L.2.2.2.2.2.2.2.1 z v
theorem LnX0_a4 {a0 a1 a2 a3 a4 a5 p0 p1 p2 p3 p4 p5 : Nat} {cI : ClassId} {wf : SX0 → va_W} (L : LnX0 a0 a1 a2 a3 a4 a5 p0 p1 p2 p3 p4 p5 cI wf) (z : SX0) : (wf z)[p4]? = some (a4, .inl (cI, 30, .inl z.2.2.2.2.1)) := L.2.2.2.2.2.2.2.2.1 z
theorem LnX0_b4 {a0 a1 a2 a3 a4 a5 p0 p1 p2 p3 p4 p5 : Nat} {cI : ClassId} {wf : SX0 → va_W} (L : LnX0 a0 a1 a2 a3 a4 a5 p0 p1 p2 p3 p4 p5 cI wf) (z : SX0) (f : Nat → Int32) : (wf z).set p4 (a4, .inl (cI, 30, .inl f)) = wf (z.1, z.2.1, z.2.2.1, z.2.2.2.1, f, z.2.2.2.2.2.1, z.2.2.2.2.2.2.1, z.2.2.2.2.2.2.2) := L.2.2.2.2.2.2.2.2.2.1 z f
theorem LnX0_a5 {a0 a1 a2 a3 a4 a5 p0 p1 p2 p3 p4 p5 : Nat} {cI : ClassId} {wf : SX0 → va_W} (L : LnX0 a0 a1 a2 a3 a4 a5 p0 p1 p2 p3 p4 p5 cI wf) (z : SX0) : (wf z)[p5]? = some (a5, .inl (cI, 30, .inl z.2.2.2.2.2.1)) := L.2.2.2.2.2.2.2.2.2.2.1 z
theorem LnX0_b5 {a0 a1 a2 a3 a4 a5 p0 p1 p2 p3 p4 p5 : Nat} {cI : ClassId} {wf : SX0 → va_W} (L : LnX0 a0 a1 a2 a3 a4 a5 p0 p1 p2 p3 p4 p5 cI wf) (z : SX0) (f : Nat → Int32) : (wf z).set p5 (a5, .inl (cI, 30, .inl f)) = wf (z.1, z.2.1, z.2.2.1, z.2.2.2.1, z.2.2.2.2.1, f, z.2.2.2.2.2.2.1, z.2.2.2.2.2.2.2) := L.2.2.2.2.2.2.2.2.2.2.2.1 z f
theorem LnX0_i6 {a0 a1 a2 a3 a4 a5 p0 p1 p2 p3 p4 p5 : Nat} {cI : ClassId} {wf : SX0 → va_W} (L : LnX0 a0 a1 a2 a3 a4 a5 p0 p1 p2 p3 p4 p5 cI wf) (z : SX0) (v : Int32) : (wf z).set p0 (a0, .inr (0, [.ref a1, .ref a2, .ref a3, .int z.2.2.2.1, .ref a4, .ref a5, .int v, .int z.2.2.2.2.2.2.2])) = wf (z.1, z.2.1, z.2.2.1, z.2.2.2.1, z.2.2.2.2.1, z.2.2.2.2.2.1, v, z.2.2.2.2.2.2.2) := L.2.2.2.2.2.2.2.2.2.2.2.2.1 z v
theorem LnX0_i7 {a0 a1 a2 a3 a4 a5 p0 p1 p2 p3 p4 p5 : Nat} {cI : ClassId} {wf : SX0 → va_W} (L : LnX0 a0 a1 a2 a3 a4 a5 p0 p1 p2 p3 p4 p5 cI wf) (z : SX0) (v : Int32) : (wf z).set p0 (a0, .inr (0, [.ref a1, .ref a2, .ref a3, .int z.2.2.2.1, .ref a4, .ref a5, .int z.2.2.2.2.2.2.1, .int v])) = wf (z.1, z.2.1, z.2.2.1, z.2.2.2.1, z.2.2.2.2.1, z.2.2.2.2.2.1, z.2.2.2.2.2.2.1, v) := L.2.2.2.2.2.2.2.2.2.2.2.2.2 z v
abbrev SX2 : Type := (Nat → Int32) × Int32
def LnX2 (a0 a1 p0 p1 : Nat) (cI : ClassId) (wf : SX2 → va_W) : Prop :=
  (∀ z : SX2, (wf z)[p0]? = some (a0, .inr (2, [.ref a1, .int z.2]))) ∧
  (∀ z : SX2, (wf z)[p1]? = some (a1, .inl (cI, 36, .inl z.1))) ∧
  (∀ (z : SX2) (f : Nat → Int32), (wf z).set p1 (a1, .inl (cI, 36, .inl f)) = wf (f, z.2)) ∧
  (∀ (z : SX2) (v : Int32), (wf z).set p0 (a0, .inr (2, [.ref a1, .int v])) = wf (z.1, v))
theorem LnX2_g {a0 a1 p0 p1 : Nat} {cI : ClassId} {wf : SX2 → va_W} (L : LnX2 a0 a1 p0 p1 cI wf) (z : SX2) : (wf z)[p0]? = some (a0, .inr (2, [.ref a1, .int z.2])) := L.1 z
theorem LnX2_a0 {a0 a1 p0 p1 : Nat} {cI : ClassId} {wf : SX2 → va_W} (L : LnX2 a0 a1 p0 p1 cI wf) (z : SX2) : (wf z)[p1]? = some (a1, .inl (cI, 36, .inl z.1)) := L.2.1 z
theorem LnX2_b0 {a0 a1 p0 p1 : Nat} {cI : ClassId} {wf : SX2 → va_W} (L : LnX2 a0 a1 p0 p1 cI wf) (z : SX2) (f : Nat → Int32) : (wf z).set p1 (a1, .inl (cI, 36, .inl f)) = wf (f, z.2) := L.2.2.1 z f
theorem LnX2_i1 {a0 a1 p0 p1 : Nat} {cI : ClassId} {wf : SX2 → va_W} (L : LnX2 a0 a1 p0 p1 cI wf) (z : SX2) (v : Int32) : (wf z).set p0 (a0, .inr (2, [.ref a1, .int v])) = wf (z.1, v) := L.2.2.2 z v
abbrev SX4 : Type := Int32 × Int32
def LnX4 (a0 p0 : Nat) (cI : ClassId) (wf : SX4 → va_W) : Prop :=
  (∀ z : SX4, (wf z)[p0]? = some (a0, .inr (4, [.int z.1, .int z.2]))) ∧
  (∀ (z : SX4) (v : Int32), (wf z).set p0 (a0, .inr (4, [.int v, .int z.2])) = wf (v, z.2)) ∧
  (∀ (z : SX4) (v : Int32), (wf z).set p0 (a0, .inr (4, [.int z.1, .int v])) = wf (z.1, v))
theorem LnX4_g {a0 p0 : Nat} {cI : ClassId} {wf : SX4 → va_W} (L : LnX4 a0 p0 cI wf) (z : SX4) : (wf z)[p0]? = some (a0, .inr (4, [.int z.1, .int z.2])) := L.1 z
theorem LnX4_i0 {a0 p0 : Nat} {cI : ClassId} {wf : SX4 → va_W} (L : LnX4 a0 p0 cI wf) (z : SX4) (v : Int32) : (wf z).set p0 (a0, .inr (4, [.int v, .int z.2])) = wf (v, z.2) := L.2.1 z v
theorem LnX4_i1 {a0 p0 : Nat} {cI : ClassId} {wf : SX4 → va_W} (L : LnX4 a0 p0 cI wf) (z : SX4) (v : Int32) : (wf z).set p0 (a0, .inr (4, [.int z.1, .int v])) = wf (z.1, v) := L.2.2 z v
abbrev SX6 : Type := SX5 × SX5 × Int32 × Int32
def LnX6 (a0 a1 a2 a3 a4 p0 p1 p2 p3 p4 : Nat) (cI : ClassId) (wf : SX6 → va_W) : Prop :=
  (∀ z : SX6, (wf z)[p0]? = some (a0, .inr (6, [.ref a1, .ref a3, .int z.2.2.1, .int z.2.2.2]))) ∧
  (∀ z : SX6, LnX5 a1 a2 p1 p2 cI (fun x => wf (x, z.2.1, z.2.2.1, z.2.2.2))) ∧
  (∀ z : SX6, LnX5 a3 a4 p3 p4 cI (fun x => wf (z.1, x, z.2.2.1, z.2.2.2))) ∧
  (∀ (z : SX6) (v : Int32), (wf z).set p0 (a0, .inr (6, [.ref a1, .ref a3, .int v, .int z.2.2.2])) = wf (z.1, z.2.1, v, z.2.2.2)) ∧
  (∀ (z : SX6) (v : Int32), (wf z).set p0 (a0, .inr (6, [.ref a1, .ref a3, .int z.2.2.1, .int v])) = wf (z.1, z.2.1, z.2.2.1, v))
theorem LnX6_g {a0 a1 a2 a3 a4 p0 p1 p2 p3 p4 : Nat} {cI : ClassId} {wf : SX6 → va_W} (L : LnX6 a0 a1 a2 a3 a4 p0 p1 p2 p3 p4 cI wf) (z : SX6) : (wf z)[p0]? = some (a0, .inr (6, [.ref a1, .ref a3, .int z.2.2.1, .int z.2.2.2])) := L.1 z
theorem LnX6_s0 {a0 a1 a2 a3 a4 p0 p1 p2 p3 p4 : Nat} {cI : ClassId} {wf : SX6 → va_W} (L : LnX6 a0 a1 a2 a3 a4 p0 p1 p2 p3 p4 cI wf) (z : SX6) : LnX5 a1 a2 p1 p2 cI (fun x => wf (x, z.2.1, z.2.2.1, z.2.2.2)) := L.2.1 z
theorem LnX6_s1 {a0 a1 a2 a3 a4 p0 p1 p2 p3 p4 : Nat} {cI : ClassId} {wf : SX6 → va_W} (L : LnX6 a0 a1 a2 a3 a4 p0 p1 p2 p3 p4 cI wf) (z : SX6) : LnX5 a3 a4 p3 p4 cI (fun x => wf (z.1, x, z.2.2.1, z.2.2.2)) := L.2.2.1 z
theorem LnX6_i2 {a0 a1 a2 a3 a4 p0 p1 p2 p3 p4 : Nat} {cI : ClassId} {wf : SX6 → va_W} (L : LnX6 a0 a1 a2 a3 a4 p0 p1 p2 p3 p4 cI wf) (z : SX6) (v : Int32) : (wf z).set p0 (a0, .inr (6, [.ref a1, .ref a3, .int v, .int z.2.2.2])) = wf (z.1, z.2.1, v, z.2.2.2) := L.2.2.2.1 z v
theorem LnX6_i3 {a0 a1 a2 a3 a4 p0 p1 p2 p3 p4 : Nat} {cI : ClassId} {wf : SX6 → va_W} (L : LnX6 a0 a1 a2 a3 a4 p0 p1 p2 p3 p4 cI wf) (z : SX6) (v : Int32) : (wf z).set p0 (a0, .inr (6, [.ref a1, .ref a3, .int z.2.2.1, .int v])) = wf (z.1, z.2.1, z.2.2.1, v) := L.2.2.2.2 z v
abbrev SX3 : Type := SX6 × SX1 × SX0 × (Nat → Int32) × Int32
def LnX3 (a0 a1 a2 a3 a4 a5 a6 a7 a8 a9 a10 a11 a12 a13 a14 a15 p0 p1 p2 p3 p4 p5 p6 p7 p8 p9 p10 p11 p12 p13 p14 p15 : Nat) (cI : ClassId) (wf : SX3 → va_W) : Prop :=
  (∀ z : SX3, (wf z)[p0]? = some (a0, .inr (3, [.ref a1, .ref a6, .ref a9, .ref a15, .int z.2.2.2.2]))) ∧
  (∀ z : SX3, LnX6 a1 a2 a3 a4 a5 p1 p2 p3 p4 p5 cI (fun x => wf (x, z.2.1, z.2.2.1, z.2.2.2.1, z.2.2.2.2))) ∧
  (∀ z : SX3, LnX1 a6 a7 a8 p6 p7 p8 cI (fun x => wf (z.1, x, z.2.2.1, z.2.2.2.1, z.2.2.2.2))) ∧
  (∀ z : SX3, LnX0 a9 a10 a11 a12 a13 a14 p9 p10 p11 p12 p13 p14 cI (fun x => wf (z.1, z.2.1, x, z.2.2.2.1, z.2.2.2.2))) ∧
  (∀ z : SX3, (wf z)[p15]? = some (a15, .inl (cI, 10, .inl z.2.2.2.1))) ∧
  (∀ (z : SX3) (f : Nat → Int32), (wf z).set p15 (a15, .inl (cI, 10, .inl f)) = wf (z.1, z.2.1, z.2.2.1, f, z.2.2.2.2)) ∧
  (∀ (z : SX3) (v : Int32), (wf z).set p0 (a0, .inr (3, [.ref a1, .ref a6, .ref a9, .ref a15, .int v])) = wf (z.1, z.2.1, z.2.2.1, z.2.2.2.1, v))
theorem LnX3_g {a0 a1 a2 a3 a4 a5 a6 a7 a8 a9 a10 a11 a12 a13 a14 a15 p0 p1 p2 p3 p4 p5 p6 p7 p8 p9 p10 p11 p12 p13 p14 p15 : Nat} {cI : ClassId} {wf : SX3 → va_W} (L : LnX3 a0 a1 a2 a3 a4 a5 a6 a7 a8 a9 a10 a11 a12 a13 a14 a15 p0 p1 p2 p3 p4 p5 p6 p7 p8 p9 p10 p11 p12 p13 p14 p15 cI wf) (z : SX3) : (wf z)[p0]? = some (a0, .inr (3, [.ref a1, .ref a6, .ref a9, .ref a15, .int z.2.2.2.2])) := L.1 z
theorem LnX3_s0 {a0 a1 a2 a3 a4 a5 a6 a7 a8 a9 a10 a11 a12 a13 a14 a15 p0 p1 p2 p3 p4 p5 p6 p7 p8 p9 p10 p11 p12 p13 p14 p15 : Nat} {cI : ClassId} {wf : SX3 → va_W} (L : LnX3 a0 a1 a2 a3 a4 a5 a6 a7 a8 a9 a10 a11 a12 a13 a14 a15 p0 p1 p2 p3 p4 p5 p6 p7 p8 p9 p10 p11 p12 p13 p14 p15 cI wf) (z : SX3) : LnX6 a1 a2 a3 a4 a5 p1 p2 p3 p4 p5 cI (fun x => wf (x, z.2.1, z.2.2.1, z.2.2.2.1, z.2.2.2.2)) := L.2.1 z
theorem LnX3_s1 {a0 a1 a2 a3 a4 a5 a6 a7 a8 a9 a10 a11 a12 a13 a14 a15 p0 p1 p2 p3 p4 p5 p6 p7 p8 p9 p10 p11 p12 p13 p14 p15 : Nat} {cI : ClassId} {wf : SX3 → va_W} (L : LnX3 a0 a1 a2 a3 a4 a5 a6 a7 a8 a9 a10 a11 a12 a13 a14 a15 p0 p1 p2 p3 p4 p5 p6 p7 p8 p9 p10 p11 p12 p13 p14 p15 cI wf) (z : SX3) : LnX1 a6 a7 a8 p6 p7 p8 cI (fun x => wf (z.1, x, z.2.2.1, z.2.2.2.1, z.2.2.2.2)) := L.2.2.1 z
theorem LnX3_s2 {a0 a1 a2 a3 a4 a5 a6 a7 a8 a9 a10 a11 a12 a13 a14 a15 p0 p1 p2 p3 p4 p5 p6 p7 p8 p9 p10 p11 p12 p13 p14 p15 : Nat} {cI : ClassId} {wf : SX3 → va_W} (L : LnX3 a0 a1 a2 a3 a4 a5 a6 a7 a8 a9 a10 a11 a12 a13 a14 a15 p0 p1 p2 p3 p4 p5 p6 p7 p8 p9 p10 p11 p12 p13 p14 p15 cI wf) (z : SX3) : LnX0 a9 a10 a11 a12 a13 a14 p9 p10 p11 p12 p13 p14 cI (fun x => wf (z.1, z.2.1, x, z.2.2.2.1, z.2.2.2.2)) := L.2.2.2.1 z
theorem LnX3_a3 {a0 a1 a2 a3 a4 a5 a6 a7 a8 a9 a10 a11 a12 a13 a14 a15 p0 p1 p2 p3 p4 p5 p6 p7 p8 p9 p10 p11 p12 p13 p14 p15 : Nat} {cI : ClassId} {wf : SX3 → va_W} (L : LnX3 a0 a1 a2 a3 a4 a5 a6 a7 a8 a9 a10 a11 a12 a13 a14 a15 p0 p1 p2 p3 p4 p5 p6 p7 p8 p9 p10 p11 p12 p13 p14 p15 cI wf) (z : SX3) : (wf z)[p15]? = some (a15, .inl (cI, 10, .inl z.2.2.2.1)) := L.2.2.2.2.1 z
theorem LnX3_b3 {a0 a1 a2 a3 a4 a5 a6 a7 a8 a9 a10 a11 a12 a13 a14 a15 p0 p1 p2 p3 p4 p5 p6 p7 p8 p9 p10 p11 p12 p13 p14 p15 : Nat} {cI : ClassId} {wf : SX3 → va_W} (L : LnX3 a0 a1 a2 a3 a4 a5 a6 a7 a8 a9 a10 a11 a12 a13 a14 a15 p0 p1 p2 p3 p4 p5 p6 p7 p8 p9 p10 p11 p12 p13 p14 p15 cI wf) (z : SX3) (f : Nat → Int32) : (wf z).set p15 (a15, .inl (cI, 10, .inl f)) = wf (z.1, z.2.1, z.2.2.1, f, z.2.2.2.2) := L.2.2.2.2.2.1 z f
theorem LnX3_i4 {a0 a1 a2 a3 a4 a5 a6 a7 a8 a9 a10 a11 a12 a13 a14 a15 p0 p1 p2 p3 p4 p5 p6 p7 p8 p9 p10 p11 p12 p13 p14 p15 : Nat} {cI : ClassId} {wf : SX3 → va_W} (L : LnX3 a0 a1 a2 a3 a4 a5 a6 a7 a8 a9 a10 a11 a12 a13 a14 a15 p0 p1 p2 p3 p4 p5 p6 p7 p8 p9 p10 p11 p12 p13 p14 p15 cI wf) (z : SX3) (v : Int32) : (wf z).set p0 (a0, .inr (3, [.ref a1, .ref a6, .ref a9, .ref a15, .int v])) = wf (z.1, z.2.1, z.2.2.1, z.2.2.2.1, v) := L.2.2.2.2.2.2 z v
theorem LnX3_r3 {a0 a1 a2 a3 a4 a5 a6 a7 a8 a9 a10 a11 a12 a13 a14 a15 p0 p1 p2 p3 p4 p5 p6 p7 p8 p9 p10 p11 p12 p13 p14 p15 : Nat} {cI : ClassId} {wf : SX3 → va_W} (L : LnX3 a0 a1 a2 a3 a4 a5 a6 a7 a8 a9 a10 a11 a12 a13 a14 a15 p0 p1 p2 p3 p4 p5 p6 p7 p8 p9 p10 p11 p12 p13 p14 p15 cI wf) (z : SX3) : LnA a15 p15 10 cI (fun x => wf (z.1, z.2.1, z.2.2.1, x, z.2.2.2.2)) := ⟨fun x => LnX3_a3 L (z.1, z.2.1, z.2.2.1, x, z.2.2.2.2), fun x f => LnX3_b3 L (z.1, z.2.1, z.2.2.1, x, z.2.2.2.2) f⟩
abbrev SX7 : Type := SX2 × SX3 × SX4 × SX6 × SX4 × Int32 × SX3 × Int32 × Int32
def LnX7 (a0 a1 a2 a3 a4 a5 a6 a7 a8 a9 a10 a11 a12 a13 a14 a15 a16 a17 a18 a19 a20 a21 a22 a23 a24 a25 a26 a27 a28 a29 a30 a31 a32 a33 a34 a35 a36 a37 a38 a39 a40 a41 p0 p1 p2 p3 p4 p5 p6 p7 p8 p9 p10 p11 p12 p13 p14 p15 p16 p17 p18 p19 p20 p21 p22 p23 p24 p25 p26 p27 p28 p29 p30 p31 p32 p33 p34 p35 p36 p37 p38 p39 p40 p41 : Nat) (cI : ClassId) (wf : SX7 → va_W) : Prop :=
  (∀ z : SX7, (wf z)[p0]? = some (a0, .inr (7, [.ref a1, .ref a3, .ref a4, .ref a19, .ref a20, .ref a25, .int z.2.2.2.2.2.1, .ref a26, .int z.2.2.2.2.2.2.2.1, .int z.2.2.2.2.2.2.2.2]))) ∧
  (∀ z : SX7, LnX2 a1 a2 p1 p2 cI (fun x => wf (x, z.2.1, z.2.2.1, z.2.2.2.1, z.2.2.2.2.1, z.2.2.2.2.2.1, z.2.2.2.2.2.2.1, z.2.2.2.2.2.2.2.1, z.2.2.2.2.2.2.2.2))) ∧
  (∀ z : SX7, LnX3 a3 a4 a5 a6 a7 a8 a9 a10 a11 a12 a13 a14 a15 a16 a17 a18 p3 p4 p5 p6 p7 p8 p9 p10 p11 p12 p13 p14 p15 p16 p17 p18 cI (fun x => wf (z.1, x, z.2.2.1, z.2.2.2.1, z.2.2.2.2.1, z.2.2.2.2.2.1, z.2.2.2.2.2.2.1, z.2.2.2.2.2.2.2.1, z.2.2.2.2.2.2.2.2))) ∧
  (∀ z : SX7, LnX4 a19 p19 cI (fun x => wf (z.1, z.2.1, x, z.2.2.2.1, z.2.2.2.2.1, z.2.2.2.2.2.1, z.2.2.2.2.2.2.1, z.2.2.2.2.2.2.2.1, z.2.2.2.2.2.2.2.2))) ∧
  (∀ z : SX7, LnX6 a20 a21 a22 a23 a24 p20 p21 p22 p23 p24 cI (fun x => wf (z.1, z.2.1, z.2.2.1, x, z.2.2.2.2.1, z.2.2.2.2.2.1, z.2.2.2.2.2.2.1, z.2.2.2.2.2.2.2.1, z.2.2.2.2.2.2.2.2))) ∧
  (∀ z : SX7, LnX4 a25 p25 cI (fun x => wf (z.1, z.2.1, z.2.2.1, z.2.2.2.1, x, z.2.2.2.2.2.1, z.2.2.2.2.2.2.1, z.2.2.2.2.2.2.2.1, z.2.2.2.2.2.2.2.2))) ∧
  (∀ (z : SX7) (v : Int32), (wf z).set p0 (a0, .inr (7, [.ref a1, .ref a3, .ref a4, .ref a19, .ref a20, .ref a25, .int v, .ref a26, .int z.2.2.2.2.2.2.2.1, .int z.2.2.2.2.2.2.2.2])) = wf (z.1, z.2.1, z.2.2.1, z.2.2.2.1, z.2.2.2.2.1, v, z.2.2.2.2.2.2.1, z.2.2.2.2.2.2.2.1, z.2.2.2.2.2.2.2.2)) ∧
  (∀ z : SX7, LnX3 a26 a27 a28 a29 a30 a31 a32 a33 a34 a35 a36 a37 a38 a39 a40 a41 p26 p27 p28 p29 p30 p31 p32 p33 p34 p35 p36 p37 p38 p39 p40 p41 cI (fun x => wf (z.1, z.2.1, z.2.2.1, z.2.2.2.1, z.2.2.2.2.1, z.2.2.2.2.2.1, x, z.2.2.2.2.2.2.2.1, z.2.2.2.2.2.2.2.2))) ∧
  (∀ (z : SX7) (v : Int32), (wf z).set p0 (a0, .inr (7, [.ref a1, .ref a3, .ref a4, .ref a19, .ref a20, .ref a25, .int z.2.2.2.2.2.1, .ref a26, .int v, .int z.2.2.2.2.2.2.2.2])) = wf (z.1, z.2.1, z.2.2.1, z.2.2.2.1, z.2.2.2.2.1, z.2.2.2.2.2.1, z.2.2.2.2.2.2.1, v, z.2.2.2.2.2.2.2.2)) ∧
  (∀ (z : SX7) (v : Int32), (wf z).set p0 (a0, .inr (7, [.ref a1, .ref a3, .ref a4, .ref a19, .ref a20, .ref a25, .int z.2.2.2.2.2.1, .ref a26, .int z.2.2.2.2.2.2.2.1, .int v])) = wf (z.1, z.2.1, z.2.2.1, z.2.2.2.1, z.2.2.2.2.1, z.2.2.2.2.2.1, z.2.2.2.2.2.2.1, z.2.2.2.2.2.2.2.1, v))
theorem LnX7_g {a0 a1 a2 a3 a4 a5 a6 a7 a8 a9 a10 a11 a12 a13 a14 a15 a16 a17 a18 a19 a20 a21 a22 a23 a24 a25 a26 a27 a28 a29 a30 a31 a32 a33 a34 a35 a36 a37 a38 a39 a40 a41 p0 p1 p2 p3 p4 p5 p6 p7 p8 p9 p10 p11 p12 p13 p14 p15 p16 p17 p18 p19 p20 p21 p22 p23 p24 p25 p26 p27 p28 p29 p30 p31 p32 p33 p34 p35 p36 p37 p38 p39 p40 p41 : Nat} {cI : ClassId} {wf : SX7 → va_W} (L : LnX7 a0 a1 a2 a3 a4 a5 a6 a7 a8 a9 a10 a11 a12 a13 a14 a15 a16 a17 a18 a19 a20 a21 a22 a23 a24 a25 a26 a27 a28 a29 a30 a31 a32 a33 a34 a35 a36 a37 a38 a39 a40 a41 p0 p1 p2 p3 p4 p5 p6 p7 p8 p9 p10 p11 p12 p13 p14 p15 p16 p17 p18 p19 p20 p21 p22 p23 p24 p25 p26 p27 p28 p29 p30 p31 p32 p33 p34 p35 p36 p37 p38 p39 p40 p41 cI wf) (z : SX7) : (wf z)[p0]? = some (a0, .inr (7, [.ref a1, .ref a3, .ref a4, .ref a19, .ref a20, .ref a25, .int z.2.2.2.2.2.1, .ref a26, .int z.2.2.2.2.2.2.2.1, .int z.2.2.2.2.2.2.2.2])) := L.1 z
theorem LnX7_s0 {a0 a1 a2 a3 a4 a5 a6 a7 a8 a9 a10 a11 a12 a13 a14 a15 a16 a17 a18 a19 a20 a21 a22 a23 a24 a25 a26 a27 a28 a29 a30 a31 a32 a33 a34 a35 a36 a37 a38 a39 a40 a41 p0 p1 p2 p3 p4 p5 p6 p7 p8 p9 p10 p11 p12 p13 p14 p15 p16 p17 p18 p19 p20 p21 p22 p23 p24 p25 p26 p27 p28 p29 p30 p31 p32 p33 p34 p35 p36 p37 p38 p39 p40 p41 : Nat} {cI : ClassId} {wf : SX7 → va_W} (L : LnX7 a0 a1 a2 a3 a4 a5 a6 a7 a8 a9 a10 a11 a12 a13 a14 a15 a16 a17 a18 a19 a20 a21 a22 a23 a24 a25 a26 a27 a28 a29 a30 a31 a32 a33 a34 a35 a36 a37 a38 a39 a40 a41 p0 p1 p2 p3 p4 p5 p6 p7 p8 p9 p10 p11 p12 p13 p14 p15 p16 p17 p18 p19 p20 p21 p22 p23 p24 p25 p26 p27 p28 p29 p30 p31 p32 p33 p34 p35 p36 p37 p38 p39 p40 p41 cI wf) (z : SX7) : LnX2 a1 a2 p1 p2 cI (fun x => wf (x, z.2.1, z.2.2.1, z.2.2.2.1, z.2.2.2.2.1, z.2.2.2.2.2.1, z.2.2.2.2.2.2.1, z.2.2.2.2.2.2.2.1, z.2.2.2.2.2.2.2.2)) := L.2.1 z
theorem LnX7_s1 {a0 a1 a2 a3 a4 a5 a6 a7 a8 a9 a10 a11 a12 a13 a14 a15 a16 a17 a18 a19 a20 a21 a22 a23 a24 a25 a26 a27 a28 a29 a30 a31 a32 a33 a34 a35 a36 a37 a38 a39 a40 a41 p0 p1 p2 p3 p4 p5 p6 p7 p8 p9 p10 p11 p12 p13 p14 p15 p16 p17 p18 p19 p20 p21 p22 p23 p24 p25 p26 p27 p28 p29 p30 p31 p32 p33 p34 p35 p36 p37 p38 p39 p40 p41 : Nat} {cI : ClassId} {wf : SX7 → va_W} (L : LnX7 a0 a1 a2 a3 a4 a5 a6 a7 a8 a9 a10 a11 a12 a13 a14 a15 a16 a17 a18 a19 a20 a21 a22 a23 a24 a25 a26 a27 a28 a29 a30 a31 a32 a33 a34 a35 a36 a37 a38 a39 a40 a41 p0 p1 p2 p3 p4 p5 p6 p7 p8 p9 p10 p11 p12 p13 p14 p15 p16 p17 p18 p19 p20 p21 p22 p23 p24 p25 p26 p27 p28 p29 p30 p31 p32 p33 p34 p35 p36 p37 p38 p39 p40 p41 cI wf) (z : SX7) : LnX3 a3 a4 a5 a6 a7 a8 a9 a10 a11 a12 a13 a14 a15 a16 a17 a18 p3 p4 p5 p6 p7 p8 p9 p10 p11 p12 p13 p14 p15 p16 p17 p18 cI (fun x => wf (z.1, x, z.2.2.1, z.2.2.2.1, z.2.2.2.2.1, z.2.2.2.2.2.1, z.2.2.2.2.2.2.1, z.2.2.2.2.2.2.2.1, z.2.2.2.2.2.2.2.2)) := L.2.2.1 z
theorem LnX7_s2 {a0 a1 a2 a3 a4 a5 a6 a7 a8 a9 a10 a11 a12 a13 a14 a15 a16 a17 a18 a19 a20 a21 a22 a23 a24 a25 a26 a27 a28 a29 a30 a31 a32 a33 a34 a35 a36 a37 a38 a39 a40 a41 p0 p1 p2 p3 p4 p5 p6 p7 p8 p9 p10 p11 p12 p13 p14 p15 p16 p17 p18 p19 p20 p21 p22 p23 p24 p25 p26 p27 p28 p29 p30 p31 p32 p33 p34 p35 p36 p37 p38 p39 p40 p41 : Nat} {cI : ClassId} {wf : SX7 → va_W} (L : LnX7 a0 a1 a2 a3 a4 a5 a6 a7 a8 a9 a10 a11 a12 a13 a14 a15 a16 a17 a18 a19 a20 a21 a22 a23 a24 a25 a26 a27 a28 a29 a30 a31 a32 a33 a34 a35 a36 a37 a38 a39 a40 a41 p0 p1 p2 p3 p4 p5 p6 p7 p8 p9 p10 p11 p12 p13 p14 p15 p16 p17 p18 p19 p20 p21 p22 p23 p24 p25 p26 p27 p28 p29 p30 p31 p32 p33 p34 p35 p36 p37 p38 p39 p40 p41 cI wf) (z : SX7) : LnX4 a19 p19 cI (fun x => wf (z.1, z.2.1, x, z.2.2.2.1, z.2.2.2.2.1, z.2.2.2.2.2.1, z.2.2.2.2.2.2.1, z.2.2.2.2.2.2.2.1, z.2.2.2.2.2.2.2.2)) := L.2.2.2.1 z
theorem LnX7_s3 {a0 a1 a2 a3 a4 a5 a6 a7 a8 a9 a10 a11 a12 a13 a14 a15 a16 a17 a18 a19 a20 a21 a22 a23 a24 a25 a26 a27 a28 a29 a30 a31 a32 a33 a34 a35 a36 a37 a38 a39 a40 a41 p0 p1 p2 p3 p4 p5 p6 p7 p8 p9 p10 p11 p12 p13 p14 p15 p16 p17 p18 p19 p20 p21 p22 p23 p24 p25 p26 p27 p28 p29 p30 p31 p32 p33 p34 p35 p36 p37 p38 p39 p40 p41 : Nat} {cI : ClassId} {wf : SX7 → va_W} (L : LnX7 a0 a1 a2 a3 a4 a5 a6 a7 a8 a9 a10 a11 a12 a13 a14 a15 a16 a17 a18 a19 a20 a21 a22 a23 a24 a25 a26 a27 a28 a29 a30 a31 a32 a33 a34 a35 a36 a37 a38 a39 a40 a41 p0 p1 p2 p3 p4 p5 p6 p7 p8 p9 p10 p11 p12 p13 p14 p15 p16 p17 p18 p19 p20 p21 p22 p23 p24 p25 p26 p27 p28 p29 p30 p31 p32 p33 p34 p35 p36 p37 p38 p39 p40 p41 cI wf) (z : SX7) : LnX6 a20 a21 a22 a23 a24 p20 p21 p22 p23 p24 cI (fun x => wf (z.1, z.2.1, z.2.2.1, x, z.2.2.2.2.1, z.2.2.2.2.2.1, z.2.2.2.2.2.2.1, z.2.2.2.2.2.2.2.1, z.2.2.2.2.2.2.2.2)) := L.2.2.2.2.1 z
theorem LnX7_s4 {a0 a1 a2 a3 a4 a5 a6 a7 a8 a9 a10 a11 a12 a13 a14 a15 a16 a17 a18 a19 a20 a21 a22 a23 a24 a25 a26 a27 a28 a29 a30 a31 a32 a33 a34 a35 a36 a37 a38 a39 a40 a41 p0 p1 p2 p3 p4 p5 p6 p7 p8 p9 p10 p11 p12 p13 p14 p15 p16 p17 p18 p19 p20 p21 p22 p23 p24 p25 p26 p27 p28 p29 p30 p31 p32 p33 p34 p35 p36 p37 p38 p39 p40 p41 : Nat} {cI : ClassId} {wf : SX7 → va_W} (L : LnX7 a0 a1 a2 a3 a4 a5 a6 a7 a8 a9 a10 a11 a12 a13 a14 a15 a16 a17 a18 a19 a20 a21 a22 a23 a24 a25 a26 a27 a28 a29 a30 a31 a32 a33 a34 a35 a36 a37 a38 a39 a40 a41 p0 p1 p2 p3 p4 p5 p6 p7 p8 p9 p10 p11 p12 p13 p14 p15 p16 p17 p18 p19 p20 p21 p22 p23 p24 p25 p26 p27 p28 p29 p30 p31 p32 p33 p34 p35 p36 p37 p38 p39 p40 p41 cI wf) (z : SX7) : LnX4 a25 p25 cI (fun x => wf (z.1, z.2.1, z.2.2.1, z.2.2.2.1, x, z.2.2.2.2.2.1, z.2.2.2.2.2.2.1, z.2.2.2.2.2.2.2.1, z.2.2.2.2.2.2.2.2)) := L.2.2.2.2.2.1 z
theorem LnX7_i5 {a0 a1 a2 a3 a4 a5 a6 a7 a8 a9 a10 a11 a12 a13 a14 a15 a16 a17 a18 a19 a20 a21 a22 a23 a24 a25 a26 a27 a28 a29 a30 a31 a32 a33 a34 a35 a36 a37 a38 a39 a40 a41 p0 p1 p2 p3 p4 p5 p6 p7 p8 p9 p10 p11 p12 p13 p14 p15 p16 p17 p18 p19 p20 p21 p22 p23 p24 p25 p26 p27 p28 p29 p30 p31 p32 p33 p34 p35 p36 p37 p38 p39 p40 p41 : Nat} {cI : ClassId} {wf : SX7 → va_W} (L : LnX7 a0 a1 a2 a3 a4 a5 a6 a7 a8 a9 a10 a11 a12 a13 a14 a15 a16 a17 a18 a19 a20 a21 a22 a23 a24 a25 a26 a27 a28 a29 a30 a31 a32 a33 a34 a35 a36 a37 a38 a39 a40 a41 p0 p1 p2 p3 p4 p5 p6 p7 p8 p9 p10 p11 p12 p13 p14 p15 p16 p17 p18 p19 p20 p21 p22 p23 p24 p25 p26 p27 p28 p29 p30 p31 p32 p33 p34 p35 p36 p37 p38 p39 p40 p41 cI wf) (z : SX7) (v : Int32) : (wf z).set p0 (a0, .inr (7, [.ref a1, .ref a3, .ref a4, .ref a19, .ref a20, .ref a25, .int v, .ref a26, .int z.2.2.2.2.2.2.2.1, .int z.2.2.2.2.2.2.2.2])) = wf (z.1, z.2.1, z.2.2.1, z.2.2.2.1, z.2.2.2.2.1, v, z.2.2.2.2.2.2.1, z.2.2.2.2.2.2.2.1, z.2.2.2.2.2.2.2.2) := L.2.2.2.2.2.2.1 z v
theorem LnX7_s6 {a0 a1 a2 a3 a4 a5 a6 a7 a8 a9 a10 a11 a12 a13 a14 a15 a16 a17 a18 a19 a20 a21 a22 a23 a24 a25 a26 a27 a28 a29 a30 a31 a32 a33 a34 a35 a36 a37 a38 a39 a40 a41 p0 p1 p2 p3 p4 p5 p6 p7 p8 p9 p10 p11 p12 p13 p14 p15 p16 p17 p18 p19 p20 p21 p22 p23 p24 p25 p26 p27 p28 p29 p30 p31 p32 p33 p34 p35 p36 p37 p38 p39 p40 p41 : Nat} {cI : ClassId} {wf : SX7 → va_W} (L : LnX7 a0 a1 a2 a3 a4 a5 a6 a7 a8 a9 a10 a11 a12 a13 a14 a15 a16 a17 a18 a19 a20 a21 a22 a23 a24 a25 a26 a27 a28 a29 a30 a31 a32 a33 a34 a35 a36 a37 a38 a39 a40 a41 p0 p1 p2 p3 p4 p5 p6 p7 p8 p9 p10 p11 p12 p13 p14 p15 p16 p17 p18 p19 p20 p21 p22 p23 p24 p25 p26 p27 p28 p29 p30 p31 p32 p33 p34 p35 p36 p37 p38 p39 p40 p41 cI wf) (z : SX7) : LnX3 a26 a27 a28 a29 a30 a31 a32 a33 a34 a35 a36 a37 a38 a39 a40 a41 p26 p27 p28 p29 p30 p31 p32 p33 p34 p35 p36 p37 p38 p39 p40 p41 cI (fun x => wf (z.1, z.2.1, z.2.2.1, z.2.2.2.1, z.2.2.2.2.1, z.2.2.2.2.2.1, x, z.2.2.2.2.2.2.2.1, z.2.2.2.2.2.2.2.2)) := L.2.2.2.2.2.2.2.1 z
theorem LnX7_i7 {a0 a1 a2 a3 a4 a5 a6 a7 a8 a9 a10 a11 a12 a13 a14 a15 a16 a17 a18 a19 a20 a21 a22 a23 a24 a25 a26 a27 a28 a29 a30 a31 a32 a33 a34 a35 a36 a37 a38 a39 a40 a41 p0 p1 p2 p3 p4 p5 p6 p7 p8 p9 p10 p11 p12 p13 p14 p15 p16 p17 p18 p19 p20 p21 p22 p23 p24 p25 p26 p27 p28 p29 p30 p31 p32 p33 p34 p35 p36 p37 p38 p39 p40 p41 : Nat} {cI : ClassId} {wf : SX7 → va_W} (L : LnX7 a0 a1 a2 a3 a4 a5 a6 a7 a8 a9 a10 a11 a12 a13 a14 a15 a16 a17 a18 a19 a20 a21 a22 a23 a24 a25 a26 a27 a28 a29 a30 a31 a32 a33 a34 a35 a36 a37 a38 a39 a40 a41 p0 p1 p2 p3 p4 p5 p6 p7 p8 p9 p10 p11 p12 p13 p14 p15 p16 p17 p18 p19 p20 p21 p22 p23 p24 p25 p26 p27 p28 p29 p30 p31 p32 p33 p34 p35 p36 p37 p38 p39 p40 p41 cI wf) (z : SX7) (v : Int32) : (wf z).set p0 (a0, .inr (7, [.ref a1, .ref a3, .ref a4, .ref a19, .ref a20, .ref a25, .int z.2.2.2.2.2.1, .ref a26, .int v, .int z.2.2.2.2.2.2.2.2])) = wf (z.1, z.2.1, z.2.2.1, z.2.2.2.1, z.2.2.2.2.1, z.2.2.2.2.2.1, z.2.2.2.2.2.2.1, v, z.2.2.2.2.2.2.2.2) := L.2.2.2.2.2.2.2.2.1 z v
theorem LnX7_i8 {a0 a1 a2 a3 a4 a5 a6 a7 a8 a9 a10 a11 a12 a13 a14 a15 a16 a17 a18 a19 a20 a21 a22 a23 a24 a25 a26 a27 a28 a29 a30 a31 a32 a33 a34 a35 a36 a37 a38 a39 a40 a41 p0 p1 p2 p3 p4 p5 p6 p7 p8 p9 p10 p11 p12 p13 p14 p15 p16 p17 p18 p19 p20 p21 p22 p23 p24 p25 p26 p27 p28 p29 p30 p31 p32 p33 p34 p35 p36 p37 p38 p39 p40 p41 : Nat} {cI : ClassId} {wf : SX7 → va_W} (L : LnX7 a0 a1 a2 a3 a4 a5 a6 a7 a8 a9 a10 a11 a12 a13 a14 a15 a16 a17 a18 a19 a20 a21 a22 a23 a24 a25 a26 a27 a28 a29 a30 a31 a32 a33 a34 a35 a36 a37 a38 a39 a40 a41 p0 p1 p2 p3 p4 p5 p6 p7 p8 p9 p10 p11 p12 p13 p14 p15 p16 p17 p18 p19 p20 p21 p22 p23 p24 p25 p26 p27 p28 p29 p30 p31 p32 p33 p34 p35 p36 p37 p38 p39 p40 p41 cI wf) (z : SX7) (v : Int32) : (wf z).set p0 (a0, .inr (7, [.ref a1, .ref a3, .ref a4, .ref a19, .ref a20, .ref a25, .int z.2.2.2.2.2.1, .ref a26, .int z.2.2.2.2.2.2.2.1, .int v])) = wf (z.1, z.2.1, z.2.2.1, z.2.2.2.1, z.2.2.2.2.1, z.2.2.2.2.2.1, z.2.2.2.2.2.2.1, z.2.2.2.2.2.2.2.1, v) := L.2.2.2.2.2.2.2.2.2 z v
abbrev SP55 : Type := SX5 × SX5
def LnP55 (a0 a1 a2 a3 p0 p1 p2 p3 : Nat) (cI : ClassId) (wf : SP55 → va_W) : Prop :=
  (∀ z : SP55, LnX5 a0 a1 p0 p1 cI (fun x => wf (x, z.2))) ∧
  (∀ z : SP55, LnX5 a2 a3 p2 p3 cI (fun x => wf (z.1, x)))
theorem LnP55_s0 {a0 a1 a2 a3 p0 p1 p2 p3 : Nat} {cI : ClassId} {wf : SP55 → va_W} (L : LnP55 a0 a1 a2 a3 p0 p1 p2 p3 cI wf) (z : SP55) : LnX5 a0 a1 p0 p1 cI (fun x => wf (x, z.2)) := L.1 z
theorem LnP55_s1 {a0 a1 a2 a3 p0 p1 p2 p3 : Nat} {cI : ClassId} {wf : SP55 → va_W} (L : LnP55 a0 a1 a2 a3 p0 p1 p2 p3 cI wf) (z : SP55) : LnX5 a2 a3 p2 p3 cI (fun x => wf (z.1, x)) := L.2 z
abbrev SP25 : Type := SX2 × SX5
def LnP25 (a0 a1 a2 a3 p0 p1 p2 p3 : Nat) (cI : ClassId) (wf : SP25 → va_W) : Prop :=
  (∀ z : SP25, LnX2 a0 a1 p0 p1 cI (fun x => wf (x, z.2))) ∧
  (∀ z : SP25, LnX5 a2 a3 p2 p3 cI (fun x => wf (z.1, x)))
theorem LnP25_s0 {a0 a1 a2 a3 p0 p1 p2 p3 : Nat} {cI : ClassId} {wf : SP25 → va_W} (L : LnP25 a0 a1 a2 a3 p0 p1 p2 p3 cI wf) (z : SP25) : LnX2 a0 a1 p0 p1 cI (fun x => wf (x, z.2)) := L.1 z
theorem LnP25_s1 {a0 a1 a2 a3 p0 p1 p2 p3 : Nat} {cI : ClassId} {wf : SP25 → va_W} (L : LnP25 a0 a1 a2 a3 p0 p1 p2 p3 cI wf) (z : SP25) : LnX5 a2 a3 p2 p3 cI (fun x => wf (z.1, x)) := L.2 z
abbrev SP66 : Type := SX6 × SX6
def LnP66 (a0 a1 a2 a3 a4 a5 a6 a7 a8 a9 p0 p1 p2 p3 p4 p5 p6 p7 p8 p9 : Nat) (cI : ClassId) (wf : SP66 → va_W) : Prop :=
  (∀ z : SP66, LnX6 a0 a1 a2 a3 a4 p0 p1 p2 p3 p4 cI (fun x => wf (x, z.2))) ∧
  (∀ z : SP66, LnX6 a5 a6 a7 a8 a9 p5 p6 p7 p8 p9 cI (fun x => wf (z.1, x)))
theorem LnP66_s0 {a0 a1 a2 a3 a4 a5 a6 a7 a8 a9 p0 p1 p2 p3 p4 p5 p6 p7 p8 p9 : Nat} {cI : ClassId} {wf : SP66 → va_W} (L : LnP66 a0 a1 a2 a3 a4 a5 a6 a7 a8 a9 p0 p1 p2 p3 p4 p5 p6 p7 p8 p9 cI wf) (z : SP66) : LnX6 a0 a1 a2 a3 a4 p0 p1 p2 p3 p4 cI (fun x => wf (x, z.2)) := L.1 z
theorem LnP66_s1 {a0 a1 a2 a3 a4 a5 a6 a7 a8 a9 p0 p1 p2 p3 p4 p5 p6 p7 p8 p9 : Nat} {cI : ClassId} {wf : SP66 → va_W} (L : LnP66 a0 a1 a2 a3 a4 a5 a6 a7 a8 a9 p0 p1 p2 p3 p4 p5 p6 p7 p8 p9 cI wf) (z : SP66) : LnX6 a5 a6 a7 a8 a9 p5 p6 p7 p8 p9 cI (fun x => wf (z.1, x)) := L.2 z
abbrev SP44 : Type := SX4 × SX4
def LnP44 (a0 a1 p0 p1 : Nat) (cI : ClassId) (wf : SP44 → va_W) : Prop :=
  (∀ z : SP44, LnX4 a0 p0 cI (fun x => wf (x, z.2))) ∧
  (∀ z : SP44, LnX4 a1 p1 cI (fun x => wf (z.1, x)))
theorem LnP44_s0 {a0 a1 p0 p1 : Nat} {cI : ClassId} {wf : SP44 → va_W} (L : LnP44 a0 a1 p0 p1 cI wf) (z : SP44) : LnX4 a0 p0 cI (fun x => wf (x, z.2)) := L.1 z
theorem LnP44_s1 {a0 a1 p0 p1 : Nat} {cI : ClassId} {wf : SP44 → va_W} (L : LnP44 a0 a1 p0 p1 cI wf) (z : SP44) : LnX4 a1 p1 cI (fun x => wf (z.1, x)) := L.2 z
abbrev SX8 : Type := (Nat → Int32) × (Nat → Int64) × (Nat → Nat → Int32)
/-- the fields of the model's object -/
def mF (a : Nat → Nat) (z : SX8) : List Value := [.int (z.1 0), .int (z.1 1), .int (z.1 2), .ref (a 3), .ref (a 4), .int (z.1 5), .int (z.1 6), .ref (a 7), .ref (a 8), .int (z.1 9), .ref (a 10), .int (z.1 11), .int (z.1 12), .int (z.1 13), .int (z.1 14), .int (z.1 15), .int (z.1 16), .int (z.1 17), .int (z.1 18), .int (z.1 19), .int (z.1 20), .int (z.1 21), .int (z.1 22), .int (z.1 23), .int (z.1 24), .int (z.1 25), .int (z.1 26), .int (z.1 27), .int (z.1 28), .ref (a 29), .ref (a 30), .ref (a 31), .ref (a 32), .ref (a 33), .ref (a 34), .ref (a 35), .ref (a 36), .ref (a 37), .ref (a 38), .ref (a 39), .ref (a 40), .int (z.1 41), .int (z.1 42), .ref (a 43), .ref (a 44), .ref (a 45), .ref (a 46), .ref (a 47), .ref (a 48), .long (z.2.1 49), .ref (a 50), .int (z.1 51), .int (z.1 52), .int (z.1 53), .int (z.1 54), .int (z.1 55), .int (z.1 56), .int (z.1 57), .ref (a 58), .ref (a 59), .ref (a 60), .long (z.2.1 61)]
def LnX8 (a q : Nat → Nat) (cI cB : ClassId) (wf : SX8 → va_W) : Prop :=
  (∀ z : SX8, (wf z)[q 0]? = some (a 0, .inr (8, mF a z))) ∧
  (∀ z z' : SX8, (wf z).set (q 0) (a 0, .inr (8, mF a (z'.1, z'.2.1, z.2.2))) = wf (z'.1, z'.2.1, z.2.2)) ∧
  (∀ z : SX8, (wf z)[q 3]? = some (a 3, .inl (cI, 28, .inl (z.2.2 3)))) ∧
  (∀ (z : SX8) (f : Nat → Int32), (wf z).set (q 3) (a 3, .inl (cI, 28, .inl f)) = wf (z.1, z.2.1, va_up z.2.2 3 f)) ∧
  (∀ z : SX8, (wf z)[q 4]? = some (a 4, .inl (cI, 2, .inl (z.2.2 4)))) ∧
  (∀ (z : SX8) (f : Nat → Int32), (wf z).set (q 4) (a 4, .inl (cI, 2, .inl f)) = wf (z.1, z.2.1, va_up z.2.2 4 f)) ∧
  (∀ z : SX8, (wf z)[q 7]? = some (a 7, .inl (cI, 6, .inl (z.2.2 7)))) ∧
  (∀ (z : SX8) (f : Nat → Int32), (wf z).set (q 7) (a 7, .inl (cI, 6, .inl f)) = wf (z.1, z.2.1, va_up z.2.2 7 f)) ∧
  (∀ z : SX8, (wf z)[q 8]? = some (a 8, .inl (cI, 6, .inl (z.2.2 8)))) ∧
  (∀ (z : SX8) (f : Nat → Int32), (wf z).set (q 8) (a 8, .inl (cI, 6, .inl f)) = wf (z.1, z.2.1, va_up z.2.2 8 f)) ∧
  (∀ z : SX8, (wf z)[q 10]? = some (a 10, .inl (cB, 36, .inl (z.2.2 10)))) ∧
  (∀ (z : SX8) (f : Nat → Int32), (wf z).set (q 10) (a 10, .inl (cB, 36, .inl f)) = wf (z.1, z.2.1, va_up z.2.2 10 f)) ∧
  (∀ z : SX8, (wf z)[q 29]? = some (a 29, .inl (cI, 64, .inl (z.2.2 29)))) ∧
  (∀ (z : SX8) (f : Nat → Int32), (wf z).set (q 29) (a 29, .inl (cI, 64, .inl f)) = wf (z.1, z.2.1, va_up z.2.2 29 f)) ∧
  (∀ z : SX8, (wf z)[q 30]? = some (a 30, .inl (cI, 64, .inl (z.2.2 30)))) ∧
  (∀ (z : SX8) (f : Nat → Int32), (wf z).set (q 30) (a 30, .inl (cI, 64, .inl f)) = wf (z.1, z.2.1, va_up z.2.2 30 f)) ∧
  (∀ z : SX8, (wf z)[q 31]? = some (a 31, .inl (cI, 256, .inl (z.2.2 31)))) ∧
  (∀ (z : SX8) (f : Nat → Int32), (wf z).set (q 31) (a 31, .inl (cI, 256, .inl f)) = wf (z.1, z.2.1, va_up z.2.2 31 f)) ∧
  (∀ z : SX8, (wf z)[q 32]? = some (a 32, .inl (cI, 256, .inl (z.2.2 32)))) ∧
  (∀ (z : SX8) (f : Nat → Int32), (wf z).set (q 32) (a 32, .inl (cI, 256, .inl f)) = wf (z.1, z.2.1, va_up z.2.2 32 f)) ∧
  (∀ z : SX8, (wf z)[q 33]? = some (a 33, .inl (cI, 512, .inl (z.2.2 33)))) ∧
  (∀ (z : SX8) (f : Nat → Int32), (wf z).set (q 33) (a 33, .inl (cI, 512, .inl f)) = wf (z.1, z.2.1, va_up z.2.2 33 f)) ∧
  (∀ z : SX8, (wf z)[q 34]? = some (a 34, .inl (cI, 512, .inl (z.2.2 34)))) ∧
  (∀ (z : SX8) (f : Nat → Int32), (wf z).set (q 34) (a 34, .inl (cI, 512, .inl f)) = wf (z.1, z.2.1, va_up z.2.2 34 f)) ∧
  (∀ z : SX8, (wf z)[q 35]? = some (a 35, .inl (cI, 512, .inl (z.2.2 35)))) ∧
  (∀ (z : SX8) (f : Nat → Int32), (wf z).set (q 35) (a 35, .inl (cI, 512, .inl f)) = wf (z.1, z.2.1, va_up z.2.2 35 f)) ∧
  (∀ z : SX8, (wf z)[q 36]? = some (a 36, .inl (cI, 6, .inl (z.2.2 36)))) ∧
  (∀ (z : SX8) (f : Nat → Int32), (wf z).set (q 36) (a 36, .inl (cI, 6, .inl f)) = wf (z.1, z.2.1, va_up z.2.2 36 f)) ∧
  (∀ z : SX8, (wf z)[q 37]? = some (a 37, .inl (cI, 6, .inl (z.2.2 37)))) ∧
  (∀ (z : SX8) (f : Nat → Int32), (wf z).set (q 37) (a 37, .inl (cI, 6, .inl f)) = wf (z.1, z.2.1, va_up z.2.2 37 f)) ∧
  (∀ z : SX8, (wf z)[q 38]? = some (a 38, .inl (cI, 6, .inl (z.2.2 38)))) ∧
  (∀ (z : SX8) (f : Nat → Int32), (wf z).set (q 38) (a 38, .inl (cI, 6, .inl f)) = wf (z.1, z.2.1, va_up z.2.2 38 f)) ∧
  (∀ z : SX8, (wf z)[q 39]? = some (a 39, .inl (cI, 6, .inl (z.2.2 39)))) ∧
  (∀ (z : SX8) (f : Nat → Int32), (wf z).set (q 39) (a 39, .inl (cI, 6, .inl f)) = wf (z.1, z.2.1, va_up z.2.2 39 f)) ∧
  (∀ z : SX8, (wf z)[q 40]? = some (a 40, .inl (cI, 6, .inl (z.2.2 40)))) ∧
  (∀ (z : SX8) (f : Nat → Int32), (wf z).set (q 40) (a 40, .inl (cI, 6, .inl f)) = wf (z.1, z.2.1, va_up z.2.2 40 f)) ∧
  (∀ z : SX8, (wf z)[q 43]? = some (a 43, .inl (cI, 10, .inl (z.2.2 43)))) ∧
  (∀ (z : SX8) (f : Nat → Int32), (wf z).set (q 43) (a 43, .inl (cI, 10, .inl f)) = wf (z.1, z.2.1, va_up z.2.2 43 f)) ∧
  (∀ z : SX8, (wf z)[q 44]? = some (a 44, .inl (cI, 256, .inl (z.2.2 44)))) ∧
  (∀ (z : SX8) (f : Nat → Int32), (wf z).set (q 44) (a 44, .inl (cI, 256, .inl f)) = wf (z.1, z.2.1, va_up z.2.2 44 f)) ∧
  (∀ z : SX8, (wf z)[q 45]? = some (a 45, .inl (cI, 256, .inl (z.2.2 45)))) ∧
  (∀ (z : SX8) (f : Nat → Int32), (wf z).set (q 45) (a 45, .inl (cI, 256, .inl f)) = wf (z.1, z.2.1, va_up z.2.2 45 f)) ∧
  (∀ z : SX8, (wf z)[q 46]? = some (a 46, .inl (cI, 512, .inl (z.2.2 46)))) ∧
  (∀ (z : SX8) (f : Nat → Int32), (wf z).set (q 46) (a 46, .inl (cI, 512, .inl f)) = wf (z.1, z.2.1, va_up z.2.2 46 f)) ∧
  (∀ z : SX8, (wf z)[q 47]? = some (a 47, .inl (cI, 512, .inl (z.2.2 47)))) ∧
  (∀ (z : SX8) (f : Nat → Int32), (wf z).set (q 47) (a 47, .inl (cI, 512, .inl f)) = wf (z.1, z.2.1, va_up z.2.2 47 f)) ∧
  (∀ z : SX8, (wf z)[q 48]? = some (a 48, .inl (cI, 512, .inl (z.2.2 48)))) ∧
  (∀ (z : SX8) (f : Nat → Int32), (wf z).set (q 48) (a 48, .inl (cI, 512, .inl f)) = wf (z.1, z.2.1, va_up z.2.2 48 f)) ∧
  (∀ z : SX8, (wf z)[q 50]? = some (a 50, .inl (cI, 28, .inl (z.2.2 50)))) ∧
  (∀ (z : SX8) (f : Nat → Int32), (wf z).set (q 50) (a 50, .inl (cI, 28, .inl f)) = wf (z.1, z.2.1, va_up z.2.2 50 f)) ∧
  (∀ z : SX8, (wf z)[q 58]? = some (a 58, .inl (cI, 28, .inl (z.2.2 58)))) ∧
  (∀ (z : SX8) (f : Nat → Int32), (wf z).set (q 58) (a 58, .inl (cI, 28, .inl f)) = wf (z.1, z.2.1, va_up z.2.2 58 f)) ∧
  (∀ z : SX8, (wf z)[q 59]? = some (a 59, .inl (cI, 6, .inl (z.2.2 59)))) ∧
  (∀ (z : SX8) (f : Nat → Int32), (wf z).set (q 59) (a 59, .inl (cI, 6, .inl f)) = wf (z.1, z.2.1, va_up z.2.2 59 f)) ∧
  (∀ z : SX8, (wf z)[q 60]? = some (a 60, .inl (cI, 6, .inl (z.2.2 60)))) ∧
  (∀ (z : SX8) (f : Nat → Int32), (wf z).set (q 60) (a 60, .inl (cI, 6, .inl f)) = wf (z.1, z.2.1, va_up z.2.2 60 f))
theorem LnX8_g {a q : Nat → Nat} {cI cB : ClassId} {wf : SX8 → va_W} (L : LnX8 a q cI cB wf) (z : SX8) : (wf z)[q 0]? = some (a 0, .inr (8, mF a z)) := L.1 z
theorem LnX8_u {a q : Nat → Nat} {cI cB : ClassId} {wf : SX8 → va_W} (L : LnX8 a q cI cB wf) (z z' : SX8) : (wf z).set (q 0) (a 0, .inr (8, mF a (z'.1, z'.2.1, z.2.2))) = wf (z'.1, z'.2.1, z.2.2) := L.2.1 z z'
theorem LnX8_a3 {a q : Nat → Nat} {cI cB : ClassId} {wf : SX8 → va_W} (L : LnX8 a q cI cB wf) (z : SX8) : (wf z)[q 3]? = some (a 3, .inl (cI, 28, .inl (z.2.2 3))) := L.2.2.1 z
theorem LnX8_b3 {a q : Nat → Nat} {cI cB : ClassId} {wf : SX8 → va_W} (L : LnX8 a q cI cB wf) (z : SX8) (f : Nat → Int32) : (wf z).set (q 3) (a 3, .inl (cI, 28, .inl f)) = wf (z.1, z.2.1, va_up z.2.2 3 f) := L.2.2.2.1 z f
theorem LnX8_a4 {a q : Nat → Nat} {cI cB : ClassId} {wf : SX8 → va_W} (L : LnX8 a q cI cB wf) (z : SX8) : (wf z)[q 4]? = some (a 4, .inl (cI, 2, .inl (z.2.2 4))) := L.2.2.2.2.1 z
theorem LnX8_b4 {a q : Nat → Nat} {cI cB : ClassId} {wf : SX8 → va_W} (L : LnX8 a q cI cB wf) (z : SX8) (f : Nat → Int32) : (wf z).set (q 4) (a 4, .inl (cI, 2, .inl f)) = wf (z.1, z.2.1, va_up z.2.2 4 f) := L.2.2.2.2.2.1 z f
theorem LnX8_a7 {a q : Nat → Nat} {cI cB : ClassId} {wf : SX8 → va_W} (L : LnX8 a q cI cB wf) (z : SX8) : (wf z)[q 7]? = some (a 7, .inl (cI, 6, .inl (z.2.2 7))) := L.2.2.2.2.2.2.1 z
theorem LnX8_b7 {a q : Nat → Nat} {cI cB : ClassId} {wf : SX8 → va_W} (L : LnX8 a q cI cB wf) (z : SX8) (f : Nat → Int32) : (wf z).set (q 7) (a 7, .inl (cI, 6, .inl f)) = wf (z.1, z.2.1, va_up z.2.2 7 f) := L.2.2.2.2.2.2.2.1 z f
theorem LnX8_a8 {a q : Nat → Nat} {cI cB : ClassId} {wf : SX8 → va_W} (L : LnX8 a q cI cB wf) (z : SX8) : (wf z)[q 8]? = some (a 8, .inl (cI, 6, .inl (z.2.2 8))) := L.2.2.2.2.2.2.2.2.1 z
theorem LnX8_b8 {a q : Nat → Nat} {cI cB : ClassId} {wf : SX8 → va_W} (L : LnX8 a q cI cB wf) (z : SX8) (f : Nat → Int32) : (wf z).set (q 8) (a 8, .inl (cI, 6, .inl f)) = wf (z.1, z.2.1, va_up z.2.2 8 f) := L.2.2.2.2.2.2.2.2.2.1 z f
theorem LnX8_a10 {a q : Nat → Nat} {cI cB : ClassId} {wf : SX8 → va_W} (L : LnX8 a q cI cB wf) (z : SX8) : (wf z)[q 10]? = some (a 10, .inl (cB, 36, .inl (z.2.2 10))) := L.2.2.2.2.2.2.2.2.2.2.1 z
theorem LnX8_b10 {a q : Nat → Nat} {cI cB : ClassId} {wf : SX8 → va_W} (L : LnX8 a q cI cB wf) (z : SX8) (f : Nat → Int32) : (wf z).set (q 10) (a 10, .inl (cB, 36, .inl f)) = wf (z.1, z.2.1, va_up z.2.2 10 f) := L.2.2.2.2.2.2.2.2.2.2.2.1 z f
theorem LnX8_a29 {a q : Nat → Nat} {cI cB : ClassId} {wf : SX8 → va_W} (L : LnX8 a q cI cB wf) (z : SX8) : (wf z)[q 29]? = some (a 29, .inl (cI, 64, .inl (z.2.2 29))) := L.2.2.2.2.2.2.2.2.2.2.2.2.1 z
theorem LnX8_b29 {a q : Nat → Nat} {cI cB : ClassId} {wf : SX8 → va_W} (L : LnX8 a q cI cB wf) (z : SX8) (f : Nat → Int32) : (wf z).set (q 29) (a 29, .inl (cI, 64, .inl f)) = wf (z.1, z.2.1, va_up z.2.2 29 f) := L.2.2.2.2.2.2.2.2.2.2.2.2.2.1 z f
theorem LnX8_a30 {a q : Nat → Nat} {cI cB : ClassId} {wf : SX8 → va_W} (L : LnX8 a q cI cB wf) (z : SX8) : (wf z)[q 30]? = some (a 30, .inl (cI, 64, .inl (z.2.2 30))) := L.2.2.2.2.2.2.2.2.2.2.2.2.2.2.1 z
theorem LnX8_b30 {a q : Nat → Nat} {cI cB : ClassId} {wf : SX8 → va_W} (L : LnX8 a q cI cB wf) (z : SX8) (f : Nat → Int32) : (wf z).set (q 30) (a 30, .inl (cI, 64, .inl f)) = wf (z.1, z.2.1, va_up z.2.2 30 f) := L.2.2.2.2.2.2.2.2.2.2.2.2.2.2.2.1 z f
theorem LnX8_a31 {a q : Nat → Nat} {cI cB : ClassId} {wf : SX8 → va_W} (L : LnX8 a q cI cB wf) (z : SX8) : (wf z)[q 31]? = some (a 31, .inl (cI, 256, .inl (z.2.2 31))) := L.2.2.2.2.2.2.2.2.2.2.2.2.2.2.2.2.1 z
theorem LnX8_b31 {a q : Nat → Nat} {cI cB : ClassId} {wf : SX8 → va_W} (L : LnX8 a q cI cB wf) (z : SX8) (f : Nat → Int32) : (wf z).set (q 31) (a 31, .inl (cI, 256, .inl f)) = wf (z.1, z.2.1, va_up z.2.2 31 f) := L.2.2.2.2.2.2.2.2.2.2.2.2.2.2.2.2.2.1 z f
theorem LnX8_a32 {a q : Nat → Nat} {cI cB : ClassId} {wf : SX8 → va_W} (L : LnX8 a q cI cB wf) (z : SX8) : (wf z)[q 32]? = some (a 32, .inl (cI, 256, .inl (z.2.2 32))) := L.2.2.2.2.2.2.2.2.2.2.2.2.2.2.2.2.2.2.1 z
theorem LnX8_b32 {a q : Nat → Nat} {cI cB : ClassId} {wf : SX8 → va_W} (L : LnX8 a q cI cB wf) (z : SX8) (f : Nat → Int32) : (wf z).set (q 32) (a 32, .inl (cI, 256, .inl f)) = wf (z.1, z.2.1, va_up z.2.2 32 f) := L.2.2.2.2.2.2.2.2.2.2.2.2.2.2.2.2.2.2.2.1 z f
theorem LnX8_a33 {a q : Nat → Nat} {cI cB : ClassId} {wf : SX8 → va_W} (L : LnX8 a q cI cB wf) (z : SX8) : (wf z)[q 33]? = some (a 33, .inl (cI, 512, .inl (z.2.2 33))) := L.2.2.2.2.2.2.2.2.2.2.2.2.2.2.2.2.2.2.2.2.1 z
theorem LnX8_b33 {a q : Nat → Nat} {cI cB : ClassId} {wf : SX8 → va_W} (L : LnX8 a q cI cB wf) (z : SX8) (f : Nat → Int32) : (wf z).set (q 33) (a 33, .inl (cI, 512, .inl f)) = wf (z.1, z.2.1, va_up z.2.2 33 f) := L.2.2.2.2.2.2.2.2.2.2.2.2.2.2.2.2.2.2.2.2.2.1 z f
theorem LnX8_a34 {a q : Nat → Nat} {cI cB : ClassId} {wf : SX8 → va_W} (L : LnX8 a q cI cB wf) (z : SX8) : (wf z)[q 34]? = some (a 34, .inl (cI, 512, .inl (z.2.2 34))) := L.2.2.2.2.2.2.2.2.2.2.2.2.2.2.2.2.2.2.2.2.2.2.1 z
theorem LnX8_b34 {a q : Nat → Nat} {cI cB : ClassId} {wf : SX8 → va_W} (L : LnX8 a q cI cB wf) (z : SX8) (f : Nat → Int32) : (wf z).set (q 34) (a 34, .inl (cI, 512, .inl f)) = wf (z.1, z.2.1, va_up z.2.2 34 f) := L.2.2.2.2.2.2.2.2.2.2.2.2.2.2.2.2.2.2.2.2.2.2.2.1 z f
theorem LnX8_a35 {a q : Nat → Nat} {cI cB : ClassId} {wf : SX8 → va_W} (L : LnX8 a q cI cB wf) (z : SX8) : (wf z)[q 35]? = some (a 35, .inl (cI, 512, .inl (z.2.2 35))) := L.2.2.2.2.2.2.2.2.2.2.2.2.2.2.2.2.2.2.2.2.2.2.2.2.1 z
theorem LnX8_b35 {a q : Nat → Nat} {cI cB : ClassId} {wf : SX8 → va_W} (L : LnX8 a q cI cB wf) (z : SX8) (f : Nat → Int32) : (wf z).set (q 35) (a 35, .inl (cI, 512, .inl f)) = wf (z.1, z.2.1, va_up z.2.2 35 f) := L.2.2.2.2.2.2.2.2.2.2.2.2.2.2.2.2.2.2.2.2.2.2.2.2.2.1 z f
theorem LnX8_a36 {a q : Nat → Nat} {cI cB : ClassId} {wf : SX8 → va_W} (L : LnX8 a q cI cB wf) (z : SX8) : (wf z)[q 36]? = some (a 36, .inl (cI, 6, .inl (z.2.2 36))) := L.2.2.2.2.2.2.2.2.2.2.2.2.2.2.2.2.2.2.2.2.2.2.2.2.2.2.1 z
theorem LnX8_b36 {a q : Nat → Nat} {cI cB : ClassId} {wf : SX8 → va_W} (L : LnX8 a q cI cB wf) (z : SX8) (f : Nat → Int32) : (wf z).set (q 36) (a 36, .inl (cI, 6, .inl f)) = wf (z.1, z.2.1, va_up z.2.2 36 f) := L.2.2.2.2.2.2.2.2.2.2.2.2.2.2.2.2.2.2.2.2.2.2.2.2.2.2.2.1 z f
theorem LnX8_a37 {a q : Nat → Nat} {cI cB : ClassId} {wf : SX8 → va_W} (L : LnX8 a q cI cB wf) (z : SX8) : (wf z)[q 37]? = some (a 37, .inl (cI, 6, .inl (z.2.2 37))) := L.2.2.2.2.2.2.2.2.2.2.2.2.2.2.2.2.2.2.2.2.2.2.2.2.2.2.2.2.1 z
theorem LnX8_b37 {a q : Nat → Nat} {cI cB : ClassId} {wf : SX8 → va_W} (L : LnX8 a q cI cB wf) (z : SX8) (f : Nat → Int32) : (wf z).set (q 37) (a 37, .inl (cI, 6, .inl f)) = wf (z.1, z.2.1, va_up z.2.2 37 f) := L.2.2.2.2.2.2.2.2.2.2.2.2.2.2.2.2.2.2.2.2.2.2.2.2.2.2.2.2.2.1 z f
theorem LnX8_a38 {a q : Nat → Nat} {cI cB : ClassId} {wf : SX8 → va_W} (L : LnX8 a q cI cB wf) (z : SX8) : (wf z)[q 38]? = some (a 38, .inl (cI, 6, .inl (z.2.2 38))) := L.2.2.2.2.2.2.2.2.2.2.2.2.2.2.2.2.2.2.2.2.2.2.2.2.2.2.2.2.2.2.1 z
theorem LnX8_b38 {a q : Nat → Nat} {cI cB : ClassId} {wf : SX8 → va_W} (L : LnX8 a q cI cB wf) (z : SX8) (f : Nat → Int32) : (wf z).set (q 38) (a 38, .inl (cI, 6, .inl f)) = wf (z.1, z.2.1, va_up z.2.2 38 f) := L.2.2.2.2.2.2.2.2.2.2.2.2.2.2.2.2.2.2.2.2.2.2.2.2.2.2.2.2.2.2.2.1 z f
theorem LnX8_a39 {a q : Nat → Nat} {cI cB : ClassId} {wf : SX8 → va_W} (L : LnX8 a q cI cB wf) (z : SX8) : (wf z)[q 39]? = some (a 39, .inl (cI, 6, .inl (z.2.2 39))) := L.2.2.2.2.2.2.2.2.2.2.2.2.2.2.2.2.2.2.2.2.2.2.2.2.2.2.2.2.2.2.2.2.1 z
theorem LnX8_b39 {a q : Nat → Nat} {cI cB : ClassId} {wf : SX8 → va_W} (L : LnX8 a q cI cB wf) (z : SX8) (f : Nat → Int32) : (wf z).set (q 39) (a 39, .inl (cI, 6, .inl f)) = wf (z.1, z.2.1, va_up z.2.2 39 f) := L.2.2.2.2.2.2.2.2.2.2.2.2.2.2.2.2.2.2.2.2.2.2.2.2.2.2.2.2.2.2.2.2.2.1 z f
theorem LnX8_a40 {a q : Nat → Nat} {cI cB : ClassId} {wf : SX8 → va_W} (L : LnX8 a q cI cB wf) (z : SX8) : (wf z)[q 40]? = some (a 40, .inl (cI, 6, .inl (z.2.2 40))) := L.2.2.2.2.2.2.2.2.2.2.2.2.2.2.2.2.2.2.2.2.2.2.2.2.2.2.2.2.2.2.2.2.2.2.1 z
theorem LnX8_b40 {a q : Nat → Nat} {cI cB : ClassId} {wf : SX8 → va_W} (L : LnX8 a q cI cB wf) (z : SX8) (f : Nat → Int32) : (wf z).set (q 40) (a 40, .inl (cI, 6, .inl f)) = wf (z.1, z.2.1, va_up z.2.2 40 f) := L.2.2.2.2.2.2.2.2.2.2.2.2.2.2.2.2.2.2.2.2.2.2.2.2.2.2.2.2.2.2.2.2.2.2.2.1 z f
theorem LnX8_a43 {a q : Nat → Nat} {cI cB : ClassId} {wf : SX8 → va_W} (L : LnX8 a q cI cB wf) (z : SX8) : (wf z)[q 43]? = some (a 43, .inl (cI, 10, .inl (z.2.2 43))) := L.2.2.2.2.2.2.2.2.2.2.2.2.2.2.2.2.2.2.2.2.2.2.2.2.2.2.2.2.2.2.2.2.2.2.2.2.1 z
theorem LnX8_b43 {a q : Nat → Nat} {cI cB : ClassId} {wf : SX8 → va_W} (L : LnX8 a q cI cB wf) (z : SX8) (f : Nat → Int32) : (wf z).set (q 43) (a 43, .inl (cI, 10, .inl f)) = wf (z.1, z.2.1, va_up z.2.2 43 f) := L.2.2.2.2.2.2.2.2.2.2.2.2.2.2.2.2.2.2.2.2.2.2.2.2.2.2.2.2.2.2.2.2.2.2.2.2.2.1 z f
theorem LnX8_a44 {a q : Nat → Nat} {cI cB : ClassId} {wf : SX8 → va_W} (L : LnX8 a q cI cB wf) (z : SX8) : (wf z)[q 44]? = some (a 44, .inl (cI, 256, .inl (z.2.2 44))) := L.2.2.2.2.2.2.2.2.2.2.2.2.2.2.2.2.2.2.2.2.2.2.2.2.2.2.2.2.2.2.2.2.2.2.2.2.2.2.1 z
theorem LnX8_b44 {a q : Nat → Nat} {cI cB : ClassId} {wf : SX8 → va_W} (L : LnX8 a q cI cB wf) (z : SX8) (f : Nat → Int32) : (wf z).set (q 44) (a 44, .inl (cI, 256, .inl f)) = wf (z.1, z.2.1, va_up z.2.2 44 f) := L.2.2.2.2.2.2.2.2.2.2.2.2.2.2.2.2.2.2.2.2.2.2.2.2.2.2.2.2.2.2.2.2.2.2.2.2.2.2.2.1 z f
theorem LnX8_a45 {a q : Nat → Nat} {cI cB : ClassId} {wf : SX8 → va_W} (L : LnX8 a q cI cB wf) (z : SX8) : (wf z)[q 45]? = some (a 45, .inl (cI, 256, .inl (z.2.2 45))) := L.2.2.2.2.2.2.2.2.2.2.2.2.2.2.2.2.2.2.2.2.2.2.2.2.2.2.2.2.2.2.2.2.2.2.2.2.2.2.2.2.1 z
theorem LnX8_b45 {a q : Nat → Nat} {cI cB : ClassId} {wf : SX8 → va_W} (L : LnX8 a q cI cB wf) (z : SX8) (f : Nat → Int32) : (wf z).set (q 45) (a 45, .inl (cI, 256, .inl f)) = wf (z.1, z.2.1, va_up z.2.2 45 f) := L.2.2.2.2.2.2.2.2.2.2.2.2.2.2.2.2.2.2.2.2.2.2.2.2.2.2.2.2.2.2.2.2.2.2.2.2.2.2.2.2.2.1 z f
theorem LnX8_a46 {a q : Nat → Nat} {cI cB : ClassId} {wf : SX8 → va_W} (L : LnX8 a q cI cB wf) (z : SX8) : (wf z)[q 46]? = some (a 46, .inl (cI, 512, .inl (z.2.2 46))) := L.2.2.2.2.2.2.2.2.2.2.2.2.2.2.2.2.2.2.2.2.2.2.2.2.2.2.2.2.2.2.2.2.2.2.2.2.2.2.2.2.2.2.1 z
theorem LnX8_b46 {a q : Nat → Nat} {cI cB : ClassId} {wf : SX8 → va_W} (L : LnX8 a q cI cB wf) (z : SX8) (f : Nat → Int32) : (wf z).set (q 46) (a 46, .inl (cI, 512, .inl f)) = wf (z.1, z.2.1, va_up z.2.2 46 f) := L.2.2.2.2.2.2.2.2.2.2.2.2.2.2.2.2.2.2.2.2.2.2.2.2.2.2.2.2.2.2.2.2.2.2.2.2.2.2.2.2.2.2.2.1 z f
theorem LnX8_a47 {a q : Nat → Nat} {cI cB : ClassId} {wf : SX8 → va_W} (L : LnX8 a q cI cB wf) (z : SX8) : (wf z)[q 47]? = some (a 47, .inl (cI, 512, .inl (z.2.2 47))) := L.2.2.2.2.2.2.2.2.2.2.2.2.2.2.2.2.2.2.2.2.2.2.2.2.2.2.2.2.2.2.2.2.2.2.2.2.2.2.2.2.2.2.2.2.1 z
theorem LnX8_b47 {a q : Nat → Nat} {cI cB : ClassId} {wf : SX8 → va_W} (L : LnX8 a q cI cB wf) (z : SX8) (f : Nat → Int32) : (wf z).set (q 47) (a 47, .inl (cI, 512, .inl f)) = wf (z.1, z.2.1, va_up z.2.2 47 f) := L.2.2.2.2.2.2.2.2.2.2.2.2.2.2.2.2.2.2.2.2.2.2.2.2.2.2.2.2.2.2.2.2.2.2.2.2.2.2.2.2.2.2.2.2.2.1 z f
theorem LnX8_a48 {a q : Nat → Nat} {cI cB : ClassId} {wf : SX8 → va_W} (L : LnX8 a q cI cB wf) (z : SX8) : (wf z)[q 48]? = some (a 48, .inl (cI, 512, .inl (z.2.2 48))) := L.2.2.2.2.2.2.2.2.2.2.2.2.2.2.2.2.2.2.2.2.2.2.2.2.2.2.2.2.2.2.2.2.2.2.2.2.2.2.2.2.2.2.2.2.2.2.1 z
theorem LnX8_b48 {a q : Nat → Nat} {cI cB : ClassId} {wf : SX8 → va_W} (L : LnX8 a q cI cB wf) (z : SX8) (f : Nat → Int32) : (wf z).set (q 48) (a 48, .inl (cI, 512, .inl f)) = wf (z.1, z.2.1, va_up z.2.2 48 f) := L.2.2.2.2.2.2.2.2.2.2.2.2.2.2.2.2.2.2.2.2.2.2.2.2.2.2.2.2.2.2.2.2.2.2.2.2.2.2.2.2.2.2.2.2.2.2.2.1 z f
theorem LnX8_a50 {a q : Nat → Nat} {cI cB : ClassId} {wf : SX8 → va_W} (L : LnX8 a q cI cB wf) (z : SX8) : (wf z)[q 50]? = some (a 50, .inl (cI, 28, .inl (z.2.2 50))) := L.2.2.2.2.2.2.2.2.2.2.2.2.2.2.2.2.2.2.2.2.2.2.2.2.2.2.2.2.2.2.2.2.2.2.2.2.2.2.2.2.2.2.2.2.2.2.2.2.1 z
theorem LnX8_b50 {a q : Nat → Nat} {cI cB : ClassId} {wf : SX8 → va_W} (L : LnX8 a q cI cB wf) (z : SX8) (f : Nat → Int32) : (wf z).set (q 50) (a 50, .inl (cI, 28, .inl f)) = wf (z.1, z.2.1, va_up z.2.2 50 f) := L.2.2.2.2.2.2.2.2.2.2.2.2.2.2.2.2.2.2.2.2.2.2.2.2.2.2.2.2.2.2.2.2.2.2.2.2.2.2.2.2.2.2.2.2.2.2.2.2.2.1 z f
theorem LnX8_a58 {a q : Nat → Nat} {cI cB : ClassId} {wf : SX8 → va_W} (L : LnX8 a q cI cB wf) (z : SX8) : (wf z)[q 58]? = some (a 58, .inl (cI, 28, .inl (z.2.2 58))) := L.2.2.2.2.2.2.2.2.2.2.2.2.2.2.2.2.2.2.2.2.2.2.2.2.2.2.2.2.2.2.2.2.2.2.2.2.2.2.2.2.2.2.2.2.2.2.2.2.2.2.1 z
theorem LnX8_b58 {a q : Nat → Nat} {cI cB : ClassId} {wf : SX8 → va_W} (L : LnX8 a q cI cB wf) (z : SX8) (f : Nat → Int32) : (wf z).set (q 58) (a 58, .inl (cI, 28, .inl f)) = wf (z.1, z.2.1, va_up z.2.2 58 f) := L.2.2.2.2.2.2.2.2.2.2.2.2.2.2.2.2.2.2.2.2.2.2.2.2.2.2.2.2.2.2.2.2.2.2.2.2.2.2.2.2.2.2.2.2.2.2.2.2.2.2.2.1 z f
theorem LnX8_a59 {a q : Nat → Nat} {cI cB : ClassId} {wf : SX8 → va_W} (L : LnX8 a q cI cB wf) (z : SX8) : (wf z)[q 59]? = some (a 59, .inl (cI, 6, .inl (z.2.2 59))) := L.2.2.2.2.2.2.2.2.2.2.2.2.2.2.2.2.2.2.2.2.2.2.2.2.2.2.2.2.2.2.2.2.2.2.2.2.2.2.2.2.2.2.2.2.2.2.2.2.2.2.2.2.1 z
theorem LnX8_b59 {a q : Nat → Nat} {cI cB : ClassId} {wf : SX8 → va_W} (L : LnX8 a q cI cB wf) (z : SX8) (f : Nat → Int32) : (wf z).set (q 59) (a 59, .inl (cI, 6, .inl f)) = wf (z.1, z.2.1, va_up z.2.2 59 f) := L.2.2.2.2.2.2.2.2.2.2.2.2.2.2.2.2.2.2.2.2.2.2.2.2.2.2.2.2.2.2.2.2.2.2.2.2.2.2.2.2.2.2.2.2.2.2.2.2.2.2.2.2.2.1 z f
theorem LnX8_a60 {a q : Nat → Nat} {cI cB : ClassId} {wf : SX8 → va_W} (L : LnX8 a q cI cB wf) (z : SX8) : (wf z)[q 60]? = some (a 60, .inl (cI, 6, .inl (z.2.2 60))) := L.2.2.2.2.2.2.2.2.2.2.2.2.2.2.2.2.2.2.2.2.2.2.2.2.2.2.2.2.2.2.2.2.2.2.2.2.2.2.2.2.2.2.2.2.2.2.2.2.2.2.2.2.2.2.1 z
theorem LnX8_b60 {a q : Nat → Nat} {cI cB : ClassId} {wf : SX8 → va_W} (L : LnX8 a q cI cB wf) (z : SX8) (f : Nat → Int32) : (wf z).set (q 60) (a 60, .inl (cI, 6, .inl f)) = wf (z.1, z.2.1, va_up z.2.2 60 f) := L.2.2.2.2.2.2.2.2.2.2.2.2.2.2.2.2.2.2.2.2.2.2.2.2.2.2.2.2.2.2.2.2.2.2.2.2.2.2.2.2.2.2.2.2.2.2.2.2.2.2.2.2.2.2.2 z f
theorem LnX8_i0 {a q : Nat → Nat} {cI cB : ClassId} {wf : SX8 → va_W} (L : LnX8 a q cI cB wf) (z : SX8) (v : Int32) : (wf z).set (q 0) (a 0, .inr (8, (mF a z).set 0 (.int v))) = wf (upd z.1 0 v, z.2) := LnX8_u L z (upd z.1 0 v, z.2)
theorem LnX8_i1 {a q : Nat → Nat} {cI cB : ClassId} {wf : SX8 → va_W} (L : LnX8 a q cI cB wf) (z : SX8) (v : Int32) : (wf z).set (q 0) (a 0, .inr (8, (mF a z).set 1 (.int v))) = wf (upd z.1 1 v, z.2) := LnX8_u L z (upd z.1 1 v, z.2)
theorem LnX8_i2 {a q : Nat → Nat} {cI cB : ClassId} {wf : SX8 → va_W} (L : LnX8 a q cI cB wf) (z : SX8) (v : Int32) : (wf z).set (q 0) (a 0, .inr (8, (mF a z).set 2 (.int v))) = wf (upd z.1 2 v, z.2) := LnX8_u L z (upd z.1 2 v, z.2)
theorem LnX8_i5 {a q : Nat → Nat} {cI cB : ClassId} {wf : SX8 → va_W} (L : LnX8 a q cI cB wf) (z : SX8) (v : Int32) : (wf z).set (q 0) (a 0, .inr (8, (mF a z).set 5 (.int v))) = wf (upd z.1 5 v, z.2) := LnX8_u L z (upd z.1 5 v, z.2)
theorem LnX8_i6 {a q : Nat → Nat} {cI cB : ClassId} {wf : SX8 → va_W} (L : LnX8 a q cI cB wf) (z : SX8) (v : Int32) : (wf z).set (q 0) (a 0, .inr (8, (mF a z).set 6 (.int v))) = wf (upd z.1 6 v, z.2) := LnX8_u L z (upd z.1 6 v, z.2)
theorem LnX8_i9 {a q : Nat → Nat} {cI cB : ClassId} {wf : SX8 → va_W} (L : LnX8 a q cI cB wf) (z : SX8) (v : Int32) : (wf z).set (q 0) (a 0, .inr (8, (mF a z).set 9 (.int v))) = wf (upd z.1 9 v, z.2) := LnX8_u L z (upd z.1 9 v, z.2)
theorem LnX8_i11 {a q : Nat → Nat} {cI cB : ClassId} {wf : SX8 → va_W} (L : LnX8 a q cI cB wf) (z : SX8) (v : Int32) : (wf z).set (q 0) (a 0, .inr (8, (mF a z).set 11 (.int v))) = wf (upd z.1 11 v, z.2) := LnX8_u L z (upd z.1 11 v, z.2)
theorem LnX8_i12 {a q : Nat → Nat} {cI cB : ClassId} {wf : SX8 → va_W} (L : LnX8 a q cI cB wf) (z : SX8) (v : Int32) : (wf z).set (q 0) (a 0, .inr (8, (mF a z).set 12 (.int v))) = wf (upd z.1 12 v, z.2) := LnX8_u L z (upd z.1 12 v, z.2)
theorem LnX8_i13 {a q : Nat → Nat} {cI cB : ClassId} {wf : SX8 → va_W} (L : LnX8 a q cI cB wf) (z : SX8) (v : Int32) : (wf z).set (q 0) (a 0, .inr (8, (mF a z).set 13 (.int v))) = wf (upd z.1 13 v, z.2) := LnX8_u L z (upd z.1 13 v, z.2)
theorem LnX8_i14 {a q : Nat → Nat} {cI cB : ClassId} {wf : SX8 → va_W} (L : LnX8 a q cI cB wf) (z : SX8) (v : Int32) : (wf z).set (q 0) (a 0, .inr (8, (mF a z).set 14 (.int v))) = wf (upd z.1 14 v, z.2) := LnX8_u L z (upd z.1 14 v, z.2)
theorem LnX8_i15 {a q : Nat → Nat} {cI cB : ClassId} {wf : SX8 → va_W} (L : LnX8 a q cI cB wf) (z : SX8) (v : Int32) : (wf z).set (q 0) (a 0, .inr (8, (mF a z).set 15 (.int v))) = wf (upd z.1 15 v, z.2) := LnX8_u L z (upd z.1 15 v, z.2)
theorem LnX8_i16 {a q : Nat → Nat} {cI cB : ClassId} {wf : SX8 → va_W} (L : LnX8 a q cI cB wf) (z : SX8) (v : Int32) : (wf z).set (q 0) (a 0, .inr (8, (mF a z).set 16 (.int v))) = wf (upd z.1 16 v, z.2) := LnX8_u L z (upd z.1 16 v, z.2)
theorem LnX8_i17 {a q : Nat → Nat} {cI cB : ClassId} {wf : SX8 → va_W} (L : LnX8 a q cI cB wf) (z : SX8) (v : Int32) : (wf z).set (q 0) (a 0, .inr (8, (mF a z).set 17 (.int v))) = wf (upd z.1 17 v, z.2) := LnX8_u L z (upd z.1 17 v, z.2)
theorem LnX8_i18 {a q : Nat → Nat} {cI cB : ClassId} {wf : SX8 → va_W} (L : LnX8 a q cI cB wf) (z : SX8) (v : Int32) : (wf z).set (q 0) (a 0, .inr (8, (mF a z).set 18 (.int v))) = wf (upd z.1 18 v, z.2) := LnX8_u L z (upd z.1 18 v, z.2)
theorem LnX8_i19 {a q : Nat → Nat} {cI cB : ClassId} {wf : SX8 → va_W} (L : LnX8 a q cI cB wf) (z : SX8) (v : Int32) : (wf z).set (q 0) (a 0, .inr (8, (mF a z).set 19 (.int v))) = wf (upd z.1 19 v, z.2) := LnX8_u L z (upd z.1 19 v, z.2)
theorem LnX8_i20 {a q : Nat → Nat} {cI cB : ClassId} {wf : SX8 → va_W} (L : LnX8 a q cI cB wf) (z : SX8) (v : Int32) : (wf z).set (q 0) (a 0, .inr (8, (mF a z).set 20 (.int v))) = wf (upd z.1 20 v, z.2) := LnX8_u L z (upd z.1 20 v, z.2)
theorem LnX8_i21 {a q : Nat → Nat} {cI cB : ClassId} {wf : SX8 → va_W} (L : LnX8 a q cI cB wf) (z : SX8) (v : Int32) : (wf z).set (q 0) (a 0, .inr (8, (mF a z).set 21 (.int v))) = wf (upd z.1 21 v, z.2) := LnX8_u L z (upd z.1 21 v, z.2)
theorem LnX8_i22 {a q : Nat → Nat} {cI cB : ClassId} {wf : SX8 → va_W} (L : LnX8 a q cI cB wf) (z : SX8) (v : Int32) : (wf z).set (q 0) (a 0, .inr (8, (mF a z).set 22 (.int v))) = wf (upd z.1 22 v, z.2) := LnX8_u L z (upd z.1 22 v, z.2)
theorem LnX8_i23 {a q : Nat → Nat} {cI cB : ClassId} {wf : SX8 → va_W} (L : LnX8 a q cI cB wf) (z : SX8) (v : Int32) : (wf z).set (q 0) (a 0, .inr (8, (mF a z).set 23 (.int v))) = wf (upd z.1 23 v, z.2) := LnX8_u L z (upd z.1 23 v, z.2)
theorem LnX8_i24 {a q : Nat → Nat} {cI cB : ClassId} {wf : SX8 → va_W} (L : LnX8 a q cI cB wf) (z : SX8) (v : Int32) : (wf z).set (q 0) (a 0, .inr (8, (mF a z).set 24 (.int v))) = wf (upd z.1 24 v, z.2) := LnX8_u L z (upd z.1 24 v, z.2)
theorem LnX8_i25 {a q : Nat → Nat} {cI cB : ClassId} {wf : SX8 → va_W} (L : LnX8 a q cI cB wf) (z : SX8) (v : Int32) : (wf z).set (q 0) (a 0, .inr (8, (mF a z).set 25 (.int v))) = wf (upd z.1 25 v, z.2) := LnX8_u L z (upd z.1 25 v, z.2)
theorem LnX8_i26 {a q : Nat → Nat} {cI cB : ClassId} {wf : SX8 → va_W} (L : LnX8 a q cI cB wf) (z : SX8) (v : Int32) : (wf z).set (q 0) (a 0, .inr (8, (mF a z).set 26 (.int v))) = wf (upd z.1 26 v, z.2) := LnX8_u L z (upd z.1 26 v, z.2)
theorem LnX8_i27 {a q : Nat → Nat} {cI cB : ClassId} {wf : SX8 → va_W} (L : LnX8 a q cI cB wf) (z : SX8) (v : Int32) : (wf z).set (q 0) (a 0, .inr (8, (mF a z).set 27 (.int v))) = wf (upd z.1 27 v, z.2) := LnX8_u L z (upd z.1 27 v, z.2)
theorem LnX8_i28 {a q : Nat → Nat} {cI cB : ClassId} {wf : SX8 → va_W} (L : LnX8 a q cI cB wf) (z : SX8) (v : Int32) : (wf z).set (q 0) (a 0, .inr (8, (mF a z).set 28 (.int v))) = wf (upd z.1 28 v, z.2) := LnX8_u L z (upd z.1 28 v, z.2)
theorem LnX8_i41 {a q : Nat → Nat} {cI cB : ClassId} {wf : SX8 → va_W} (L : LnX8 a q cI cB wf) (z : SX8) (v : Int32) : (wf z).set (q 0) (a 0, .inr (8, (mF a z).set 41 (.int v))) = wf (upd z.1 41 v, z.2) := LnX8_u L z (upd z.1 41 v, z.2)
theorem LnX8_i42 {a q : Nat → Nat} {cI cB : ClassId} {wf : SX8 → va_W} (L : LnX8 a q cI cB wf) (z : SX8) (v : Int32) : (wf z).set (q 0) (a 0, .inr (8, (mF a z).set 42 (.int v))) = wf (upd z.1 42 v, z.2) := LnX8_u L z (upd z.1 42 v, z.2)
theorem LnX8_j49 {a q : Nat → Nat} {cI cB : ClassId} {wf : SX8 → va_W} (L : LnX8 a q cI cB wf) (z : SX8) (v : Int64) : (wf z).set (q 0) (a 0, .inr (8, (mF a z).set 49 (.long v))) = wf (z.1, va_up z.2.1 49 v, z.2.2) := LnX8_u L z (z.1, va_up z.2.1 49 v, z.2.2)
theorem LnX8_i51 {a q : Nat → Nat} {cI cB : ClassId} {wf : SX8 → va_W} (L : LnX8 a q cI cB wf) (z : SX8) (v : Int32) : (wf z).set (q 0) (a 0, .inr (8, (mF a z).set 51 (.int v))) = wf (upd z.1 51 v, z.2) := LnX8_u L z (upd z.1 51 v, z.2)
theorem LnX8_i52 {a q : Nat → Nat} {cI cB : ClassId} {wf : SX8 → va_W} (L : LnX8 a q cI cB wf) (z : SX8) (v : Int32) : (wf z).set (q 0) (a 0, .inr (8, (mF a z).set 52 (.int v))) = wf (upd z.1 52 v, z.2) := LnX8_u L z (upd z.1 52 v, z.2)
theorem LnX8_i53 {a q : Nat → Nat} {cI cB : ClassId} {wf : SX8 → va_W} (L : LnX8 a q cI cB wf) (z : SX8) (v : Int32) : (wf z).set (q 0) (a 0, .inr (8, (mF a z).set 53 (.int v))) = wf (upd z.1 53 v, z.2) := LnX8_u L z (upd z.1 53 v, z.2)
theorem LnX8_i54 {a q : Nat → Nat} {cI cB : ClassId} {wf : SX8 → va_W} (L : LnX8 a q cI cB wf) (z : SX8) (v : Int32) : (wf z).set (q 0) (a 0, .inr (8, (mF a z).set 54 (.int v))) = wf (upd z.1 54 v, z.2) := LnX8_u L z (upd z.1 54 v, z.2)
theorem LnX8_i55 {a q : Nat → Nat} {cI cB : ClassId} {wf : SX8 → va_W} (L : LnX8 a q cI cB wf) (z : SX8) (v : Int32) : (wf z).set (q 0) (a 0, .inr (8, (mF a z).set 55 (.int v))) = wf (upd z.1 55 v, z.2) := LnX8_u L z (upd z.1 55 v, z.2)
theorem LnX8_i56 {a q : Nat → Nat} {cI cB : ClassId} {wf : SX8 → va_W} (L : LnX8 a q cI cB wf) (z : SX8) (v : Int32) : (wf z).set (q 0) (a 0, .inr (8, (mF a z).set 56 (.int v))) = wf (upd z.1 56 v, z.2) := LnX8_u L z (upd z.1 56 v, z.2)
theorem LnX8_i57 {a q : Nat → Nat} {cI cB : ClassId} {wf : SX8 → va_W} (L : LnX8 a q cI cB wf) (z : SX8) (v : Int32) : (wf z).set (q 0) (a 0, .inr (8, (mF a z).set 57 (.int v))) = wf (upd z.1 57 v, z.2) := LnX8_u L z (upd z.1 57 v, z.2)
theorem LnX8_j61 {a q : Nat → Nat} {cI cB : ClassId} {wf : SX8 → va_W} (L : LnX8 a q cI cB wf) (z : SX8) (v : Int64) : (wf z).set (q 0) (a 0, .inr (8, (mF a z).set 61 (.long v))) = wf (z.1, va_up z.2.1 61 v, z.2.2) := LnX8_u L z (z.1, va_up z.2.1 61 v, z.2.2)
theorem mfX0_clear : MF yX0_clear cX0_clear 1 none 0 := ⟨kw494, kw493, kw13, kw113, by decide +kernel, by decide⟩
theorem mfX0_open : MF yX0_open cX0_open 2 none 1 := ⟨kw631, kw630, kw30, kw113, by decide +kernel, by decide⟩
theorem mfX0_shutDownTo : MF yX0_shutDownTo cX0_shutDownTo 3 none 1 := ⟨kw705, kw704, kw45, kw113, by decide +kernel, by decide⟩
theorem mfX0_add : MF yX0_add cX0_add 4 none 3 := ⟨kw635, kw634, kw31, kw113, by decide +kernel, by decide⟩
theorem mfX0_at : MF yX0_at cX0_at 3 (some .int) 2 := ⟨kw726, kw725, kw48, kw113, by decide +kernel, by decide⟩
theorem mfX1_clear : MF yX1_clear cX1_clear 2 none 1 := ⟨kw490, kw489, kw12, kw112, by decide +kernel, by decide⟩
theorem mfX1_add : MF yX1_add cX1_add 3 none 2 := ⟨kw670, kw669, kw37, kw112, by decide +kernel, by decide⟩
theorem mfX1_at : MF yX1_at cX1_at 3 (some .int) 2 := ⟨kw718, kw717, kw47, kw112, by decide +kernel, by decide⟩
theorem msX2_kindOf : MS yX2_kindOf cX2_kindOf 1 (some .int) 1 := ⟨kw359, kw358, kw108, by decide +kernel, by decide⟩
theorem msX2_isRow : MS yX2_isRow cX2_isRow 1 (some .boolean) 1 := ⟨kw449, kw448, kw108, by decide +kernel, by decide⟩
theorem mfX2_isFull : MF yX2_isFull cX2_isFull 1 (some .boolean) 0 := ⟨kw329, kw328, kw0, kw108, by decide +kernel, by decide⟩
theorem mfX2_add : MF yX2_add cX2_add 2 none 1 := ⟨kw333, kw332, kw1, kw108, by decide +kernel, by decide⟩
theorem mfX2_clear : MF yX2_clear cX2_clear 1 none 0 := ⟨kw341, kw340, kw2, kw108, by decide +kernel, by decide⟩
theorem mfX2_codeAt : MF yX2_codeAt cX2_codeAt 2 (some .int) 1 := ⟨kw353, kw352, kw4, kw108, by decide +kernel, by decide⟩
theorem mfX2_firstFault : MF yX2_firstFault cX2_firstFault 5 (some .int) 0 := ⟨kw349, kw348, kw3, kw108, by decide +kernel, by decide⟩
theorem msX2_isHead : MS yX2_isHead cX2_isHead 2 (some .boolean) 2 := ⟨kw356, kw355, kw108, by decide +kernel, by decide⟩
theorem mfX2_secondMark : MF yX2_secondMark cX2_secondMark 2 (some .int) 0 := ⟨kw463, kw462, kw6, kw108, by decide +kernel, by decide⟩
theorem mfX2_isWhole : MF yX2_isWhole cX2_isWhole 1 (some .boolean) 0 := ⟨kw458, kw457, kw5, kw108, by decide +kernel, by decide⟩
theorem mfX2_readRows : MF yX2_readRows cX2_readRows 6 none 3 := ⟨kw470, kw469, kw7, kw108, by decide +kernel, by decide⟩
theorem mfX3_clear : MF yX3_clear cX3_clear 2 none 1 := ⟨kw486, kw485, kw11, kw109, by decide +kernel, by decide⟩
theorem mfX3_lineAt : MF yX3_lineAt cX3_lineAt 2 (some .int) 1 := ⟨kw734, kw733, kw49, kw109, by decide +kernel, by decide⟩
theorem mfX3_go : MF yX3_go cX3_go 4 none 1 := ⟨kw598, kw597, kw24, kw109, by decide +kernel, by decide⟩
theorem mfX3_turn : MF yX3_turn cX3_turn 9 none 3 := ⟨kw607, kw606, kw26, kw109, by decide +kernel, by decide⟩
theorem mfX3_natureOf : MF yX3_natureOf cX3_natureOf 4 (some .int) 3 := ⟨kw616, kw615, kw28, kw109, by decide +kernel, by decide⟩
theorem mfX3_enterPart : MF yX3_enterPart cX3_enterPart 4 none 3 := ⟨kw639, kw638, kw32, kw109, by decide +kernel, by decide⟩
theorem mfX3_hold : MF yX3_hold cX3_hold 6 none 3 := ⟨kw644, kw643, kw33, kw109, by decide +kernel, by decide⟩
theorem mfX3_goByBlocks : MF yX3_goByBlocks cX3_goByBlocks 8 none 3 := ⟨kw678, kw677, kw39, kw109, by decide +kernel, by decide⟩
theorem msX3_firstOf : MS yX3_firstOf cX3_firstOf 4 (some .int) 2 := ⟨kw681, kw680, kw109, by decide +kernel, by decide⟩
theorem mfX3_split : MF yX3_split cX3_split 12 none 4 := ⟨kw685, kw684, kw40, kw109, by decide +kernel, by decide⟩
theorem mfX3_residentHalf : MF yX3_residentHalf cX3_residentHalf 5 (some .int) 2 := ⟨kw693, kw692, kw42, kw109, by decide +kernel, by decide⟩
theorem mfX3_spill : MF yX3_spill cX3_spill 3 none 2 := ⟨kw697, kw696, kw43, kw109, by decide +kernel, by decide⟩
theorem mfX3_goOn : MF yX3_goOn cX3_goOn 5 none 4 := ⟨kw701, kw700, kw44, kw109, by decide +kernel, by decide⟩
theorem mfX3_noteHeld : MF yX3_noteHeld cX3_noteHeld 2 none 1 := ⟨kw648, kw647, kw34, kw109, by decide +kernel, by decide⟩
theorem mfX3_meetAll : MF yX3_meetAll cX3_meetAll 6 none 3 := ⟨kw656, kw655, kw35, kw109, by decide +kernel, by decide⟩
theorem mfX3_meet : MF yX3_meet cX3_meet 3 none 2 := ⟨kw661, kw660, kw36, kw109, by decide +kernel, by decide⟩
theorem mfX3_comeOutAlone : MF yX3_comeOutAlone cX3_comeOutAlone 4 none 2 := ⟨kw674, kw673, kw38, kw109, by decide +kernel, by decide⟩
theorem mfX4_clear : MF yX4_clear cX4_clear 1 none 0 := ⟨kw482, kw481, kw10, kw114, by decide +kernel, by decide⟩
theorem mfX4_add : MF yX4_add cX4_add 4 none 2 := ⟨kw750, kw749, kw50, kw114, by decide +kernel, by decide⟩
theorem mfX4_copy : MF yX4_copy cX4_copy 2 none 1 := ⟨kw799, kw798, kw54, kw114, by decide +kernel, by decide⟩
theorem mfX4_bestQuestion : MF yX4_bestQuestion cX4_bestQuestion 7 (some .int) 0 := ⟨kw766, kw765, kw51, kw114, by decide +kernel, by decide⟩
theorem msX4_kindsThatLetOut : MS yX4_kindsThatLetOut cX4_kindsThatLetOut 3 (some .int) 1 := ⟨kw753, kw752, kw114, by decide +kernel, by decide⟩
theorem mfX5_has : MF yX5_has cX5_has 2 (some .boolean) 1 := ⟨kw520, kw519, kw17, kw111, by decide +kernel, by decide⟩
theorem mfX5_keyAt : MF yX5_keyAt cX5_keyAt 2 (some .int) 1 := ⟨kw525, kw524, kw18, kw111, by decide +kernel, by decide⟩
theorem mfX5_clear : MF yX5_clear cX5_clear 1 none 0 := ⟨kw474, kw473, kw8, kw111, by decide +kernel, by decide⟩
theorem mfX5_add : MF yX5_add cX5_add 2 none 1 := ⟨kw478, kw477, kw9, kw111, by decide +kernel, by decide⟩
theorem mfX5_change : MF yX5_change cX5_change 3 none 2 := ⟨kw577, kw576, kw23, kw111, by decide +kernel, by decide⟩
theorem mfX5_remove : MF yX5_remove cX5_remove 3 none 1 := ⟨kw571, kw570, kw22, kw111, by decide +kernel, by decide⟩
theorem mfX5_copy : MF yX5_copy cX5_copy 3 none 1 := ⟨kw793, kw792, kw53, kw111, by decide +kernel, by decide⟩
theorem mfX5_rowsWithKey : MF yX5_rowsWithKey cX5_rowsWithKey 3 (some .int) 0 := ⟨kw603, kw602, kw25, kw111, by decide +kernel, by decide⟩
theorem mfX5_rowsWithoutKey : MF yX5_rowsWithoutKey cX5_rowsWithoutKey 1 (some .int) 0 := ⟨kw709, kw708, kw46, kw111, by decide +kernel, by decide⟩
theorem mfX5_rowsOfKey : MF yX5_rowsOfKey cX5_rowsOfKey 4 (some .int) 1 := ⟨kw537, kw536, kw20, kw111, by decide +kernel, by decide⟩
theorem mfX5_rowsWithBit : MF yX5_rowsWithBit cX5_rowsWithBit 4 (some .int) 1 := ⟨kw689, kw688, kw41, kw111, by decide +kernel, by decide⟩
theorem mfX5_haveOneKey : MF yX5_haveOneKey cX5_haveOneKey 3 (some .boolean) 1 := ⟨kw622, kw621, kw29, kw111, by decide +kernel, by decide⟩
theorem mfX5_keySet : MF yX5_keySet cX5_keySet 3 (some .int) 0 := ⟨kw811, kw810, kw55, kw111, by decide +kernel, by decide⟩
theorem mfX6_areThere : MF yX6_areThere cX6_areThere 1 (some .boolean) 0 := ⟨kw554, kw553, kw21, kw110, by decide +kernel, by decide⟩
theorem mfX6_size : MF yX6_size cX6_size 1 (some .int) 0 := ⟨kw501, kw500, kw14, kw110, by decide +kernel, by decide⟩
theorem mfX6_sideOf : MF yX6_sideOf cX6_sideOf 2 (some (.object "SpillJoin$Side")) 1 := ⟨kw516, kw515, kw16, kw110, by decide +kernel, by decide⟩
theorem mfX6_hasRow : MF yX6_hasRow cX6_hasRow 3 (some .boolean) 2 := ⟨kw509, kw508, kw15, kw110, by decide +kernel, by decide⟩
theorem mfX6_partners : MF yX6_partners cX6_partners 4 (some .int) 2 := ⟨kw529, kw528, kw19, kw110, by decide +kernel, by decide⟩
theorem mfX6_pairs : MF yX6_pairs cX6_pairs 3 (some .int) 0 := ⟨kw815, kw814, kw56, kw110, by decide +kernel, by decide⟩
theorem mfX6_buildSide : MF yX6_buildSide cX6_buildSide 3 (some .int) 2 := ⟨kw611, kw610, kw27, kw110, by decide +kernel, by decide⟩
theorem mfX6_copy : MF yX6_copy cX6_copy 2 none 1 := ⟨kw789, kw788, kw52, kw110, by decide +kernel, by decide⟩
theorem mfX7_letter : MF yX7_letter cX7_letter 2 (some .int) 1 := ⟨kw325, kw323, kw324, kw107, by decide +kernel, by decide⟩
theorem mfX7_blank : MF yX7_blank cX7_blank 2 (some .int) 0 := ⟨kw337, kw335, kw336, kw107, by decide +kernel, by decide⟩
theorem mfX7_fault : MF yX7_fault cX7_fault 1 (some .int) 0 := ⟨kw345, kw343, kw344, kw107, by decide +kernel, by decide⟩
theorem mfX7_tables : MF yX7_tables cX7_tables 2 (some .int) 0 := ⟨kw454, kw452, kw453, kw107, by decide +kernel, by decide⟩
theorem mfX7_row : MF yX7_row cX7_row 4 (some .int) 3 := ⟨kw505, kw503, kw504, kw107, by decide +kernel, by decide⟩
theorem mfX7_as : MF yX7_as cX7_as 3 (some .int) 1 := ⟨kw547, kw545, kw546, kw107, by decide +kernel, by decide⟩
theorem mfX7_put : MF yX7_put cX7_put 4 (some .int) 2 := ⟨kw558, kw556, kw557, kw107, by decide +kernel, by decide⟩
theorem mfX7_take : MF yX7_take cX7_take 5 (some .int) 2 := ⟨kw567, kw565, kw566, kw107, by decide +kernel, by decide⟩
theorem mfX7_key : MF yX7_key cX7_key 6 (some .int) 3 := ⟨kw581, kw579, kw580, kw107, by decide +kernel, by decide⟩
theorem mfX7_memory : MF yX7_memory cX7_memory 3 (some .int) 1 := ⟨kw586, kw584, kw585, kw107, by decide +kernel, by decide⟩
theorem mfX7_be : MF yX7_be cX7_be 3 (some .int) 1 := ⟨kw590, kw588, kw589, kw107, by decide +kernel, by decide⟩
theorem mfX7_run : MF yX7_run cX7_run 2 (some .int) 1 := ⟨kw594, kw592, kw593, kw107, by decide +kernel, by decide⟩
theorem mfX7_out : MF yX7_out cX7_out 3 (some .int) 2 := ⟨kw714, kw712, kw713, kw107, by decide +kernel, by decide⟩
theorem mfX7_log : MF yX7_log cX7_log 3 (some .int) 2 := ⟨kw722, kw720, kw721, kw107, by decide +kernel, by decide⟩
theorem mfX7_ledger : MF yX7_ledger cX7_ledger 2 (some .int) 1 := ⟨kw730, kw728, kw729, kw107, by decide +kernel, by decide⟩
theorem mfX7_spare : MF yX7_spare cX7_spare 4 (some .int) 0 := ⟨kw738, kw736, kw737, kw107, by decide +kernel, by decide⟩
theorem mfX7_see : MF yX7_see cX7_see 3 (some .int) 2 := ⟨kw746, kw744, kw745, kw107, by decide +kernel, by decide⟩
theorem mfX7_forget : MF yX7_forget cX7_forget 2 (some .int) 0 := ⟨kw758, kw756, kw757, kw107, by decide +kernel, by decide⟩
theorem mfX7_sorts : MF yX7_sorts cX7_sorts 2 (some .int) 1 := ⟨kw762, kw760, kw761, kw107, by decide +kernel, by decide⟩
theorem mfX7_drawn : MF yX7_drawn cX7_drawn 8 (some .int) 3 := ⟨kw772, kw770, kw771, kw107, by decide +kernel, by decide⟩
theorem mfX7_image : MF yX7_image cX7_image 1 (some .int) 0 := ⟨kw785, kw783, kw784, kw107, by decide +kernel, by decide⟩
theorem mfX7_restore : MF yX7_restore cX7_restore 1 (some .int) 0 := ⟨kw803, kw801, kw802, kw107, by decide +kernel, by decide⟩
theorem mfX7_count : MF yX7_count cX7_count 2 (some .int) 1 := ⟨kw807, kw805, kw806, kw107, by decide +kernel, by decide⟩
theorem mfX7_digest : MF yX7_digest cX7_digest 4 (some .long) 0 := ⟨kw820, kw818, kw819, kw107, by decide +kernel, by decide⟩
theorem mfX7_mixRows : MF yX7_mixRows cX7_mixRows 7 (some .long) 2 := ⟨kw825, kw824, kw57, kw107, by decide +kernel, by decide⟩
theorem msX7_mix : MS yX7_mix cX7_mix 4 (some .long) 2 := ⟨kw829, kw828, kw107, by decide +kernel, by decide⟩
theorem msX7_isSide : MS yX7_isSide cX7_isSide 1 (some .boolean) 1 := ⟨kw512, kw511, kw107, by decide +kernel, by decide⟩
theorem msX7_otherSide : MS yX7_otherSide cX7_otherSide 1 (some .int) 1 := ⟨kw533, kw532, kw107, by decide +kernel, by decide⟩
theorem msX7_isKind : MS yX7_isKind cX7_isKind 1 (some .boolean) 1 := ⟨kw550, kw549, kw107, by decide +kernel, by decide⟩
theorem msX7_isKeyOrNone : MS yX7_isKeyOrNone cX7_isKeyOrNone 1 (some .boolean) 1 := ⟨kw562, kw561, kw107, by decide +kernel, by decide⟩
theorem msX7_comesOutBy : MS yX7_comesOutBy cX7_comesOutBy 2 (some .boolean) 2 := ⟨kw664, kw663, kw107, by decide +kernel, by decide⟩
theorem msX7_isIn : MS yX7_isIn cX7_isIn 2 (some .boolean) 2 := ⟨kw652, kw651, kw107, by decide +kernel, by decide⟩
theorem msX7_drawRows : MS yX7_drawRows cX7_drawRows 6 (some .int) 2 := ⟨kw775, kw774, kw107, by decide +kernel, by decide⟩
theorem msX8_within : MS yX8_within cX8_within 3 (some .boolean) 3 := ⟨kw1040, kw1039, kw115, by decide +kernel, by decide⟩
theorem msX8_isIn : MS yX8_isIn cX8_isIn 2 (some .boolean) 2 := ⟨kw1166, kw1165, kw115, by decide +kernel, by decide⟩
theorem msX8_size : MS yX8_size cX8_size 3 (some .int) 1 := ⟨kw1147, kw1146, kw115, by decide +kernel, by decide⟩
theorem mfX8_letter : MF yX8_letter cX8_letter 2 (some .int) 1 := ⟨kw1037, kw1035, kw1036, kw115, by decide +kernel, by decide⟩
theorem mfX8_blank : MF yX8_blank cX8_blank 2 (some .int) 0 := ⟨kw1044, kw1042, kw1043, kw115, by decide +kernel, by decide⟩
theorem msX8_kindBy : MS yX8_kindBy cX8_kindBy 1 (some .int) 1 := ⟨kw1059, kw1058, kw115, by decide +kernel, by decide⟩
theorem mfX8_at : MF yX8_at cX8_at 2 (some .int) 1 := ⟨kw1056, kw1055, kw60, kw115, by decide +kernel, by decide⟩
theorem mfX8_isRowAt : MF yX8_isRowAt cX8_isRowAt 2 (some .boolean) 1 := ⟨kw1067, kw1066, kw62, kw115, by decide +kernel, by decide⟩
theorem mfX8_rowsFrom : MF yX8_rowsFrom cX8_rowsFrom 3 (some .int) 1 := ⟨kw1063, kw1062, kw61, kw115, by decide +kernel, by decide⟩
theorem mfX8_read : MF yX8_read cX8_read 2 (some .int) 0 := ⟨kw1052, kw1051, kw59, kw115, by decide +kernel, by decide⟩
theorem mfX8_fault : MF yX8_fault cX8_fault 1 (some .int) 0 := ⟨kw1048, kw1046, kw1047, kw115, by decide +kernel, by decide⟩
theorem msX8_keyBy : MS yX8_keyBy cX8_keyBy 1 (some .int) 1 := ⟨kw1074, kw1073, kw115, by decide +kernel, by decide⟩
theorem mfX8_tables : MF yX8_tables cX8_tables 2 (some .int) 0 := ⟨kw1071, kw1069, kw1070, kw115, by decide +kernel, by decide⟩
theorem msX8_isSide : MS yX8_isSide cX8_isSide 1 (some .boolean) 1 := ⟨kw1085, kw1084, kw115, by decide +kernel, by decide⟩
theorem mfX8_isRow : MF yX8_isRow cX8_isRow 3 (some .boolean) 2 := ⟨kw1082, kw1081, kw63, kw115, by decide +kernel, by decide⟩
theorem mfX8_keyAt : MF yX8_keyAt cX8_keyAt 3 (some .int) 2 := ⟨kw1093, kw1092, kw65, kw115, by decide +kernel, by decide⟩
theorem mfX8_partnersOf : MF yX8_partnersOf cX8_partnersOf 5 (some .int) 2 := ⟨kw1097, kw1096, kw66, kw115, by decide +kernel, by decide⟩
theorem mfX8_rowNow : MF yX8_rowNow cX8_rowNow 4 (some .int) 3 := ⟨kw1089, kw1088, kw64, kw115, by decide +kernel, by decide⟩
theorem mfX8_row : MF yX8_row cX8_row 4 (some .int) 3 := ⟨kw1078, kw1076, kw1077, kw115, by decide +kernel, by decide⟩
theorem mfX8_as : MF yX8_as cX8_as 2 (some .int) 1 := ⟨kw1101, kw1099, kw1100, kw115, by decide +kernel, by decide⟩
theorem msX8_isKey : MS yX8_isKey cX8_isKey 1 (some .boolean) 1 := ⟨kw1108, kw1107, kw115, by decide +kernel, by decide⟩
theorem mfX8_put : MF yX8_put cX8_put 3 (some .int) 2 := ⟨kw1105, kw1103, kw1104, kw115, by decide +kernel, by decide⟩
theorem mfX8_take : MF yX8_take cX8_take 5 (some .int) 2 := ⟨kw1112, kw1110, kw1111, kw115, by decide +kernel, by decide⟩
theorem mfX8_key : MF yX8_key cX8_key 5 (some .int) 3 := ⟨kw1116, kw1114, kw1115, kw115, by decide +kernel, by decide⟩
theorem mfX8_memory : MF yX8_memory cX8_memory 3 (some .int) 1 := ⟨kw1120, kw1118, kw1119, kw115, by decide +kernel, by decide⟩
theorem mfX8_be : MF yX8_be cX8_be 3 (some .int) 1 := ⟨kw1124, kw1122, kw1123, kw115, by decide +kernel, by decide⟩
theorem mfX8_noteLog : MF yX8_noteLog cX8_noteLog 4 none 3 := ⟨kw1155, kw1154, kw72, kw115, by decide +kernel, by decide⟩
theorem mfX8_openOne : MF yX8_openOne cX8_openOne 2 none 1 := ⟨kw1151, kw1150, kw71, kw115, by decide +kernel, by decide⟩
theorem mfX8_shutOne : MF yX8_shutOne cX8_shutOne 1 none 0 := ⟨kw1226, kw1225, kw89, kw115, by decide +kernel, by decide⟩
theorem mfX8_come : MF yX8_come cX8_come 3 none 2 := ⟨kw1178, kw1177, kw77, kw115, by decide +kernel, by decide⟩
theorem mfX8_comesAlone : MF yX8_comesAlone cX8_comesAlone 2 (some .boolean) 1 := ⟨kw1186, kw1185, kw79, kw115, by decide +kernel, by decide⟩
theorem mfX8_alone : MF yX8_alone cX8_alone 3 none 2 := ⟨kw1182, kw1181, kw78, kw115, by decide +kernel, by decide⟩
theorem mfX8_meet : MF yX8_meet cX8_meet 3 none 2 := ⟨kw1174, kw1173, kw76, kw115, by decide +kernel, by decide⟩
theorem mfX8_inMemory : MF yX8_inMemory cX8_inMemory 2 none 1 := ⟨kw1163, kw1162, kw74, kw115, by decide +kernel, by decide⟩
theorem mfX8_meetAll : MF yX8_meetAll cX8_meetAll 6 none 3 := ⟨kw1170, kw1169, kw75, kw115, by decide +kernel, by decide⟩
theorem mfX8_aloneOnes : MF yX8_aloneOnes cX8_aloneOnes 4 none 2 := ⟨kw1190, kw1189, kw80, kw115, by decide +kernel, by decide⟩
theorem mfX8_holdNow : MF yX8_holdNow cX8_holdNow 5 none 3 := ⟨kw1159, kw1158, kw73, kw115, by decide +kernel, by decide⟩
theorem mfX8_firstOf : MF yX8_firstOf cX8_firstOf 6 (some .int) 2 := ⟨kw1202, kw1201, kw83, kw115, by decide +kernel, by decide⟩
theorem mfX8_blocksNow : MF yX8_blocksNow cX8_blocksNow 7 none 3 := ⟨kw1198, kw1197, kw82, kw115, by decide +kernel, by decide⟩
theorem mfX8_isOneKey : MF yX8_isOneKey cX8_isOneKey 6 (some .boolean) 2 := ⟨kw1194, kw1193, kw81, kw115, by decide +kernel, by decide⟩
theorem mfX8_half : MF yX8_half cX8_half 7 (some .int) 4 := ⟨kw1218, kw1217, kw87, kw115, by decide +kernel, by decide⟩
theorem mfX8_halfOf : MF yX8_halfOf cX8_halfOf 4 (some .int) 3 := ⟨kw1214, kw1213, kw86, kw115, by decide +kernel, by decide⟩
theorem mfX8_rowsOfHalf : MF yX8_rowsOfHalf cX8_rowsOfHalf 3 (some .int) 2 := ⟨kw1222, kw1221, kw88, kw115, by decide +kernel, by decide⟩
theorem mfX8_resident : MF yX8_resident cX8_resident 6 (some .int) 2 := ⟨kw1210, kw1209, kw85, kw115, by decide +kernel, by decide⟩
theorem mfX8_splitNow : MF yX8_splitNow cX8_splitNow 4 none 2 := ⟨kw1206, kw1205, kw84, kw115, by decide +kernel, by decide⟩
theorem mfX8_turn : MF yX8_turn cX8_turn 7 (some .boolean) 3 := ⟨kw1144, kw1143, kw70, kw115, by decide +kernel, by decide⟩
theorem mfX8_shutPart : MF yX8_shutPart cX8_shutPart 3 none 1 := ⟨kw1234, kw1233, kw91, kw115, by decide +kernel, by decide⟩
theorem mfX8_nextHalf : MF yX8_nextHalf cX8_nextHalf 3 (some .int) 1 := ⟨kw1230, kw1229, kw90, kw115, by decide +kernel, by decide⟩
theorem mfX8_withKeys : MF yX8_withKeys cX8_withKeys 5 (some .int) 2 := ⟨kw1140, kw1139, kw69, kw115, by decide +kernel, by decide⟩
theorem mfX8_clearRun : MF yX8_clearRun cX8_clearRun 1 none 0 := ⟨kw1136, kw1135, kw68, kw115, by decide +kernel, by decide⟩
theorem mfX8_runNow : MF yX8_runNow cX8_runNow 6 none 1 := ⟨kw1132, kw1131, kw67, kw115, by decide +kernel, by decide⟩
theorem mfX8_clearTold : MF yX8_clearTold cX8_clearTold 2 none 0 := ⟨kw846, kw845, kw58, kw115, by decide +kernel, by decide⟩
theorem mfX8_tell : MF yX8_tell cX8_tell 2 none 0 := ⟨kw1238, kw1237, kw92, kw115, by decide +kernel, by decide⟩
theorem mfX8_run : MF yX8_run cX8_run 2 (some .int) 1 := ⟨kw1128, kw1126, kw1127, kw115, by decide +kernel, by decide⟩
theorem mfX8_outNow : MF yX8_outNow cX8_outNow 3 (some .int) 2 := ⟨kw1246, kw1245, kw93, kw115, by decide +kernel, by decide⟩
theorem mfX8_out : MF yX8_out cX8_out 3 (some .int) 2 := ⟨kw1242, kw1240, kw1241, kw115, by decide +kernel, by decide⟩
theorem mfX8_logNow : MF yX8_logNow cX8_logNow 3 (some .int) 2 := ⟨kw1254, kw1253, kw94, kw115, by decide +kernel, by decide⟩
theorem mfX8_log : MF yX8_log cX8_log 3 (some .int) 2 := ⟨kw1250, kw1248, kw1249, kw115, by decide +kernel, by decide⟩
theorem mfX8_ledger : MF yX8_ledger cX8_ledger 2 (some .int) 1 := ⟨kw1258, kw1256, kw1257, kw115, by decide +kernel, by decide⟩
theorem mfX8_spareNow : MF yX8_spareNow cX8_spareNow 4 (some .int) 0 := ⟨kw1266, kw1265, kw95, kw115, by decide +kernel, by decide⟩
theorem mfX8_spare : MF yX8_spare cX8_spare 1 (some .int) 0 := ⟨kw1262, kw1260, kw1261, kw115, by decide +kernel, by decide⟩
theorem msX8_could : MS yX8_could cX8_could 2 (some .boolean) 2 := ⟨kw1286, kw1285, kw115, by decide +kernel, by decide⟩
theorem mfX8_see : MF yX8_see cX8_see 3 (some .int) 2 := ⟨kw1271, kw1269, kw1270, kw115, by decide +kernel, by decide⟩
theorem mfX8_forget : MF yX8_forget cX8_forget 2 (some .int) 0 := ⟨kw1275, kw1273, kw1274, kw115, by decide +kernel, by decide⟩
theorem mfX8_sortsNow : MF yX8_sortsNow cX8_sortsNow 5 (some .int) 0 := ⟨kw1283, kw1282, kw96, kw115, by decide +kernel, by decide⟩
theorem mfX8_askNow : MF yX8_askNow cX8_askNow 8 (some .int) 0 := ⟨kw1290, kw1289, kw97, kw115, by decide +kernel, by decide⟩
theorem mfX8_sorts : MF yX8_sorts cX8_sorts 2 (some .int) 1 := ⟨kw1279, kw1277, kw1278, kw115, by decide +kernel, by decide⟩
theorem mfX8_draw : MF yX8_draw cX8_draw 2 (some .int) 1 := ⟨kw1302, kw1301, kw99, kw115, by decide +kernel, by decide⟩
theorem mfX8_drawnNow : MF yX8_drawnNow cX8_drawnNow 11 (some .int) 3 := ⟨kw1298, kw1297, kw98, kw115, by decide +kernel, by decide⟩
theorem mfX8_drawn : MF yX8_drawn cX8_drawn 4 (some .int) 3 := ⟨kw1294, kw1292, kw1293, kw115, by decide +kernel, by decide⟩
theorem mfX8_image : MF yX8_image cX8_image 2 (some .int) 0 := ⟨kw1310, kw1308, kw1309, kw115, by decide +kernel, by decide⟩
theorem mfX8_restore : MF yX8_restore cX8_restore 2 (some .int) 0 := ⟨kw1314, kw1312, kw1313, kw115, by decide +kernel, by decide⟩
theorem mfX8_keysOfAll : MF yX8_keysOfAll cX8_keysOfAll 4 (some .int) 0 := ⟨kw1326, kw1325, kw101, kw115, by decide +kernel, by decide⟩
theorem mfX8_pairs : MF yX8_pairs cX8_pairs 3 (some .int) 0 := ⟨kw1330, kw1329, kw102, kw115, by decide +kernel, by decide⟩
theorem mfX8_howMany : MF yX8_howMany cX8_howMany 2 (some .int) 1 := ⟨kw1322, kw1321, kw100, kw115, by decide +kernel, by decide⟩
theorem mfX8_count : MF yX8_count cX8_count 2 (some .int) 1 := ⟨kw1318, kw1316, kw1317, kw115, by decide +kernel, by decide⟩
theorem mfX8_mix : MF yX8_mix cX8_mix 3 none 1 := ⟨kw1343, kw1342, kw104, kw115, by decide +kernel, by decide⟩
theorem mfX8_mixRows : MF yX8_mixRows cX8_mixRows 3 none 0 := ⟨kw1339, kw1338, kw103, kw115, by decide +kernel, by decide⟩
theorem mfX8_mixTold : MF yX8_mixTold cX8_mixTold 3 none 0 := ⟨kw1348, kw1347, kw105, kw115, by decide +kernel, by decide⟩
theorem mfX8_digest : MF yX8_digest cX8_digest 2 (some .long) 0 := ⟨kw1334, kw1332, kw1333, kw115, by decide +kernel, by decide⟩
theorem msJ6_numberOfTrailingZeros_0f7a4 : MS yJ6_numberOfTrailingZeros_0f7a4 cJ6_numberOfTrailingZeros_0f7a4 2 (some .int) 1 := ⟨kw625, kw624, kw123, by decide +kernel, by decide⟩
theorem msJ6_bitCount_0f7a4 : MS yJ6_bitCount_0f7a4 cJ6_bitCount_0f7a4 1 (some .int) 1 := ⟨kw540, kw539, kw123, by decide +kernel, by decide⟩
theorem mfJ0_length_8abf5 : MF yJ0_length_8abf5 cJ0_length_8abf5 1 (some .int) 0 := ⟨kw378, kw376, kw377, kw116, by decide +kernel, by decide⟩
theorem mfJ0_indexOf_0f7a4 : MF yJ0_indexOf_0f7a4 cJ0_indexOf_0f7a4 2 (some .int) 1 := ⟨kw364, kw362, kw363, kw116, by decide +kernel, by decide⟩
theorem mfJ0_indexOf_7cf53 : MF yJ0_indexOf_7cf53 cJ0_indexOf_7cf53 3 (some .int) 2 := ⟨kw368, kw366, kw367, kw116, by decide +kernel, by decide⟩
theorem mfJ0_coder_7d493 : MF yJ0_coder_7d493 cJ0_coder_7d493 1 (some .byte) 0 := ⟨kw382, kw380, kw381, kw116, by decide +kernel, by decide⟩
theorem mfJ0_isLatin1_aae02 : MF yJ0_isLatin1_aae02 cJ0_isLatin1_aae02 1 (some .boolean) 0 := ⟨kw372, kw370, kw371, kw116, by decide +kernel, by decide⟩
theorem msJ0_checkBoundsBeginEnd_23922 : MS yJ0_checkBoundsBeginEnd_23922 cJ0_checkBoundsBeginEnd_23922 3 none 3 := ⟨kw415, kw414, kw116, by decide +kernel, by decide⟩
theorem msJ1_canEncode_9a6ad : MS yJ1_canEncode_9a6ad cJ1_canEncode_9a6ad 1 (some .boolean) 1 := ⟨kw388, kw387, kw117, by decide +kernel, by decide⟩
theorem msJ1_indexOf_4cfef : MS yJ1_indexOf_4cfef cJ1_indexOf_4cfef 4 (some .int) 4 := ⟨kw385, kw384, kw117, by decide +kernel, by decide⟩
theorem msJ1_indexOfChar_4cfef : MS yJ1_indexOfChar_4cfef cJ1_indexOfChar_4cfef 6 (some .int) 4 := ⟨kw397, kw396, kw117, by decide +kernel, by decide⟩
theorem msJ7_fill_53178 : MS yJ7_fill_53178 cJ7_fill_53178 4 none 2 := ⟨kw497, kw496, kw122, by decide +kernel, by decide⟩
end
section
theorem kwMaxC : (Cond.code Lib.Math.max.name Lib.Math.max.code 2 (some .int)) ∈ tb := tb_mem 391 (by decide +kernel) rfl
theorem kwMaxS : (Cond.static Lib.Math.max.name) ∈ tb := tb_mem 390 (by decide +kernel) rfl
theorem kwMaxI : (Cond.initialized "java/lang/Math") ∈ tb := tb_mem 118 (by decide +kernel) rfl
section Max
variable {p : Program} {l : Launch} {e : Env} {R : Room} {s : State} {m : MethodId} {args : Array Value} {below : List Frame} {meth : Method} {c : Code} {H : Heap} {locs : List Loc} {cells slots : Nat} {Q : State → Prop}
variable {own : String} {cc : ByteArray} {nL : Nat} {ret : Option FieldType} {d : Nat} {A : Nat → Prop} {g : Nat → Nat} {D : va_G} {tys : List (ClassId × FieldType)} {pc : Nat} {ls : Array Slot} {rest : List Value}
theorem kMax {idx : Nat} {x y : Int32} (B : Bd own cc nL ret d A g D tys p R s m args meth c) (hl : Cond.methodLink own idx Lib.Math.max.name ∈ tb) (hd : 1 ≤ d) (hr : (rest.map fun v => v.category).sum ≤ 8) (hls : ls.size = nL) (hcs : cells ≤ R.cells ∧ slots ≤ R.slots) (hdg : decode cc pc = .ok (.invokestatic idx, 3))
    (kk : W p l e R s m args below meth c H locs cells slots Q (F0 m (pc + 3) ls (.int (if x < y then y else x) :: rest))) : W p l e R s m args below meth c H locs cells slots Q (F0 m pc ls (.int y :: .int x :: rest)) := by
  obtain ⟨b1, b2, b3, b4, b5, b6, b7, b8, b9, b10, b11, b12⟩ := B
  exact va_mmax b1 b2 (b3.trans hls.symm) b4 (b5 _ hl) (b5 _ kwMaxS) (b5 _ kwMaxI) (b5 _ kwMaxC) (by omega) (by omega) hcs.1 hcs.2 hdg kk
end Max
theorem sw_out {x : Int32} (n : Nat) (hn : n < 2 ^ 31) (h : ∀ k, k < n → ¬ x = nI k) : x.toInt < 0 ∨ ((n : Int) - 1) < x.toInt := by
  rcases pk_ix x hn with q | q | ⟨j, q1, q2⟩
  · exact Or.inl (Int32.lt_iff_toInt_lt.mp q)
  · refine Or.inr ?_
    have q2 := Int32.le_iff_toInt_le.mp q
    rw [nI_toInt hn] at q2
    omega
  · exact absurd q2 (h j q1)
end
section
section
variable {l : Launch} {p : Program} {e : Env} {R : Room} {S : State} {m : MethodId} {args : Array Value} {below : List Frame} {meth : Method} {c : Code} {A : Nat → Prop} {g : Nat → Nat} {D : va_G} {cI cB : ClassId}
def fX5_has (z : SX5) (x1 : Int32) : Option Int32 :=
    if x1 < 0 then (some 0) else
    (if z.2 ≤ x1 then (some 0) else
    (if 14 ≤ x1 then (some 0) else
    (some 1)))
set_option maxRecDepth 100000 in
set_option maxHeartbeats 4000000 in
theorem tX5_has {a0 a1 p0 p1 : Nat} {wf : SX5 → va_W} (L : LnX5 a0 a1 p0 p1 cI wf) {d : Nat} (hd : 1 ≤ d) {z : SX5} {x1 : Int32} {q : Int32} (h : fX5_has z x1 = some q) : Ct l yX5_has cX5_has 2 (some .boolean) d A g D [(cI, .int), (cB, .byte)] [.ref a0, .int x1] (wf z) (QI A D (wf z) q) := by
  refine mkM (by decide) (Nat.le_of_ble_eq_true rfl) ?_
  intro p e S m args below meth c B X ls hl
  have B : Bd RX5 cX5_has 2 (some .boolean) d A g D [(cI, .int), (cB, .byte)] p (rmd d) S m args meth c := B
  have hx := B.1
  have hb := B.2.1
  have hd1 : 1 ≤ d := by omega
  have hl : lv_has ls 2 [(0, .ref a0), (1, .int x1)] := hl
  unfold fX5_has at h
  refine lv_iload_n hx hb dX5_has_0 rfl (lv_at hl 1 rfl) ?_
  refine lv_if_lt (tgt := 22) hx hb dX5_has_1 (by decide) (fun hc1 => ?_) (fun hc1 => ?_)
  · have h := it h hc1
    refine lv_iconst (v := 0) hx hb dX5_has_22 (by decide) ?_
    exact rZ B X rfl (Option.some.inj h) rfl dX5_has_23
  · have h := ie h hc1
    refine lv_iload_n hx hb dX5_has_4 rfl (lv_at hl 1 rfl) ?_
    refine lv_aload_n hx hb dX5_has_5 rfl (lv_at hl 0 rfl) ?_
    refine fG B X (LnX5_g L z) 1 rfl inTX5 (by decide) kw166 rfl dX5_has_6 ?_
    refine lv_icmp_ge (tgt := 22) hx hb dX5_has_9 (by decide) (fun hc2 => ?_) (fun hc2 => ?_)
    · have h := it h hc2
      refine lv_iconst (v := 0) hx hb dX5_has_22 (by decide) ?_
      exact rZ B X rfl (Option.some.inj h) rfl dX5_has_23
    · have h := ie h hc2
      refine lv_iload_n hx hb dX5_has_12 rfl (lv_at hl 1 rfl) ?_
      refine lv_bipush (v := 14) hx hb dX5_has_13 (by decide) ?_
      refine lv_icmp_ge (tgt := 22) hx hb dX5_has_15 (by decide) (fun hc3 => ?_) (fun hc3 => ?_)
      · have h := it h hc3
        refine lv_iconst (v := 0) hx hb dX5_has_22 (by decide) ?_
        exact rZ B X rfl (Option.some.inj h) rfl dX5_has_23
      · have h := ie h hc3
        refine lv_iconst (v := 1) hx hb dX5_has_18 (by decide) ?_
        refine lv_goto (tgt := 23) hx hb dX5_has_19 (by decide) ?_
        exact rZ B X rfl (Option.some.inj h) rfl dX5_has_23
def fX5_keyAt (z : SX5) (x1 : Int32) : Option Int32 :=
    if x1 < 0 then (some (-1)) else
    (if z.2 ≤ x1 then (some (-1)) else
    (if 14 ≤ x1 then (some (-1)) else
    (if x1 < 0 ∨ 14 ≤ x1.toNatClampNeg then none else
    (some (z.1 x1.toNatClampNeg)))))
set_option maxRecDepth 100000 in
set_option maxHeartbeats 4000000 in
theorem tX5_keyAt {a0 a1 p0 p1 : Nat} {wf : SX5 → va_W} (L : LnX5 a0 a1 p0 p1 cI wf) {d : Nat} (hd : 1 ≤ d) {z : SX5} {x1 : Int32} {q : Int32} (h : fX5_keyAt z x1 = some q) : Ct l yX5_keyAt cX5_keyAt 2 (some .int) d A g D [(cI, .int), (cB, .byte)] [.ref a0, .int x1] (wf z) (QI A D (wf z) q) := by
  refine mkM (by decide) (Nat.le_of_ble_eq_true rfl) ?_
  intro p e S m args below meth c B X ls hl
  have B : Bd RX5 cX5_keyAt 2 (some .int) d A g D [(cI, .int), (cB, .byte)] p (rmd d) S m args meth c := B
  have hx := B.1
  have hb := B.2.1
  have hd1 : 1 ≤ d := by omega
  have hl : lv_has ls 2 [(0, .ref a0), (1, .int x1)] := hl
  unfold fX5_keyAt at h
  refine lv_iload_n hx hb dX5_keyAt_0 rfl (lv_at hl 1 rfl) ?_
  refine lv_if_lt (tgt := 27) hx hb dX5_keyAt_1 (by decide) (fun hc1 => ?_) (fun hc1 => ?_)
  · have h := it h hc1
    refine lv_iconst (v := (-1)) hx hb dX5_keyAt_27 (by decide) ?_
    exact rI B X rfl (Option.some.inj h) dX5_keyAt_28
  · have h := ie h hc1
    refine lv_iload_n hx hb dX5_keyAt_4 rfl (lv_at hl 1 rfl) ?_
    refine lv_aload_n hx hb dX5_keyAt_5 rfl (lv_at hl 0 rfl) ?_
    refine fG B X (LnX5_g L z) 1 rfl inTX5 (by decide) kw166 rfl dX5_keyAt_6 ?_
    refine lv_icmp_ge (tgt := 27) hx hb dX5_keyAt_9 (by decide) (fun hc2 => ?_) (fun hc2 => ?_)
    · have h := it h hc2
      refine lv_iconst (v := (-1)) hx hb dX5_keyAt_27 (by decide) ?_
      exact rI B X rfl (Option.some.inj h) dX5_keyAt_28
    · have h := ie h hc2
      refine lv_iload_n hx hb dX5_keyAt_12 rfl (lv_at hl 1 rfl) ?_
      refine lv_bipush (v := 14) hx hb dX5_keyAt_13 (by decide) ?_
      refine lv_icmp_ge (tgt := 27) hx hb dX5_keyAt_15 (by decide) (fun hc3 => ?_) (fun hc3 => ?_)
      · have h := it h hc3
        refine lv_iconst (v := (-1)) hx hb dX5_keyAt_27 (by decide) ?_
        exact rI B X rfl (Option.some.inj h) dX5_keyAt_28
      · have h := ie h hc3
        refine lv_aload_n hx hb dX5_keyAt_18 rfl (lv_at hl 0 rfl) ?_
        refine fG B X (LnX5_g L z) 0 rfl inTX5 (by decide) kw165 rfl dX5_keyAt_19 ?_
        refine lv_iload_n hx hb dX5_keyAt_22 rfl (lv_at hl 1 rfl) ?_
        by_cases hc4 : (x1 < 0 ∨ 14 ≤ x1.toNatClampNeg)
        · cases it h hc4
        have h := ie h hc4
        refine aG B X (LnX5_a0 L z) 0 rfl hc4 dX5_keyAt_23 ?_
        refine lv_goto (tgt := 28) hx hb dX5_keyAt_24 (by decide) ?_
        exact rI B X rfl (Option.some.inj h) dX5_keyAt_28
def fX5_clear (z : SX5) : Option SX5 :=
    some (z.1, 0)
set_option maxRecDepth 100000 in
set_option maxHeartbeats 4000000 in
theorem tX5_clear {a0 a1 p0 p1 : Nat} {wf : SX5 → va_W} (L : LnX5 a0 a1 p0 p1 cI wf) {d : Nat} (hd : 1 ≤ d) {z : SX5} {q : SX5} (h : fX5_clear z = some q) : Ct l yX5_clear cX5_clear 1 none d A g D [(cI, .int), (cB, .byte)] [.ref a0] (wf z) (QV A D (wf q)) := by
  refine mkM (by decide) (Nat.le_of_ble_eq_true rfl) ?_
  intro p e S m args below meth c B X ls hl
  have B : Bd RX5 cX5_clear 1 none d A g D [(cI, .int), (cB, .byte)] p (rmd d) S m args meth c := B
  have hx := B.1
  have hb := B.2.1
  have hd1 : 1 ≤ d := by omega
  have hl : lv_has ls 1 [(0, .ref a0)] := hl
  unfold fX5_clear at h
  refine lv_aload_n hx hb dX5_clear_0 rfl (lv_at hl 0 rfl) ?_
  refine lv_iconst (v := 0) hx hb dX5_clear_1 (by decide) ?_
  refine fP tyX5 B X (LnX5_g L z) 1 (LnX5_i1 L z _) rfl inTX5 tyX5_ok nmX5 (by decide) kw166 rfl rfl rfl rfl (Nat.le_of_ble_eq_true rfl) dX5_clear_2 (fun H locs X => ?_)
  have X : Hx A D S.heap (wf (z.1, 0)) H locs := X
  exact rV B X (congrArg wf (Option.some.inj h)) dX5_clear_5
def fX5_add (z : SX5) (x1 : Int32) : Option SX5 :=
    if z.2 < 0 then (some z) else
    (if 14 ≤ z.2 then (some z) else
    (if z.2 < 0 ∨ 14 ≤ z.2.toNatClampNeg then none else
    (some ((upd z.1 z.2.toNatClampNeg x1), (z.2 + 1)))))
set_option maxRecDepth 100000 in
set_option maxHeartbeats 4000000 in
theorem tX5_add {a0 a1 p0 p1 : Nat} {wf : SX5 → va_W} (L : LnX5 a0 a1 p0 p1 cI wf) {d : Nat} (hd : 1 ≤ d) {z : SX5} {x1 : Int32} {q : SX5} (h : fX5_add z x1 = some q) : Ct l yX5_add cX5_add 2 none d A g D [(cI, .int), (cB, .byte)] [.ref a0, .int x1] (wf z) (QV A D (wf q)) := by
  refine mkM (by decide) (Nat.le_of_ble_eq_true rfl) ?_
  intro p e S m args below meth c B X ls hl
  have B : Bd RX5 cX5_add 2 none d A g D [(cI, .int), (cB, .byte)] p (rmd d) S m args meth c := B
  have hx := B.1
  have hb := B.2.1
  have hd1 : 1 ≤ d := by omega
  have hl : lv_has ls 2 [(0, .ref a0), (1, .int x1)] := hl
  unfold fX5_add at h
  refine lv_aload_n hx hb dX5_add_0 rfl (lv_at hl 0 rfl) ?_
  refine fG B X (LnX5_g L z) 1 rfl inTX5 (by decide) kw166 rfl dX5_add_1 ?_
  refine lv_if_lt (tgt := 36) hx hb dX5_add_4 (by decide) (fun hc1 => ?_) (fun hc1 => ?_)
  · have h := it h hc1
    exact rV B X (congrArg wf (Option.some.inj h)) dX5_add_36
  · have h := ie h hc1
    refine lv_aload_n hx hb dX5_add_7 rfl (lv_at hl 0 rfl) ?_
    refine fG B X (LnX5_g L z) 1 rfl inTX5 (by decide) kw166 rfl dX5_add_8 ?_
    refine lv_bipush (v := 14) hx hb dX5_add_11 (by decide) ?_
    refine lv_icmp_ge (tgt := 36) hx hb dX5_add_13 (by decide) (fun hc2 => ?_) (fun hc2 => ?_)
    · have h := it h hc2
      exact rV B X (congrArg wf (Option.some.inj h)) dX5_add_36
    · have h := ie h hc2
      refine lv_aload_n hx hb dX5_add_16 rfl (lv_at hl 0 rfl) ?_
      refine fG B X (LnX5_g L z) 0 rfl inTX5 (by decide) kw165 rfl dX5_add_17 ?_
      refine lv_aload_n hx hb dX5_add_20 rfl (lv_at hl 0 rfl) ?_
      refine fG B X (LnX5_g L z) 1 rfl inTX5 (by decide) kw166 rfl dX5_add_21 ?_
      refine lv_iload_n hx hb dX5_add_24 rfl (lv_at hl 1 rfl) ?_
      by_cases hc3 : (z.2 < 0 ∨ 14 ≤ z.2.toNatClampNeg)
      · cases it h hc3
      have h := ie h hc3
      refine aP B X (LnX5_a0 L z) (LnX5_b0 L z _) 0 rfl hc3 dX5_add_25 (fun H locs X => ?_)
      have X : Hx A D S.heap (wf ((upd z.1 z.2.toNatClampNeg x1), z.2)) H locs := X
      refine lv_aload_n hx hb dX5_add_26 rfl (lv_at hl 0 rfl) ?_
      refine lv_dup hx hb dX5_add_27 rfl ?_
      refine fG B X (LnX5_g L ((upd z.1 z.2.toNatClampNeg x1), z.2)) 1 rfl inTX5 (by decide) kw166 rfl dX5_add_28 ?_
      refine lv_iconst (v := 1) hx hb dX5_add_31 (by decide) ?_
      refine lv_iadd hx hb dX5_add_32 ?_
      refine fP tyX5 B X (LnX5_g L ((upd z.1 z.2.toNatClampNeg x1), z.2)) 1 (LnX5_i1 L ((upd z.1 z.2.toNatClampNeg x1), z.2) _) rfl inTX5 tyX5_ok nmX5 (by decide) kw166 rfl rfl rfl rfl (Nat.le_of_ble_eq_true rfl) dX5_add_33 (fun H locs X => ?_)
      have X : Hx A D S.heap (wf ((upd z.1 z.2.toNatClampNeg x1), (z.2 + 1))) H locs := X
      exact rV B X (congrArg wf (Option.some.inj h)) dX5_add_36
def fX5_change (z : SX5) (x1 : Int32) (x2 : Int32) : Option SX5 :=
    (fX5_has z x1).bind fun q1 =>
    if q1 = 0 then (some z) else
    (if x1 < 0 ∨ 14 ≤ x1.toNatClampNeg then none else
    (some ((upd z.1 x1.toNatClampNeg x2), z.2)))
set_option maxRecDepth 100000 in
set_option maxHeartbeats 4000000 in
theorem tX5_change {a0 a1 p0 p1 : Nat} {wf : SX5 → va_W} (L : LnX5 a0 a1 p0 p1 cI wf) {d : Nat} (hd : 2 ≤ d) {z : SX5} {x1 x2 : Int32} {q : SX5} (h : fX5_change z x1 x2 = some q) : Ct l yX5_change cX5_change 3 none d A g D [(cI, .int), (cB, .byte)] [.ref a0, .int x1, .int x2] (wf z) (QV A D (wf q)) := by
  refine mkM (by decide) (Nat.le_of_ble_eq_true rfl) ?_
  intro p e S m args below meth c B X ls hl
  have B : Bd RX5 cX5_change 3 none d A g D [(cI, .int), (cB, .byte)] p (rmd d) S m args meth c := B
  have hx := B.1
  have hb := B.2.1
  have hd1 : 1 ≤ d := by omega
  have hl : lv_has ls 3 [(0, .ref a0), (1, .int x1), (2, .int x2)] := hl
  unfold fX5_change at h
  refine lv_aload_n hx hb dX5_change_0 rfl (lv_at hl 0 rfl) ?_
  refine lv_iload_n hx hb dX5_change_1 rfl (lv_at hl 1 rfl) ?_
  obtain ⟨q1, h1, h⟩ := bs h
  refine kI X (cV (As := [.int x1]) (rest := []) B X (tX5_has (d := d - 1) L (by omega) h1) mfX5_has kw572 (by omega) (LnX5_g L z) rfl rfl (Nat.le_of_ble_eq_true rfl) hl.1 ⟨Nat.zero_le _, Nat.zero_le _⟩ dX5_change_2) (fun H locs X => ?_)
  have X : Hx A D S.heap (wf z) H locs := X
  refine lv_if_eq (tgt := 15) hx hb dX5_change_5 (by decide) (fun hc2 => ?_) (fun hc2 => ?_)
  · have h := it h hc2
    exact rV B X (congrArg wf (Option.some.inj h)) dX5_change_15
  · have h := ie h hc2
    refine lv_aload_n hx hb dX5_change_8 rfl (lv_at hl 0 rfl) ?_
    refine fG B X (LnX5_g L z) 0 rfl inTX5 (by decide) kw165 rfl dX5_change_9 ?_
    refine lv_iload_n hx hb dX5_change_12 rfl (lv_at hl 1 rfl) ?_
    refine lv_iload_n hx hb dX5_change_13 rfl (lv_at hl 2 rfl) ?_
    by_cases hc3 : (x1 < 0 ∨ 14 ≤ x1.toNatClampNeg)
    · cases it h hc3
    have h := ie h hc3
    refine aP B X (LnX5_a0 L z) (LnX5_b0 L z _) 0 rfl hc3 dX5_change_14 (fun H locs X => ?_)
    have X : Hx A D S.heap (wf ((upd z.1 x1.toNatClampNeg x2), z.2)) H locs := X
    exact rV B X (congrArg wf (Option.some.inj h)) dX5_change_15
def fX5_remove_b12 : Nat → Int32 → SX5 → Option SX5
  | 0, _, _ => none
  | n + 1, x2, z =>
    if z.2 ≤ x2 then (some (z.1, (z.2 - 1))) else
    ((fX5_keyAt z x2).bind fun q2 =>
    (fX5_change z (x2 - 1) q2).bind fun q3 =>
    fX5_remove_b12 n (x2 + 1) q3)
set_option maxRecDepth 100000 in
set_option maxHeartbeats 4000000 in
theorem tX5_remove_b12 {a0 a1 p0 p1 : Nat} {wf : SX5 → va_W} (L : LnX5 a0 a1 p0 p1 cI wf) {d : Nat} (hd : 3 ≤ d) (B : Bd RX5 cX5_remove 3 none d A g D [(cI, .int), (cB, .byte)] p R S m args meth c) {q : SX5} : ∀ (n : Nat) (x2 : Int32) (z : SX5) (H : Heap) (locs : List Loc) (ls : Array Slot), Hx A D S.heap (wf z) H locs → lv_has ls 3 [(0, .ref a0), (2, .int x2)] → fX5_remove_b12 n x2 z = some q → W p l e R S m args below meth c H locs 0 0 (MQ below (QV A D (wf q)) args S 0 0 A) (F0 m 12 ls []) := by
  have hx := B.1
  have hb := B.2.1
  have hd1 : 1 ≤ d := by omega
  intro n
  induction n with
  | zero =>
    intro x2 z H locs ls X hl h
    cases h
  | succ n ih =>
    intro x2 z H locs ls X hl h
    rw [fX5_remove_b12] at h
    refine lv_iload_n hx hb dX5_remove_12 rfl (lv_at hl 1 rfl) ?_
    refine lv_aload_n hx hb dX5_remove_13 rfl (lv_at hl 0 rfl) ?_
    refine fG B X (LnX5_g L z) 1 rfl inTX5 (by decide) kw166 rfl dX5_remove_14 ?_
    refine lv_icmp_ge (tgt := 38) hx hb dX5_remove_17 (by decide) (fun hc1 => ?_) (fun hc1 => ?_)
    · have h := it h hc1
      refine lv_aload_n hx hb dX5_remove_38 rfl (lv_at hl 0 rfl) ?_
      refine lv_dup hx hb dX5_remove_39 rfl ?_
      refine fG B X (LnX5_g L z) 1 rfl inTX5 (by decide) kw166 rfl dX5_remove_40 ?_
      refine lv_iconst (v := 1) hx hb dX5_remove_43 (by decide) ?_
      refine lv_isub hx hb dX5_remove_44 ?_
      refine fP tyX5 B X (LnX5_g L z) 1 (LnX5_i1 L z _) rfl inTX5 tyX5_ok nmX5 (by decide) kw166 rfl rfl rfl rfl (Nat.le_of_ble_eq_true rfl) dX5_remove_45 (fun H locs X => ?_)
      have X : Hx A D S.heap (wf (z.1, (z.2 - 1))) H locs := X
      exact rV B X (congrArg wf (Option.some.inj h)) dX5_remove_48
    · have h := ie h hc1
      refine lv_aload_n hx hb dX5_remove_20 rfl (lv_at hl 0 rfl) ?_
      refine lv_iload_n hx hb dX5_remove_21 rfl (lv_at hl 1 rfl) ?_
      refine lv_iconst (v := 1) hx hb dX5_remove_22 (by decide) ?_
      refine lv_isub hx hb dX5_remove_23 ?_
      refine lv_aload_n hx hb dX5_remove_24 rfl (lv_at hl 0 rfl) ?_
      refine lv_iload_n hx hb dX5_remove_25 rfl (lv_at hl 1 rfl) ?_
      obtain ⟨q2, h2, h⟩ := bs h
      refine kI X (cV (As := [.int x2]) (rest := [.int (x2 - 1), .ref a0]) B X (tX5_keyAt (d := d - 1) L (by omega) h2) mfX5_keyAt kw573 (by omega) (LnX5_g L z) rfl rfl (Nat.le_of_ble_eq_true rfl) hl.1 ⟨Nat.zero_le _, Nat.zero_le _⟩ dX5_remove_26) (fun H locs X => ?_)
      have X : Hx A D S.heap (wf z) H locs := X
      obtain ⟨q3, h3, h⟩ := bs h
      refine kV X (cV (As := [.int (x2 - 1), .int q2]) (rest := []) B X (tX5_change (d := d - 1) L (by omega) h3) mfX5_change kw574 (by omega) (LnX5_g L z) rfl rfl (Nat.le_of_ble_eq_true rfl) hl.1 ⟨Nat.zero_le _, Nat.zero_le _⟩ dX5_remove_29) (fun H locs X => ?_)
      have X : Hx A D S.heap (wf q3) H locs := X
      refine lv_iinc (v := x2 + 1) (lv' := [(2, .int (x2 + 1)), (0, .ref a0)]) hx hb dX5_remove_32 hl (k := 1) rfl rfl (by decide) rfl (fun ls hl => ?_)
      refine lv_goto (tgt := 12) hx hb dX5_remove_35 (by decide) ?_
      exact ih (x2 + 1) q3 _ _ _ X (lv_sub hl [1, 0] rfl) h
def fX5_remove (z : SX5) (x1 : Int32) : Option SX5 :=
    (fX5_has z x1).bind fun q1 =>
    if q1 = 0 then (some z) else
    (fX5_remove_b12 1000 (x1 + 1) z)
set_option maxRecDepth 100000 in
set_option maxHeartbeats 4000000 in
theorem tX5_remove {a0 a1 p0 p1 : Nat} {wf : SX5 → va_W} (L : LnX5 a0 a1 p0 p1 cI wf) {d : Nat} (hd : 3 ≤ d) {z : SX5} {x1 : Int32} {q : SX5} (h : fX5_remove z x1 = some q) : Ct l yX5_remove cX5_remove 3 none d A g D [(cI, .int), (cB, .byte)] [.ref a0, .int x1] (wf z) (QV A D (wf q)) := by
  refine mkM (by decide) (Nat.le_of_ble_eq_true rfl) ?_
  intro p e S m args below meth c B X ls hl
  have B : Bd RX5 cX5_remove 3 none d A g D [(cI, .int), (cB, .byte)] p (rmd d) S m args meth c := B
  have hx := B.1
  have hb := B.2.1
  have hd1 : 1 ≤ d := by omega
  have hl : lv_has ls 3 [(0, .ref a0), (1, .int x1)] := hl
  unfold fX5_remove at h
  refine lv_aload_n hx hb dX5_remove_0 rfl (lv_at hl 0 rfl) ?_
  refine lv_iload_n hx hb dX5_remove_1 rfl (lv_at hl 1 rfl) ?_
  obtain ⟨q1, h1, h⟩ := bs h
  refine kI X (cV (As := [.int x1]) (rest := []) B X (tX5_has (d := d - 1) L (by omega) h1) mfX5_has kw572 (by omega) (LnX5_g L z) rfl rfl (Nat.le_of_ble_eq_true rfl) hl.1 ⟨Nat.zero_le _, Nat.zero_le _⟩ dX5_remove_2) (fun H locs X => ?_)
  have X : Hx A D S.heap (wf z) H locs := X
  refine lv_if_eq (tgt := 48) hx hb dX5_remove_5 (by decide) (fun hc2 => ?_) (fun hc2 => ?_)
  · have h := it h hc2
    exact rV B X (congrArg wf (Option.some.inj h)) dX5_remove_48
  · have h := ie h hc2
    refine lv_iload_n hx hb dX5_remove_8 rfl (lv_at hl 1 rfl) ?_
    refine lv_iconst (v := 1) hx hb dX5_remove_9 (by decide) ?_
    refine lv_iadd hx hb dX5_remove_10 ?_
    refine lv_istore_n (lv' := [(2, .int (x1 + 1)), (0, .ref a0), (1, .int x1)]) hx hb dX5_remove_11 rfl hl (by decide) rfl (fun ls hl => ?_)
    exact tX5_remove_b12 L hd B 1000 (x1 + 1) z _ _ _ X (lv_sub hl [1, 0] rfl) h
def fX5_rowsWithKey_b4 (z : SX5) : Nat → Int32 → Int32 → Option Int32
  | 0, _, _ => none
  | n + 1, x1, x2 =>
    if z.2 ≤ x2 then (some x1) else
    (if 14 ≤ x2 then (some x1) else
    (if x2 < 0 ∨ 14 ≤ x2.toNatClampNeg then none else
    (if (z.1 x2.toNatClampNeg) = (-1) then (fX5_rowsWithKey_b4 z n x1 (x2 + 1)) else
    (fX5_rowsWithKey_b4 z n (x1 ||| (1 <<< (x2 &&& 31))) (x2 + 1)))))
set_option maxRecDepth 100000 in
set_option maxHeartbeats 4000000 in
theorem tX5_rowsWithKey_b4 {a0 a1 p0 p1 : Nat} {wf : SX5 → va_W} (L : LnX5 a0 a1 p0 p1 cI wf) {d : Nat} (hd : 1 ≤ d) {z : SX5} (B : Bd RX5 cX5_rowsWithKey 3 (some .int) d A g D [(cI, .int), (cB, .byte)] p R S m args meth c) {q : Int32} : ∀ (n : Nat) (x1 : Int32) (x2 : Int32) (H : Heap) (locs : List Loc) (ls : Array Slot), Hx A D S.heap (wf z) H locs → lv_has ls 3 [(0, .ref a0), (1, .int x1), (2, .int x2)] → fX5_rowsWithKey_b4 z n x1 x2 = some q → W p l e R S m args below meth c H locs 0 0 (MQ below (QI A D (wf z) q) args S 0 0 A) (F0 m 4 ls []) := by
  have hx := B.1
  have hb := B.2.1
  have hd1 : 1 ≤ d := by omega
  intro n
  induction n with
  | zero =>
    intro x1 x2 H locs ls X hl h
    cases h
  | succ n ih =>
    intro x1 x2 H locs ls X hl h
    rw [fX5_rowsWithKey_b4] at h
    refine lv_iload_n hx hb dX5_rowsWithKey_4 rfl (lv_at hl 2 rfl) ?_
    refine lv_aload_n hx hb dX5_rowsWithKey_5 rfl (lv_at hl 0 rfl) ?_
    refine fG B X (LnX5_g L z) 1 rfl inTX5 (by decide) kw166 rfl dX5_rowsWithKey_6 ?_
    refine lv_icmp_ge (tgt := 40) hx hb dX5_rowsWithKey_9 (by decide) (fun hc1 => ?_) (fun hc1 => ?_)
    · have h := it h hc1
      refine lv_iload_n hx hb dX5_rowsWithKey_40 rfl (lv_at hl 1 rfl) ?_
      exact rI B X rfl (Option.some.inj h) dX5_rowsWithKey_41
    · have h := ie h hc1
      refine lv_iload_n hx hb dX5_rowsWithKey_12 rfl (lv_at hl 2 rfl) ?_
      refine lv_bipush (v := 14) hx hb dX5_rowsWithKey_13 (by decide) ?_
      refine lv_icmp_ge (tgt := 40) hx hb dX5_rowsWithKey_15 (by decide) (fun hc2 => ?_) (fun hc2 => ?_)
      · have h := it h hc2
        refine lv_iload_n hx hb dX5_rowsWithKey_40 rfl (lv_at hl 1 rfl) ?_
        exact rI B X rfl (Option.some.inj h) dX5_rowsWithKey_41
      · have h := ie h hc2
        refine lv_aload_n hx hb dX5_rowsWithKey_18 rfl (lv_at hl 0 rfl) ?_
        refine fG B X (LnX5_g L z) 0 rfl inTX5 (by decide) kw165 rfl dX5_rowsWithKey_19 ?_
        refine lv_iload_n hx hb dX5_rowsWithKey_22 rfl (lv_at hl 2 rfl) ?_
        by_cases hc3 : (x2 < 0 ∨ 14 ≤ x2.toNatClampNeg)
        · cases it h hc3
        have h := ie h hc3
        refine aG B X (LnX5_a0 L z) 0 rfl hc3 dX5_rowsWithKey_23 ?_
        refine lv_iconst (v := (-1)) hx hb dX5_rowsWithKey_24 (by decide) ?_
        refine lv_icmp_eq (tgt := 34) hx hb dX5_rowsWithKey_25 (by decide) (fun hc4 => ?_) (fun hc4 => ?_)
        · have h := it h hc4
          refine lv_iinc (v := x2 + 1) (lv' := [(2, .int (x2 + 1)), (0, .ref a0), (1, .int x1)]) hx hb dX5_rowsWithKey_34 hl (k := 2) rfl rfl (by decide) rfl (fun ls hl => ?_)
          refine lv_goto (tgt := 4) hx hb dX5_rowsWithKey_37 (by decide) ?_
          exact ih x1 (x2 + 1) _ _ _ X (lv_sub hl [1, 2, 0] rfl) h
        · have h := ie h hc4
          refine lv_iload_n hx hb dX5_rowsWithKey_28 rfl (lv_at hl 1 rfl) ?_
          refine lv_iconst (v := 1) hx hb dX5_rowsWithKey_29 (by decide) ?_
          refine lv_iload_n hx hb dX5_rowsWithKey_30 rfl (lv_at hl 2 rfl) ?_
          refine lv_ishl hx hb dX5_rowsWithKey_31 ?_
          refine lv_ior hx hb dX5_rowsWithKey_32 ?_
          refine lv_istore_n (lv' := [(1, .int (x1 ||| (1 <<< (x2 &&& 31)))), (0, .ref a0), (2, .int x2)]) hx hb dX5_rowsWithKey_33 rfl hl (by decide) rfl (fun ls hl => ?_)
          refine lv_iinc (v := x2 + 1) (lv' := [(2, .int (x2 + 1)), (1, .int (x1 ||| (1 <<< (x2 &&& 31)))), (0, .ref a0)]) hx hb dX5_rowsWithKey_34 hl (k := 2) rfl rfl (by decide) rfl (fun ls hl => ?_)
          refine lv_goto (tgt := 4) hx hb dX5_rowsWithKey_37 (by decide) ?_
          exact ih (x1 ||| (1 <<< (x2 &&& 31))) (x2 + 1) _ _ _ X (lv_sub hl [2, 1, 0] rfl) h
def fX5_rowsWithKey (z : SX5) : Option Int32 :=
    fX5_rowsWithKey_b4 z 1000 0 0
set_option maxRecDepth 100000 in
set_option maxHeartbeats 4000000 in
theorem tX5_rowsWithKey {a0 a1 p0 p1 : Nat} {wf : SX5 → va_W} (L : LnX5 a0 a1 p0 p1 cI wf) {d : Nat} (hd : 1 ≤ d) {z : SX5} {q : Int32} (h : fX5_rowsWithKey z = some q) : Ct l yX5_rowsWithKey cX5_rowsWithKey 3 (some .int) d A g D [(cI, .int), (cB, .byte)] [.ref a0] (wf z) (QI A D (wf z) q) := by
  refine mkM (by decide) (Nat.le_of_ble_eq_true rfl) ?_
  intro p e S m args below meth c B X ls hl
  have B : Bd RX5 cX5_rowsWithKey 3 (some .int) d A g D [(cI, .int), (cB, .byte)] p (rmd d) S m args meth c := B
  have hx := B.1
  have hb := B.2.1
  have hd1 : 1 ≤ d := by omega
  have hl : lv_has ls 3 [(0, .ref a0)] := hl
  unfold fX5_rowsWithKey at h
  refine lv_iconst (v := 0) hx hb dX5_rowsWithKey_0 (by decide) ?_
  refine lv_istore_n (lv' := [(1, .int 0), (0, .ref a0)]) hx hb dX5_rowsWithKey_1 rfl hl (by decide) rfl (fun ls hl => ?_)
  refine lv_iconst (v := 0) hx hb dX5_rowsWithKey_2 (by decide) ?_
  refine lv_istore_n (lv' := [(2, .int 0), (1, .int 0), (0, .ref a0)]) hx hb dX5_rowsWithKey_3 rfl hl (by decide) rfl (fun ls hl => ?_)
  exact tX5_rowsWithKey_b4 L hd B 1000 0 0 _ _ _ X (lv_sub hl [2, 1, 0] rfl) h
def fX5_rowsWithoutKey (z : SX5) : Option Int32 :=
    (fX5_rowsWithKey z).bind fun q1 =>
    some (((1 <<< (z.2 &&& 31)) - 1) &&& (q1 ^^^ (-1)))
set_option maxRecDepth 100000 in
set_option maxHeartbeats 4000000 in
theorem tX5_rowsWithoutKey {a0 a1 p0 p1 : Nat} {wf : SX5 → va_W} (L : LnX5 a0 a1 p0 p1 cI wf) {d : Nat} (hd : 2 ≤ d) {z : SX5} {q : Int32} (h : fX5_rowsWithoutKey z = some q) : Ct l yX5_rowsWithoutKey cX5_rowsWithoutKey 1 (some .int) d A g D [(cI, .int), (cB, .byte)] [.ref a0] (wf z) (QI A D (wf z) q) := by
  refine mkM (by decide) (Nat.le_of_ble_eq_true rfl) ?_
  intro p e S m args below meth c B X ls hl
  have B : Bd RX5 cX5_rowsWithoutKey 1 (some .int) d A g D [(cI, .int), (cB, .byte)] p (rmd d) S m args meth c := B
  have hx := B.1
  have hb := B.2.1
  have hd1 : 1 ≤ d := by omega
  have hl : lv_has ls 1 [(0, .ref a0)] := hl
  unfold fX5_rowsWithoutKey at h
  refine lv_iconst (v := 1) hx hb dX5_rowsWithoutKey_0 (by decide) ?_
  refine lv_aload_n hx hb dX5_rowsWithoutKey_1 rfl (lv_at hl 0 rfl) ?_
  refine fG B X (LnX5_g L z) 1 rfl inTX5 (by decide) kw166 rfl dX5_rowsWithoutKey_2 ?_
  refine lv_ishl hx hb dX5_rowsWithoutKey_5 ?_
  refine lv_iconst (v := 1) hx hb dX5_rowsWithoutKey_6 (by decide) ?_
  refine lv_isub hx hb dX5_rowsWithoutKey_7 ?_
  refine lv_aload_n hx hb dX5_rowsWithoutKey_8 rfl (lv_at hl 0 rfl) ?_
  obtain ⟨q1, h1, h⟩ := bs h
  refine kI X (cV (As := []) (rest := [.int ((1 <<< (z.2 &&& 31)) - 1)]) B X (tX5_rowsWithKey (d := d - 1) L (by omega) h1) mfX5_rowsWithKey kw710 (by omega) (LnX5_g L z) rfl rfl (Nat.le_of_ble_eq_true rfl) hl.1 ⟨Nat.zero_le _, Nat.zero_le _⟩ dX5_rowsWithoutKey_9) (fun H locs X => ?_)
  have X : Hx A D S.heap (wf z) H locs := X
  refine lv_iconst (v := (-1)) hx hb dX5_rowsWithoutKey_12 (by decide) ?_
  refine lv_ixor hx hb dX5_rowsWithoutKey_13 ?_
  refine lv_iand hx hb dX5_rowsWithoutKey_14 ?_
  exact rI B X rfl (Option.some.inj h) dX5_rowsWithoutKey_15
def fX5_rowsOfKey_b4 (z : SX5) : Nat → Int32 → Int32 → Int32 → Option Int32
  | 0, _, _, _ => none
  | n + 1, x1, x2, x3 =>
    if z.2 ≤ x3 then (some x2) else
    (if 14 ≤ x3 then (some x2) else
    (if x3 < 0 ∨ 14 ≤ x3.toNatClampNeg then none else
    (if (z.1 x3.toNatClampNeg) = x1 then (fX5_rowsOfKey_b4 z n x1 (x2 ||| (1 <<< (x3 &&& 31))) (x3 + 1)) else
    (fX5_rowsOfKey_b4 z n x1 x2 (x3 + 1)))))
set_option maxRecDepth 100000 in
set_option maxHeartbeats 4000000 in
theorem tX5_rowsOfKey_b4 {a0 a1 p0 p1 : Nat} {wf : SX5 → va_W} (L : LnX5 a0 a1 p0 p1 cI wf) {d : Nat} (hd : 1 ≤ d) {z : SX5} (B : Bd RX5 cX5_rowsOfKey 4 (some .int) d A g D [(cI, .int), (cB, .byte)] p R S m args meth c) {q : Int32} : ∀ (n : Nat) (x1 : Int32) (x2 : Int32) (x3 : Int32) (H : Heap) (locs : List Loc) (ls : Array Slot), Hx A D S.heap (wf z) H locs → lv_has ls 4 [(0, .ref a0), (1, .int x1), (2, .int x2), (3, .int x3)] → fX5_rowsOfKey_b4 z n x1 x2 x3 = some q → W p l e R S m args below meth c H locs 0 0 (MQ below (QI A D (wf z) q) args S 0 0 A) (F0 m 4 ls []) := by
  have hx := B.1
  have hb := B.2.1
  have hd1 : 1 ≤ d := by omega
  intro n
  induction n with
  | zero =>
    intro x1 x2 x3 H locs ls X hl h
    cases h
  | succ n ih =>
    intro x1 x2 x3 H locs ls X hl h
    rw [fX5_rowsOfKey_b4] at h
    refine lv_iload_n hx hb dX5_rowsOfKey_4 rfl (lv_at hl 3 rfl) ?_
    refine lv_aload_n hx hb dX5_rowsOfKey_5 rfl (lv_at hl 0 rfl) ?_
    refine fG B X (LnX5_g L z) 1 rfl inTX5 (by decide) kw166 rfl dX5_rowsOfKey_6 ?_
    refine lv_icmp_ge (tgt := 40) hx hb dX5_rowsOfKey_9 (by decide) (fun hc1 => ?_) (fun hc1 => ?_)
    · have h := it h hc1
      refine lv_iload_n hx hb dX5_rowsOfKey_40 rfl (lv_at hl 2 rfl) ?_
      exact rI B X rfl (Option.some.inj h) dX5_rowsOfKey_41
    · have h := ie h hc1
      refine lv_iload_n hx hb dX5_rowsOfKey_12 rfl (lv_at hl 3 rfl) ?_
      refine lv_bipush (v := 14) hx hb dX5_rowsOfKey_13 (by decide) ?_
      refine lv_icmp_ge (tgt := 40) hx hb dX5_rowsOfKey_15 (by decide) (fun hc2 => ?_) (fun hc2 => ?_)
      · have h := it h hc2
        refine lv_iload_n hx hb dX5_rowsOfKey_40 rfl (lv_at hl 2 rfl) ?_
        exact rI B X rfl (Option.some.inj h) dX5_rowsOfKey_41
      · have h := ie h hc2
        refine lv_aload_n hx hb dX5_rowsOfKey_18 rfl (lv_at hl 0 rfl) ?_
        refine fG B X (LnX5_g L z) 0 rfl inTX5 (by decide) kw165 rfl dX5_rowsOfKey_19 ?_
        refine lv_iload_n hx hb dX5_rowsOfKey_22 rfl (lv_at hl 3 rfl) ?_
        by_cases hc3 : (x3 < 0 ∨ 14 ≤ x3.toNatClampNeg)
        · cases it h hc3
        have h := ie h hc3
        refine aG B X (LnX5_a0 L z) 0 rfl hc3 dX5_rowsOfKey_23 ?_
        refine lv_iload_n hx hb dX5_rowsOfKey_24 rfl (lv_at hl 1 rfl) ?_
        refine lv_icmp_ne (tgt := 34) hx hb dX5_rowsOfKey_25 (by decide) (fun hc4 => ?_) (fun hc4 => ?_)
        · have h := ie h hc4
          refine lv_iinc (v := x3 + 1) (lv' := [(3, .int (x3 + 1)), (0, .ref a0), (1, .int x1), (2, .int x2)]) hx hb dX5_rowsOfKey_34 hl (k := 3) rfl rfl (by decide) rfl (fun ls hl => ?_)
          refine lv_goto (tgt := 4) hx hb dX5_rowsOfKey_37 (by decide) ?_
          exact ih x1 x2 (x3 + 1) _ _ _ X (lv_sub hl [1, 2, 3, 0] rfl) h
        · have h := it h hc4
          refine lv_iload_n hx hb dX5_rowsOfKey_28 rfl (lv_at hl 2 rfl) ?_
          refine lv_iconst (v := 1) hx hb dX5_rowsOfKey_29 (by decide) ?_
          refine lv_iload_n hx hb dX5_rowsOfKey_30 rfl (lv_at hl 3 rfl) ?_
          refine lv_ishl hx hb dX5_rowsOfKey_31 ?_
          refine lv_ior hx hb dX5_rowsOfKey_32 ?_
          refine lv_istore_n (lv' := [(2, .int (x2 ||| (1 <<< (x3 &&& 31)))), (0, .ref a0), (1, .int x1), (3, .int x3)]) hx hb dX5_rowsOfKey_33 rfl hl (by decide) rfl (fun ls hl => ?_)
          refine lv_iinc (v := x3 + 1) (lv' := [(3, .int (x3 + 1)), (2, .int (x2 ||| (1 <<< (x3 &&& 31)))), (0, .ref a0), (1, .int x1)]) hx hb dX5_rowsOfKey_34 hl (k := 3) rfl rfl (by decide) rfl (fun ls hl => ?_)
          refine lv_goto (tgt := 4) hx hb dX5_rowsOfKey_37 (by decide) ?_
          exact ih x1 (x2 ||| (1 <<< (x3 &&& 31))) (x3 + 1) _ _ _ X (lv_sub hl [2, 3, 1, 0] rfl) h
def fX5_rowsOfKey (z : SX5) (x1 : Int32) : Option Int32 :=
    fX5_rowsOfKey_b4 z 1000 x1 0 0
set_option maxRecDepth 100000 in
set_option maxHeartbeats 4000000 in
theorem tX5_rowsOfKey {a0 a1 p0 p1 : Nat} {wf : SX5 → va_W} (L : LnX5 a0 a1 p0 p1 cI wf) {d : Nat} (hd : 1 ≤ d) {z : SX5} {x1 : Int32} {q : Int32} (h : fX5_rowsOfKey z x1 = some q) : Ct l yX5_rowsOfKey cX5_rowsOfKey 4 (some .int) d A g D [(cI, .int), (cB, .byte)] [.ref a0, .int x1] (wf z) (QI A D (wf z) q) := by
  refine mkM (by decide) (Nat.le_of_ble_eq_true rfl) ?_
  intro p e S m args below meth c B X ls hl
  have B : Bd RX5 cX5_rowsOfKey 4 (some .int) d A g D [(cI, .int), (cB, .byte)] p (rmd d) S m args meth c := B
  have hx := B.1
  have hb := B.2.1
  have hd1 : 1 ≤ d := by omega
  have hl : lv_has ls 4 [(0, .ref a0), (1, .int x1)] := hl
  unfold fX5_rowsOfKey at h
  refine lv_iconst (v := 0) hx hb dX5_rowsOfKey_0 (by decide) ?_
  refine lv_istore_n (lv' := [(2, .int 0), (0, .ref a0), (1, .int x1)]) hx hb dX5_rowsOfKey_1 rfl hl (by decide) rfl (fun ls hl => ?_)
  refine lv_iconst (v := 0) hx hb dX5_rowsOfKey_2 (by decide) ?_
  refine lv_istore_n (lv' := [(3, .int 0), (2, .int 0), (0, .ref a0), (1, .int x1)]) hx hb dX5_rowsOfKey_3 rfl hl (by decide) rfl (fun ls hl => ?_)
  exact tX5_rowsOfKey_b4 L hd B 1000 x1 0 0 _ _ _ X (lv_sub hl [2, 3, 1, 0] rfl) h
def fX5_rowsWithBit_b4 (z : SX5) : Nat → Int32 → Int32 → Int32 → Option Int32
  | 0, _, _, _ => none
  | n + 1, x1, x2, x3 =>
    if z.2 ≤ x3 then (some x2) else
    (if 14 ≤ x3 then (some x2) else
    (if x3 < 0 ∨ 14 ≤ x3.toNatClampNeg then none else
    (if (z.1 x3.toNatClampNeg) = (-1) then (fX5_rowsWithBit_b4 z n x1 x2 (x3 + 1)) else
    (if x3 < 0 ∨ 14 ≤ x3.toNatClampNeg then none else
    (if (((z.1 x3.toNatClampNeg) >>> (x1 &&& 31)) &&& 1) = 1 then (fX5_rowsWithBit_b4 z n x1 (x2 ||| (1 <<< (x3 &&& 31))) (x3 + 1)) else
    (fX5_rowsWithBit_b4 z n x1 x2 (x3 + 1)))))))
set_option maxRecDepth 100000 in
set_option maxHeartbeats 4000000 in
theorem tX5_rowsWithBit_b4 {a0 a1 p0 p1 : Nat} {wf : SX5 → va_W} (L : LnX5 a0 a1 p0 p1 cI wf) {d : Nat} (hd : 1 ≤ d) {z : SX5} (B : Bd RX5 cX5_rowsWithBit 4 (some .int) d A g D [(cI, .int), (cB, .byte)] p R S m args meth c) {q : Int32} : ∀ (n : Nat) (x1 : Int32) (x2 : Int32) (x3 : Int32) (H : Heap) (locs : List Loc) (ls : Array Slot), Hx A D S.heap (wf z) H locs → lv_has ls 4 [(0, .ref a0), (1, .int x1), (2, .int x2), (3, .int x3)] → fX5_rowsWithBit_b4 z n x1 x2 x3 = some q → W p l e R S m args below meth c H locs 0 0 (MQ below (QI A D (wf z) q) args S 0 0 A) (F0 m 4 ls []) := by
  have hx := B.1
  have hb := B.2.1
  have hd1 : 1 ≤ d := by omega
  intro n
  induction n with
  | zero =>
    intro x1 x2 x3 H locs ls X hl h
    cases h
  | succ n ih =>
    intro x1 x2 x3 H locs ls X hl h
    rw [fX5_rowsWithBit_b4] at h
    refine lv_iload_n hx hb dX5_rowsWithBit_4 rfl (lv_at hl 3 rfl) ?_
    refine lv_aload_n hx hb dX5_rowsWithBit_5 rfl (lv_at hl 0 rfl) ?_
    refine fG B X (LnX5_g L z) 1 rfl inTX5 (by decide) kw166 rfl dX5_rowsWithBit_6 ?_
    refine lv_icmp_ge (tgt := 54) hx hb dX5_rowsWithBit_9 (by decide) (fun hc1 => ?_) (fun hc1 => ?_)
    · have h := it h hc1
      refine lv_iload_n hx hb dX5_rowsWithBit_54 rfl (lv_at hl 2 rfl) ?_
      exact rI B X rfl (Option.some.inj h) dX5_rowsWithBit_55
    · have h := ie h hc1
      refine lv_iload_n hx hb dX5_rowsWithBit_12 rfl (lv_at hl 3 rfl) ?_
      refine lv_bipush (v := 14) hx hb dX5_rowsWithBit_13 (by decide) ?_
      refine lv_icmp_ge (tgt := 54) hx hb dX5_rowsWithBit_15 (by decide) (fun hc2 => ?_) (fun hc2 => ?_)
      · have h := it h hc2
        refine lv_iload_n hx hb dX5_rowsWithBit_54 rfl (lv_at hl 2 rfl) ?_
        exact rI B X rfl (Option.some.inj h) dX5_rowsWithBit_55
      · have h := ie h hc2
        refine lv_aload_n hx hb dX5_rowsWithBit_18 rfl (lv_at hl 0 rfl) ?_
        refine fG B X (LnX5_g L z) 0 rfl inTX5 (by decide) kw165 rfl dX5_rowsWithBit_19 ?_
        refine lv_iload_n hx hb dX5_rowsWithBit_22 rfl (lv_at hl 3 rfl) ?_
        by_cases hc3 : (x3 < 0 ∨ 14 ≤ x3.toNatClampNeg)
        · cases it h hc3
        have h := ie h hc3
        refine aG B X (LnX5_a0 L z) 0 rfl hc3 dX5_rowsWithBit_23 ?_
        refine lv_iconst (v := (-1)) hx hb dX5_rowsWithBit_24 (by decide) ?_
        refine lv_icmp_eq (tgt := 48) hx hb dX5_rowsWithBit_25 (by decide) (fun hc4 => ?_) (fun hc4 => ?_)
        · have h := it h hc4
          refine lv_iinc (v := x3 + 1) (lv' := [(3, .int (x3 + 1)), (0, .ref a0), (1, .int x1), (2, .int x2)]) hx hb dX5_rowsWithBit_48 hl (k := 3) rfl rfl (by decide) rfl (fun ls hl => ?_)
          refine lv_goto (tgt := 4) hx hb dX5_rowsWithBit_51 (by decide) ?_
          exact ih x1 x2 (x3 + 1) _ _ _ X (lv_sub hl [1, 2, 3, 0] rfl) h
        · have h := ie h hc4
          refine lv_aload_n hx hb dX5_rowsWithBit_28 rfl (lv_at hl 0 rfl) ?_
          refine fG B X (LnX5_g L z) 0 rfl inTX5 (by decide) kw165 rfl dX5_rowsWithBit_29 ?_
          refine lv_iload_n hx hb dX5_rowsWithBit_32 rfl (lv_at hl 3 rfl) ?_
          by_cases hc5 : (x3 < 0 ∨ 14 ≤ x3.toNatClampNeg)
          · cases it h hc5
          have h := ie h hc5
          refine aG B X (LnX5_a0 L z) 0 rfl hc5 dX5_rowsWithBit_33 ?_
          refine lv_iload_n hx hb dX5_rowsWithBit_34 rfl (lv_at hl 1 rfl) ?_
          refine lv_ishr hx hb dX5_rowsWithBit_35 ?_
          refine lv_iconst (v := 1) hx hb dX5_rowsWithBit_36 (by decide) ?_
          refine lv_iand hx hb dX5_rowsWithBit_37 ?_
          refine lv_iconst (v := 1) hx hb dX5_rowsWithBit_38 (by decide) ?_
          refine lv_icmp_ne (tgt := 48) hx hb dX5_rowsWithBit_39 (by decide) (fun hc6 => ?_) (fun hc6 => ?_)
          · have h := ie h hc6
            refine lv_iinc (v := x3 + 1) (lv' := [(3, .int (x3 + 1)), (0, .ref a0), (1, .int x1), (2, .int x2)]) hx hb dX5_rowsWithBit_48 hl (k := 3) rfl rfl (by decide) rfl (fun ls hl => ?_)
            refine lv_goto (tgt := 4) hx hb dX5_rowsWithBit_51 (by decide) ?_
            exact ih x1 x2 (x3 + 1) _ _ _ X (lv_sub hl [1, 2, 3, 0] rfl) h
          · have h := it h hc6
            refine lv_iload_n hx hb dX5_rowsWithBit_42 rfl (lv_at hl 2 rfl) ?_
            refine lv_iconst (v := 1) hx hb dX5_rowsWithBit_43 (by decide) ?_
            refine lv_iload_n hx hb dX5_rowsWithBit_44 rfl (lv_at hl 3 rfl) ?_
            refine lv_ishl hx hb dX5_rowsWithBit_45 ?_
            refine lv_ior hx hb dX5_rowsWithBit_46 ?_
            refine lv_istore_n (lv' := [(2, .int (x2 ||| (1 <<< (x3 &&& 31)))), (0, .ref a0), (1, .int x1), (3, .int x3)]) hx hb dX5_rowsWithBit_47 rfl hl (by decide) rfl (fun ls hl => ?_)
            refine lv_iinc (v := x3 + 1) (lv' := [(3, .int (x3 + 1)), (2, .int (x2 ||| (1 <<< (x3 &&& 31)))), (0, .ref a0), (1, .int x1)]) hx hb dX5_rowsWithBit_48 hl (k := 3) rfl rfl (by decide) rfl (fun ls hl => ?_)
            refine lv_goto (tgt := 4) hx hb dX5_rowsWithBit_51 (by decide) ?_
            exact ih x1 (x2 ||| (1 <<< (x3 &&& 31))) (x3 + 1) _ _ _ X (lv_sub hl [2, 3, 1, 0] rfl) h
def fX5_rowsWithBit (z : SX5) (x1 : Int32) : Option Int32 :=
    fX5_rowsWithBit_b4 z 1000 x1 0 0
set_option maxRecDepth 100000 in
set_option maxHeartbeats 4000000 in
theorem tX5_rowsWithBit {a0 a1 p0 p1 : Nat} {wf : SX5 → va_W} (L : LnX5 a0 a1 p0 p1 cI wf) {d : Nat} (hd : 1 ≤ d) {z : SX5} {x1 : Int32} {q : Int32} (h : fX5_rowsWithBit z x1 = some q) : Ct l yX5_rowsWithBit cX5_rowsWithBit 4 (some .int) d A g D [(cI, .int), (cB, .byte)] [.ref a0, .int x1] (wf z) (QI A D (wf z) q) := by
  refine mkM (by decide) (Nat.le_of_ble_eq_true rfl) ?_
  intro p e S m args below meth c B X ls hl
  have B : Bd RX5 cX5_rowsWithBit 4 (some .int) d A g D [(cI, .int), (cB, .byte)] p (rmd d) S m args meth c := B
  have hx := B.1
  have hb := B.2.1
  have hd1 : 1 ≤ d := by omega
  have hl : lv_has ls 4 [(0, .ref a0), (1, .int x1)] := hl
  unfold fX5_rowsWithBit at h
  refine lv_iconst (v := 0) hx hb dX5_rowsWithBit_0 (by decide) ?_
  refine lv_istore_n (lv' := [(2, .int 0), (0, .ref a0), (1, .int x1)]) hx hb dX5_rowsWithBit_1 rfl hl (by decide) rfl (fun ls hl => ?_)
  refine lv_iconst (v := 0) hx hb dX5_rowsWithBit_2 (by decide) ?_
  refine lv_istore_n (lv' := [(3, .int 0), (2, .int 0), (0, .ref a0), (1, .int x1)]) hx hb dX5_rowsWithBit_3 rfl hl (by decide) rfl (fun ls hl => ?_)
  exact tX5_rowsWithBit_b4 L hd B 1000 x1 0 0 _ _ _ X (lv_sub hl [2, 3, 1, 0] rfl) h
def fX5_keySet_b4 (z : SX5) : Nat → Int32 → Int32 → Option Int32
  | 0, _, _ => none
  | n + 1, x1, x2 =>
    if z.2 ≤ x2 then (some x1) else
    (if 14 ≤ x2 then (some x1) else
    (if x2 < 0 ∨ 14 ≤ x2.toNatClampNeg then none else
    (if (z.1 x2.toNatClampNeg) = (-1) then (fX5_keySet_b4 z n x1 (x2 + 1)) else
    (if x2 < 0 ∨ 14 ≤ x2.toNatClampNeg then none else
    (fX5_keySet_b4 z n (x1 ||| (1 <<< ((z.1 x2.toNatClampNeg) &&& 31))) (x2 + 1))))))
set_option maxRecDepth 100000 in
set_option maxHeartbeats 4000000 in
theorem tX5_keySet_b4 {a0 a1 p0 p1 : Nat} {wf : SX5 → va_W} (L : LnX5 a0 a1 p0 p1 cI wf) {d : Nat} (hd : 1 ≤ d) {z : SX5} (B : Bd RX5 cX5_keySet 3 (some .int) d A g D [(cI, .int), (cB, .byte)] p R S m args meth c) {q : Int32} : ∀ (n : Nat) (x1 : Int32) (x2 : Int32) (H : Heap) (locs : List Loc) (ls : Array Slot), Hx A D S.heap (wf z) H locs → lv_has ls 3 [(0, .ref a0), (1, .int x1), (2, .int x2)] → fX5_keySet_b4 z n x1 x2 = some q → W p l e R S m args below meth c H locs 0 0 (MQ below (QI A D (wf z) q) args S 0 0 A) (F0 m 4 ls []) := by
  have hx := B.1
  have hb := B.2.1
  have hd1 : 1 ≤ d := by omega
  intro n
  induction n with
  | zero =>
    intro x1 x2 H locs ls X hl h
    cases h
  | succ n ih =>
    intro x1 x2 H locs ls X hl h
    rw [fX5_keySet_b4] at h
    refine lv_iload_n hx hb dX5_keySet_4 rfl (lv_at hl 2 rfl) ?_
    refine lv_aload_n hx hb dX5_keySet_5 rfl (lv_at hl 0 rfl) ?_
    refine fG B X (LnX5_g L z) 1 rfl inTX5 (by decide) kw166 rfl dX5_keySet_6 ?_
    refine lv_icmp_ge (tgt := 45) hx hb dX5_keySet_9 (by decide) (fun hc1 => ?_) (fun hc1 => ?_)
    · have h := it h hc1
      refine lv_iload_n hx hb dX5_keySet_45 rfl (lv_at hl 1 rfl) ?_
      exact rI B X rfl (Option.some.inj h) dX5_keySet_46
    · have h := ie h hc1
      refine lv_iload_n hx hb dX5_keySet_12 rfl (lv_at hl 2 rfl) ?_
      refine lv_bipush (v := 14) hx hb dX5_keySet_13 (by decide) ?_
      refine lv_icmp_ge (tgt := 45) hx hb dX5_keySet_15 (by decide) (fun hc2 => ?_) (fun hc2 => ?_)
      · have h := it h hc2
        refine lv_iload_n hx hb dX5_keySet_45 rfl (lv_at hl 1 rfl) ?_
        exact rI B X rfl (Option.some.inj h) dX5_keySet_46
      · have h := ie h hc2
        refine lv_aload_n hx hb dX5_keySet_18 rfl (lv_at hl 0 rfl) ?_
        refine fG B X (LnX5_g L z) 0 rfl inTX5 (by decide) kw165 rfl dX5_keySet_19 ?_
        refine lv_iload_n hx hb dX5_keySet_22 rfl (lv_at hl 2 rfl) ?_
        by_cases hc3 : (x2 < 0 ∨ 14 ≤ x2.toNatClampNeg)
        · cases it h hc3
        have h := ie h hc3
        refine aG B X (LnX5_a0 L z) 0 rfl hc3 dX5_keySet_23 ?_
        refine lv_iconst (v := (-1)) hx hb dX5_keySet_24 (by decide) ?_
        refine lv_icmp_eq (tgt := 39) hx hb dX5_keySet_25 (by decide) (fun hc4 => ?_) (fun hc4 => ?_)
        · have h := it h hc4
          refine lv_iinc (v := x2 + 1) (lv' := [(2, .int (x2 + 1)), (0, .ref a0), (1, .int x1)]) hx hb dX5_keySet_39 hl (k := 2) rfl rfl (by decide) rfl (fun ls hl => ?_)
          refine lv_goto (tgt := 4) hx hb dX5_keySet_42 (by decide) ?_
          exact ih x1 (x2 + 1) _ _ _ X (lv_sub hl [1, 2, 0] rfl) h
        · have h := ie h hc4
          refine lv_iload_n hx hb dX5_keySet_28 rfl (lv_at hl 1 rfl) ?_
          refine lv_iconst (v := 1) hx hb dX5_keySet_29 (by decide) ?_
          refine lv_aload_n hx hb dX5_keySet_30 rfl (lv_at hl 0 rfl) ?_
          refine fG B X (LnX5_g L z) 0 rfl inTX5 (by decide) kw165 rfl dX5_keySet_31 ?_
          refine lv_iload_n hx hb dX5_keySet_34 rfl (lv_at hl 2 rfl) ?_
          by_cases hc5 : (x2 < 0 ∨ 14 ≤ x2.toNatClampNeg)
          · cases it h hc5
          have h := ie h hc5
          refine aG B X (LnX5_a0 L z) 0 rfl hc5 dX5_keySet_35 ?_
          refine lv_ishl hx hb dX5_keySet_36 ?_
          refine lv_ior hx hb dX5_keySet_37 ?_
          refine lv_istore_n (lv' := [(1, .int (x1 ||| (1 <<< ((z.1 x2.toNatClampNeg) &&& 31)))), (0, .ref a0), (2, .int x2)]) hx hb dX5_keySet_38 rfl hl (by decide) rfl (fun ls hl => ?_)
          refine lv_iinc (v := x2 + 1) (lv' := [(2, .int (x2 + 1)), (1, .int (x1 ||| (1 <<< ((z.1 x2.toNatClampNeg) &&& 31)))), (0, .ref a0)]) hx hb dX5_keySet_39 hl (k := 2) rfl rfl (by decide) rfl (fun ls hl => ?_)
          refine lv_goto (tgt := 4) hx hb dX5_keySet_42 (by decide) ?_
          exact ih (x1 ||| (1 <<< ((z.1 x2.toNatClampNeg) &&& 31))) (x2 + 1) _ _ _ X (lv_sub hl [2, 1, 0] rfl) h
def fX5_keySet (z : SX5) : Option Int32 :=
    fX5_keySet_b4 z 1000 0 0
set_option maxRecDepth 100000 in
set_option maxHeartbeats 4000000 in
theorem tX5_keySet {a0 a1 p0 p1 : Nat} {wf : SX5 → va_W} (L : LnX5 a0 a1 p0 p1 cI wf) {d : Nat} (hd : 1 ≤ d) {z : SX5} {q : Int32} (h : fX5_keySet z = some q) : Ct l yX5_keySet cX5_keySet 3 (some .int) d A g D [(cI, .int), (cB, .byte)] [.ref a0] (wf z) (QI A D (wf z) q) := by
  refine mkM (by decide) (Nat.le_of_ble_eq_true rfl) ?_
  intro p e S m args below meth c B X ls hl
  have B : Bd RX5 cX5_keySet 3 (some .int) d A g D [(cI, .int), (cB, .byte)] p (rmd d) S m args meth c := B
  have hx := B.1
  have hb := B.2.1
  have hd1 : 1 ≤ d := by omega
  have hl : lv_has ls 3 [(0, .ref a0)] := hl
  unfold fX5_keySet at h
  refine lv_iconst (v := 0) hx hb dX5_keySet_0 (by decide) ?_
  refine lv_istore_n (lv' := [(1, .int 0), (0, .ref a0)]) hx hb dX5_keySet_1 rfl hl (by decide) rfl (fun ls hl => ?_)
  refine lv_iconst (v := 0) hx hb dX5_keySet_2 (by decide) ?_
  refine lv_istore_n (lv' := [(2, .int 0), (1, .int 0), (0, .ref a0)]) hx hb dX5_keySet_3 rfl hl (by decide) rfl (fun ls hl => ?_)
  exact tX5_keySet_b4 L hd B 1000 0 0 _ _ _ X (lv_sub hl [2, 1, 0] rfl) h
end
end
