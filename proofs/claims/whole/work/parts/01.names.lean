-- ===== PART A: goes FIRST, ahead of the names: the tables' words, and 'selects' of the private methods out of them =====
/-- a private method of a class that the tables say can be made, by its rows of tables_1 -/
def lw_okq (q : MethodName × Nat) : Prop := (q.1.cls ≠ "java/lang/invoke/MethodHandle" ∧ q.1.cls ≠ "java/lang/invoke/VarHandle") ∧ Cond.instantiable q.1.cls q.2 ∈ tables_1 ∧ Cond.privateMethod q.1 ∈ tables_1 ∧ Cond.instanceMethod q.1 ∈ tables_1
theorem lw_p0 : lw_okq (⟨"MemberShelf$State", "rankOf", "(I)I"⟩, 10) := ⟨⟨by decide +kernel, by decide +kernel⟩, List.mem_of_getElem? (i := 17) (by decide +kernel), List.mem_of_getElem? (i := 146) (by decide +kernel), List.mem_of_getElem? (i := 147) (by decide +kernel)⟩
theorem lw_p1 : lw_okq (⟨"MemberShelf$State", "isRank", "(I)Z"⟩, 10) := ⟨⟨by decide +kernel, by decide +kernel⟩, List.mem_of_getElem? (i := 17) (by decide +kernel), List.mem_of_getElem? (i := 150) (by decide +kernel), List.mem_of_getElem? (i := 151) (by decide +kernel)⟩
theorem lw_p2 : lw_okq (⟨"MemberShelf$State", "isDirectoryFull", "()Z"⟩, 10) := ⟨⟨by decide +kernel, by decide +kernel⟩, List.mem_of_getElem? (i := 17) (by decide +kernel), List.mem_of_getElem? (i := 154) (by decide +kernel), List.mem_of_getElem? (i := 155) (by decide +kernel)⟩
theorem lw_p3 : lw_okq (⟨"MemberShelf$State", "hasRoom", "(I)Z"⟩, 10) := ⟨⟨by decide +kernel, by decide +kernel⟩, List.mem_of_getElem? (i := 17) (by decide +kernel), List.mem_of_getElem? (i := 158) (by decide +kernel), List.mem_of_getElem? (i := 159) (by decide +kernel)⟩
theorem lw_p4 : lw_okq (⟨"MemberShelf$State", "layText", "(I)I"⟩, 10) := ⟨⟨by decide +kernel, by decide +kernel⟩, List.mem_of_getElem? (i := 17) (by decide +kernel), List.mem_of_getElem? (i := 162) (by decide +kernel), List.mem_of_getElem? (i := 163) (by decide +kernel)⟩
theorem lw_p5 : lw_okq (⟨"MemberShelf$State", "insertEntry", "(IIIII)I"⟩, 10) := ⟨⟨by decide +kernel, by decide +kernel⟩, List.mem_of_getElem? (i := 17) (by decide +kernel), List.mem_of_getElem? (i := 166) (by decide +kernel), List.mem_of_getElem? (i := 167) (by decide +kernel)⟩
theorem lw_p6 : lw_okq (⟨"MemberShelf$State", "namesBelow", "(I)I"⟩, 10) := ⟨⟨by decide +kernel, by decide +kernel⟩, List.mem_of_getElem? (i := 17) (by decide +kernel), List.mem_of_getElem? (i := 170) (by decide +kernel), List.mem_of_getElem? (i := 171) (by decide +kernel)⟩
theorem lw_p7 : lw_okq (⟨"MemberShelf$State", "moveEntries", "(III)V"⟩, 10) := ⟨⟨by decide +kernel, by decide +kernel⟩, List.mem_of_getElem? (i := 17) (by decide +kernel), List.mem_of_getElem? (i := 174) (by decide +kernel), List.mem_of_getElem? (i := 175) (by decide +kernel)⟩
theorem lw_p8 : lw_okq (⟨"MemberShelf$State", "setEntry", "(IIIIII)V"⟩, 10) := ⟨⟨by decide +kernel, by decide +kernel⟩, List.mem_of_getElem? (i := 17) (by decide +kernel), List.mem_of_getElem? (i := 181) (by decide +kernel), List.mem_of_getElem? (i := 182) (by decide +kernel)⟩
theorem lw_p9 : lw_okq (⟨"MemberShelf", "settle", "(I)I"⟩, 6) := ⟨⟨by decide +kernel, by decide +kernel⟩, List.mem_of_getElem? (i := 9) (by decide +kernel), List.mem_of_getElem? (i := 185) (by decide +kernel), List.mem_of_getElem? (i := 186) (by decide +kernel)⟩
theorem lw_p10 : lw_okq (⟨"MemberShelf$History", "dropOldest", "()V"⟩, 2) := ⟨⟨by decide +kernel, by decide +kernel⟩, List.mem_of_getElem? (i := 55) (by decide +kernel), List.mem_of_getElem? (i := 193) (by decide +kernel), List.mem_of_getElem? (i := 194) (by decide +kernel)⟩
theorem lw_p11 : lw_okq (⟨"MemberShelf$State", "isMember", "(I)Z"⟩, 10) := ⟨⟨by decide +kernel, by decide +kernel⟩, List.mem_of_getElem? (i := 17) (by decide +kernel), List.mem_of_getElem? (i := 206) (by decide +kernel), List.mem_of_getElem? (i := 207) (by decide +kernel)⟩
theorem lw_p12 : lw_okq (⟨"MemberShelf$State", "takeOut", "(I)V"⟩, 10) := ⟨⟨by decide +kernel, by decide +kernel⟩, List.mem_of_getElem? (i := 17) (by decide +kernel), List.mem_of_getElem? (i := 218) (by decide +kernel), List.mem_of_getElem? (i := 219) (by decide +kernel)⟩
theorem lw_p13 : lw_okq (⟨"MemberShelf$State", "tellAliases", "(II)V"⟩, 10) := ⟨⟨by decide +kernel, by decide +kernel⟩, List.mem_of_getElem? (i := 17) (by decide +kernel), List.mem_of_getElem? (i := 230) (by decide +kernel), List.mem_of_getElem? (i := 231) (by decide +kernel)⟩
theorem lw_p14 : lw_okq (⟨"MemberShelf$Pad", "readAddition", "()Z"⟩, 8) := ⟨⟨by decide +kernel, by decide +kernel⟩, List.mem_of_getElem? (i := 71) (by decide +kernel), List.mem_of_getElem? (i := 250) (by decide +kernel), List.mem_of_getElem? (i := 251) (by decide +kernel)⟩
theorem lw_p15 : lw_okq (⟨"MemberShelf$Pad", "readName", "()I"⟩, 8) := ⟨⟨by decide +kernel, by decide +kernel⟩, List.mem_of_getElem? (i := 71) (by decide +kernel), List.mem_of_getElem? (i := 254) (by decide +kernel), List.mem_of_getElem? (i := 255) (by decide +kernel)⟩
def lw_privs_1 : List (MethodName × Nat) := [(⟨"MemberShelf$State", "rankOf", "(I)I"⟩, 10), (⟨"MemberShelf$State", "isRank", "(I)Z"⟩, 10), (⟨"MemberShelf$State", "isDirectoryFull", "()Z"⟩, 10), (⟨"MemberShelf$State", "hasRoom", "(I)Z"⟩, 10), (⟨"MemberShelf$State", "layText", "(I)I"⟩, 10), (⟨"MemberShelf$State", "insertEntry", "(IIIII)I"⟩, 10), (⟨"MemberShelf$State", "namesBelow", "(I)I"⟩, 10), (⟨"MemberShelf$State", "moveEntries", "(III)V"⟩, 10), (⟨"MemberShelf$State", "setEntry", "(IIIIII)V"⟩, 10), (⟨"MemberShelf", "settle", "(I)I"⟩, 6), (⟨"MemberShelf$History", "dropOldest", "()V"⟩, 2), (⟨"MemberShelf$State", "isMember", "(I)Z"⟩, 10), (⟨"MemberShelf$State", "takeOut", "(I)V"⟩, 10), (⟨"MemberShelf$State", "tellAliases", "(II)V"⟩, 10), (⟨"MemberShelf$Pad", "readAddition", "()Z"⟩, 8), (⟨"MemberShelf$Pad", "readName", "()I"⟩, 8)]
theorem lw_r1 : ∀ q ∈ lw_privs_1, lw_okq q := List.forall_mem_cons.mpr ⟨lw_p0, List.forall_mem_cons.mpr ⟨lw_p1, List.forall_mem_cons.mpr ⟨lw_p2, List.forall_mem_cons.mpr ⟨lw_p3, List.forall_mem_cons.mpr ⟨lw_p4, List.forall_mem_cons.mpr ⟨lw_p5, List.forall_mem_cons.mpr ⟨lw_p6, List.forall_mem_cons.mpr ⟨lw_p7, List.forall_mem_cons.mpr ⟨lw_p8, List.forall_mem_cons.mpr ⟨lw_p9, List.forall_mem_cons.mpr ⟨lw_p10, List.forall_mem_cons.mpr ⟨lw_p11, List.forall_mem_cons.mpr ⟨lw_p12, List.forall_mem_cons.mpr ⟨lw_p13, List.forall_mem_cons.mpr ⟨lw_p14, List.forall_mem_cons.mpr ⟨lw_p15, fun _ h => absurd h List.not_mem_nil⟩⟩⟩⟩⟩⟩⟩⟩⟩⟩⟩⟩⟩⟩⟩⟩
theorem lw_p16 : lw_okq (⟨"MemberShelf$Pad", "readLetter", "()I"⟩, 8) := ⟨⟨by decide +kernel, by decide +kernel⟩, List.mem_of_getElem? (i := 71) (by decide +kernel), List.mem_of_getElem? (i := 258) (by decide +kernel), List.mem_of_getElem? (i := 259) (by decide +kernel)⟩
theorem lw_p17 : lw_okq (⟨"MemberShelf$Pad", "next", "()I"⟩, 8) := ⟨⟨by decide +kernel, by decide +kernel⟩, List.mem_of_getElem? (i := 71) (by decide +kernel), List.mem_of_getElem? (i := 262) (by decide +kernel), List.mem_of_getElem? (i := 263) (by decide +kernel)⟩
theorem lw_p18 : lw_okq (⟨"MemberShelf$Pad", "takes", "(C)Z"⟩, 8) := ⟨⟨by decide +kernel, by decide +kernel⟩, List.mem_of_getElem? (i := 71) (by decide +kernel), List.mem_of_getElem? (i := 266) (by decide +kernel), List.mem_of_getElem? (i := 267) (by decide +kernel)⟩
theorem lw_p19 : lw_okq (⟨"MemberShelf$Pad", "readMember", "(I)Z"⟩, 8) := ⟨⟨by decide +kernel, by decide +kernel⟩, List.mem_of_getElem? (i := 71) (by decide +kernel), List.mem_of_getElem? (i := 270) (by decide +kernel), List.mem_of_getElem? (i := 271) (by decide +kernel)⟩
theorem lw_p20 : lw_okq (⟨"MemberShelf$Pad", "readNumber", "(II)I"⟩, 8) := ⟨⟨by decide +kernel, by decide +kernel⟩, List.mem_of_getElem? (i := 71) (by decide +kernel), List.mem_of_getElem? (i := 274) (by decide +kernel), List.mem_of_getElem? (i := 275) (by decide +kernel)⟩
theorem lw_p21 : lw_okq (⟨"MemberShelf$Pad", "nextDigit", "()I"⟩, 8) := ⟨⟨by decide +kernel, by decide +kernel⟩, List.mem_of_getElem? (i := 71) (by decide +kernel), List.mem_of_getElem? (i := 278) (by decide +kernel), List.mem_of_getElem? (i := 279) (by decide +kernel)⟩
theorem lw_p22 : lw_okq (⟨"MemberShelf$Pad", "noteAddition", "(IIII)Z"⟩, 8) := ⟨⟨by decide +kernel, by decide +kernel⟩, List.mem_of_getElem? (i := 71) (by decide +kernel), List.mem_of_getElem? (i := 282) (by decide +kernel), List.mem_of_getElem? (i := 283) (by decide +kernel)⟩
theorem lw_p23 : lw_okq (⟨"MemberShelf$Pad", "readAlias", "(I)Z"⟩, 8) := ⟨⟨by decide +kernel, by decide +kernel⟩, List.mem_of_getElem? (i := 71) (by decide +kernel), List.mem_of_getElem? (i := 286) (by decide +kernel), List.mem_of_getElem? (i := 287) (by decide +kernel)⟩
theorem lw_p24 : lw_okq (⟨"MemberShelf$State", "deadUnits", "()I"⟩, 10) := ⟨⟨by decide +kernel, by decide +kernel⟩, List.mem_of_getElem? (i := 17) (by decide +kernel), List.mem_of_getElem? (i := 304) (by decide +kernel), List.mem_of_getElem? (i := 305) (by decide +kernel)⟩
theorem lw_p25 : lw_okq (⟨"MemberShelf$State", "livingUnits", "()I"⟩, 10) := ⟨⟨by decide +kernel, by decide +kernel⟩, List.mem_of_getElem? (i := 17) (by decide +kernel), List.mem_of_getElem? (i := 308) (by decide +kernel), List.mem_of_getElem? (i := 309) (by decide +kernel)⟩
theorem lw_p26 : lw_okq (⟨"MemberShelf$State", "isFirstOfText", "(I)Z"⟩, 10) := ⟨⟨by decide +kernel, by decide +kernel⟩, List.mem_of_getElem? (i := 17) (by decide +kernel), List.mem_of_getElem? (i := 312) (by decide +kernel), List.mem_of_getElem? (i := 313) (by decide +kernel)⟩
theorem lw_p27 : lw_okq (⟨"MemberShelf$State", "closeUp", "()I"⟩, 10) := ⟨⟨by decide +kernel, by decide +kernel⟩, List.mem_of_getElem? (i := 17) (by decide +kernel), List.mem_of_getElem? (i := 316) (by decide +kernel), List.mem_of_getElem? (i := 317) (by decide +kernel)⟩
theorem lw_p28 : lw_okq (⟨"MemberShelf$State", "moveText", "(II)I"⟩, 10) := ⟨⟨by decide +kernel, by decide +kernel⟩, List.mem_of_getElem? (i := 17) (by decide +kernel), List.mem_of_getElem? (i := 320) (by decide +kernel), List.mem_of_getElem? (i := 321) (by decide +kernel)⟩
theorem lw_p29 : lw_okq (⟨"MemberShelf$State", "aliasesOf", "(I)I"⟩, 10) := ⟨⟨by decide +kernel, by decide +kernel⟩, List.mem_of_getElem? (i := 17) (by decide +kernel), List.mem_of_getElem? (i := 380) (by decide +kernel), List.mem_of_getElem? (i := 381) (by decide +kernel)⟩
theorem lw_p30 : lw_okq (⟨"MemberShelf$State", "isLost", "(I)Z"⟩, 10) := ⟨⟨by decide +kernel, by decide +kernel⟩, List.mem_of_getElem? (i := 17) (by decide +kernel), List.mem_of_getElem? (i := 384) (by decide +kernel), List.mem_of_getElem? (i := 385) (by decide +kernel)⟩
theorem lw_p31 : lw_okq (⟨"MemberShelf$State", "aliases", "()I"⟩, 10) := ⟨⟨by decide +kernel, by decide +kernel⟩, List.mem_of_getElem? (i := 17) (by decide +kernel), List.mem_of_getElem? (i := 444) (by decide +kernel), List.mem_of_getElem? (i := 445) (by decide +kernel)⟩
def lw_privs_2 : List (MethodName × Nat) := [(⟨"MemberShelf$Pad", "readLetter", "()I"⟩, 8), (⟨"MemberShelf$Pad", "next", "()I"⟩, 8), (⟨"MemberShelf$Pad", "takes", "(C)Z"⟩, 8), (⟨"MemberShelf$Pad", "readMember", "(I)Z"⟩, 8), (⟨"MemberShelf$Pad", "readNumber", "(II)I"⟩, 8), (⟨"MemberShelf$Pad", "nextDigit", "()I"⟩, 8), (⟨"MemberShelf$Pad", "noteAddition", "(IIII)Z"⟩, 8), (⟨"MemberShelf$Pad", "readAlias", "(I)Z"⟩, 8), (⟨"MemberShelf$State", "deadUnits", "()I"⟩, 10), (⟨"MemberShelf$State", "livingUnits", "()I"⟩, 10), (⟨"MemberShelf$State", "isFirstOfText", "(I)Z"⟩, 10), (⟨"MemberShelf$State", "closeUp", "()I"⟩, 10), (⟨"MemberShelf$State", "moveText", "(II)I"⟩, 10), (⟨"MemberShelf$State", "aliasesOf", "(I)I"⟩, 10), (⟨"MemberShelf$State", "isLost", "(I)Z"⟩, 10), (⟨"MemberShelf$State", "aliases", "()I"⟩, 10)]
theorem lw_r2 : ∀ q ∈ lw_privs_2, lw_okq q := List.forall_mem_cons.mpr ⟨lw_p16, List.forall_mem_cons.mpr ⟨lw_p17, List.forall_mem_cons.mpr ⟨lw_p18, List.forall_mem_cons.mpr ⟨lw_p19, List.forall_mem_cons.mpr ⟨lw_p20, List.forall_mem_cons.mpr ⟨lw_p21, List.forall_mem_cons.mpr ⟨lw_p22, List.forall_mem_cons.mpr ⟨lw_p23, List.forall_mem_cons.mpr ⟨lw_p24, List.forall_mem_cons.mpr ⟨lw_p25, List.forall_mem_cons.mpr ⟨lw_p26, List.forall_mem_cons.mpr ⟨lw_p27, List.forall_mem_cons.mpr ⟨lw_p28, List.forall_mem_cons.mpr ⟨lw_p29, List.forall_mem_cons.mpr ⟨lw_p30, List.forall_mem_cons.mpr ⟨lw_p31, fun _ h => absurd h List.not_mem_nil⟩⟩⟩⟩⟩⟩⟩⟩⟩⟩⟩⟩⟩⟩⟩⟩
theorem lw_p32 : lw_okq (⟨"MemberShelf$State", "lostAliases", "()I"⟩, 10) := ⟨⟨by decide +kernel, by decide +kernel⟩, List.mem_of_getElem? (i := 17) (by decide +kernel), List.mem_of_getElem? (i := 448) (by decide +kernel), List.mem_of_getElem? (i := 449) (by decide +kernel)⟩
theorem lw_p33 : lw_okq (⟨"MemberShelf$State", "livingTexts", "()I"⟩, 10) := ⟨⟨by decide +kernel, by decide +kernel⟩, List.mem_of_getElem? (i := 17) (by decide +kernel), List.mem_of_getElem? (i := 452) (by decide +kernel), List.mem_of_getElem? (i := 453) (by decide +kernel)⟩
theorem lw_p34 : lw_okq (⟨"MemberShelfModel", "remember", "()V"⟩, 12) := ⟨⟨by decide +kernel, by decide +kernel⟩, List.mem_of_getElem? (i := 456) (by decide +kernel), List.mem_of_getElem? (i := 503) (by decide +kernel), List.mem_of_getElem? (i := 504) (by decide +kernel)⟩
theorem lw_p35 : lw_okq (⟨"MemberShelfModel", "doAdd", "(III)I"⟩, 12) := ⟨⟨by decide +kernel, by decide +kernel⟩, List.mem_of_getElem? (i := 456) (by decide +kernel), List.mem_of_getElem? (i := 507) (by decide +kernel), List.mem_of_getElem? (i := 508) (by decide +kernel)⟩
theorem lw_p36 : lw_okq (⟨"MemberShelfModel", "rankOf", "(I)I"⟩, 12) := ⟨⟨by decide +kernel, by decide +kernel⟩, List.mem_of_getElem? (i := 456) (by decide +kernel), List.mem_of_getElem? (i := 520) (by decide +kernel), List.mem_of_getElem? (i := 521) (by decide +kernel)⟩
theorem lw_p37 : lw_okq (⟨"MemberShelfModel", "of", "(II)I"⟩, 12) := ⟨⟨by decide +kernel, by decide +kernel⟩, List.mem_of_getElem? (i := 456) (by decide +kernel), List.mem_of_getElem? (i := 524) (by decide +kernel), List.mem_of_getElem? (i := 525) (by decide +kernel)⟩
theorem lw_p38 : lw_okq (⟨"MemberShelfModel", "isDirectoryFull", "()Z"⟩, 12) := ⟨⟨by decide +kernel, by decide +kernel⟩, List.mem_of_getElem? (i := 456) (by decide +kernel), List.mem_of_getElem? (i := 528) (by decide +kernel), List.mem_of_getElem? (i := 529) (by decide +kernel)⟩
theorem lw_p39 : lw_okq (⟨"MemberShelfModel", "isRoomFor", "(I)Z"⟩, 12) := ⟨⟨by decide +kernel, by decide +kernel⟩, List.mem_of_getElem? (i := 456) (by decide +kernel), List.mem_of_getElem? (i := 532) (by decide +kernel), List.mem_of_getElem? (i := 533) (by decide +kernel)⟩
theorem lw_p40 : lw_okq (⟨"MemberShelfModel", "putsIn", "()I"⟩, 12) := ⟨⟨by decide +kernel, by decide +kernel⟩, List.mem_of_getElem? (i := 456) (by decide +kernel), List.mem_of_getElem? (i := 536) (by decide +kernel), List.mem_of_getElem? (i := 537) (by decide +kernel)⟩
theorem lw_p41 : lw_okq (⟨"MemberShelfModel", "sets", "(III)V"⟩, 12) := ⟨⟨by decide +kernel, by decide +kernel⟩, List.mem_of_getElem? (i := 456) (by decide +kernel), List.mem_of_getElem? (i := 540) (by decide +kernel), List.mem_of_getElem? (i := 541) (by decide +kernel)⟩
theorem lw_p42 : lw_okq (⟨"MemberShelfModel", "laysText", "(III)V"⟩, 12) := ⟨⟨by decide +kernel, by decide +kernel⟩, List.mem_of_getElem? (i := 456) (by decide +kernel), List.mem_of_getElem? (i := 544) (by decide +kernel), List.mem_of_getElem? (i := 545) (by decide +kernel)⟩
theorem lw_p43 : lw_okq (⟨"MemberShelfModel", "acted", "(I)I"⟩, 12) := ⟨⟨by decide +kernel, by decide +kernel⟩, List.mem_of_getElem? (i := 456) (by decide +kernel), List.mem_of_getElem? (i := 548) (by decide +kernel), List.mem_of_getElem? (i := 549) (by decide +kernel)⟩
theorem lw_p44 : lw_okq (⟨"MemberShelfModel", "isMember", "(I)Z"⟩, 12) := ⟨⟨by decide +kernel, by decide +kernel⟩, List.mem_of_getElem? (i := 456) (by decide +kernel), List.mem_of_getElem? (i := 556) (by decide +kernel), List.mem_of_getElem? (i := 557) (by decide +kernel)⟩
theorem lw_p45 : lw_okq (⟨"MemberShelfModel", "takesOut", "(I)V"⟩, 12) := ⟨⟨by decide +kernel, by decide +kernel⟩, List.mem_of_getElem? (i := 456) (by decide +kernel), List.mem_of_getElem? (i := 564) (by decide +kernel), List.mem_of_getElem? (i := 565) (by decide +kernel)⟩
theorem lw_p46 : lw_okq (⟨"MemberShelfModel", "doAlias", "(II)I"⟩, 12) := ⟨⟨by decide +kernel, by decide +kernel⟩, List.mem_of_getElem? (i := 456) (by decide +kernel), List.mem_of_getElem? (i := 576) (by decide +kernel), List.mem_of_getElem? (i := 577) (by decide +kernel)⟩
theorem lw_p47 : lw_okq (⟨"MemberShelfModel", "fault", "()I"⟩, 12) := ⟨⟨by decide +kernel, by decide +kernel⟩, List.mem_of_getElem? (i := 456) (by decide +kernel), List.mem_of_getElem? (i := 592) (by decide +kernel), List.mem_of_getElem? (i := 593) (by decide +kernel)⟩
def lw_privs_3 : List (MethodName × Nat) := [(⟨"MemberShelf$State", "lostAliases", "()I"⟩, 10), (⟨"MemberShelf$State", "livingTexts", "()I"⟩, 10), (⟨"MemberShelfModel", "remember", "()V"⟩, 12), (⟨"MemberShelfModel", "doAdd", "(III)I"⟩, 12), (⟨"MemberShelfModel", "rankOf", "(I)I"⟩, 12), (⟨"MemberShelfModel", "of", "(II)I"⟩, 12), (⟨"MemberShelfModel", "isDirectoryFull", "()Z"⟩, 12), (⟨"MemberShelfModel", "isRoomFor", "(I)Z"⟩, 12), (⟨"MemberShelfModel", "putsIn", "()I"⟩, 12), (⟨"MemberShelfModel", "sets", "(III)V"⟩, 12), (⟨"MemberShelfModel", "laysText", "(III)V"⟩, 12), (⟨"MemberShelfModel", "acted", "(I)I"⟩, 12), (⟨"MemberShelfModel", "isMember", "(I)Z"⟩, 12), (⟨"MemberShelfModel", "takesOut", "(I)V"⟩, 12), (⟨"MemberShelfModel", "doAlias", "(II)I"⟩, 12), (⟨"MemberShelfModel", "fault", "()I"⟩, 12)]
theorem lw_r3 : ∀ q ∈ lw_privs_3, lw_okq q := List.forall_mem_cons.mpr ⟨lw_p32, List.forall_mem_cons.mpr ⟨lw_p33, List.forall_mem_cons.mpr ⟨lw_p34, List.forall_mem_cons.mpr ⟨lw_p35, List.forall_mem_cons.mpr ⟨lw_p36, List.forall_mem_cons.mpr ⟨lw_p37, List.forall_mem_cons.mpr ⟨lw_p38, List.forall_mem_cons.mpr ⟨lw_p39, List.forall_mem_cons.mpr ⟨lw_p40, List.forall_mem_cons.mpr ⟨lw_p41, List.forall_mem_cons.mpr ⟨lw_p42, List.forall_mem_cons.mpr ⟨lw_p43, List.forall_mem_cons.mpr ⟨lw_p44, List.forall_mem_cons.mpr ⟨lw_p45, List.forall_mem_cons.mpr ⟨lw_p46, List.forall_mem_cons.mpr ⟨lw_p47, fun _ h => absurd h List.not_mem_nil⟩⟩⟩⟩⟩⟩⟩⟩⟩⟩⟩⟩⟩⟩⟩⟩
theorem lw_p48 : lw_okq (⟨"MemberShelfModel", "readsAddition", "(Z)Z"⟩, 12) := ⟨⟨by decide +kernel, by decide +kernel⟩, List.mem_of_getElem? (i := 456) (by decide +kernel), List.mem_of_getElem? (i := 596) (by decide +kernel), List.mem_of_getElem? (i := 597) (by decide +kernel)⟩
theorem lw_p49 : lw_okq (⟨"MemberShelfModel", "readsName", "()Z"⟩, 12) := ⟨⟨by decide +kernel, by decide +kernel⟩, List.mem_of_getElem? (i := 456) (by decide +kernel), List.mem_of_getElem? (i := 600) (by decide +kernel), List.mem_of_getElem? (i := 601) (by decide +kernel)⟩
theorem lw_p50 : lw_okq (⟨"MemberShelfModel", "isHere", "(II)Z"⟩, 12) := ⟨⟨by decide +kernel, by decide +kernel⟩, List.mem_of_getElem? (i := 456) (by decide +kernel), List.mem_of_getElem? (i := 604) (by decide +kernel), List.mem_of_getElem? (i := 605) (by decide +kernel)⟩
theorem lw_p51 : lw_okq (⟨"MemberShelfModel", "takes", "(I)Z"⟩, 12) := ⟨⟨by decide +kernel, by decide +kernel⟩, List.mem_of_getElem? (i := 456) (by decide +kernel), List.mem_of_getElem? (i := 608) (by decide +kernel), List.mem_of_getElem? (i := 609) (by decide +kernel)⟩
theorem lw_p52 : lw_okq (⟨"MemberShelfModel", "readsNumber", "(II)Z"⟩, 12) := ⟨⟨by decide +kernel, by decide +kernel⟩, List.mem_of_getElem? (i := 456) (by decide +kernel), List.mem_of_getElem? (i := 612) (by decide +kernel), List.mem_of_getElem? (i := 613) (by decide +kernel)⟩
theorem lw_p53 : lw_okq (⟨"MemberShelfModel", "living", "(Z)I"⟩, 12) := ⟨⟨by decide +kernel, by decide +kernel⟩, List.mem_of_getElem? (i := 456) (by decide +kernel), List.mem_of_getElem? (i := 620) (by decide +kernel), List.mem_of_getElem? (i := 621) (by decide +kernel)⟩
theorem lw_p54 : lw_okq (⟨"MemberShelfModel", "nextText", "(I)I"⟩, 12) := ⟨⟨by decide +kernel, by decide +kernel⟩, List.mem_of_getElem? (i := 456) (by decide +kernel), List.mem_of_getElem? (i := 624) (by decide +kernel), List.mem_of_getElem? (i := 625) (by decide +kernel)⟩
theorem lw_p55 : lw_okq (⟨"MemberShelfModel", "squeezes", "()I"⟩, 12) := ⟨⟨by decide +kernel, by decide +kernel⟩, List.mem_of_getElem? (i := 456) (by decide +kernel), List.mem_of_getElem? (i := 628) (by decide +kernel), List.mem_of_getElem? (i := 629) (by decide +kernel)⟩
theorem lw_p56 : lw_okq (⟨"MemberShelfModel", "aliasesOf", "(I)I"⟩, 12) := ⟨⟨by decide +kernel, by decide +kernel⟩, List.mem_of_getElem? (i := 456) (by decide +kernel), List.mem_of_getElem? (i := 653) (by decide +kernel), List.mem_of_getElem? (i := 654) (by decide +kernel)⟩
theorem lw_p57 : lw_okq (⟨"MemberShelfModel", "isLost", "(I)Z"⟩, 12) := ⟨⟨by decide +kernel, by decide +kernel⟩, List.mem_of_getElem? (i := 456) (by decide +kernel), List.mem_of_getElem? (i := 657) (by decide +kernel), List.mem_of_getElem? (i := 658) (by decide +kernel)⟩
theorem lw_p58 : lw_okq (⟨"MemberShelfModel", "members", "()I"⟩, 12) := ⟨⟨by decide +kernel, by decide +kernel⟩, List.mem_of_getElem? (i := 456) (by decide +kernel), List.mem_of_getElem? (i := 688) (by decide +kernel), List.mem_of_getElem? (i := 689) (by decide +kernel)⟩
theorem lw_p59 : lw_okq (⟨"MemberShelfModel", "lostOnes", "()I"⟩, 12) := ⟨⟨by decide +kernel, by decide +kernel⟩, List.mem_of_getElem? (i := 456) (by decide +kernel), List.mem_of_getElem? (i := 692) (by decide +kernel), List.mem_of_getElem? (i := 693) (by decide +kernel)⟩
def lw_privs_4 : List (MethodName × Nat) := [(⟨"MemberShelfModel", "readsAddition", "(Z)Z"⟩, 12), (⟨"MemberShelfModel", "readsName", "()Z"⟩, 12), (⟨"MemberShelfModel", "isHere", "(II)Z"⟩, 12), (⟨"MemberShelfModel", "takes", "(I)Z"⟩, 12), (⟨"MemberShelfModel", "readsNumber", "(II)Z"⟩, 12), (⟨"MemberShelfModel", "living", "(Z)I"⟩, 12), (⟨"MemberShelfModel", "nextText", "(I)I"⟩, 12), (⟨"MemberShelfModel", "squeezes", "()I"⟩, 12), (⟨"MemberShelfModel", "aliasesOf", "(I)I"⟩, 12), (⟨"MemberShelfModel", "isLost", "(I)Z"⟩, 12), (⟨"MemberShelfModel", "members", "()I"⟩, 12), (⟨"MemberShelfModel", "lostOnes", "()I"⟩, 12)]
theorem lw_r4 : ∀ q ∈ lw_privs_4, lw_okq q := List.forall_mem_cons.mpr ⟨lw_p48, List.forall_mem_cons.mpr ⟨lw_p49, List.forall_mem_cons.mpr ⟨lw_p50, List.forall_mem_cons.mpr ⟨lw_p51, List.forall_mem_cons.mpr ⟨lw_p52, List.forall_mem_cons.mpr ⟨lw_p53, List.forall_mem_cons.mpr ⟨lw_p54, List.forall_mem_cons.mpr ⟨lw_p55, List.forall_mem_cons.mpr ⟨lw_p56, List.forall_mem_cons.mpr ⟨lw_p57, List.forall_mem_cons.mpr ⟨lw_p58, List.forall_mem_cons.mpr ⟨lw_p59, fun _ h => absurd h List.not_mem_nil⟩⟩⟩⟩⟩⟩⟩⟩⟩⟩⟩⟩
def lw_privs : List (MethodName × Nat) := lw_privs_1 ++ (lw_privs_2 ++ (lw_privs_3 ++ (lw_privs_4)))
def lw_tbl : List Cond := k2_sels lw_privs ++ tables_1
theorem lw_privs_ok : ∀ q ∈ lw_privs, lw_okq q := by
  show ∀ q ∈ lw_privs_1 ++ (lw_privs_2 ++ (lw_privs_3 ++ (lw_privs_4))), lw_okq q
  exact List.forall_mem_append.mpr ⟨lw_r1, List.forall_mem_append.mpr ⟨lw_r2, List.forall_mem_append.mpr ⟨lw_r3, lw_r4⟩⟩⟩
def RX0 : String := "MemberShelf$History"
def TX0 : u_T := fun k => match k with
  | 0 => ("MemberShelf$History", "states", "[LMemberShelf$State;", true)
  | _ => ("MemberShelf$History", "size", "I", false)
def tyX0 : Nat → FieldType := fun k => match k with
  | 0 => .array (.object "MemberShelf$State")
  | _ => .int
abbrev wsX00 : List Cond := u_ws RX0 TX0 2
theorem nmX0 : ∀ a, a < 2 → ∀ b, b < 2 → a ≠ b → (TX0 a).2.1 ≠ (TX0 b).2.1 := by decide +kernel
theorem tyX0_ok : ∀ k, k < 2 → parseFieldDescriptor (TX0 k).2.2.1 = some (tyX0 k) := by decide +kernel
abbrev cX0_init : ByteArray := prog_2_method_1_code
def yX0_init : MethodName := ⟨RX0, "<init>", "()V"⟩
abbrev cX0_size : ByteArray := prog_2_method_2_code
def yX0_size : MethodName := ⟨RX0, "size", "()I"⟩
abbrev cX0_keepState : ByteArray := prog_2_method_3_code
def yX0_keepState : MethodName := ⟨RX0, "keepState", "(LMemberShelf$State;)V"⟩
abbrev cX0_giveLatestTo : ByteArray := prog_2_method_4_code
def yX0_giveLatestTo : MethodName := ⟨RX0, "giveLatestTo", "(LMemberShelf$State;)Z"⟩
abbrev cX0_dropOldest : ByteArray := prog_2_method_5_code
def yX0_dropOldest : MethodName := ⟨RX0, "dropOldest", "()V"⟩
def RX1 : String := "MemberShelf$Pad"
def TX1 : u_T := fun k => match k with
  | 0 => ("MemberShelf$Pad", "characters", "[C", true)
  | 1 => ("MemberShelf$Pad", "length", "I", false)
  | 2 => ("MemberShelf$Pad", "names", "[I", true)
  | 3 => ("MemberShelf$Pad", "givers", "[I", true)
  | 4 => ("MemberShelf$Pad", "lengths", "[I", true)
  | 5 => ("MemberShelf$Pad", "marks", "[I", true)
  | 6 => ("MemberShelf$Pad", "additions", "I", false)
  | _ => ("MemberShelf$Pad", "place", "I", false)
def tyX1 : Nat → FieldType := fun k => match k with
  | 0 => .array .char
  | 1 => .int
  | 2 => .array .int
  | 3 => .array .int
  | 4 => .array .int
  | 5 => .array .int
  | 6 => .int
  | _ => .int
abbrev wsX10 : List Cond := u_ws RX1 TX1 8
theorem nmX1 : ∀ a, a < 8 → ∀ b, b < 8 → a ≠ b → (TX1 a).2.1 ≠ (TX1 b).2.1 := by decide +kernel
theorem tyX1_ok : ∀ k, k < 8 → parseFieldDescriptor (TX1 k).2.2.1 = some (tyX1 k) := by decide +kernel
abbrev cX1_init : ByteArray := prog_3_method_1_code
def yX1_init : MethodName := ⟨RX1, "<init>", "()V"⟩
abbrev cX1_length : ByteArray := prog_3_method_2_code
def yX1_length : MethodName := ⟨RX1, "length", "()I"⟩
abbrev cX1_append : ByteArray := prog_3_method_3_code
def yX1_append : MethodName := ⟨RX1, "append", "(C)I"⟩
abbrev cX1_empty : ByteArray := prog_3_method_4_code
def yX1_empty : MethodName := ⟨RX1, "empty", "()I"⟩
abbrev cX1_readAdditions : ByteArray := prog_3_method_5_code
def yX1_readAdditions : MethodName := ⟨RX1, "readAdditions", "()I"⟩
abbrev cX1_makeAdditions : ByteArray := prog_3_method_6_code
def yX1_makeAdditions : MethodName := ⟨RX1, "makeAdditions", "(LMemberShelf$State;)I"⟩
abbrev cX1_readAddition : ByteArray := prog_3_method_7_code
def yX1_readAddition : MethodName := ⟨RX1, "readAddition", "()Z"⟩
abbrev cX1_readMember : ByteArray := prog_3_method_8_code
def yX1_readMember : MethodName := ⟨RX1, "readMember", "(I)Z"⟩
abbrev cX1_readAlias : ByteArray := prog_3_method_9_code
def yX1_readAlias : MethodName := ⟨RX1, "readAlias", "(I)Z"⟩
abbrev cX1_readName : ByteArray := prog_3_method_10_code
def yX1_readName : MethodName := ⟨RX1, "readName", "()I"⟩
abbrev cX1_readLetter : ByteArray := prog_3_method_11_code
def yX1_readLetter : MethodName := ⟨RX1, "readLetter", "()I"⟩
abbrev cX1_readNumber : ByteArray := prog_3_method_12_code
def yX1_readNumber : MethodName := ⟨RX1, "readNumber", "(II)I"⟩
abbrev cX1_nextDigit : ByteArray := prog_3_method_13_code
def yX1_nextDigit : MethodName := ⟨RX1, "nextDigit", "()I"⟩
abbrev cX1_takes : ByteArray := prog_3_method_14_code
def yX1_takes : MethodName := ⟨RX1, "takes", "(C)Z"⟩
abbrev cX1_next : ByteArray := prog_3_method_15_code
def yX1_next : MethodName := ⟨RX1, "next", "()I"⟩
abbrev cX1_noteAddition : ByteArray := prog_3_method_16_code
def yX1_noteAddition : MethodName := ⟨RX1, "noteAddition", "(IIII)Z"⟩
def RX2 : String := "MemberShelf$State"
def TX2 : u_T := fun k => match k with
  | 0 => ("MemberShelf$State", "names", "[I", true)
  | 1 => ("MemberShelf$State", "givers", "[I", true)
  | 2 => ("MemberShelf$State", "starts", "[I", true)
  | 3 => ("MemberShelf$State", "lengths", "[I", true)
  | 4 => ("MemberShelf$State", "marks", "[I", true)
  | 5 => ("MemberShelf$State", "size", "I", false)
  | 6 => ("MemberShelf$State", "blocks", "I", false)
  | 7 => ("MemberShelf$State", "end", "I", false)
  | 8 => ("MemberShelf$State", "squeezings", "I", false)
  | _ => ("MemberShelf$State", "unitsGivenBack", "I", false)
def tyX2 : Nat → FieldType := fun k => match k with
  | 0 => .array .int
  | 1 => .array .int
  | 2 => .array .int
  | 3 => .array .int
  | 4 => .array .int
  | 5 => .int
  | 6 => .int
  | 7 => .int
  | 8 => .int
  | _ => .int
abbrev wsX20 : List Cond := u_ws RX2 TX2 10
theorem nmX2 : ∀ a, a < 10 → ∀ b, b < 10 → a ≠ b → (TX2 a).2.1 ≠ (TX2 b).2.1 := by decide +kernel
theorem tyX2_ok : ∀ k, k < 10 → parseFieldDescriptor (TX2 k).2.2.1 = some (tyX2 k) := by decide +kernel
abbrev cX2_init : ByteArray := prog_4_method_1_code
def yX2_init : MethodName := ⟨RX2, "<init>", "()V"⟩
abbrev cX2_copyFrom : ByteArray := prog_4_method_2_code
def yX2_copyFrom : MethodName := ⟨RX2, "copyFrom", "(LMemberShelf$State;)V"⟩
abbrev cX2_size : ByteArray := prog_4_method_3_code
def yX2_size : MethodName := ⟨RX2, "size", "()I"⟩
abbrev cX2_addMember : ByteArray := prog_4_method_4_code
def yX2_addMember : MethodName := ⟨RX2, "addMember", "(III)I"⟩
abbrev cX2_replaceText : ByteArray := prog_4_method_5_code
def yX2_replaceText : MethodName := ⟨RX2, "replaceText", "(III)I"⟩
abbrev cX2_removeEntry : ByteArray := prog_4_method_6_code
def yX2_removeEntry : MethodName := ⟨RX2, "removeEntry", "(I)I"⟩
abbrev cX2_renameEntry : ByteArray := prog_4_method_7_code
def yX2_renameEntry : MethodName := ⟨RX2, "renameEntry", "(II)I"⟩
abbrev cX2_giveAlias : ByteArray := prog_4_method_8_code
def yX2_giveAlias : MethodName := ⟨RX2, "giveAlias", "(II)I"⟩
abbrev cX2_giveBackDeadRoom : ByteArray := prog_4_method_9_code
def yX2_giveBackDeadRoom : MethodName := ⟨RX2, "giveBackDeadRoom", "()I"⟩
abbrev cX2_changeBlocks : ByteArray := prog_4_method_10_code
def yX2_changeBlocks : MethodName := ⟨RX2, "changeBlocks", "(I)I"⟩
abbrev cX2_tellEntry : ByteArray := prog_4_method_11_code
def yX2_tellEntry : MethodName := ⟨RX2, "tellEntry", "(II)I"⟩
abbrev cX2_tellName : ByteArray := prog_4_method_12_code
def yX2_tellName : MethodName := ⟨RX2, "tellName", "(I)I"⟩
abbrev cX2_tellBlock : ByteArray := prog_4_method_13_code
def yX2_tellBlock : MethodName := ⟨RX2, "tellBlock", "(II)I"⟩
abbrev cX2_tellUnit : ByteArray := prog_4_method_14_code
def yX2_tellUnit : MethodName := ⟨RX2, "tellUnit", "(I)I"⟩
abbrev cX2_tellFit : ByteArray := prog_4_method_15_code
def yX2_tellFit : MethodName := ⟨RX2, "tellFit", "(I)I"⟩
abbrev cX2_tellBeginning : ByteArray := prog_4_method_16_code
def yX2_tellBeginning : MethodName := ⟨RX2, "tellBeginning", "(II)I"⟩
abbrev cX2_tellCount : ByteArray := prog_4_method_17_code
def yX2_tellCount : MethodName := ⟨RX2, "tellCount", "(I)I"⟩
abbrev cX2_isName : ByteArray := prog_4_method_18_code
def yX2_isName : MethodName := ⟨RX2, "isName", "(I)Z"⟩
abbrev cX2_isLength : ByteArray := prog_4_method_19_code
def yX2_isLength : MethodName := ⟨RX2, "isLength", "(I)Z"⟩
abbrev cX2_isMark : ByteArray := prog_4_method_20_code
def yX2_isMark : MethodName := ⟨RX2, "isMark", "(I)Z"⟩
abbrev cX2_isRank : ByteArray := prog_4_method_21_code
def yX2_isRank : MethodName := ⟨RX2, "isRank", "(I)Z"⟩
abbrev cX2_isMember : ByteArray := prog_4_method_22_code
def yX2_isMember : MethodName := ⟨RX2, "isMember", "(I)Z"⟩
abbrev cX2_isLost : ByteArray := prog_4_method_23_code
def yX2_isLost : MethodName := ⟨RX2, "isLost", "(I)Z"⟩
abbrev cX2_isFirstOfText : ByteArray := prog_4_method_24_code
def yX2_isFirstOfText : MethodName := ⟨RX2, "isFirstOfText", "(I)Z"⟩
abbrev cX2_isDirectoryFull : ByteArray := prog_4_method_25_code
def yX2_isDirectoryFull : MethodName := ⟨RX2, "isDirectoryFull", "()Z"⟩
abbrev cX2_hasRoom : ByteArray := prog_4_method_26_code
def yX2_hasRoom : MethodName := ⟨RX2, "hasRoom", "(I)Z"⟩
abbrev cX2_rankOf : ByteArray := prog_4_method_27_code
def yX2_rankOf : MethodName := ⟨RX2, "rankOf", "(I)I"⟩
abbrev cX2_namesBelow : ByteArray := prog_4_method_28_code
def yX2_namesBelow : MethodName := ⟨RX2, "namesBelow", "(I)I"⟩
abbrev cX2_aliases : ByteArray := prog_4_method_29_code
def yX2_aliases : MethodName := ⟨RX2, "aliases", "()I"⟩
abbrev cX2_lostAliases : ByteArray := prog_4_method_30_code
def yX2_lostAliases : MethodName := ⟨RX2, "lostAliases", "()I"⟩
abbrev cX2_aliasesOf : ByteArray := prog_4_method_31_code
def yX2_aliasesOf : MethodName := ⟨RX2, "aliasesOf", "(I)I"⟩
abbrev cX2_livingTexts : ByteArray := prog_4_method_32_code
def yX2_livingTexts : MethodName := ⟨RX2, "livingTexts", "()I"⟩
abbrev cX2_livingUnits : ByteArray := prog_4_method_33_code
def yX2_livingUnits : MethodName := ⟨RX2, "livingUnits", "()I"⟩
abbrev cX2_deadUnits : ByteArray := prog_4_method_34_code
def yX2_deadUnits : MethodName := ⟨RX2, "deadUnits", "()I"⟩
abbrev cX2_layText : ByteArray := prog_4_method_35_code
def yX2_layText : MethodName := ⟨RX2, "layText", "(I)I"⟩
abbrev cX2_tellAliases : ByteArray := prog_4_method_36_code
def yX2_tellAliases : MethodName := ⟨RX2, "tellAliases", "(II)V"⟩
abbrev cX2_insertEntry : ByteArray := prog_4_method_37_code
def yX2_insertEntry : MethodName := ⟨RX2, "insertEntry", "(IIIII)I"⟩
abbrev cX2_takeOut : ByteArray := prog_4_method_38_code
def yX2_takeOut : MethodName := ⟨RX2, "takeOut", "(I)V"⟩
abbrev cX2_setEntry : ByteArray := prog_4_method_39_code
def yX2_setEntry : MethodName := ⟨RX2, "setEntry", "(IIIIII)V"⟩
abbrev cX2_moveEntries : ByteArray := prog_4_method_40_code
def yX2_moveEntries : MethodName := ⟨RX2, "moveEntries", "(III)V"⟩
abbrev cX2_closeUp : ByteArray := prog_4_method_41_code
def yX2_closeUp : MethodName := ⟨RX2, "closeUp", "()I"⟩
abbrev cX2_moveText : ByteArray := prog_4_method_42_code
def yX2_moveText : MethodName := ⟨RX2, "moveText", "(II)I"⟩
def RX3 : String := "MemberShelf"
def TX3 : u_T := fun k => match k with
  | 0 => ("MemberShelf", "shelf", "LMemberShelf$State;", true)
  | 1 => ("MemberShelf", "trial", "LMemberShelf$State;", true)
  | 2 => ("MemberShelf", "snapshot", "LMemberShelf$State;", true)
  | 3 => ("MemberShelf", "hasSnapshot", "Z", false)
  | 4 => ("MemberShelf", "history", "LMemberShelf$History;", true)
  | _ => ("MemberShelf", "pad", "LMemberShelf$Pad;", true)
def tyX3 : Nat → FieldType := fun k => match k with
  | 0 => .object "MemberShelf$State"
  | 1 => .object "MemberShelf$State"
  | 2 => .object "MemberShelf$State"
  | 3 => .boolean
  | 4 => .object "MemberShelf$History"
  | _ => .object "MemberShelf$Pad"
abbrev wsX30 : List Cond := u_ws RX3 TX3 6
theorem nmX3 : ∀ a, a < 6 → ∀ b, b < 6 → a ≠ b → (TX3 a).2.1 ≠ (TX3 b).2.1 := by decide +kernel
theorem tyX3_ok : ∀ k, k < 6 → parseFieldDescriptor (TX3 k).2.2.1 = some (tyX3 k) := by decide +kernel
abbrev cX3_init : ByteArray := prog_1_method_1_code
def yX3_init : MethodName := ⟨RX3, "<init>", "()V"⟩
abbrev cX3_add : ByteArray := prog_1_method_2_code
def yX3_add : MethodName := ⟨RX3, "add", "(III)I"⟩
abbrev cX3_replace : ByteArray := prog_1_method_3_code
def yX3_replace : MethodName := ⟨RX3, "replace", "(III)I"⟩
abbrev cX3_remove : ByteArray := prog_1_method_4_code
def yX3_remove : MethodName := ⟨RX3, "remove", "(I)I"⟩
abbrev cX3_rename : ByteArray := prog_1_method_5_code
def yX3_rename : MethodName := ⟨RX3, "rename", "(II)I"⟩
abbrev cX3_alias : ByteArray := prog_1_method_6_code
def yX3_alias : MethodName := ⟨RX3, "alias", "(II)I"⟩
abbrev cX3_addAll : ByteArray := prog_1_method_7_code
def yX3_addAll : MethodName := ⟨RX3, "addAll", "()I"⟩
abbrev cX3_squeeze : ByteArray := prog_1_method_8_code
def yX3_squeeze : MethodName := ⟨RX3, "squeeze", "()I"⟩
abbrev cX3_makeAnew : ByteArray := prog_1_method_9_code
def yX3_makeAnew : MethodName := ⟨RX3, "makeAnew", "(I)I"⟩
abbrev cX3_type : ByteArray := prog_1_method_10_code
def yX3_type : MethodName := ⟨RX3, "type", "(C)I"⟩
abbrev cX3_clearPad : ByteArray := prog_1_method_11_code
def yX3_clearPad : MethodName := ⟨RX3, "clearPad", "()I"⟩
abbrev cX3_undo : ByteArray := prog_1_method_12_code
def yX3_undo : MethodName := ⟨RX3, "undo", "()I"⟩
abbrev cX3_keep : ByteArray := prog_1_method_13_code
def yX3_keep : MethodName := ⟨RX3, "keep", "()I"⟩
abbrev cX3_restore : ByteArray := prog_1_method_14_code
def yX3_restore : MethodName := ⟨RX3, "restore", "()I"⟩
abbrev cX3_entry : ByteArray := prog_1_method_15_code
def yX3_entry : MethodName := ⟨RX3, "entry", "(II)I"⟩
abbrev cX3_named : ByteArray := prog_1_method_16_code
def yX3_named : MethodName := ⟨RX3, "named", "(I)I"⟩
abbrev cX3_block : ByteArray := prog_1_method_17_code
def yX3_block : MethodName := ⟨RX3, "block", "(II)I"⟩
abbrev cX3_at : ByteArray := prog_1_method_18_code
def yX3_at : MethodName := ⟨RX3, "at", "(I)I"⟩
abbrev cX3_fits : ByteArray := prog_1_method_19_code
def yX3_fits : MethodName := ⟨RX3, "fits", "(I)I"⟩
abbrev cX3_beginning : ByteArray := prog_1_method_20_code
def yX3_beginning : MethodName := ⟨RX3, "beginning", "(II)I"⟩
abbrev cX3_count : ByteArray := prog_1_method_21_code
def yX3_count : MethodName := ⟨RX3, "count", "(I)I"⟩
abbrev cX3_settle : ByteArray := prog_1_method_22_code
def yX3_settle : MethodName := ⟨RX3, "settle", "(I)I"⟩
def RX4 : String := "MemberShelfModel"
def TX4 : u_T := fun k => match k with
  | 0 => ("MemberShelfModel", "all", "[I", true)
  | 1 => ("MemberShelfModel", "kept", "[I", true)
  | 2 => ("MemberShelfModel", "history", "[I", true)
  | 3 => ("MemberShelfModel", "historyLong", "I", false)
  | 4 => ("MemberShelfModel", "snapshot", "[I", true)
  | 5 => ("MemberShelfModel", "isTaken", "I", false)
  | 6 => ("MemberShelfModel", "out", "[I", true)
  | 7 => ("MemberShelfModel", "pad", "[I", true)
  | 8 => ("MemberShelfModel", "padLong", "I", false)
  | 9 => ("MemberShelfModel", "spot", "I", false)
  | 10 => ("MemberShelfModel", "number", "I", false)
  | _ => ("MemberShelfModel", "told", "I", false)
def tyX4 : Nat → FieldType := fun k => match k with
  | 0 => .array .int
  | 1 => .array .int
  | 2 => .array .int
  | 3 => .int
  | 4 => .array .int
  | 5 => .int
  | 6 => .array .int
  | 7 => .array .int
  | 8 => .int
  | 9 => .int
  | 10 => .int
  | _ => .int
abbrev wsX40 : List Cond := u_ws RX4 TX4 12
theorem nmX4 : ∀ a, a < 12 → ∀ b, b < 12 → a ≠ b → (TX4 a).2.1 ≠ (TX4 b).2.1 := by decide +kernel
theorem tyX4_ok : ∀ k, k < 12 → parseFieldDescriptor (TX4 k).2.2.1 = some (tyX4 k) := by decide +kernel
abbrev cX4_init : ByteArray := prog_6_method_1_code
def yX4_init : MethodName := ⟨RX4, "<init>", "()V"⟩
abbrev cX4_in : ByteArray := prog_6_method_3_code
def yX4_in : MethodName := ⟨RX4, "in", "(JJJ)Z"⟩
abbrev cX4_remember : ByteArray := prog_6_method_4_code
def yX4_remember : MethodName := ⟨RX4, "remember", "()V"⟩
abbrev cX4_acted : ByteArray := prog_6_method_5_code
def yX4_acted : MethodName := ⟨RX4, "acted", "(I)I"⟩
abbrev cX4_of : ByteArray := prog_6_method_6_code
def yX4_of : MethodName := ⟨RX4, "of", "(II)I"⟩
abbrev cX4_sets : ByteArray := prog_6_method_7_code
def yX4_sets : MethodName := ⟨RX4, "sets", "(III)V"⟩
abbrev cX4_isName : ByteArray := prog_6_method_8_code
def yX4_isName : MethodName := ⟨RX4, "isName", "(I)Z"⟩
abbrev cX4_rankOf : ByteArray := prog_6_method_9_code
def yX4_rankOf : MethodName := ⟨RX4, "rankOf", "(I)I"⟩
abbrev cX4_isMember : ByteArray := prog_6_method_10_code
def yX4_isMember : MethodName := ⟨RX4, "isMember", "(I)Z"⟩
abbrev cX4_isDirectoryFull : ByteArray := prog_6_method_11_code
def yX4_isDirectoryFull : MethodName := ⟨RX4, "isDirectoryFull", "()Z"⟩
abbrev cX4_takesOut : ByteArray := prog_6_method_12_code
def yX4_takesOut : MethodName := ⟨RX4, "takesOut", "(I)V"⟩
abbrev cX4_putsIn : ByteArray := prog_6_method_13_code
def yX4_putsIn : MethodName := ⟨RX4, "putsIn", "()I"⟩
abbrev cX4_isRoomFor : ByteArray := prog_6_method_14_code
def yX4_isRoomFor : MethodName := ⟨RX4, "isRoomFor", "(I)Z"⟩
abbrev cX4_laysText : ByteArray := prog_6_method_15_code
def yX4_laysText : MethodName := ⟨RX4, "laysText", "(III)V"⟩
abbrev cX4_nextText : ByteArray := prog_6_method_16_code
def yX4_nextText : MethodName := ⟨RX4, "nextText", "(I)I"⟩
abbrev cX4_living : ByteArray := prog_6_method_17_code
def yX4_living : MethodName := ⟨RX4, "living", "(Z)I"⟩
abbrev cX4_squeezes : ByteArray := prog_6_method_18_code
def yX4_squeezes : MethodName := ⟨RX4, "squeezes", "()I"⟩
abbrev cX4_isLost : ByteArray := prog_6_method_19_code
def yX4_isLost : MethodName := ⟨RX4, "isLost", "(I)Z"⟩
abbrev cX4_aliasesOf : ByteArray := prog_6_method_20_code
def yX4_aliasesOf : MethodName := ⟨RX4, "aliasesOf", "(I)I"⟩
abbrev cX4_doAdd : ByteArray := prog_6_method_21_code
def yX4_doAdd : MethodName := ⟨RX4, "doAdd", "(III)I"⟩
abbrev cX4_doAlias : ByteArray := prog_6_method_22_code
def yX4_doAlias : MethodName := ⟨RX4, "doAlias", "(II)I"⟩
abbrev cX4_add : ByteArray := prog_6_method_23_code
def yX4_add : MethodName := ⟨RX4, "add", "(III)I"⟩
abbrev cX4_replace : ByteArray := prog_6_method_24_code
def yX4_replace : MethodName := ⟨RX4, "replace", "(III)I"⟩
abbrev cX4_remove : ByteArray := prog_6_method_25_code
def yX4_remove : MethodName := ⟨RX4, "remove", "(I)I"⟩
abbrev cX4_rename : ByteArray := prog_6_method_26_code
def yX4_rename : MethodName := ⟨RX4, "rename", "(II)I"⟩
abbrev cX4_alias : ByteArray := prog_6_method_27_code
def yX4_alias : MethodName := ⟨RX4, "alias", "(II)I"⟩
abbrev cX4_type : ByteArray := prog_6_method_28_code
def yX4_type : MethodName := ⟨RX4, "type", "(C)I"⟩
abbrev cX4_clearPad : ByteArray := prog_6_method_29_code
def yX4_clearPad : MethodName := ⟨RX4, "clearPad", "()I"⟩
abbrev cX4_isHere : ByteArray := prog_6_method_30_code
def yX4_isHere : MethodName := ⟨RX4, "isHere", "(II)Z"⟩
abbrev cX4_takes : ByteArray := prog_6_method_31_code
def yX4_takes : MethodName := ⟨RX4, "takes", "(I)Z"⟩
abbrev cX4_readsNumber : ByteArray := prog_6_method_32_code
def yX4_readsNumber : MethodName := ⟨RX4, "readsNumber", "(II)Z"⟩
abbrev cX4_readsName : ByteArray := prog_6_method_33_code
def yX4_readsName : MethodName := ⟨RX4, "readsName", "()Z"⟩
abbrev cX4_readsAddition : ByteArray := prog_6_method_34_code
def yX4_readsAddition : MethodName := ⟨RX4, "readsAddition", "(Z)Z"⟩
abbrev cX4_fault : ByteArray := prog_6_method_35_code
def yX4_fault : MethodName := ⟨RX4, "fault", "()I"⟩
abbrev cX4_addAll : ByteArray := prog_6_method_36_code
def yX4_addAll : MethodName := ⟨RX4, "addAll", "()I"⟩
abbrev cX4_squeeze : ByteArray := prog_6_method_37_code
def yX4_squeeze : MethodName := ⟨RX4, "squeeze", "()I"⟩
abbrev cX4_makeAnew : ByteArray := prog_6_method_38_code
def yX4_makeAnew : MethodName := ⟨RX4, "makeAnew", "(I)I"⟩
abbrev cX4_undo : ByteArray := prog_6_method_39_code
def yX4_undo : MethodName := ⟨RX4, "undo", "()I"⟩
abbrev cX4_keep : ByteArray := prog_6_method_40_code
def yX4_keep : MethodName := ⟨RX4, "keep", "()I"⟩
abbrev cX4_restore : ByteArray := prog_6_method_41_code
def yX4_restore : MethodName := ⟨RX4, "restore", "()I"⟩
abbrev cX4_entry : ByteArray := prog_6_method_42_code
def yX4_entry : MethodName := ⟨RX4, "entry", "(II)I"⟩
abbrev cX4_named : ByteArray := prog_6_method_43_code
def yX4_named : MethodName := ⟨RX4, "named", "(I)I"⟩
abbrev cX4_block : ByteArray := prog_6_method_44_code
def yX4_block : MethodName := ⟨RX4, "block", "(II)I"⟩
abbrev cX4_at : ByteArray := prog_6_method_45_code
def yX4_at : MethodName := ⟨RX4, "at", "(I)I"⟩
abbrev cX4_fits : ByteArray := prog_6_method_46_code
def yX4_fits : MethodName := ⟨RX4, "fits", "(I)I"⟩
abbrev cX4_beginning : ByteArray := prog_6_method_47_code
def yX4_beginning : MethodName := ⟨RX4, "beginning", "(II)I"⟩
abbrev cX4_members : ByteArray := prog_6_method_48_code
def yX4_members : MethodName := ⟨RX4, "members", "()I"⟩
abbrev cX4_lostOnes : ByteArray := prog_6_method_49_code
def yX4_lostOnes : MethodName := ⟨RX4, "lostOnes", "()I"⟩
abbrev cX4_count : ByteArray := prog_6_method_50_code
def yX4_count : MethodName := ⟨RX4, "count", "(I)I"⟩
def RJ9 : String := "java/lang/Math"
def TJ9 : u_T := fun k => match k with
  | _ => ("", "", "", false)
def tyJ9 : Nat → FieldType := fun k => match k with
  | _ => .int
abbrev wsJ90 : List Cond := u_ws RJ9 TJ9 0
theorem nmJ9 : ∀ a, a < 0 → ∀ b, b < 0 → a ≠ b → (TJ9 a).2.1 ≠ (TJ9 b).2.1 := by decide +kernel
theorem tyJ9_ok : ∀ k, k < 0 → parseFieldDescriptor (TJ9 k).2.2.1 = some (tyJ9 k) := by decide +kernel
abbrev cJ9_max_7cf53 : ByteArray := prog_7_method_65_code
def yJ9_max_7cf53 : MethodName := ⟨RJ9, "max", "(II)I"⟩
abbrev cJ9_min_7cf53 : ByteArray := prog_7_method_69_code
def yJ9_min_7cf53 : MethodName := ⟨RJ9, "min", "(II)I"⟩
def RJ10 : String := "java/lang/System"
def TJ10 : u_T := fun k => match k with
  | _ => ("", "", "", false)
def tyJ10 : Nat → FieldType := fun k => match k with
  | _ => .int
abbrev wsJ100 : List Cond := u_ws RJ10 TJ10 0
theorem nmJ10 : ∀ a, a < 0 → ∀ b, b < 0 → a ≠ b → (TJ10 a).2.1 ≠ (TJ10 b).2.1 := by decide +kernel
theorem tyJ10_ok : ∀ k, k < 0 → parseFieldDescriptor (TJ10 k).2.2.1 = some (tyJ10 k) := by decide +kernel
def RL : String := "MemberShelfLaw"
abbrev cL_law : ByteArray := code
def yL_law : MethodName := ⟨RL, "law", "([I)Z"⟩
theorem inJ9 : ∀ w ∈ wsJ90, w ∈ lw_tbl := by decide +kernel
theorem inJ10 : ∀ w ∈ wsJ100, w ∈ lw_tbl := by decide +kernel
abbrev vwCl : List vw_C := [(RX0, TX0, 2), (RX1, TX1, 8), (RX2, TX2, 10), (RX3, TX3, 6), (RX4, TX4, 12)]
theorem inX0 : ∀ w ∈ u_ws RX0 TX0 2, w ∈ lw_tbl := by decide +kernel
theorem inX1 : ∀ w ∈ u_ws RX1 TX1 8, w ∈ lw_tbl := by decide +kernel
theorem inX2 : ∀ w ∈ u_ws RX2 TX2 10, w ∈ lw_tbl := by decide +kernel
theorem inX3 : ∀ w ∈ u_ws RX3 TX3 6, w ∈ lw_tbl := by decide +kernel
theorem inX4 : ∀ w ∈ u_ws RX4 TX4 12, w ∈ lw_tbl := by decide +kernel


