section
-- ===== PART A: goes FIRST, ahead of the names: the tables' words, and 'selects' of the private methods out of them =====
/-- a private method of a class that the tables say can be made, by its rows of tables_1 -/
def lw_okq (q : MethodName × Nat) : Prop := (q.1.cls ≠ "java/lang/invoke/MethodHandle" ∧ q.1.cls ≠ "java/lang/invoke/VarHandle") ∧ Cond.instantiable q.1.cls q.2 ∈ tables_1 ∧ Cond.privateMethod q.1 ∈ tables_1 ∧ Cond.instanceMethod q.1 ∈ tables_1
theorem lw_p0 : lw_okq (⟨"MemberShelf$State", "rankOf", "(I)I"⟩, 10) := ⟨⟨by decide +kernel, by decide +kernel⟩, List.mem_of_getElem? (i := 17) (by decide +kernel), List.mem_of_getElem? (i := 146) (by decide +kernel), List.mem_of_getElem? (i := 147) (by decide +kernel)⟩
theorem lw_p1 : lw_okq (⟨"MemberShelf$State", "isRank", "(I)Z"⟩, 10) := ⟨⟨by decide +kernel, by decide +kernel⟩, List.mem_of_getElem? (i := 17) (by decide +kernel), List.mem_of_getElem? (i := 150) (by decide +kernel), List.mem_of_getElem? (i := 151) (by decide +kernel)⟩
theorem lw_p2 : lw_okq (⟨"MemberShelf$State", "isDirectoryFull", "()Z"⟩, 10) := ⟨⟨by decide +kernel, by decide +kernel⟩, List.mem_of_getElem? (i := 17) (by decide +kernel), List.mem_of_getElem? (i := 154) (by decide +kernel), List.mem_of_getElem? (i := 155) (by decide +kernel)⟩
theorem lw_p3 : lw_okq (⟨"MemberShelf$State", "hasRoom", "(I)Z"⟩, 10) := ⟨⟨by decide +kernel, by decide +kernel⟩, List.mem_of_getElem? (i := 17) (by decide +kernel), List.mem_of_getElem? (i := 158) (by decide +kernel), List.mem_of_getElem? (i := 159) (by decide +kernel)⟩
theorem lw_p4 : lw_okq (⟨"MemberShelf$State", "layText", "(I)I"⟩, 10) := ⟨⟨by decide +kernel, by decide +kernel⟩, List.mem_of_getElem? (i := 17) (by decide +kernel), List.mem_of_getElem? (i := 162) (by decide +kernel), List.mem_of_getElem? (i := 163) (by decide +kernel)⟩
theorem lw_p5 : lw_okq (⟨"MemberShelf$State", "insertEntry", "(IIIII)I"⟩, 10) := ⟨⟨by decide +kernel, by decide +kernel⟩, List.mem_of_getElem? (i := 17) (by decide +kernel), List.mem_of_getElem? (i := 166) (by decide +kernel), List.mem_of_getElem? (i := 167) (by decide +kernel)⟩
theorem lw_p6 : lw_okq (⟨"MemberShelf$State", "namesBelow", "(I)I"⟩, 10) := ⟨⟨by decide +kernel, by decide +kernel⟩, List.mem_of_getElem? (i := 17) (by decide +kernel), List.mem_of_getElem? (i := 170) (by decide +kernel), List.mem_of_getElem? (i := 171) (by decide +kernel)⟩
theorem lw_p7 : lw_okq (⟨"MemberShelf$State", "moveEntries", "(III)V"⟩, 10) := ⟨⟨by decide +kernel, by decide +kernel⟩, List.mem_of_getElem? (i := 17) (by decide +kernel), List.mem_of_getElem? (i := 174) (by decide +kernel), List.mem_of_getElem? (i := 175) (by decide +kernel)⟩
theorem lw_p8 : lw_okq (⟨"MemberShelf$State", "setEntry", "(IIIIII)V"⟩, 10) := ⟨⟨by decide +kernel, by decide +kernel⟩, List.mem_of_getElem? (i := 17) (by decide +kernel), List.mem_of_getElem? (i := 181) (by decide +kernel), List.mem_of_getElem? (i := 182) (by decide +kernel)⟩
theorem lw_p9 : lw_okq (⟨"MemberShelf", "settle", "(I)I"⟩, 6) := ⟨⟨by decide +kernel, by decide +kernel⟩, List.mem_of_getElem? (i := 9) (by decide +kernel), List.mem_of_getElem? (i := 185) (by decide +kernel), List.mem_of_getElem? (i := 186) (by decide +kernel)⟩
theorem lw_p10 : lw_okq (⟨"MemberShelf$History", "dropOldest", "()V"⟩, 2) := ⟨⟨by decide +kernel, by decide +kernel⟩, List.mem_of_getElem? (i := 55) (by decide +kernel), List.mem_of_getElem? (i := 193) (by decide +kernel), List.mem_of_getElem? (i := 194) (by decide +kernel)⟩
theorem lw_p11 : lw_okq (⟨"MemberShelf$State", "isMember", "(I)Z"⟩, 10) := ⟨⟨by decide +kernel, by decide +kernel⟩, List.mem_of_getElem? (i := 17) (by decide +kernel), List.mem_of_getElem? (i := 206) (by decide +kernel), List.mem_of_getElem? (i := 207) (by decide +kernel)⟩
theorem lw_p12 : lw_okq (⟨"MemberShelf$State", "takeOut", "(I)V"⟩, 10) := ⟨⟨by decide +kernel, by decide +kernel⟩, List.mem_of_getElem? (i := 17) (by decide +kernel), List.mem_of_getElem? (i := 218) (by decide +kernel), List.mem_of_getElem? (i := 219) (by decide +kernel)⟩
theorem lw_p13 : lw_okq (⟨"MemberShelf$State", "tellAliases", "(II)V"⟩, 10) := ⟨⟨by decide +kernel, by decide +kernel⟩, List.mem_of_getElem? (i := 17) (by decide +kernel), List.mem_of_getElem? (i := 230) (by decide +kernel), List.mem_of_getElem? (i := 231) (by decide +kernel)⟩
theorem lw_p14 : lw_okq (⟨"MemberShelf$Pad", "readAddition", "()Z"⟩, 8) := ⟨⟨by decide +kernel, by decide +kernel⟩, List.mem_of_getElem? (i := 71) (by decide +kernel), List.mem_of_getElem? (i := 250) (by decide +kernel), List.mem_of_getElem? (i := 251) (by decide +kernel)⟩
theorem lw_p15 : lw_okq (⟨"MemberShelf$Pad", "readName", "()I"⟩, 8) := ⟨⟨by decide +kernel, by decide +kernel⟩, List.mem_of_getElem? (i := 71) (by decide +kernel), List.mem_of_getElem? (i := 254) (by decide +kernel), List.mem_of_getElem? (i := 255) (by decide +kernel)⟩
def lw_privs_1 : List (MethodName × Nat) := [(⟨"MemberShelf$State", "rankOf", "(I)I"⟩, 10), (⟨"MemberShelf$State", "isRank", "(I)Z"⟩, 10), (⟨"MemberShelf$State", "isDirectoryFull", "()Z"⟩, 10), (⟨"MemberShelf$State", "hasRoom", "(I)Z"⟩, 10), (⟨"MemberShelf$State", "layText", "(I)I"⟩, 10), (⟨"MemberShelf$State", "insertEntry", "(IIIII)I"⟩, 10), (⟨"MemberShelf$State", "namesBelow", "(I)I"⟩, 10), (⟨"MemberShelf$State", "moveEntries", "(III)V"⟩, 10), (⟨"MemberShelf$State", "setEntry", "(IIIIII)V"⟩, 10), (⟨"MemberShelf", "settle", "(I)I"⟩, 6), (⟨"MemberShelf$History", "dropOldest", "()V"⟩, 2), (⟨"MemberShelf$State", "isMember", "(I)Z"⟩, 10), (⟨"MemberShelf$State", "takeOut", "(I)V"⟩, 10), (⟨"MemberShelf$State", "tellAliases", "(II)V"⟩, 10), (⟨"MemberShelf$Pad", "readAddition", "()Z"⟩, 8), (⟨"MemberShelf$Pad", "readName", "()I"⟩, 8)]
theorem lw_r1 : ∀ q ∈ lw_privs_1, lw_okq q := List.forall_mem_cons.mpr ⟨lw_p0, List.forall_mem_cons.mpr ⟨lw_p1, List.forall_mem_cons.mpr ⟨lw_p2, List.forall_mem_cons.mpr ⟨lw_p3, List.forall_mem_cons.mpr ⟨lw_p4, List.forall_mem_cons.mpr ⟨lw_p5, List.forall_mem_cons.mpr ⟨lw_p6, List.forall_mem_cons.mpr ⟨lw_p7, List.forall_mem_cons.mpr ⟨lw_p8, List.forall_mem_cons.mpr ⟨lw_p9, List.forall_mem_cons.mpr ⟨lw_p10, List.forall_mem_cons.mpr ⟨lw_p11, List.forall_mem_cons.mpr ⟨lw_p12, List.forall_mem_cons.mpr ⟨lw_p13, List.forall_mem_cons.mpr ⟨lw_p14, List.forall_mem_cons.mpr ⟨lw_p15, fun _ h => absurd h List.not_mem_nil⟩⟩⟩⟩⟩⟩⟩⟩⟩⟩⟩⟩⟩⟩⟩⟩
theorem lw_p16 : lw_okq (⟨"MemberShelf$Pad", "readLetter", "()I"⟩, 8) := ⟨⟨by decide +kernel, by decide +kernel⟩, List.mem_of_getElem? (i := 71) (by decide +kernel), List.mem_of_getElem? (i := 258) (by decide +kernel), List.mem_of_getElem? (i := 259) (by decide +kernel)⟩
theorem lw_p17 : lw_okq (⟨"MemberShelf$Pad", "next", "()I"⟩, 8) := ⟨⟨by decide +kernel, by decide +kernel⟩, List.mem_of_getElem? (i := 71) (by decide +kernel), List.mem_of_getElem? (i := 262) (by decide +kernel), List.mem_of_getElem? (i := 263) (by decide +kernel)⟩
theorem lw_p18 : lw_okq (⟨"MemberShelf$Pad", "takes", "(C)Z"⟩, 8) := ⟨⟨by decide +kernel, by decide +kernel⟩, List.mem_of_getElem? (i := 71) (by decide +kernel), List.mem_of_getElem? (i := 266) (by decide +kernel), List.mem_of_getElem? (i := 267) (by decide +kernel)⟩
theorem lw_p19 : lw_okq (⟨"MemberShelf$Pad", "readMember", "(I)Z"⟩, 8) := ⟨⟨by decide +kernel, by decide +kernel⟩, List.mem_of_getElem? (i := 71) (by decide +kernel), List.mem_of_getElem? (i := 270) (by decide +kernel), List.mem_of_getElem? (i := 271) (by decide +kernel)⟩
theorem lw_p20 : lw_okq (⟨"MemberShelf$Pad", "readNumber", "(II)I"⟩, 8) := ⟨⟨by decide +kernel, by decide +kernel⟩, List.mem_of_getElem? (i := 71) (by decide +kernel), List.mem_of_getElem? (i := 274) (by decide +kernel), List.mem_of_getElem? (i := 275) (by decide +kernel)⟩
theorem lw_p21 : lw_okq (⟨"MemberShelf$Pad", "nextDigit", "()I"⟩, 8) := ⟨⟨by decide +kernel, by decide +kernel⟩, List.mem_of_getElem? (i := 71) (by decide +kernel), List.mem_of_getElem? (i := 278) (by decide +kernel), List.mem_of_getElem? (i := 279) (by decide +kernel)⟩
theorem lw_p22 : lw_okq (⟨"MemberShelf$Pad", "noteAddition", "(IIII)Z"⟩, 8) := ⟨⟨by decide +kernel, by decide +kernel⟩, List.mem_of_getElem? (i := 71) (by decide +kernel), List.mem_of_getElem? (i := 282) (by decide +kernel), List.mem_of_getElem? (i := 283) (by decide +kernel)⟩
theorem lw_p23 : lw_okq (⟨"MemberShelf$Pad", "readAlias", "(I)Z"⟩, 8) := ⟨⟨by decide +kernel, by decide +kernel⟩, List.mem_of_getElem? (i := 71) (by decide +kernel), List.mem_of_getElem? (i := 286) (by decide +kernel), List.mem_of_getElem? (i := 287) (by decide +kernel)⟩
theorem lw_p24 : lw_okq (⟨"MemberShelf$State", "deadUnits", "()I"⟩, 10) := ⟨⟨by decide +kernel, by decide +kernel⟩, List.mem_of_getElem? (i := 17) (by decide +kernel), List.mem_of_getElem? (i := 304) (by decide +kernel), List.mem_of_getElem? (i := 305) (by decide +kernel)⟩
theorem lw_p25 : lw_okq (⟨"MemberShelf$State", "livingUnits", "()I"⟩, 10) := ⟨⟨by decide +kernel, by decide +kernel⟩, List.mem_of_getElem? (i := 17) (by decide +kernel), List.mem_of_getElem? (i := 308) (by decide +kernel), List.mem_of_getElem? (i := 309) (by decide +kernel)⟩
theorem lw_p26 : lw_okq (⟨"MemberShelf$State", "isFirstOfText", "(I)Z"⟩, 10) := ⟨⟨by decide +kernel, by decide +kernel⟩, List.mem_of_getElem? (i := 17) (by decide +kernel), List.mem_of_getElem? (i := 312) (by decide +kernel), List.mem_of_getElem? (i := 313) (by decide +kernel)⟩
theorem lw_p27 : lw_okq (⟨"MemberShelf$State", "closeUp", "()I"⟩, 10) := ⟨⟨by decide +kernel, by decide +kernel⟩, List.mem_of_getElem? (i := 17) (by decide +kernel), List.mem_of_getElem? (i := 316) (by decide +kernel), List.mem_of_getElem? (i := 317) (by decide +kernel)⟩
theorem lw_p28 : lw_okq (⟨"MemberShelf$State", "moveText", "(II)I"⟩, 10) := ⟨⟨by decide +kernel, by decide +kernel⟩, List.mem_of_getElem? (i := 17) (by decide +kernel), List.mem_of_getElem? (i := 320) (by decide +kernel), List.mem_of_getElem? (i := 321) (by decide +kernel)⟩
theorem lw_p29 : lw_okq (⟨"MemberShelf$State", "aliasesOf", "(I)I"⟩, 10) := ⟨⟨by decide +kernel, by decide +kernel⟩, List.mem_of_getElem? (i := 17) (by decide +kernel), List.mem_of_getElem? (i := 380) (by decide +kernel), List.mem_of_getElem? (i := 381) (by decide +kernel)⟩
theorem lw_p30 : lw_okq (⟨"MemberShelf$State", "isLost", "(I)Z"⟩, 10) := ⟨⟨by decide +kernel, by decide +kernel⟩, List.mem_of_getElem? (i := 17) (by decide +kernel), List.mem_of_getElem? (i := 384) (by decide +kernel), List.mem_of_getElem? (i := 385) (by decide +kernel)⟩
theorem lw_p31 : lw_okq (⟨"MemberShelf$State", "aliases", "()I"⟩, 10) := ⟨⟨by decide +kernel, by decide +kernel⟩, List.mem_of_getElem? (i := 17) (by decide +kernel), List.mem_of_getElem? (i := 444) (by decide +kernel), List.mem_of_getElem? (i := 445) (by decide +kernel)⟩
def lw_privs_2 : List (MethodName × Nat) := [(⟨"MemberShelf$Pad", "readLetter", "()I"⟩, 8), (⟨"MemberShelf$Pad", "next", "()I"⟩, 8), (⟨"MemberShelf$Pad", "takes", "(C)Z"⟩, 8), (⟨"MemberShelf$Pad", "readMember", "(I)Z"⟩, 8), (⟨"MemberShelf$Pad", "readNumber", "(II)I"⟩, 8), (⟨"MemberShelf$Pad", "nextDigit", "()I"⟩, 8), (⟨"MemberShelf$Pad", "noteAddition", "(IIII)Z"⟩, 8), (⟨"MemberShelf$Pad", "readAlias", "(I)Z"⟩, 8), (⟨"MemberShelf$State", "deadUnits", "()I"⟩, 10), (⟨"MemberShelf$State", "livingUnits", "()I"⟩, 10), (⟨"MemberShelf$State", "isFirstOfText", "(I)Z"⟩, 10), (⟨"MemberShelf$State", "closeUp", "()I"⟩, 10), (⟨"MemberShelf$State", "moveText", "(II)I"⟩, 10), (⟨"MemberShelf$State", "aliasesOf", "(I)I"⟩, 10), (⟨"MemberShelf$State", "isLost", "(I)Z"⟩, 10), (⟨"MemberShelf$State", "aliases", "()I"⟩, 10)]
theorem lw_r2 : ∀ q ∈ lw_privs_2, lw_okq q := List.forall_mem_cons.mpr ⟨lw_p16, List.forall_mem_cons.mpr ⟨lw_p17, List.forall_mem_cons.mpr ⟨lw_p18, List.forall_mem_cons.mpr ⟨lw_p19, List.forall_mem_cons.mpr ⟨lw_p20, List.forall_mem_cons.mpr ⟨lw_p21, List.forall_mem_cons.mpr ⟨lw_p22, List.forall_mem_cons.mpr ⟨lw_p23, List.forall_mem_cons.mpr ⟨lw_p24, List.forall_mem_cons.mpr ⟨lw_p25, List.forall_mem_cons.mpr ⟨lw_p26, List.forall_mem_cons.mpr ⟨lw_p27, List.forall_mem_cons.mpr ⟨lw_p28, List.forall_mem_cons.mpr ⟨lw_p29, List.forall_mem_cons.mpr ⟨lw_p30, List.forall_mem_cons.mpr ⟨lw_p31, fun _ h => absurd h List.not_mem_nil⟩⟩⟩⟩⟩⟩⟩⟩⟩⟩⟩⟩⟩⟩⟩⟩
theorem lw_p32 : lw_okq (⟨"MemberShelf$State", "lostAliases", "()I"⟩, 10) := ⟨⟨by decide +kernel, by decide +kernel⟩, List.mem_of_getElem? (i := 17) (by decide +kernel), List.mem_of_getElem? (i := 448) (by decide +kernel), List.mem_of_getElem? (i := 449) (by decide +kernel)⟩
theorem lw_p33 : lw_okq (⟨"MemberShelf$State", "livingTexts", "()I"⟩, 10) := ⟨⟨by decide +kernel, by decide +kernel⟩, List.mem_of_getElem? (i := 17) (by decide +kernel), List.mem_of_getElem? (i := 452) (by decide +kernel), List.mem_of_getElem? (i := 453) (by decide +kernel)⟩
theorem lw_p34 : lw_okq (⟨"MemberShelfModel", "remember", "()V"⟩, 12) := ⟨⟨by decide +kernel, by decide +kernel⟩, List.mem_of_getElem? (i := 456) (by decide +kernel), List.mem_of_getElem? (i := 503) (by decide +kernel), List.mem_of_getElem? (i := 504) (by decide +kernel)⟩
theorem lw_p35 : lw_okq (⟨"MemberShelfModel", "doAdd", "(III)I"⟩, 12) := ⟨⟨by decide +kernel, by decide +kernel⟩, List.mem_of_getElem? (i := 456) (by decide +kernel), List.mem_of_getElem? (i := 507) (by decide +kernel), List.mem_of_getElem? (i := 508) (by decide +kernel)⟩
theorem lw_p36 : lw_okq (⟨"MemberShelfModel", "rankOf", "(I)I"⟩, 12) := ⟨⟨by decide +kernel, by decide +kernel⟩, List.mem_of_getElem? (i := 456) (by decide +kernel), List.mem_of_getElem? (i := 520) (by decide +kernel), List.mem_of_getElem? (i := 521) (by decide +kernel)⟩
theorem lw_p37 : lw_okq (⟨"MemberShelfModel", "of", "(II)I"⟩, 12) := ⟨⟨by decide +kernel, by decide +kernel⟩, List.mem_of_getElem? (i := 456) (by decide +kernel), List.mem_of_getElem? (i := 524) (by decide +kernel), List.mem_of_getElem? (i := 525) (by decide +kernel)⟩
theorem lw_p38 : lw_okq (⟨"MemberShelfModel", "isDirectoryFull", "()Z"⟩, 12) := ⟨⟨by decide +kernel, by decide +kernel⟩, List.mem_of_getElem? (i := 456) (by decide +kernel), List.mem_of_getElem? (i := 528) (by decide +kernel), List.mem_of_getElem? (i := 529) (by decide +kernel)⟩
theorem lw_p39 : lw_okq (⟨"MemberShelfModel", "isRoomFor", "(I)Z"⟩, 12) := ⟨⟨by decide +kernel, by decide +kernel⟩, List.mem_of_getElem? (i := 456) (by decide +kernel), List.mem_of_getElem? (i := 532) (by decide +kernel), List.mem_of_getElem? (i := 533) (by decide +kernel)⟩
theorem lw_p40 : lw_okq (⟨"MemberShelfModel", "putsIn", "()I"⟩, 12) := ⟨⟨by decide +kernel, by decide +kernel⟩, List.mem_of_getElem? (i := 456) (by decide +kernel), List.mem_of_getElem? (i := 536) (by decide +kernel), List.mem_of_getElem? (i := 537) (by decide +kernel)⟩
theorem lw_p41 : lw_okq (⟨"MemberShelfModel", "sets", "(III)V"⟩, 12) := ⟨⟨by decide +kernel, by decide +kernel⟩, List.mem_of_getElem? (i := 456) (by decide +kernel), List.mem_of_getElem? (i := 540) (by decide +kernel), List.mem_of_getElem? (i := 541) (by decide +kernel)⟩
theorem lw_p42 : lw_okq (⟨"MemberShelfModel", "laysText", "(III)V"⟩, 12) := ⟨⟨by decide +kernel, by decide +kernel⟩, List.mem_of_getElem? (i := 456) (by decide +kernel), List.mem_of_getElem? (i := 544) (by decide +kernel), List.mem_of_getElem? (i := 545) (by decide +kernel)⟩
theorem lw_p43 : lw_okq (⟨"MemberShelfModel", "acted", "(I)I"⟩, 12) := ⟨⟨by decide +kernel, by decide +kernel⟩, List.mem_of_getElem? (i := 456) (by decide +kernel), List.mem_of_getElem? (i := 548) (by decide +kernel), List.mem_of_getElem? (i := 549) (by decide +kernel)⟩
theorem lw_p44 : lw_okq (⟨"MemberShelfModel", "isMember", "(I)Z"⟩, 12) := ⟨⟨by decide +kernel, by decide +kernel⟩, List.mem_of_getElem? (i := 456) (by decide +kernel), List.mem_of_getElem? (i := 556) (by decide +kernel), List.mem_of_getElem? (i := 557) (by decide +kernel)⟩
theorem lw_p45 : lw_okq (⟨"MemberShelfModel", "takesOut", "(I)V"⟩, 12) := ⟨⟨by decide +kernel, by decide +kernel⟩, List.mem_of_getElem? (i := 456) (by decide +kernel), List.mem_of_getElem? (i := 564) (by decide +kernel), List.mem_of_getElem? (i := 565) (by decide +kernel)⟩
theorem lw_p46 : lw_okq (⟨"MemberShelfModel", "doAlias", "(II)I"⟩, 12) := ⟨⟨by decide +kernel, by decide +kernel⟩, List.mem_of_getElem? (i := 456) (by decide +kernel), List.mem_of_getElem? (i := 576) (by decide +kernel), List.mem_of_getElem? (i := 577) (by decide +kernel)⟩
theorem lw_p47 : lw_okq (⟨"MemberShelfModel", "fault", "()I"⟩, 12) := ⟨⟨by decide +kernel, by decide +kernel⟩, List.mem_of_getElem? (i := 456) (by decide +kernel), List.mem_of_getElem? (i := 592) (by decide +kernel), List.mem_of_getElem? (i := 593) (by decide +kernel)⟩
def lw_privs_3 : List (MethodName × Nat) := [(⟨"MemberShelf$State", "lostAliases", "()I"⟩, 10), (⟨"MemberShelf$State", "livingTexts", "()I"⟩, 10), (⟨"MemberShelfModel", "remember", "()V"⟩, 12), (⟨"MemberShelfModel", "doAdd", "(III)I"⟩, 12), (⟨"MemberShelfModel", "rankOf", "(I)I"⟩, 12), (⟨"MemberShelfModel", "of", "(II)I"⟩, 12), (⟨"MemberShelfModel", "isDirectoryFull", "()Z"⟩, 12), (⟨"MemberShelfModel", "isRoomFor", "(I)Z"⟩, 12), (⟨"MemberShelfModel", "putsIn", "()I"⟩, 12), (⟨"MemberShelfModel", "sets", "(III)V"⟩, 12), (⟨"MemberShelfModel", "laysText", "(III)V"⟩, 12), (⟨"MemberShelfModel", "acted", "(I)I"⟩, 12), (⟨"MemberShelfModel", "isMember", "(I)Z"⟩, 12), (⟨"MemberShelfModel", "takesOut", "(I)V"⟩, 12), (⟨"MemberShelfModel", "doAlias", "(II)I"⟩, 12), (⟨"MemberShelfModel", "fault", "()I"⟩, 12)]
theorem lw_r3 : ∀ q ∈ lw_privs_3, lw_okq q := List.forall_mem_cons.mpr ⟨lw_p32, List.forall_mem_cons.mpr ⟨lw_p33, List.forall_mem_cons.mpr ⟨lw_p34, List.forall_mem_cons.mpr ⟨lw_p35, List.forall_mem_cons.mpr ⟨lw_p36, List.forall_mem_cons.mpr ⟨lw_p37, List.forall_mem_cons.mpr ⟨lw_p38, List.forall_mem_cons.mpr ⟨lw_p39, List.forall_mem_cons.mpr ⟨lw_p40, List.forall_mem_cons.mpr ⟨lw_p41, List.forall_mem_cons.mpr ⟨lw_p42, List.forall_mem_cons.mpr ⟨lw_p43, List.forall_mem_cons.mpr ⟨lw_p44, List.forall_mem_cons.mpr ⟨lw_p45, List.forall_mem_cons.mpr ⟨lw_p46, List.forall_mem_cons.mpr ⟨lw_p47, fun _ h => absurd h List.not_mem_nil⟩⟩⟩⟩⟩⟩⟩⟩⟩⟩⟩⟩⟩⟩⟩⟩
theorem lw_p48 : lw_okq (⟨"MemberShelfModel", "readsAddition", "(Z)Z"⟩, 12) := ⟨⟨by decide +kernel, by decide +kernel⟩, List.mem_of_getElem? (i := 456) (by decide +kernel), List.mem_of_getElem? (i := 596) (by decide +kernel), List.mem_of_getElem? (i := 597) (by decide +kernel)⟩
theorem lw_p49 : lw_okq (⟨"MemberShelfModel", "readsName", "()Z"⟩, 12) := ⟨⟨by decide +kernel, by decide +kernel⟩, List.mem_of_getElem? (i := 456) (by decide +kernel), List.mem_of_getElem? (i := 600) (by decide +kernel), List.mem_of_getElem? (i := 601) (by decide +kernel)⟩
theorem lw_p50 : lw_okq (⟨"MemberShelfModel", "isHere", "(II)Z"⟩, 12) := ⟨⟨by decide +kernel, by decide +kernel⟩, List.mem_of_getElem? (i := 456) (by decide +kernel), List.mem_of_getElem? (i := 604) (by decide +kernel), List.mem_of_getElem? (i := 605) (by decide +kernel)⟩
theorem lw_p51 : lw_okq (⟨"MemberShelfModel", "takes", "(I)Z"⟩, 12) := ⟨⟨by decide +kernel, by decide +kernel⟩, List.mem_of_getElem? (i := 456) (by decide +kernel), List.mem_of_getElem? (i := 608) (by decide +kernel), List.mem_of_getElem? (i := 609) (by decide +kernel)⟩
theorem lw_p52 : lw_okq (⟨"MemberShelfModel", "readsNumber", "(II)Z"⟩, 12) := ⟨⟨by decide +kernel, by decide +kernel⟩, List.mem_of_getElem? (i := 456) (by decide +kernel), List.mem_of_getElem? (i := 612) (by decide +kernel), List.mem_of_getElem? (i := 613) (by decide +kernel)⟩
theorem lw_p53 : lw_okq (⟨"MemberShelfModel", "living", "(Z)I"⟩, 12) := ⟨⟨by decide +kernel, by decide +kernel⟩, List.mem_of_getElem? (i := 456) (by decide +kernel), List.mem_of_getElem? (i := 620) (by decide +kernel), List.mem_of_getElem? (i := 621) (by decide +kernel)⟩
theorem lw_p54 : lw_okq (⟨"MemberShelfModel", "nextText", "(I)I"⟩, 12) := ⟨⟨by decide +kernel, by decide +kernel⟩, List.mem_of_getElem? (i := 456) (by decide +kernel), List.mem_of_getElem? (i := 624) (by decide +kernel), List.mem_of_getElem? (i := 625) (by decide +kernel)⟩
theorem lw_p55 : lw_okq (⟨"MemberShelfModel", "squeezes", "()I"⟩, 12) := ⟨⟨by decide +kernel, by decide +kernel⟩, List.mem_of_getElem? (i := 456) (by decide +kernel), List.mem_of_getElem? (i := 628) (by decide +kernel), List.mem_of_getElem? (i := 629) (by decide +kernel)⟩
theorem lw_p56 : lw_okq (⟨"MemberShelfModel", "aliasesOf", "(I)I"⟩, 12) := ⟨⟨by decide +kernel, by decide +kernel⟩, List.mem_of_getElem? (i := 456) (by decide +kernel), List.mem_of_getElem? (i := 653) (by decide +kernel), List.mem_of_getElem? (i := 654) (by decide +kernel)⟩
theorem lw_p57 : lw_okq (⟨"MemberShelfModel", "isLost", "(I)Z"⟩, 12) := ⟨⟨by decide +kernel, by decide +kernel⟩, List.mem_of_getElem? (i := 456) (by decide +kernel), List.mem_of_getElem? (i := 657) (by decide +kernel), List.mem_of_getElem? (i := 658) (by decide +kernel)⟩
theorem lw_p58 : lw_okq (⟨"MemberShelfModel", "members", "()I"⟩, 12) := ⟨⟨by decide +kernel, by decide +kernel⟩, List.mem_of_getElem? (i := 456) (by decide +kernel), List.mem_of_getElem? (i := 688) (by decide +kernel), List.mem_of_getElem? (i := 689) (by decide +kernel)⟩
theorem lw_p59 : lw_okq (⟨"MemberShelfModel", "lostOnes", "()I"⟩, 12) := ⟨⟨by decide +kernel, by decide +kernel⟩, List.mem_of_getElem? (i := 456) (by decide +kernel), List.mem_of_getElem? (i := 692) (by decide +kernel), List.mem_of_getElem? (i := 693) (by decide +kernel)⟩
def lw_privs_4 : List (MethodName × Nat) := [(⟨"MemberShelfModel", "readsAddition", "(Z)Z"⟩, 12), (⟨"MemberShelfModel", "readsName", "()Z"⟩, 12), (⟨"MemberShelfModel", "isHere", "(II)Z"⟩, 12), (⟨"MemberShelfModel", "takes", "(I)Z"⟩, 12), (⟨"MemberShelfModel", "readsNumber", "(II)Z"⟩, 12), (⟨"MemberShelfModel", "living", "(Z)I"⟩, 12), (⟨"MemberShelfModel", "nextText", "(I)I"⟩, 12), (⟨"MemberShelfModel", "squeezes", "()I"⟩, 12), (⟨"MemberShelfModel", "aliasesOf", "(I)I"⟩, 12), (⟨"MemberShelfModel", "isLost", "(I)Z"⟩, 12), (⟨"MemberShelfModel", "members", "()I"⟩, 12), (⟨"MemberShelfModel", "lostOnes", "()I"⟩, 12)]
theorem lw_r4 : ∀ q ∈ lw_privs_4, lw_okq q := List.forall_mem_cons.mpr ⟨lw_p48, List.forall_mem_cons.mpr ⟨lw_p49, List.forall_mem_cons.mpr ⟨lw_p50, List.forall_mem_cons.mpr ⟨lw_p51, List.forall_mem_cons.mpr ⟨lw_p52, List.forall_mem_cons.mpr ⟨lw_p53, List.forall_mem_cons.mpr ⟨lw_p54, List.forall_mem_cons.mpr ⟨lw_p55, List.forall_mem_cons.mpr ⟨lw_p56, List.forall_mem_cons.mpr ⟨lw_p57, List.forall_mem_cons.mpr ⟨lw_p58, List.forall_mem_cons.mpr ⟨lw_p59, fun _ h => absurd h List.not_mem_nil⟩⟩⟩⟩⟩⟩⟩⟩⟩⟩⟩⟩
def lw_privs : List (MethodName × Nat) := lw_privs_1 ++ (lw_privs_2 ++ (lw_privs_3 ++ (lw_privs_4)))
def lw_tbl : List Cond := k2_sels lw_privs ++ tables_1
theorem lw_privs_ok : ∀ q ∈ lw_privs, lw_okq q := by
  show ∀ q ∈ lw_privs_1 ++ (lw_privs_2 ++ (lw_privs_3 ++ (lw_privs_4))), lw_okq q
  exact List.forall_mem_append.mpr ⟨lw_r1, List.forall_mem_append.mpr ⟨lw_r2, List.forall_mem_append.mpr ⟨lw_r3, lw_r4⟩⟩⟩
def RX0 : String := "MemberShelf$History"
def TX0 : u_T := fun k => match k with
  | 0 => ("MemberShelf$History", "states", "[LMemberShelf$State;", true)
  | _ => ("MemberShelf$History", "size", "I", false)
def tyX0 : Nat → FieldType := fun k => match k with
  | 0 => .array (.object "MemberShelf$State")
  | _ => .int
abbrev wsX00 : List Cond := u_ws RX0 TX0 2
theorem nmX0 : ∀ a, a < 2 → ∀ b, b < 2 → a ≠ b → (TX0 a).2.1 ≠ (TX0 b).2.1 := by decide +kernel
theorem tyX0_ok : ∀ k, k < 2 → parseFieldDescriptor (TX0 k).2.2.1 = some (tyX0 k) := by decide +kernel
abbrev cX0_init : ByteArray := prog_2_method_1_code
def yX0_init : MethodName := ⟨RX0, "<init>", "()V"⟩
abbrev cX0_size : ByteArray := prog_2_method_2_code
def yX0_size : MethodName := ⟨RX0, "size", "()I"⟩
abbrev cX0_keepState : ByteArray := prog_2_method_3_code
def yX0_keepState : MethodName := ⟨RX0, "keepState", "(LMemberShelf$State;)V"⟩
abbrev cX0_giveLatestTo : ByteArray := prog_2_method_4_code
def yX0_giveLatestTo : MethodName := ⟨RX0, "giveLatestTo", "(LMemberShelf$State;)Z"⟩
abbrev cX0_dropOldest : ByteArray := prog_2_method_5_code
def yX0_dropOldest : MethodName := ⟨RX0, "dropOldest", "()V"⟩
def RX1 : String := "MemberShelf$Pad"
def TX1 : u_T := fun k => match k with
  | 0 => ("MemberShelf$Pad", "characters", "[C", true)
  | 1 => ("MemberShelf$Pad", "length", "I", false)
  | 2 => ("MemberShelf$Pad", "names", "[I", true)
  | 3 => ("MemberShelf$Pad", "givers", "[I", true)
  | 4 => ("MemberShelf$Pad", "lengths", "[I", true)
  | 5 => ("MemberShelf$Pad", "marks", "[I", true)
  | 6 => ("MemberShelf$Pad", "additions", "I", false)
  | _ => ("MemberShelf$Pad", "place", "I", false)
def tyX1 : Nat → FieldType := fun k => match k with
  | 0 => .array .char
  | 1 => .int
  | 2 => .array .int
  | 3 => .array .int
  | 4 => .array .int
  | 5 => .array .int
  | 6 => .int
  | _ => .int
abbrev wsX10 : List Cond := u_ws RX1 TX1 8
theorem nmX1 : ∀ a, a < 8 → ∀ b, b < 8 → a ≠ b → (TX1 a).2.1 ≠ (TX1 b).2.1 := by decide +kernel
theorem tyX1_ok : ∀ k, k < 8 → parseFieldDescriptor (TX1 k).2.2.1 = some (tyX1 k) := by decide +kernel
abbrev cX1_init : ByteArray := prog_3_method_1_code
def yX1_init : MethodName := ⟨RX1, "<init>", "()V"⟩
abbrev cX1_length : ByteArray := prog_3_method_2_code
def yX1_length : MethodName := ⟨RX1, "length", "()I"⟩
abbrev cX1_append : ByteArray := prog_3_method_3_code
def yX1_append : MethodName := ⟨RX1, "append", "(C)I"⟩
abbrev cX1_empty : ByteArray := prog_3_method_4_code
def yX1_empty : MethodName := ⟨RX1, "empty", "()I"⟩
abbrev cX1_readAdditions : ByteArray := prog_3_method_5_code
def yX1_readAdditions : MethodName := ⟨RX1, "readAdditions", "()I"⟩
abbrev cX1_makeAdditions : ByteArray := prog_3_method_6_code
def yX1_makeAdditions : MethodName := ⟨RX1, "makeAdditions", "(LMemberShelf$State;)I"⟩
abbrev cX1_readAddition : ByteArray := prog_3_method_7_code
def yX1_readAddition : MethodName := ⟨RX1, "readAddition", "()Z"⟩
abbrev cX1_readMember : ByteArray := prog_3_method_8_code
def yX1_readMember : MethodName := ⟨RX1, "readMember", "(I)Z"⟩
abbrev cX1_readAlias : ByteArray := prog_3_method_9_code
def yX1_readAlias : MethodName := ⟨RX1, "readAlias", "(I)Z"⟩
abbrev cX1_readName : ByteArray := prog_3_method_10_code
def yX1_readName : MethodName := ⟨RX1, "readName", "()I"⟩
abbrev cX1_readLetter : ByteArray := prog_3_method_11_code
def yX1_readLetter : MethodName := ⟨RX1, "readLetter", "()I"⟩
abbrev cX1_readNumber : ByteArray := prog_3_method_12_code
def yX1_readNumber : MethodName := ⟨RX1, "readNumber", "(II)I"⟩
abbrev cX1_nextDigit : ByteArray := prog_3_method_13_code
def yX1_nextDigit : MethodName := ⟨RX1, "nextDigit", "()I"⟩
abbrev cX1_takes : ByteArray := prog_3_method_14_code
def yX1_takes : MethodName := ⟨RX1, "takes", "(C)Z"⟩
abbrev cX1_next : ByteArray := prog_3_method_15_code
def yX1_next : MethodName := ⟨RX1, "next", "()I"⟩
abbrev cX1_noteAddition : ByteArray := prog_3_method_16_code
def yX1_noteAddition : MethodName := ⟨RX1, "noteAddition", "(IIII)Z"⟩
def RX2 : String := "MemberShelf$State"
def TX2 : u_T := fun k => match k with
  | 0 => ("MemberShelf$State", "names", "[I", true)
  | 1 => ("MemberShelf$State", "givers", "[I", true)
  | 2 => ("MemberShelf$State", "starts", "[I", true)
  | 3 => ("MemberShelf$State", "lengths", "[I", true)
  | 4 => ("MemberShelf$State", "marks", "[I", true)
  | 5 => ("MemberShelf$State", "size", "I", false)
  | 6 => ("MemberShelf$State", "blocks", "I", false)
  | 7 => ("MemberShelf$State", "end", "I", false)
  | 8 => ("MemberShelf$State", "squeezings", "I", false)
  | _ => ("MemberShelf$State", "unitsGivenBack", "I", false)
def tyX2 : Nat → FieldType := fun k => match k with
  | 0 => .array .int
  | 1 => .array .int
  | 2 => .array .int
  | 3 => .array .int
  | 4 => .array .int
  | 5 => .int
  | 6 => .int
  | 7 => .int
  | 8 => .int
  | _ => .int
abbrev wsX20 : List Cond := u_ws RX2 TX2 10
theorem nmX2 : ∀ a, a < 10 → ∀ b, b < 10 → a ≠ b → (TX2 a).2.1 ≠ (TX2 b).2.1 := by decide +kernel
theorem tyX2_ok : ∀ k, k < 10 → parseFieldDescriptor (TX2 k).2.2.1 = some (tyX2 k) := by decide +kernel
abbrev cX2_init : ByteArray := prog_4_method_1_code
def yX2_init : MethodName := ⟨RX2, "<init>", "()V"⟩
abbrev cX2_copyFrom : ByteArray := prog_4_method_2_code
def yX2_copyFrom : MethodName := ⟨RX2, "copyFrom", "(LMemberShelf$State;)V"⟩
abbrev cX2_size : ByteArray := prog_4_method_3_code
def yX2_size : MethodName := ⟨RX2, "size", "()I"⟩
abbrev cX2_addMember : ByteArray := prog_4_method_4_code
def yX2_addMember : MethodName := ⟨RX2, "addMember", "(III)I"⟩
abbrev cX2_replaceText : ByteArray := prog_4_method_5_code
def yX2_replaceText : MethodName := ⟨RX2, "replaceText", "(III)I"⟩
abbrev cX2_removeEntry : ByteArray := prog_4_method_6_code
def yX2_removeEntry : MethodName := ⟨RX2, "removeEntry", "(I)I"⟩
abbrev cX2_renameEntry : ByteArray := prog_4_method_7_code
def yX2_renameEntry : MethodName := ⟨RX2, "renameEntry", "(II)I"⟩
abbrev cX2_giveAlias : ByteArray := prog_4_method_8_code
def yX2_giveAlias : MethodName := ⟨RX2, "giveAlias", "(II)I"⟩
abbrev cX2_giveBackDeadRoom : ByteArray := prog_4_method_9_code
def yX2_giveBackDeadRoom : MethodName := ⟨RX2, "giveBackDeadRoom", "()I"⟩
abbrev cX2_changeBlocks : ByteArray := prog_4_method_10_code
def yX2_changeBlocks : MethodName := ⟨RX2, "changeBlocks", "(I)I"⟩
abbrev cX2_tellEntry : ByteArray := prog_4_method_11_code
def yX2_tellEntry : MethodName := ⟨RX2, "tellEntry", "(II)I"⟩
abbrev cX2_tellName : ByteArray := prog_4_method_12_code
def yX2_tellName : MethodName := ⟨RX2, "tellName", "(I)I"⟩
abbrev cX2_tellBlock : ByteArray := prog_4_method_13_code
def yX2_tellBlock : MethodName := ⟨RX2, "tellBlock", "(II)I"⟩
abbrev cX2_tellUnit : ByteArray := prog_4_method_14_code
def yX2_tellUnit : MethodName := ⟨RX2, "tellUnit", "(I)I"⟩
abbrev cX2_tellFit : ByteArray := prog_4_method_15_code
def yX2_tellFit : MethodName := ⟨RX2, "tellFit", "(I)I"⟩
abbrev cX2_tellBeginning : ByteArray := prog_4_method_16_code
def yX2_tellBeginning : MethodName := ⟨RX2, "tellBeginning", "(II)I"⟩
abbrev cX2_tellCount : ByteArray := prog_4_method_17_code
def yX2_tellCount : MethodName := ⟨RX2, "tellCount", "(I)I"⟩
abbrev cX2_isName : ByteArray := prog_4_method_18_code
def yX2_isName : MethodName := ⟨RX2, "isName", "(I)Z"⟩
abbrev cX2_isLength : ByteArray := prog_4_method_19_code
def yX2_isLength : MethodName := ⟨RX2, "isLength", "(I)Z"⟩
abbrev cX2_isMark : ByteArray := prog_4_method_20_code
def yX2_isMark : MethodName := ⟨RX2, "isMark", "(I)Z"⟩
abbrev cX2_isRank : ByteArray := prog_4_method_21_code
def yX2_isRank : MethodName := ⟨RX2, "isRank", "(I)Z"⟩
abbrev cX2_isMember : ByteArray := prog_4_method_22_code
def yX2_isMember : MethodName := ⟨RX2, "isMember", "(I)Z"⟩
abbrev cX2_isLost : ByteArray := prog_4_method_23_code
def yX2_isLost : MethodName := ⟨RX2, "isLost", "(I)Z"⟩
abbrev cX2_isFirstOfText : ByteArray := prog_4_method_24_code
def yX2_isFirstOfText : MethodName := ⟨RX2, "isFirstOfText", "(I)Z"⟩
abbrev cX2_isDirectoryFull : ByteArray := prog_4_method_25_code
def yX2_isDirectoryFull : MethodName := ⟨RX2, "isDirectoryFull", "()Z"⟩
abbrev cX2_hasRoom : ByteArray := prog_4_method_26_code
def yX2_hasRoom : MethodName := ⟨RX2, "hasRoom", "(I)Z"⟩
abbrev cX2_rankOf : ByteArray := prog_4_method_27_code
def yX2_rankOf : MethodName := ⟨RX2, "rankOf", "(I)I"⟩
abbrev cX2_namesBelow : ByteArray := prog_4_method_28_code
def yX2_namesBelow : MethodName := ⟨RX2, "namesBelow", "(I)I"⟩
abbrev cX2_aliases : ByteArray := prog_4_method_29_code
def yX2_aliases : MethodName := ⟨RX2, "aliases", "()I"⟩
abbrev cX2_lostAliases : ByteArray := prog_4_method_30_code
def yX2_lostAliases : MethodName := ⟨RX2, "lostAliases", "()I"⟩
abbrev cX2_aliasesOf : ByteArray := prog_4_method_31_code
def yX2_aliasesOf : MethodName := ⟨RX2, "aliasesOf", "(I)I"⟩
abbrev cX2_livingTexts : ByteArray := prog_4_method_32_code
def yX2_livingTexts : MethodName := ⟨RX2, "livingTexts", "()I"⟩
abbrev cX2_livingUnits : ByteArray := prog_4_method_33_code
def yX2_livingUnits : MethodName := ⟨RX2, "livingUnits", "()I"⟩
abbrev cX2_deadUnits : ByteArray := prog_4_method_34_code
def yX2_deadUnits : MethodName := ⟨RX2, "deadUnits", "()I"⟩
abbrev cX2_layText : ByteArray := prog_4_method_35_code
def yX2_layText : MethodName := ⟨RX2, "layText", "(I)I"⟩
abbrev cX2_tellAliases : ByteArray := prog_4_method_36_code
def yX2_tellAliases : MethodName := ⟨RX2, "tellAliases", "(II)V"⟩
abbrev cX2_insertEntry : ByteArray := prog_4_method_37_code
def yX2_insertEntry : MethodName := ⟨RX2, "insertEntry", "(IIIII)I"⟩
abbrev cX2_takeOut : ByteArray := prog_4_method_38_code
def yX2_takeOut : MethodName := ⟨RX2, "takeOut", "(I)V"⟩
abbrev cX2_setEntry : ByteArray := prog_4_method_39_code
def yX2_setEntry : MethodName := ⟨RX2, "setEntry", "(IIIIII)V"⟩
abbrev cX2_moveEntries : ByteArray := prog_4_method_40_code
def yX2_moveEntries : MethodName := ⟨RX2, "moveEntries", "(III)V"⟩
abbrev cX2_closeUp : ByteArray := prog_4_method_41_code
def yX2_closeUp : MethodName := ⟨RX2, "closeUp", "()I"⟩
abbrev cX2_moveText : ByteArray := prog_4_method_42_code
def yX2_moveText : MethodName := ⟨RX2, "moveText", "(II)I"⟩
def RX3 : String := "MemberShelf"
def TX3 : u_T := fun k => match k with
  | 0 => ("MemberShelf", "shelf", "LMemberShelf$State;", true)
  | 1 => ("MemberShelf", "trial", "LMemberShelf$State;", true)
  | 2 => ("MemberShelf", "snapshot", "LMemberShelf$State;", true)
  | 3 => ("MemberShelf", "hasSnapshot", "Z", false)
  | 4 => ("MemberShelf", "history", "LMemberShelf$History;", true)
  | _ => ("MemberShelf", "pad", "LMemberShelf$Pad;", true)
def tyX3 : Nat → FieldType := fun k => match k with
  | 0 => .object "MemberShelf$State"
  | 1 => .object "MemberShelf$State"
  | 2 => .object "MemberShelf$State"
  | 3 => .boolean
  | 4 => .object "MemberShelf$History"
  | _ => .object "MemberShelf$Pad"
abbrev wsX30 : List Cond := u_ws RX3 TX3 6
theorem nmX3 : ∀ a, a < 6 → ∀ b, b < 6 → a ≠ b → (TX3 a).2.1 ≠ (TX3 b).2.1 := by decide +kernel
theorem tyX3_ok : ∀ k, k < 6 → parseFieldDescriptor (TX3 k).2.2.1 = some (tyX3 k) := by decide +kernel
abbrev cX3_init : ByteArray := prog_1_method_1_code
def yX3_init : MethodName := ⟨RX3, "<init>", "()V"⟩
abbrev cX3_add : ByteArray := prog_1_method_2_code
def yX3_add : MethodName := ⟨RX3, "add", "(III)I"⟩
abbrev cX3_replace : ByteArray := prog_1_method_3_code
def yX3_replace : MethodName := ⟨RX3, "replace", "(III)I"⟩
abbrev cX3_remove : ByteArray := prog_1_method_4_code
def yX3_remove : MethodName := ⟨RX3, "remove", "(I)I"⟩
abbrev cX3_rename : ByteArray := prog_1_method_5_code
def yX3_rename : MethodName := ⟨RX3, "rename", "(II)I"⟩
abbrev cX3_alias : ByteArray := prog_1_method_6_code
def yX3_alias : MethodName := ⟨RX3, "alias", "(II)I"⟩
abbrev cX3_addAll : ByteArray := prog_1_method_7_code
def yX3_addAll : MethodName := ⟨RX3, "addAll", "()I"⟩
abbrev cX3_squeeze : ByteArray := prog_1_method_8_code
def yX3_squeeze : MethodName := ⟨RX3, "squeeze", "()I"⟩
abbrev cX3_makeAnew : ByteArray := prog_1_method_9_code
def yX3_makeAnew : MethodName := ⟨RX3, "makeAnew", "(I)I"⟩
abbrev cX3_type : ByteArray := prog_1_method_10_code
def yX3_type : MethodName := ⟨RX3, "type", "(C)I"⟩
abbrev cX3_clearPad : ByteArray := prog_1_method_11_code
def yX3_clearPad : MethodName := ⟨RX3, "clearPad", "()I"⟩
abbrev cX3_undo : ByteArray := prog_1_method_12_code
def yX3_undo : MethodName := ⟨RX3, "undo", "()I"⟩
abbrev cX3_keep : ByteArray := prog_1_method_13_code
def yX3_keep : MethodName := ⟨RX3, "keep", "()I"⟩
abbrev cX3_restore : ByteArray := prog_1_method_14_code
def yX3_restore : MethodName := ⟨RX3, "restore", "()I"⟩
abbrev cX3_entry : ByteArray := prog_1_method_15_code
def yX3_entry : MethodName := ⟨RX3, "entry", "(II)I"⟩
abbrev cX3_named : ByteArray := prog_1_method_16_code
def yX3_named : MethodName := ⟨RX3, "named", "(I)I"⟩
abbrev cX3_block : ByteArray := prog_1_method_17_code
def yX3_block : MethodName := ⟨RX3, "block", "(II)I"⟩
abbrev cX3_at : ByteArray := prog_1_method_18_code
def yX3_at : MethodName := ⟨RX3, "at", "(I)I"⟩
abbrev cX3_fits : ByteArray := prog_1_method_19_code
def yX3_fits : MethodName := ⟨RX3, "fits", "(I)I"⟩
abbrev cX3_beginning : ByteArray := prog_1_method_20_code
def yX3_beginning : MethodName := ⟨RX3, "beginning", "(II)I"⟩
abbrev cX3_count : ByteArray := prog_1_method_21_code
def yX3_count : MethodName := ⟨RX3, "count", "(I)I"⟩
abbrev cX3_settle : ByteArray := prog_1_method_22_code
def yX3_settle : MethodName := ⟨RX3, "settle", "(I)I"⟩
def RX4 : String := "MemberShelfModel"
def TX4 : u_T := fun k => match k with
  | 0 => ("MemberShelfModel", "all", "[I", true)
  | 1 => ("MemberShelfModel", "kept", "[I", true)
  | 2 => ("MemberShelfModel", "history", "[I", true)
  | 3 => ("MemberShelfModel", "historyLong", "I", false)
  | 4 => ("MemberShelfModel", "snapshot", "[I", true)
  | 5 => ("MemberShelfModel", "isTaken", "I", false)
  | 6 => ("MemberShelfModel", "out", "[I", true)
  | 7 => ("MemberShelfModel", "pad", "[I", true)
  | 8 => ("MemberShelfModel", "padLong", "I", false)
  | 9 => ("MemberShelfModel", "spot", "I", false)
  | 10 => ("MemberShelfModel", "number", "I", false)
  | _ => ("MemberShelfModel", "told", "I", false)
def tyX4 : Nat → FieldType := fun k => match k with
  | 0 => .array .int
  | 1 => .array .int
  | 2 => .array .int
  | 3 => .int
  | 4 => .array .int
  | 5 => .int
  | 6 => .array .int
  | 7 => .array .int
  | 8 => .int
  | 9 => .int
  | 10 => .int
  | _ => .int
abbrev wsX40 : List Cond := u_ws RX4 TX4 12
theorem nmX4 : ∀ a, a < 12 → ∀ b, b < 12 → a ≠ b → (TX4 a).2.1 ≠ (TX4 b).2.1 := by decide +kernel
theorem tyX4_ok : ∀ k, k < 12 → parseFieldDescriptor (TX4 k).2.2.1 = some (tyX4 k) := by decide +kernel
abbrev cX4_init : ByteArray := prog_6_method_1_code
def yX4_init : MethodName := ⟨RX4, "<init>", "()V"⟩
abbrev cX4_in : ByteArray := prog_6_method_3_code
def yX4_in : MethodName := ⟨RX4, "in", "(JJJ)Z"⟩
abbrev cX4_remember : ByteArray := prog_6_method_4_code
def yX4_remember : MethodName := ⟨RX4, "remember", "()V"⟩
abbrev cX4_acted : ByteArray := prog_6_method_5_code
def yX4_acted : MethodName := ⟨RX4, "acted", "(I)I"⟩
abbrev cX4_of : ByteArray := prog_6_method_6_code
def yX4_of : MethodName := ⟨RX4, "of", "(II)I"⟩
abbrev cX4_sets : ByteArray := prog_6_method_7_code
def yX4_sets : MethodName := ⟨RX4, "sets", "(III)V"⟩
abbrev cX4_isName : ByteArray := prog_6_method_8_code
def yX4_isName : MethodName := ⟨RX4, "isName", "(I)Z"⟩
abbrev cX4_rankOf : ByteArray := prog_6_method_9_code
def yX4_rankOf : MethodName := ⟨RX4, "rankOf", "(I)I"⟩
abbrev cX4_isMember : ByteArray := prog_6_method_10_code
def yX4_isMember : MethodName := ⟨RX4, "isMember", "(I)Z"⟩
abbrev cX4_isDirectoryFull : ByteArray := prog_6_method_11_code
def yX4_isDirectoryFull : MethodName := ⟨RX4, "isDirectoryFull", "()Z"⟩
abbrev cX4_takesOut : ByteArray := prog_6_method_12_code
def yX4_takesOut : MethodName := ⟨RX4, "takesOut", "(I)V"⟩
abbrev cX4_putsIn : ByteArray := prog_6_method_13_code
def yX4_putsIn : MethodName := ⟨RX4, "putsIn", "()I"⟩
abbrev cX4_isRoomFor : ByteArray := prog_6_method_14_code
def yX4_isRoomFor : MethodName := ⟨RX4, "isRoomFor", "(I)Z"⟩
abbrev cX4_laysText : ByteArray := prog_6_method_15_code
def yX4_laysText : MethodName := ⟨RX4, "laysText", "(III)V"⟩
abbrev cX4_nextText : ByteArray := prog_6_method_16_code
def yX4_nextText : MethodName := ⟨RX4, "nextText", "(I)I"⟩
abbrev cX4_living : ByteArray := prog_6_method_17_code
def yX4_living : MethodName := ⟨RX4, "living", "(Z)I"⟩
abbrev cX4_squeezes : ByteArray := prog_6_method_18_code
def yX4_squeezes : MethodName := ⟨RX4, "squeezes", "()I"⟩
abbrev cX4_isLost : ByteArray := prog_6_method_19_code
def yX4_isLost : MethodName := ⟨RX4, "isLost", "(I)Z"⟩
abbrev cX4_aliasesOf : ByteArray := prog_6_method_20_code
def yX4_aliasesOf : MethodName := ⟨RX4, "aliasesOf", "(I)I"⟩
abbrev cX4_doAdd : ByteArray := prog_6_method_21_code
def yX4_doAdd : MethodName := ⟨RX4, "doAdd", "(III)I"⟩
abbrev cX4_doAlias : ByteArray := prog_6_method_22_code
def yX4_doAlias : MethodName := ⟨RX4, "doAlias", "(II)I"⟩
abbrev cX4_add : ByteArray := prog_6_method_23_code
def yX4_add : MethodName := ⟨RX4, "add", "(III)I"⟩
abbrev cX4_replace : ByteArray := prog_6_method_24_code
def yX4_replace : MethodName := ⟨RX4, "replace", "(III)I"⟩
abbrev cX4_remove : ByteArray := prog_6_method_25_code
def yX4_remove : MethodName := ⟨RX4, "remove", "(I)I"⟩
abbrev cX4_rename : ByteArray := prog_6_method_26_code
def yX4_rename : MethodName := ⟨RX4, "rename", "(II)I"⟩
abbrev cX4_alias : ByteArray := prog_6_method_27_code
def yX4_alias : MethodName := ⟨RX4, "alias", "(II)I"⟩
abbrev cX4_type : ByteArray := prog_6_method_28_code
def yX4_type : MethodName := ⟨RX4, "type", "(C)I"⟩
abbrev cX4_clearPad : ByteArray := prog_6_method_29_code
def yX4_clearPad : MethodName := ⟨RX4, "clearPad", "()I"⟩
abbrev cX4_isHere : ByteArray := prog_6_method_30_code
def yX4_isHere : MethodName := ⟨RX4, "isHere", "(II)Z"⟩
abbrev cX4_takes : ByteArray := prog_6_method_31_code
def yX4_takes : MethodName := ⟨RX4, "takes", "(I)Z"⟩
abbrev cX4_readsNumber : ByteArray := prog_6_method_32_code
def yX4_readsNumber : MethodName := ⟨RX4, "readsNumber", "(II)Z"⟩
abbrev cX4_readsName : ByteArray := prog_6_method_33_code
def yX4_readsName : MethodName := ⟨RX4, "readsName", "()Z"⟩
abbrev cX4_readsAddition : ByteArray := prog_6_method_34_code
def yX4_readsAddition : MethodName := ⟨RX4, "readsAddition", "(Z)Z"⟩
abbrev cX4_fault : ByteArray := prog_6_method_35_code
def yX4_fault : MethodName := ⟨RX4, "fault", "()I"⟩
abbrev cX4_addAll : ByteArray := prog_6_method_36_code
def yX4_addAll : MethodName := ⟨RX4, "addAll", "()I"⟩
abbrev cX4_squeeze : ByteArray := prog_6_method_37_code
def yX4_squeeze : MethodName := ⟨RX4, "squeeze", "()I"⟩
abbrev cX4_makeAnew : ByteArray := prog_6_method_38_code
def yX4_makeAnew : MethodName := ⟨RX4, "makeAnew", "(I)I"⟩
abbrev cX4_undo : ByteArray := prog_6_method_39_code
def yX4_undo : MethodName := ⟨RX4, "undo", "()I"⟩
abbrev cX4_keep : ByteArray := prog_6_method_40_code
def yX4_keep : MethodName := ⟨RX4, "keep", "()I"⟩
abbrev cX4_restore : ByteArray := prog_6_method_41_code
def yX4_restore : MethodName := ⟨RX4, "restore", "()I"⟩
abbrev cX4_entry : ByteArray := prog_6_method_42_code
def yX4_entry : MethodName := ⟨RX4, "entry", "(II)I"⟩
abbrev cX4_named : ByteArray := prog_6_method_43_code
def yX4_named : MethodName := ⟨RX4, "named", "(I)I"⟩
abbrev cX4_block : ByteArray := prog_6_method_44_code
def yX4_block : MethodName := ⟨RX4, "block", "(II)I"⟩
abbrev cX4_at : ByteArray := prog_6_method_45_code
def yX4_at : MethodName := ⟨RX4, "at", "(I)I"⟩
abbrev cX4_fits : ByteArray := prog_6_method_46_code
def yX4_fits : MethodName := ⟨RX4, "fits", "(I)I"⟩
abbrev cX4_beginning : ByteArray := prog_6_method_47_code
def yX4_beginning : MethodName := ⟨RX4, "beginning", "(II)I"⟩
abbrev cX4_members : ByteArray := prog_6_method_48_code
def yX4_members : MethodName := ⟨RX4, "members", "()I"⟩
abbrev cX4_lostOnes : ByteArray := prog_6_method_49_code
def yX4_lostOnes : MethodName := ⟨RX4, "lostOnes", "()I"⟩
abbrev cX4_count : ByteArray := prog_6_method_50_code
def yX4_count : MethodName := ⟨RX4, "count", "(I)I"⟩
def RJ9 : String := "java/lang/Math"
def TJ9 : u_T := fun k => match k with
  | _ => ("", "", "", false)
def tyJ9 : Nat → FieldType := fun k => match k with
  | _ => .int
abbrev wsJ90 : List Cond := u_ws RJ9 TJ9 0
theorem nmJ9 : ∀ a, a < 0 → ∀ b, b < 0 → a ≠ b → (TJ9 a).2.1 ≠ (TJ9 b).2.1 := by decide +kernel
theorem tyJ9_ok : ∀ k, k < 0 → parseFieldDescriptor (TJ9 k).2.2.1 = some (tyJ9 k) := by decide +kernel
abbrev cJ9_max_7cf53 : ByteArray := prog_7_method_65_code
def yJ9_max_7cf53 : MethodName := ⟨RJ9, "max", "(II)I"⟩
abbrev cJ9_min_7cf53 : ByteArray := prog_7_method_69_code
def yJ9_min_7cf53 : MethodName := ⟨RJ9, "min", "(II)I"⟩
def RJ10 : String := "java/lang/System"
def TJ10 : u_T := fun k => match k with
  | _ => ("", "", "", false)
def tyJ10 : Nat → FieldType := fun k => match k with
  | _ => .int
abbrev wsJ100 : List Cond := u_ws RJ10 TJ10 0
theorem nmJ10 : ∀ a, a < 0 → ∀ b, b < 0 → a ≠ b → (TJ10 a).2.1 ≠ (TJ10 b).2.1 := by decide +kernel
theorem tyJ10_ok : ∀ k, k < 0 → parseFieldDescriptor (TJ10 k).2.2.1 = some (tyJ10 k) := by decide +kernel
def RL : String := "MemberShelfLaw"
abbrev cL_law : ByteArray := code
def yL_law : MethodName := ⟨RL, "law", "([I)Z"⟩
theorem inJ9 : ∀ w ∈ wsJ90, w ∈ lw_tbl := by decide +kernel
theorem inJ10 : ∀ w ∈ wsJ100, w ∈ lw_tbl := by decide +kernel
abbrev vwCl : List vw_C := [(RX0, TX0, 2), (RX1, TX1, 8), (RX2, TX2, 10), (RX3, TX3, 6), (RX4, TX4, 12)]
theorem inX0 : ∀ w ∈ u_ws RX0 TX0 2, w ∈ lw_tbl := by decide +kernel
theorem inX1 : ∀ w ∈ u_ws RX1 TX1 8, w ∈ lw_tbl := by decide +kernel
theorem inX2 : ∀ w ∈ u_ws RX2 TX2 10, w ∈ lw_tbl := by decide +kernel
theorem inX3 : ∀ w ∈ u_ws RX3 TX3 6, w ∈ lw_tbl := by decide +kernel
theorem inX4 : ∀ w ∈ u_ws RX4 TX4 12, w ∈ lw_tbl := by decide +kernel
end
section
theorem dX0_init_0 : decode cX0_init 0 = .ok (.aload_n 0, 1) := by decide +kernel
theorem dX0_init_1 : decode cX0_init 1 = .ok (.invokespecial 3, 3) := by decide +kernel
theorem dX0_init_4 : decode cX0_init 4 = .ok (.aload_n 0, 1) := by decide +kernel
theorem dX0_init_5 : decode cX0_init 5 = .ok (.iconst 4, 1) := by decide +kernel
theorem dX0_init_6 : decode cX0_init 6 = .ok (.anewarray 9, 3) := by decide +kernel
theorem dX0_init_9 : decode cX0_init 9 = .ok (.putfield 11, 3) := by decide +kernel
theorem dX0_init_12 : decode cX0_init 12 = .ok (.aload_n 0, 1) := by decide +kernel
theorem dX0_init_13 : decode cX0_init 13 = .ok (.iconst 0, 1) := by decide +kernel
theorem dX0_init_14 : decode cX0_init 14 = .ok (.putfield 17, 3) := by decide +kernel
theorem dX0_init_17 : decode cX0_init 17 = .ok (.iconst 0, 1) := by decide +kernel
theorem dX0_init_18 : decode cX0_init 18 = .ok (.istore_n 1, 1) := by decide +kernel
theorem dX0_init_19 : decode cX0_init 19 = .ok (.iload_n 1, 1) := by decide +kernel
theorem dX0_init_20 : decode cX0_init 20 = .ok (.iconst 4, 1) := by decide +kernel
theorem dX0_init_21 : decode cX0_init 21 = .ok (.if_icmp .ge 22, 3) := by decide +kernel
theorem dX0_init_24 : decode cX0_init 24 = .ok (.aload_n 0, 1) := by decide +kernel
theorem dX0_init_25 : decode cX0_init 25 = .ok (.getfield 11, 3) := by decide +kernel
theorem dX0_init_28 : decode cX0_init 28 = .ok (.iload_n 1, 1) := by decide +kernel
theorem dX0_init_29 : decode cX0_init 29 = .ok (.new 9, 3) := by decide +kernel
theorem dX0_init_32 : decode cX0_init 32 = .ok (.dup, 1) := by decide +kernel
theorem dX0_init_33 : decode cX0_init 33 = .ok (.invokespecial 21, 3) := by decide +kernel
theorem dX0_init_36 : decode cX0_init 36 = .ok (.aastore, 1) := by decide +kernel
theorem dX0_init_37 : decode cX0_init 37 = .ok (.iinc 1 1, 3) := by decide +kernel
theorem dX0_init_40 : decode cX0_init 40 = .ok (.goto (-21), 3) := by decide +kernel
theorem dX0_init_43 : decode cX0_init 43 = .ok (.return_, 1) := by decide +kernel
theorem dX0_size_0 : decode cX0_size 0 = .ok (.aload_n 0, 1) := by decide +kernel
theorem dX0_size_1 : decode cX0_size 1 = .ok (.getfield 17, 3) := by decide +kernel
theorem dX0_size_4 : decode cX0_size 4 = .ok (.ireturn, 1) := by decide +kernel
theorem dX0_keepState_0 : decode cX0_keepState 0 = .ok (.aload_n 0, 1) := by decide +kernel
theorem dX0_keepState_1 : decode cX0_keepState 1 = .ok (.getfield 17, 3) := by decide +kernel
theorem dX0_keepState_4 : decode cX0_keepState 4 = .ok (.iconst 4, 1) := by decide +kernel
theorem dX0_keepState_5 : decode cX0_keepState 5 = .ok (.if_icmp .lt 7, 3) := by decide +kernel
theorem dX0_keepState_8 : decode cX0_keepState 8 = .ok (.aload_n 0, 1) := by decide +kernel
theorem dX0_keepState_9 : decode cX0_keepState 9 = .ok (.invokevirtual 22, 3) := by decide +kernel
theorem dX0_keepState_12 : decode cX0_keepState 12 = .ok (.aload_n 0, 1) := by decide +kernel
theorem dX0_keepState_13 : decode cX0_keepState 13 = .ok (.getfield 11, 3) := by decide +kernel
theorem dX0_keepState_16 : decode cX0_keepState 16 = .ok (.aload_n 0, 1) := by decide +kernel
theorem dX0_keepState_17 : decode cX0_keepState 17 = .ok (.getfield 17, 3) := by decide +kernel
theorem dX0_keepState_20 : decode cX0_keepState 20 = .ok (.aaload, 1) := by decide +kernel
theorem dX0_keepState_21 : decode cX0_keepState 21 = .ok (.astore_n 2, 1) := by decide +kernel
theorem dX0_keepState_22 : decode cX0_keepState 22 = .ok (.aload_n 2, 1) := by decide +kernel
theorem dX0_keepState_23 : decode cX0_keepState 23 = .ok (.ifnull 18, 3) := by decide +kernel
theorem dX0_keepState_26 : decode cX0_keepState 26 = .ok (.aload_n 2, 1) := by decide +kernel
theorem dX0_keepState_27 : decode cX0_keepState 27 = .ok (.aload_n 1, 1) := by decide +kernel
theorem dX0_keepState_28 : decode cX0_keepState 28 = .ok (.invokevirtual 25, 3) := by decide +kernel
theorem dX0_keepState_31 : decode cX0_keepState 31 = .ok (.aload_n 0, 1) := by decide +kernel
theorem dX0_keepState_32 : decode cX0_keepState 32 = .ok (.dup, 1) := by decide +kernel
theorem dX0_keepState_33 : decode cX0_keepState 33 = .ok (.getfield 17, 3) := by decide +kernel
theorem dX0_keepState_36 : decode cX0_keepState 36 = .ok (.iconst 1, 1) := by decide +kernel
theorem dX0_keepState_37 : decode cX0_keepState 37 = .ok (.iadd, 1) := by decide +kernel
theorem dX0_keepState_38 : decode cX0_keepState 38 = .ok (.putfield 17, 3) := by decide +kernel
theorem dX0_keepState_41 : decode cX0_keepState 41 = .ok (.return_, 1) := by decide +kernel
theorem dX0_giveLatestTo_0 : decode cX0_giveLatestTo 0 = .ok (.aload_n 0, 1) := by decide +kernel
theorem dX0_giveLatestTo_1 : decode cX0_giveLatestTo 1 = .ok (.getfield 17, 3) := by decide +kernel
theorem dX0_giveLatestTo_4 : decode cX0_giveLatestTo 4 = .ok (.ifCond .le 11, 3) := by decide +kernel
theorem dX0_giveLatestTo_7 : decode cX0_giveLatestTo 7 = .ok (.aload_n 0, 1) := by decide +kernel
theorem dX0_giveLatestTo_8 : decode cX0_giveLatestTo 8 = .ok (.getfield 17, 3) := by decide +kernel
theorem dX0_giveLatestTo_11 : decode cX0_giveLatestTo 11 = .ok (.iconst 4, 1) := by decide +kernel
theorem dX0_giveLatestTo_12 : decode cX0_giveLatestTo 12 = .ok (.if_icmp .le 5, 3) := by decide +kernel
theorem dX0_giveLatestTo_15 : decode cX0_giveLatestTo 15 = .ok (.iconst 0, 1) := by decide +kernel
theorem dX0_giveLatestTo_16 : decode cX0_giveLatestTo 16 = .ok (.ireturn, 1) := by decide +kernel
theorem dX0_giveLatestTo_17 : decode cX0_giveLatestTo 17 = .ok (.aload_n 0, 1) := by decide +kernel
theorem dX0_giveLatestTo_18 : decode cX0_giveLatestTo 18 = .ok (.getfield 11, 3) := by decide +kernel
theorem dX0_giveLatestTo_21 : decode cX0_giveLatestTo 21 = .ok (.aload_n 0, 1) := by decide +kernel
theorem dX0_giveLatestTo_22 : decode cX0_giveLatestTo 22 = .ok (.getfield 17, 3) := by decide +kernel
theorem dX0_giveLatestTo_25 : decode cX0_giveLatestTo 25 = .ok (.iconst 1, 1) := by decide +kernel
theorem dX0_giveLatestTo_26 : decode cX0_giveLatestTo 26 = .ok (.isub, 1) := by decide +kernel
theorem dX0_giveLatestTo_27 : decode cX0_giveLatestTo 27 = .ok (.aaload, 1) := by decide +kernel
theorem dX0_giveLatestTo_28 : decode cX0_giveLatestTo 28 = .ok (.astore_n 2, 1) := by decide +kernel
theorem dX0_giveLatestTo_29 : decode cX0_giveLatestTo 29 = .ok (.aload_n 2, 1) := by decide +kernel
theorem dX0_giveLatestTo_30 : decode cX0_giveLatestTo 30 = .ok (.ifnonnull 5, 3) := by decide +kernel
theorem dX0_giveLatestTo_33 : decode cX0_giveLatestTo 33 = .ok (.iconst 0, 1) := by decide +kernel
theorem dX0_giveLatestTo_34 : decode cX0_giveLatestTo 34 = .ok (.ireturn, 1) := by decide +kernel
theorem dX0_giveLatestTo_35 : decode cX0_giveLatestTo 35 = .ok (.aload_n 1, 1) := by decide +kernel
theorem dX0_giveLatestTo_36 : decode cX0_giveLatestTo 36 = .ok (.aload_n 2, 1) := by decide +kernel
theorem dX0_giveLatestTo_37 : decode cX0_giveLatestTo 37 = .ok (.invokevirtual 25, 3) := by decide +kernel
theorem dX0_giveLatestTo_40 : decode cX0_giveLatestTo 40 = .ok (.aload_n 0, 1) := by decide +kernel
theorem dX0_giveLatestTo_41 : decode cX0_giveLatestTo 41 = .ok (.dup, 1) := by decide +kernel
theorem dX0_giveLatestTo_42 : decode cX0_giveLatestTo 42 = .ok (.getfield 17, 3) := by decide +kernel
theorem dX0_giveLatestTo_45 : decode cX0_giveLatestTo 45 = .ok (.iconst 1, 1) := by decide +kernel
theorem dX0_giveLatestTo_46 : decode cX0_giveLatestTo 46 = .ok (.isub, 1) := by decide +kernel
theorem dX0_giveLatestTo_47 : decode cX0_giveLatestTo 47 = .ok (.putfield 17, 3) := by decide +kernel
theorem dX0_giveLatestTo_50 : decode cX0_giveLatestTo 50 = .ok (.iconst 1, 1) := by decide +kernel
theorem dX0_giveLatestTo_51 : decode cX0_giveLatestTo 51 = .ok (.ireturn, 1) := by decide +kernel
theorem dX0_dropOldest_0 : decode cX0_dropOldest 0 = .ok (.aload_n 0, 1) := by decide +kernel
theorem dX0_dropOldest_1 : decode cX0_dropOldest 1 = .ok (.getfield 11, 3) := by decide +kernel
theorem dX0_dropOldest_4 : decode cX0_dropOldest 4 = .ok (.iconst 0, 1) := by decide +kernel
theorem dX0_dropOldest_5 : decode cX0_dropOldest 5 = .ok (.aaload, 1) := by decide +kernel
theorem dX0_dropOldest_6 : decode cX0_dropOldest 6 = .ok (.astore_n 1, 1) := by decide +kernel
theorem dX0_dropOldest_7 : decode cX0_dropOldest 7 = .ok (.iconst 1, 1) := by decide +kernel
theorem dX0_dropOldest_8 : decode cX0_dropOldest 8 = .ok (.istore_n 2, 1) := by decide +kernel
theorem dX0_dropOldest_9 : decode cX0_dropOldest 9 = .ok (.iload_n 2, 1) := by decide +kernel
theorem dX0_dropOldest_10 : decode cX0_dropOldest 10 = .ok (.iconst 4, 1) := by decide +kernel
theorem dX0_dropOldest_11 : decode cX0_dropOldest 11 = .ok (.if_icmp .ge 23, 3) := by decide +kernel
theorem dX0_dropOldest_14 : decode cX0_dropOldest 14 = .ok (.aload_n 0, 1) := by decide +kernel
theorem dX0_dropOldest_15 : decode cX0_dropOldest 15 = .ok (.getfield 11, 3) := by decide +kernel
theorem dX0_dropOldest_18 : decode cX0_dropOldest 18 = .ok (.iload_n 2, 1) := by decide +kernel
theorem dX0_dropOldest_19 : decode cX0_dropOldest 19 = .ok (.iconst 1, 1) := by decide +kernel
theorem dX0_dropOldest_20 : decode cX0_dropOldest 20 = .ok (.isub, 1) := by decide +kernel
theorem dX0_dropOldest_21 : decode cX0_dropOldest 21 = .ok (.aload_n 0, 1) := by decide +kernel
theorem dX0_dropOldest_22 : decode cX0_dropOldest 22 = .ok (.getfield 11, 3) := by decide +kernel
theorem dX0_dropOldest_25 : decode cX0_dropOldest 25 = .ok (.iload_n 2, 1) := by decide +kernel
theorem dX0_dropOldest_26 : decode cX0_dropOldest 26 = .ok (.aaload, 1) := by decide +kernel
theorem dX0_dropOldest_27 : decode cX0_dropOldest 27 = .ok (.aastore, 1) := by decide +kernel
theorem dX0_dropOldest_28 : decode cX0_dropOldest 28 = .ok (.iinc 2 1, 3) := by decide +kernel
theorem dX0_dropOldest_31 : decode cX0_dropOldest 31 = .ok (.goto (-22), 3) := by decide +kernel
theorem dX0_dropOldest_34 : decode cX0_dropOldest 34 = .ok (.aload_n 0, 1) := by decide +kernel
theorem dX0_dropOldest_35 : decode cX0_dropOldest 35 = .ok (.getfield 11, 3) := by decide +kernel
theorem dX0_dropOldest_38 : decode cX0_dropOldest 38 = .ok (.iconst 3, 1) := by decide +kernel
theorem dX0_dropOldest_39 : decode cX0_dropOldest 39 = .ok (.aload_n 1, 1) := by decide +kernel
theorem dX0_dropOldest_40 : decode cX0_dropOldest 40 = .ok (.aastore, 1) := by decide +kernel
theorem dX0_dropOldest_41 : decode cX0_dropOldest 41 = .ok (.aload_n 0, 1) := by decide +kernel
theorem dX0_dropOldest_42 : decode cX0_dropOldest 42 = .ok (.iconst 3, 1) := by decide +kernel
theorem dX0_dropOldest_43 : decode cX0_dropOldest 43 = .ok (.putfield 17, 3) := by decide +kernel
theorem dX0_dropOldest_46 : decode cX0_dropOldest 46 = .ok (.return_, 1) := by decide +kernel
theorem dX1_init_0 : decode cX1_init 0 = .ok (.aload_n 0, 1) := by decide +kernel
theorem dX1_init_1 : decode cX1_init 1 = .ok (.invokespecial 3, 3) := by decide +kernel
theorem dX1_init_4 : decode cX1_init 4 = .ok (.aload_n 0, 1) := by decide +kernel
theorem dX1_init_5 : decode cX1_init 5 = .ok (.bipush 60, 2) := by decide +kernel
theorem dX1_init_7 : decode cX1_init 7 = .ok (.newarray .char, 2) := by decide +kernel
theorem dX1_init_9 : decode cX1_init 9 = .ok (.putfield 9, 3) := by decide +kernel
theorem dX1_init_12 : decode cX1_init 12 = .ok (.aload_n 0, 1) := by decide +kernel
theorem dX1_init_13 : decode cX1_init 13 = .ok (.iconst 0, 1) := by decide +kernel
theorem dX1_init_14 : decode cX1_init 14 = .ok (.putfield 15, 3) := by decide +kernel
theorem dX1_init_17 : decode cX1_init 17 = .ok (.aload_n 0, 1) := by decide +kernel
theorem dX1_init_18 : decode cX1_init 18 = .ok (.bipush 12, 2) := by decide +kernel
theorem dX1_init_20 : decode cX1_init 20 = .ok (.newarray .int, 2) := by decide +kernel
theorem dX1_init_22 : decode cX1_init 22 = .ok (.putfield 19, 3) := by decide +kernel
theorem dX1_init_25 : decode cX1_init 25 = .ok (.aload_n 0, 1) := by decide +kernel
theorem dX1_init_26 : decode cX1_init 26 = .ok (.bipush 12, 2) := by decide +kernel
theorem dX1_init_28 : decode cX1_init 28 = .ok (.newarray .int, 2) := by decide +kernel
theorem dX1_init_30 : decode cX1_init 30 = .ok (.putfield 23, 3) := by decide +kernel
theorem dX1_init_33 : decode cX1_init 33 = .ok (.aload_n 0, 1) := by decide +kernel
theorem dX1_init_34 : decode cX1_init 34 = .ok (.bipush 12, 2) := by decide +kernel
theorem dX1_init_36 : decode cX1_init 36 = .ok (.newarray .int, 2) := by decide +kernel
theorem dX1_init_38 : decode cX1_init 38 = .ok (.putfield 26, 3) := by decide +kernel
theorem dX1_init_41 : decode cX1_init 41 = .ok (.aload_n 0, 1) := by decide +kernel
theorem dX1_init_42 : decode cX1_init 42 = .ok (.bipush 12, 2) := by decide +kernel
theorem dX1_init_44 : decode cX1_init 44 = .ok (.newarray .int, 2) := by decide +kernel
theorem dX1_init_46 : decode cX1_init 46 = .ok (.putfield 29, 3) := by decide +kernel
theorem dX1_init_49 : decode cX1_init 49 = .ok (.aload_n 0, 1) := by decide +kernel
theorem dX1_init_50 : decode cX1_init 50 = .ok (.iconst 0, 1) := by decide +kernel
theorem dX1_init_51 : decode cX1_init 51 = .ok (.putfield 32, 3) := by decide +kernel
theorem dX1_init_54 : decode cX1_init 54 = .ok (.aload_n 0, 1) := by decide +kernel
theorem dX1_init_55 : decode cX1_init 55 = .ok (.iconst 0, 1) := by decide +kernel
theorem dX1_init_56 : decode cX1_init 56 = .ok (.putfield 35, 3) := by decide +kernel
theorem dX1_init_59 : decode cX1_init 59 = .ok (.return_, 1) := by decide +kernel
theorem dX1_length_0 : decode cX1_length 0 = .ok (.aload_n 0, 1) := by decide +kernel
theorem dX1_length_1 : decode cX1_length 1 = .ok (.getfield 15, 3) := by decide +kernel
theorem dX1_length_4 : decode cX1_length 4 = .ok (.ireturn, 1) := by decide +kernel
theorem dX1_append_0 : decode cX1_append 0 = .ok (.aload_n 0, 1) := by decide +kernel
theorem dX1_append_1 : decode cX1_append 1 = .ok (.getfield 15, 3) := by decide +kernel
theorem dX1_append_4 : decode cX1_append 4 = .ok (.bipush 60, 2) := by decide +kernel
theorem dX1_append_6 : decode cX1_append 6 = .ok (.if_icmp .lt 6, 3) := by decide +kernel
theorem dX1_append_9 : decode cX1_append 9 = .ok (.bipush (-3), 2) := by decide +kernel
theorem dX1_append_11 : decode cX1_append 11 = .ok (.ireturn, 1) := by decide +kernel
theorem dX1_append_12 : decode cX1_append 12 = .ok (.aload_n 0, 1) := by decide +kernel
theorem dX1_append_13 : decode cX1_append 13 = .ok (.getfield 9, 3) := by decide +kernel
theorem dX1_append_16 : decode cX1_append 16 = .ok (.aload_n 0, 1) := by decide +kernel
theorem dX1_append_17 : decode cX1_append 17 = .ok (.getfield 15, 3) := by decide +kernel
theorem dX1_append_20 : decode cX1_append 20 = .ok (.iload_n 1, 1) := by decide +kernel
theorem dX1_append_21 : decode cX1_append 21 = .ok (.castore, 1) := by decide +kernel
theorem dX1_append_22 : decode cX1_append 22 = .ok (.aload_n 0, 1) := by decide +kernel
theorem dX1_append_23 : decode cX1_append 23 = .ok (.dup, 1) := by decide +kernel
theorem dX1_append_24 : decode cX1_append 24 = .ok (.getfield 15, 3) := by decide +kernel
theorem dX1_append_27 : decode cX1_append 27 = .ok (.iconst 1, 1) := by decide +kernel
theorem dX1_append_28 : decode cX1_append 28 = .ok (.iadd, 1) := by decide +kernel
theorem dX1_append_29 : decode cX1_append 29 = .ok (.putfield 15, 3) := by decide +kernel
theorem dX1_append_32 : decode cX1_append 32 = .ok (.aload_n 0, 1) := by decide +kernel
theorem dX1_append_33 : decode cX1_append 33 = .ok (.getfield 15, 3) := by decide +kernel
theorem dX1_append_36 : decode cX1_append 36 = .ok (.ireturn, 1) := by decide +kernel
theorem dX1_empty_0 : decode cX1_empty 0 = .ok (.aload_n 0, 1) := by decide +kernel
theorem dX1_empty_1 : decode cX1_empty 1 = .ok (.getfield 15, 3) := by decide +kernel
theorem dX1_empty_4 : decode cX1_empty 4 = .ok (.istore_n 1, 1) := by decide +kernel
theorem dX1_empty_5 : decode cX1_empty 5 = .ok (.aload_n 0, 1) := by decide +kernel
theorem dX1_empty_6 : decode cX1_empty 6 = .ok (.iconst 0, 1) := by decide +kernel
theorem dX1_empty_7 : decode cX1_empty 7 = .ok (.putfield 15, 3) := by decide +kernel
theorem dX1_empty_10 : decode cX1_empty 10 = .ok (.iload_n 1, 1) := by decide +kernel
theorem dX1_empty_11 : decode cX1_empty 11 = .ok (.ireturn, 1) := by decide +kernel
theorem dX1_readAdditions_0 : decode cX1_readAdditions 0 = .ok (.aload_n 0, 1) := by decide +kernel
theorem dX1_readAdditions_1 : decode cX1_readAdditions 1 = .ok (.iconst 0, 1) := by decide +kernel
theorem dX1_readAdditions_2 : decode cX1_readAdditions 2 = .ok (.putfield 32, 3) := by decide +kernel
theorem dX1_readAdditions_5 : decode cX1_readAdditions 5 = .ok (.aload_n 0, 1) := by decide +kernel
theorem dX1_readAdditions_6 : decode cX1_readAdditions 6 = .ok (.iconst 0, 1) := by decide +kernel
theorem dX1_readAdditions_7 : decode cX1_readAdditions 7 = .ok (.putfield 35, 3) := by decide +kernel
theorem dX1_readAdditions_10 : decode cX1_readAdditions 10 = .ok (.iconst 0, 1) := by decide +kernel
theorem dX1_readAdditions_11 : decode cX1_readAdditions 11 = .ok (.istore_n 1, 1) := by decide +kernel
theorem dX1_readAdditions_12 : decode cX1_readAdditions 12 = .ok (.iload_n 1, 1) := by decide +kernel
theorem dX1_readAdditions_13 : decode cX1_readAdditions 13 = .ok (.bipush 12, 2) := by decide +kernel
theorem dX1_readAdditions_15 : decode cX1_readAdditions 15 = .ok (.if_icmp .gt 48, 3) := by decide +kernel
theorem dX1_readAdditions_18 : decode cX1_readAdditions 18 = .ok (.aload_n 0, 1) := by decide +kernel
theorem dX1_readAdditions_19 : decode cX1_readAdditions 19 = .ok (.invokevirtual 38, 3) := by decide +kernel
theorem dX1_readAdditions_22 : decode cX1_readAdditions 22 = .ok (.ifCond .ne 8, 3) := by decide +kernel
theorem dX1_readAdditions_25 : decode cX1_readAdditions 25 = .ok (.aload_n 0, 1) := by decide +kernel
theorem dX1_readAdditions_26 : decode cX1_readAdditions 26 = .ok (.getfield 35, 3) := by decide +kernel
theorem dX1_readAdditions_29 : decode cX1_readAdditions 29 = .ok (.ireturn, 1) := by decide +kernel
theorem dX1_readAdditions_30 : decode cX1_readAdditions 30 = .ok (.aload_n 0, 1) := by decide +kernel
theorem dX1_readAdditions_31 : decode cX1_readAdditions 31 = .ok (.getfield 35, 3) := by decide +kernel
theorem dX1_readAdditions_34 : decode cX1_readAdditions 34 = .ok (.aload_n 0, 1) := by decide +kernel
theorem dX1_readAdditions_35 : decode cX1_readAdditions 35 = .ok (.getfield 15, 3) := by decide +kernel
theorem dX1_readAdditions_38 : decode cX1_readAdditions 38 = .ok (.if_icmp .lt 5, 3) := by decide +kernel
theorem dX1_readAdditions_41 : decode cX1_readAdditions 41 = .ok (.iconst (-1), 1) := by decide +kernel
theorem dX1_readAdditions_42 : decode cX1_readAdditions 42 = .ok (.ireturn, 1) := by decide +kernel
theorem dX1_readAdditions_43 : decode cX1_readAdditions 43 = .ok (.aload_n 0, 1) := by decide +kernel
theorem dX1_readAdditions_44 : decode cX1_readAdditions 44 = .ok (.bipush 59, 2) := by decide +kernel
theorem dX1_readAdditions_46 : decode cX1_readAdditions 46 = .ok (.invokevirtual 42, 3) := by decide +kernel
theorem dX1_readAdditions_49 : decode cX1_readAdditions 49 = .ok (.ifCond .ne 8, 3) := by decide +kernel
theorem dX1_readAdditions_52 : decode cX1_readAdditions 52 = .ok (.aload_n 0, 1) := by decide +kernel
theorem dX1_readAdditions_53 : decode cX1_readAdditions 53 = .ok (.getfield 35, 3) := by decide +kernel
theorem dX1_readAdditions_56 : decode cX1_readAdditions 56 = .ok (.ireturn, 1) := by decide +kernel
theorem dX1_readAdditions_57 : decode cX1_readAdditions 57 = .ok (.iinc 1 1, 3) := by decide +kernel
theorem dX1_readAdditions_60 : decode cX1_readAdditions 60 = .ok (.goto (-48), 3) := by decide +kernel
theorem dX1_readAdditions_63 : decode cX1_readAdditions 63 = .ok (.aload_n 0, 1) := by decide +kernel
theorem dX1_readAdditions_64 : decode cX1_readAdditions 64 = .ok (.getfield 35, 3) := by decide +kernel
theorem dX1_readAdditions_67 : decode cX1_readAdditions 67 = .ok (.ireturn, 1) := by decide +kernel
theorem dX1_makeAdditions_0 : decode cX1_makeAdditions 0 = .ok (.iconst 0, 1) := by decide +kernel
theorem dX1_makeAdditions_1 : decode cX1_makeAdditions 1 = .ok (.istore_n 2, 1) := by decide +kernel
theorem dX1_makeAdditions_2 : decode cX1_makeAdditions 2 = .ok (.iload_n 2, 1) := by decide +kernel
theorem dX1_makeAdditions_3 : decode cX1_makeAdditions 3 = .ok (.aload_n 0, 1) := by decide +kernel
theorem dX1_makeAdditions_4 : decode cX1_makeAdditions 4 = .ok (.getfield 32, 3) := by decide +kernel
theorem dX1_makeAdditions_7 : decode cX1_makeAdditions 7 = .ok (.if_icmp .ge 80, 3) := by decide +kernel
theorem dX1_makeAdditions_10 : decode cX1_makeAdditions 10 = .ok (.iload_n 2, 1) := by decide +kernel
theorem dX1_makeAdditions_11 : decode cX1_makeAdditions 11 = .ok (.bipush 12, 2) := by decide +kernel
theorem dX1_makeAdditions_13 : decode cX1_makeAdditions 13 = .ok (.if_icmp .ge 74, 3) := by decide +kernel
theorem dX1_makeAdditions_16 : decode cX1_makeAdditions 16 = .ok (.aload_n 0, 1) := by decide +kernel
theorem dX1_makeAdditions_17 : decode cX1_makeAdditions 17 = .ok (.getfield 23, 3) := by decide +kernel
theorem dX1_makeAdditions_20 : decode cX1_makeAdditions 20 = .ok (.iload_n 2, 1) := by decide +kernel
theorem dX1_makeAdditions_21 : decode cX1_makeAdditions 21 = .ok (.iaload, 1) := by decide +kernel
theorem dX1_makeAdditions_22 : decode cX1_makeAdditions 22 = .ok (.bipush (-5), 2) := by decide +kernel
theorem dX1_makeAdditions_24 : decode cX1_makeAdditions 24 = .ok (.if_icmp .ne 28, 3) := by decide +kernel
theorem dX1_makeAdditions_27 : decode cX1_makeAdditions 27 = .ok (.aload_n 1, 1) := by decide +kernel
theorem dX1_makeAdditions_28 : decode cX1_makeAdditions 28 = .ok (.aload_n 0, 1) := by decide +kernel
theorem dX1_makeAdditions_29 : decode cX1_makeAdditions 29 = .ok (.getfield 19, 3) := by decide +kernel
theorem dX1_makeAdditions_32 : decode cX1_makeAdditions 32 = .ok (.iload_n 2, 1) := by decide +kernel
theorem dX1_makeAdditions_33 : decode cX1_makeAdditions 33 = .ok (.iaload, 1) := by decide +kernel
theorem dX1_makeAdditions_34 : decode cX1_makeAdditions 34 = .ok (.aload_n 0, 1) := by decide +kernel
theorem dX1_makeAdditions_35 : decode cX1_makeAdditions 35 = .ok (.getfield 26, 3) := by decide +kernel
theorem dX1_makeAdditions_38 : decode cX1_makeAdditions 38 = .ok (.iload_n 2, 1) := by decide +kernel
theorem dX1_makeAdditions_39 : decode cX1_makeAdditions 39 = .ok (.iaload, 1) := by decide +kernel
theorem dX1_makeAdditions_40 : decode cX1_makeAdditions 40 = .ok (.aload_n 0, 1) := by decide +kernel
theorem dX1_makeAdditions_41 : decode cX1_makeAdditions 41 = .ok (.getfield 29, 3) := by decide +kernel
theorem dX1_makeAdditions_44 : decode cX1_makeAdditions 44 = .ok (.iload_n 2, 1) := by decide +kernel
theorem dX1_makeAdditions_45 : decode cX1_makeAdditions 45 = .ok (.iaload, 1) := by decide +kernel
theorem dX1_makeAdditions_46 : decode cX1_makeAdditions 46 = .ok (.invokevirtual 46, 3) := by decide +kernel
theorem dX1_makeAdditions_49 : decode cX1_makeAdditions 49 = .ok (.goto 19, 3) := by decide +kernel
theorem dX1_makeAdditions_52 : decode cX1_makeAdditions 52 = .ok (.aload_n 1, 1) := by decide +kernel
theorem dX1_makeAdditions_53 : decode cX1_makeAdditions 53 = .ok (.aload_n 0, 1) := by decide +kernel
theorem dX1_makeAdditions_54 : decode cX1_makeAdditions 54 = .ok (.getfield 19, 3) := by decide +kernel
theorem dX1_makeAdditions_57 : decode cX1_makeAdditions 57 = .ok (.iload_n 2, 1) := by decide +kernel
theorem dX1_makeAdditions_58 : decode cX1_makeAdditions 58 = .ok (.iaload, 1) := by decide +kernel
theorem dX1_makeAdditions_59 : decode cX1_makeAdditions 59 = .ok (.aload_n 0, 1) := by decide +kernel
theorem dX1_makeAdditions_60 : decode cX1_makeAdditions 60 = .ok (.getfield 23, 3) := by decide +kernel
theorem dX1_makeAdditions_63 : decode cX1_makeAdditions 63 = .ok (.iload_n 2, 1) := by decide +kernel
theorem dX1_makeAdditions_64 : decode cX1_makeAdditions 64 = .ok (.iaload, 1) := by decide +kernel
theorem dX1_makeAdditions_65 : decode cX1_makeAdditions 65 = .ok (.invokevirtual 52, 3) := by decide +kernel
theorem dX1_makeAdditions_68 : decode cX1_makeAdditions 68 = .ok (.istore_n 3, 1) := by decide +kernel
theorem dX1_makeAdditions_69 : decode cX1_makeAdditions 69 = .ok (.iload_n 3, 1) := by decide +kernel
theorem dX1_makeAdditions_70 : decode cX1_makeAdditions 70 = .ok (.ifCond .ge 11, 3) := by decide +kernel
theorem dX1_makeAdditions_73 : decode cX1_makeAdditions 73 = .ok (.iload_n 3, 1) := by decide +kernel
theorem dX1_makeAdditions_74 : decode cX1_makeAdditions 74 = .ok (.bipush (-5), 2) := by decide +kernel
theorem dX1_makeAdditions_76 : decode cX1_makeAdditions 76 = .ok (.if_icmp .eq 5, 3) := by decide +kernel
theorem dX1_makeAdditions_79 : decode cX1_makeAdditions 79 = .ok (.iload_n 3, 1) := by decide +kernel
theorem dX1_makeAdditions_80 : decode cX1_makeAdditions 80 = .ok (.ireturn, 1) := by decide +kernel
theorem dX1_makeAdditions_81 : decode cX1_makeAdditions 81 = .ok (.iinc 2 1, 3) := by decide +kernel
theorem dX1_makeAdditions_84 : decode cX1_makeAdditions 84 = .ok (.goto (-82), 3) := by decide +kernel
theorem dX1_makeAdditions_87 : decode cX1_makeAdditions 87 = .ok (.aload_n 0, 1) := by decide +kernel
theorem dX1_makeAdditions_88 : decode cX1_makeAdditions 88 = .ok (.getfield 32, 3) := by decide +kernel
theorem dX1_makeAdditions_91 : decode cX1_makeAdditions 91 = .ok (.ireturn, 1) := by decide +kernel
theorem dX1_readAddition_0 : decode cX1_readAddition 0 = .ok (.aload_n 0, 1) := by decide +kernel
theorem dX1_readAddition_1 : decode cX1_readAddition 1 = .ok (.invokevirtual 56, 3) := by decide +kernel
theorem dX1_readAddition_4 : decode cX1_readAddition 4 = .ok (.istore_n 1, 1) := by decide +kernel
theorem dX1_readAddition_5 : decode cX1_readAddition 5 = .ok (.iload_n 1, 1) := by decide +kernel
theorem dX1_readAddition_6 : decode cX1_readAddition 6 = .ok (.iconst (-1), 1) := by decide +kernel
theorem dX1_readAddition_7 : decode cX1_readAddition 7 = .ok (.if_icmp .ne 5, 3) := by decide +kernel
theorem dX1_readAddition_10 : decode cX1_readAddition 10 = .ok (.iconst 0, 1) := by decide +kernel
theorem dX1_readAddition_11 : decode cX1_readAddition 11 = .ok (.ireturn, 1) := by decide +kernel
theorem dX1_readAddition_12 : decode cX1_readAddition 12 = .ok (.aload_n 0, 1) := by decide +kernel
theorem dX1_readAddition_13 : decode cX1_readAddition 13 = .ok (.bipush 61, 2) := by decide +kernel
theorem dX1_readAddition_15 : decode cX1_readAddition 15 = .ok (.invokevirtual 42, 3) := by decide +kernel
theorem dX1_readAddition_18 : decode cX1_readAddition 18 = .ok (.ifCond .eq 9, 3) := by decide +kernel
theorem dX1_readAddition_21 : decode cX1_readAddition 21 = .ok (.aload_n 0, 1) := by decide +kernel
theorem dX1_readAddition_22 : decode cX1_readAddition 22 = .ok (.iload_n 1, 1) := by decide +kernel
theorem dX1_readAddition_23 : decode cX1_readAddition 23 = .ok (.invokevirtual 60, 3) := by decide +kernel
theorem dX1_readAddition_26 : decode cX1_readAddition 26 = .ok (.ireturn, 1) := by decide +kernel
theorem dX1_readAddition_27 : decode cX1_readAddition 27 = .ok (.aload_n 0, 1) := by decide +kernel
theorem dX1_readAddition_28 : decode cX1_readAddition 28 = .ok (.bipush 62, 2) := by decide +kernel
theorem dX1_readAddition_30 : decode cX1_readAddition 30 = .ok (.invokevirtual 42, 3) := by decide +kernel
theorem dX1_readAddition_33 : decode cX1_readAddition 33 = .ok (.ifCond .eq 15, 3) := by decide +kernel
theorem dX1_readAddition_36 : decode cX1_readAddition 36 = .ok (.aload_n 0, 1) := by decide +kernel
theorem dX1_readAddition_37 : decode cX1_readAddition 37 = .ok (.iload_n 1, 1) := by decide +kernel
theorem dX1_readAddition_38 : decode cX1_readAddition 38 = .ok (.invokevirtual 64, 3) := by decide +kernel
theorem dX1_readAddition_41 : decode cX1_readAddition 41 = .ok (.ifCond .eq 7, 3) := by decide +kernel
theorem dX1_readAddition_44 : decode cX1_readAddition 44 = .ok (.iconst 1, 1) := by decide +kernel
theorem dX1_readAddition_45 : decode cX1_readAddition 45 = .ok (.goto 4, 3) := by decide +kernel
theorem dX1_readAddition_48 : decode cX1_readAddition 48 = .ok (.iconst 0, 1) := by decide +kernel
theorem dX1_readAddition_49 : decode cX1_readAddition 49 = .ok (.ireturn, 1) := by decide +kernel
theorem dX1_readMember_0 : decode cX1_readMember 0 = .ok (.aload_n 0, 1) := by decide +kernel
theorem dX1_readMember_1 : decode cX1_readMember 1 = .ok (.iconst 1, 1) := by decide +kernel
theorem dX1_readMember_2 : decode cX1_readMember 2 = .ok (.bipush 40, 2) := by decide +kernel
theorem dX1_readMember_4 : decode cX1_readMember 4 = .ok (.invokevirtual 67, 3) := by decide +kernel
theorem dX1_readMember_7 : decode cX1_readMember 7 = .ok (.istore_n 2, 1) := by decide +kernel
theorem dX1_readMember_8 : decode cX1_readMember 8 = .ok (.iload_n 2, 1) := by decide +kernel
theorem dX1_readMember_9 : decode cX1_readMember 9 = .ok (.iconst (-1), 1) := by decide +kernel
theorem dX1_readMember_10 : decode cX1_readMember 10 = .ok (.if_icmp .ne 5, 3) := by decide +kernel
theorem dX1_readMember_13 : decode cX1_readMember 13 = .ok (.iconst 0, 1) := by decide +kernel
theorem dX1_readMember_14 : decode cX1_readMember 14 = .ok (.ireturn, 1) := by decide +kernel
theorem dX1_readMember_15 : decode cX1_readMember 15 = .ok (.iconst 0, 1) := by decide +kernel
theorem dX1_readMember_16 : decode cX1_readMember 16 = .ok (.istore_n 3, 1) := by decide +kernel
theorem dX1_readMember_17 : decode cX1_readMember 17 = .ok (.aload_n 0, 1) := by decide +kernel
theorem dX1_readMember_18 : decode cX1_readMember 18 = .ok (.bipush 44, 2) := by decide +kernel
theorem dX1_readMember_20 : decode cX1_readMember 20 = .ok (.invokevirtual 42, 3) := by decide +kernel
theorem dX1_readMember_23 : decode cX1_readMember 23 = .ok (.ifCond .eq 12, 3) := by decide +kernel
theorem dX1_readMember_26 : decode cX1_readMember 26 = .ok (.aload_n 0, 1) := by decide +kernel
theorem dX1_readMember_27 : decode cX1_readMember 27 = .ok (.iconst 0, 1) := by decide +kernel
theorem dX1_readMember_28 : decode cX1_readMember 28 = .ok (.sipush 9999, 3) := by decide +kernel
theorem dX1_readMember_31 : decode cX1_readMember 31 = .ok (.invokevirtual 67, 3) := by decide +kernel
theorem dX1_readMember_34 : decode cX1_readMember 34 = .ok (.istore_n 3, 1) := by decide +kernel
theorem dX1_readMember_35 : decode cX1_readMember 35 = .ok (.iload_n 3, 1) := by decide +kernel
theorem dX1_readMember_36 : decode cX1_readMember 36 = .ok (.iconst (-1), 1) := by decide +kernel
theorem dX1_readMember_37 : decode cX1_readMember 37 = .ok (.if_icmp .eq 19, 3) := by decide +kernel
theorem dX1_readMember_40 : decode cX1_readMember 40 = .ok (.aload_n 0, 1) := by decide +kernel
theorem dX1_readMember_41 : decode cX1_readMember 41 = .ok (.iload_n 1, 1) := by decide +kernel
theorem dX1_readMember_42 : decode cX1_readMember 42 = .ok (.bipush (-5), 2) := by decide +kernel
theorem dX1_readMember_44 : decode cX1_readMember 44 = .ok (.iload_n 2, 1) := by decide +kernel
theorem dX1_readMember_45 : decode cX1_readMember 45 = .ok (.iload_n 3, 1) := by decide +kernel
theorem dX1_readMember_46 : decode cX1_readMember 46 = .ok (.invokevirtual 70, 3) := by decide +kernel
theorem dX1_readMember_49 : decode cX1_readMember 49 = .ok (.ifCond .eq 7, 3) := by decide +kernel
theorem dX1_readMember_52 : decode cX1_readMember 52 = .ok (.iconst 1, 1) := by decide +kernel
theorem dX1_readMember_53 : decode cX1_readMember 53 = .ok (.goto 4, 3) := by decide +kernel
theorem dX1_readMember_56 : decode cX1_readMember 56 = .ok (.iconst 0, 1) := by decide +kernel
theorem dX1_readMember_57 : decode cX1_readMember 57 = .ok (.ireturn, 1) := by decide +kernel
theorem dX1_readAlias_0 : decode cX1_readAlias 0 = .ok (.aload_n 0, 1) := by decide +kernel
theorem dX1_readAlias_1 : decode cX1_readAlias 1 = .ok (.invokevirtual 56, 3) := by decide +kernel
theorem dX1_readAlias_4 : decode cX1_readAlias 4 = .ok (.istore_n 2, 1) := by decide +kernel
theorem dX1_readAlias_5 : decode cX1_readAlias 5 = .ok (.iload_n 2, 1) := by decide +kernel
theorem dX1_readAlias_6 : decode cX1_readAlias 6 = .ok (.iconst (-1), 1) := by decide +kernel
theorem dX1_readAlias_7 : decode cX1_readAlias 7 = .ok (.if_icmp .eq 18, 3) := by decide +kernel
theorem dX1_readAlias_10 : decode cX1_readAlias 10 = .ok (.aload_n 0, 1) := by decide +kernel
theorem dX1_readAlias_11 : decode cX1_readAlias 11 = .ok (.iload_n 1, 1) := by decide +kernel
theorem dX1_readAlias_12 : decode cX1_readAlias 12 = .ok (.iload_n 2, 1) := by decide +kernel
theorem dX1_readAlias_13 : decode cX1_readAlias 13 = .ok (.iconst 0, 1) := by decide +kernel
theorem dX1_readAlias_14 : decode cX1_readAlias 14 = .ok (.iconst 0, 1) := by decide +kernel
theorem dX1_readAlias_15 : decode cX1_readAlias 15 = .ok (.invokevirtual 70, 3) := by decide +kernel
theorem dX1_readAlias_18 : decode cX1_readAlias 18 = .ok (.ifCond .eq 7, 3) := by decide +kernel
theorem dX1_readAlias_21 : decode cX1_readAlias 21 = .ok (.iconst 1, 1) := by decide +kernel
theorem dX1_readAlias_22 : decode cX1_readAlias 22 = .ok (.goto 4, 3) := by decide +kernel
theorem dX1_readAlias_25 : decode cX1_readAlias 25 = .ok (.iconst 0, 1) := by decide +kernel
theorem dX1_readAlias_26 : decode cX1_readAlias 26 = .ok (.ireturn, 1) := by decide +kernel
theorem dX1_readName_0 : decode cX1_readName 0 = .ok (.aload_n 0, 1) := by decide +kernel
theorem dX1_readName_1 : decode cX1_readName 1 = .ok (.invokevirtual 74, 3) := by decide +kernel
theorem dX1_readName_4 : decode cX1_readName 4 = .ok (.istore_n 1, 1) := by decide +kernel
theorem dX1_readName_5 : decode cX1_readName 5 = .ok (.iload_n 1, 1) := by decide +kernel
theorem dX1_readName_6 : decode cX1_readName 6 = .ok (.iconst (-1), 1) := by decide +kernel
theorem dX1_readName_7 : decode cX1_readName 7 = .ok (.if_icmp .ne 5, 3) := by decide +kernel
theorem dX1_readName_10 : decode cX1_readName 10 = .ok (.iconst (-1), 1) := by decide +kernel
theorem dX1_readName_11 : decode cX1_readName 11 = .ok (.ireturn, 1) := by decide +kernel
theorem dX1_readName_12 : decode cX1_readName 12 = .ok (.aload_n 0, 1) := by decide +kernel
theorem dX1_readName_13 : decode cX1_readName 13 = .ok (.invokevirtual 74, 3) := by decide +kernel
theorem dX1_readName_16 : decode cX1_readName 16 = .ok (.istore_n 2, 1) := by decide +kernel
theorem dX1_readName_17 : decode cX1_readName 17 = .ok (.iload_n 2, 1) := by decide +kernel
theorem dX1_readName_18 : decode cX1_readName 18 = .ok (.iconst (-1), 1) := by decide +kernel
theorem dX1_readName_19 : decode cX1_readName 19 = .ok (.if_icmp .ne 5, 3) := by decide +kernel
theorem dX1_readName_22 : decode cX1_readName 22 = .ok (.iconst (-1), 1) := by decide +kernel
theorem dX1_readName_23 : decode cX1_readName 23 = .ok (.ireturn, 1) := by decide +kernel
theorem dX1_readName_24 : decode cX1_readName 24 = .ok (.iload_n 1, 1) := by decide +kernel
theorem dX1_readName_25 : decode cX1_readName 25 = .ok (.bipush 26, 2) := by decide +kernel
theorem dX1_readName_27 : decode cX1_readName 27 = .ok (.imul, 1) := by decide +kernel
theorem dX1_readName_28 : decode cX1_readName 28 = .ok (.iload_n 2, 1) := by decide +kernel
theorem dX1_readName_29 : decode cX1_readName 29 = .ok (.iadd, 1) := by decide +kernel
theorem dX1_readName_30 : decode cX1_readName 30 = .ok (.ireturn, 1) := by decide +kernel
theorem dX1_readLetter_0 : decode cX1_readLetter 0 = .ok (.aload_n 0, 1) := by decide +kernel
theorem dX1_readLetter_1 : decode cX1_readLetter 1 = .ok (.invokevirtual 77, 3) := by decide +kernel
theorem dX1_readLetter_4 : decode cX1_readLetter 4 = .ok (.istore_n 1, 1) := by decide +kernel
theorem dX1_readLetter_5 : decode cX1_readLetter 5 = .ok (.iload_n 1, 1) := by decide +kernel
theorem dX1_readLetter_6 : decode cX1_readLetter 6 = .ok (.bipush 65, 2) := by decide +kernel
theorem dX1_readLetter_8 : decode cX1_readLetter 8 = .ok (.if_icmp .lt 9, 3) := by decide +kernel
theorem dX1_readLetter_11 : decode cX1_readLetter 11 = .ok (.iload_n 1, 1) := by decide +kernel
theorem dX1_readLetter_12 : decode cX1_readLetter 12 = .ok (.bipush 90, 2) := by decide +kernel
theorem dX1_readLetter_14 : decode cX1_readLetter 14 = .ok (.if_icmp .le 5, 3) := by decide +kernel
theorem dX1_readLetter_17 : decode cX1_readLetter 17 = .ok (.iconst (-1), 1) := by decide +kernel
theorem dX1_readLetter_18 : decode cX1_readLetter 18 = .ok (.ireturn, 1) := by decide +kernel
theorem dX1_readLetter_19 : decode cX1_readLetter 19 = .ok (.aload_n 0, 1) := by decide +kernel
theorem dX1_readLetter_20 : decode cX1_readLetter 20 = .ok (.dup, 1) := by decide +kernel
theorem dX1_readLetter_21 : decode cX1_readLetter 21 = .ok (.getfield 35, 3) := by decide +kernel
theorem dX1_readLetter_24 : decode cX1_readLetter 24 = .ok (.iconst 1, 1) := by decide +kernel
theorem dX1_readLetter_25 : decode cX1_readLetter 25 = .ok (.iadd, 1) := by decide +kernel
theorem dX1_readLetter_26 : decode cX1_readLetter 26 = .ok (.putfield 35, 3) := by decide +kernel
theorem dX1_readLetter_29 : decode cX1_readLetter 29 = .ok (.iload_n 1, 1) := by decide +kernel
theorem dX1_readLetter_30 : decode cX1_readLetter 30 = .ok (.bipush 65, 2) := by decide +kernel
theorem dX1_readLetter_32 : decode cX1_readLetter 32 = .ok (.isub, 1) := by decide +kernel
theorem dX1_readLetter_33 : decode cX1_readLetter 33 = .ok (.ireturn, 1) := by decide +kernel
theorem dX1_readNumber_0 : decode cX1_readNumber 0 = .ok (.aload_n 0, 1) := by decide +kernel
theorem dX1_readNumber_1 : decode cX1_readNumber 1 = .ok (.invokevirtual 80, 3) := by decide +kernel
theorem dX1_readNumber_4 : decode cX1_readNumber 4 = .ok (.istore_n 3, 1) := by decide +kernel
theorem dX1_readNumber_5 : decode cX1_readNumber 5 = .ok (.iload_n 3, 1) := by decide +kernel
theorem dX1_readNumber_6 : decode cX1_readNumber 6 = .ok (.iload_n 1, 1) := by decide +kernel
theorem dX1_readNumber_7 : decode cX1_readNumber 7 = .ok (.if_icmp .ge 5, 3) := by decide +kernel
theorem dX1_readNumber_10 : decode cX1_readNumber 10 = .ok (.iconst (-1), 1) := by decide +kernel
theorem dX1_readNumber_11 : decode cX1_readNumber 11 = .ok (.ireturn, 1) := by decide +kernel
theorem dX1_readNumber_12 : decode cX1_readNumber 12 = .ok (.aload_n 0, 1) := by decide +kernel
theorem dX1_readNumber_13 : decode cX1_readNumber 13 = .ok (.dup, 1) := by decide +kernel
theorem dX1_readNumber_14 : decode cX1_readNumber 14 = .ok (.getfield 35, 3) := by decide +kernel
theorem dX1_readNumber_17 : decode cX1_readNumber 17 = .ok (.iconst 1, 1) := by decide +kernel
theorem dX1_readNumber_18 : decode cX1_readNumber 18 = .ok (.iadd, 1) := by decide +kernel
theorem dX1_readNumber_19 : decode cX1_readNumber 19 = .ok (.putfield 35, 3) := by decide +kernel
theorem dX1_readNumber_22 : decode cX1_readNumber 22 = .ok (.iconst 1, 1) := by decide +kernel
theorem dX1_readNumber_23 : decode cX1_readNumber 23 = .ok (.istore 4, 2) := by decide +kernel
theorem dX1_readNumber_25 : decode cX1_readNumber 25 = .ok (.iload 4, 2) := by decide +kernel
theorem dX1_readNumber_27 : decode cX1_readNumber 27 = .ok (.iconst 4, 1) := by decide +kernel
theorem dX1_readNumber_28 : decode cX1_readNumber 28 = .ok (.if_icmp .ge 56, 3) := by decide +kernel
theorem dX1_readNumber_31 : decode cX1_readNumber 31 = .ok (.aload_n 0, 1) := by decide +kernel
theorem dX1_readNumber_32 : decode cX1_readNumber 32 = .ok (.invokevirtual 80, 3) := by decide +kernel
theorem dX1_readNumber_35 : decode cX1_readNumber 35 = .ok (.istore 5, 2) := by decide +kernel
theorem dX1_readNumber_37 : decode cX1_readNumber 37 = .ok (.iload_n 3, 1) := by decide +kernel
theorem dX1_readNumber_38 : decode cX1_readNumber 38 = .ok (.ifCond .eq 20, 3) := by decide +kernel
theorem dX1_readNumber_41 : decode cX1_readNumber 41 = .ok (.iload 5, 2) := by decide +kernel
theorem dX1_readNumber_43 : decode cX1_readNumber 43 = .ok (.iconst (-1), 1) := by decide +kernel
theorem dX1_readNumber_44 : decode cX1_readNumber 44 = .ok (.if_icmp .eq 14, 3) := by decide +kernel
theorem dX1_readNumber_47 : decode cX1_readNumber 47 = .ok (.iload_n 3, 1) := by decide +kernel
theorem dX1_readNumber_48 : decode cX1_readNumber 48 = .ok (.bipush 10, 2) := by decide +kernel
theorem dX1_readNumber_50 : decode cX1_readNumber 50 = .ok (.imul, 1) := by decide +kernel
theorem dX1_readNumber_51 : decode cX1_readNumber 51 = .ok (.iload 5, 2) := by decide +kernel
theorem dX1_readNumber_53 : decode cX1_readNumber 53 = .ok (.iadd, 1) := by decide +kernel
theorem dX1_readNumber_54 : decode cX1_readNumber 54 = .ok (.iload_n 2, 1) := by decide +kernel
theorem dX1_readNumber_55 : decode cX1_readNumber 55 = .ok (.if_icmp .le 5, 3) := by decide +kernel
theorem dX1_readNumber_58 : decode cX1_readNumber 58 = .ok (.iload_n 3, 1) := by decide +kernel
theorem dX1_readNumber_59 : decode cX1_readNumber 59 = .ok (.ireturn, 1) := by decide +kernel
theorem dX1_readNumber_60 : decode cX1_readNumber 60 = .ok (.iload_n 3, 1) := by decide +kernel
theorem dX1_readNumber_61 : decode cX1_readNumber 61 = .ok (.bipush 10, 2) := by decide +kernel
theorem dX1_readNumber_63 : decode cX1_readNumber 63 = .ok (.imul, 1) := by decide +kernel
theorem dX1_readNumber_64 : decode cX1_readNumber 64 = .ok (.iload 5, 2) := by decide +kernel
theorem dX1_readNumber_66 : decode cX1_readNumber 66 = .ok (.iadd, 1) := by decide +kernel
theorem dX1_readNumber_67 : decode cX1_readNumber 67 = .ok (.istore_n 3, 1) := by decide +kernel
theorem dX1_readNumber_68 : decode cX1_readNumber 68 = .ok (.aload_n 0, 1) := by decide +kernel
theorem dX1_readNumber_69 : decode cX1_readNumber 69 = .ok (.dup, 1) := by decide +kernel
theorem dX1_readNumber_70 : decode cX1_readNumber 70 = .ok (.getfield 35, 3) := by decide +kernel
theorem dX1_readNumber_73 : decode cX1_readNumber 73 = .ok (.iconst 1, 1) := by decide +kernel
theorem dX1_readNumber_74 : decode cX1_readNumber 74 = .ok (.iadd, 1) := by decide +kernel
theorem dX1_readNumber_75 : decode cX1_readNumber 75 = .ok (.putfield 35, 3) := by decide +kernel
theorem dX1_readNumber_78 : decode cX1_readNumber 78 = .ok (.iinc 4 1, 3) := by decide +kernel
theorem dX1_readNumber_81 : decode cX1_readNumber 81 = .ok (.goto (-56), 3) := by decide +kernel
theorem dX1_readNumber_84 : decode cX1_readNumber 84 = .ok (.iload_n 3, 1) := by decide +kernel
theorem dX1_readNumber_85 : decode cX1_readNumber 85 = .ok (.ireturn, 1) := by decide +kernel
theorem dX1_nextDigit_0 : decode cX1_nextDigit 0 = .ok (.aload_n 0, 1) := by decide +kernel
theorem dX1_nextDigit_1 : decode cX1_nextDigit 1 = .ok (.invokevirtual 77, 3) := by decide +kernel
theorem dX1_nextDigit_4 : decode cX1_nextDigit 4 = .ok (.istore_n 1, 1) := by decide +kernel
theorem dX1_nextDigit_5 : decode cX1_nextDigit 5 = .ok (.iload_n 1, 1) := by decide +kernel
theorem dX1_nextDigit_6 : decode cX1_nextDigit 6 = .ok (.bipush 48, 2) := by decide +kernel
theorem dX1_nextDigit_8 : decode cX1_nextDigit 8 = .ok (.if_icmp .lt 16, 3) := by decide +kernel
theorem dX1_nextDigit_11 : decode cX1_nextDigit 11 = .ok (.iload_n 1, 1) := by decide +kernel
theorem dX1_nextDigit_12 : decode cX1_nextDigit 12 = .ok (.bipush 57, 2) := by decide +kernel
theorem dX1_nextDigit_14 : decode cX1_nextDigit 14 = .ok (.if_icmp .gt 10, 3) := by decide +kernel
theorem dX1_nextDigit_17 : decode cX1_nextDigit 17 = .ok (.iload_n 1, 1) := by decide +kernel
theorem dX1_nextDigit_18 : decode cX1_nextDigit 18 = .ok (.bipush 48, 2) := by decide +kernel
theorem dX1_nextDigit_20 : decode cX1_nextDigit 20 = .ok (.isub, 1) := by decide +kernel
theorem dX1_nextDigit_21 : decode cX1_nextDigit 21 = .ok (.goto 4, 3) := by decide +kernel
theorem dX1_nextDigit_24 : decode cX1_nextDigit 24 = .ok (.iconst (-1), 1) := by decide +kernel
theorem dX1_nextDigit_25 : decode cX1_nextDigit 25 = .ok (.ireturn, 1) := by decide +kernel
theorem dX1_takes_0 : decode cX1_takes 0 = .ok (.aload_n 0, 1) := by decide +kernel
theorem dX1_takes_1 : decode cX1_takes 1 = .ok (.invokevirtual 77, 3) := by decide +kernel
theorem dX1_takes_4 : decode cX1_takes 4 = .ok (.iload_n 1, 1) := by decide +kernel
theorem dX1_takes_5 : decode cX1_takes 5 = .ok (.if_icmp .eq 5, 3) := by decide +kernel
theorem dX1_takes_8 : decode cX1_takes 8 = .ok (.iconst 0, 1) := by decide +kernel
theorem dX1_takes_9 : decode cX1_takes 9 = .ok (.ireturn, 1) := by decide +kernel
theorem dX1_takes_10 : decode cX1_takes 10 = .ok (.aload_n 0, 1) := by decide +kernel
theorem dX1_takes_11 : decode cX1_takes 11 = .ok (.dup, 1) := by decide +kernel
theorem dX1_takes_12 : decode cX1_takes 12 = .ok (.getfield 35, 3) := by decide +kernel
theorem dX1_takes_15 : decode cX1_takes 15 = .ok (.iconst 1, 1) := by decide +kernel
theorem dX1_takes_16 : decode cX1_takes 16 = .ok (.iadd, 1) := by decide +kernel
theorem dX1_takes_17 : decode cX1_takes 17 = .ok (.putfield 35, 3) := by decide +kernel
theorem dX1_takes_20 : decode cX1_takes 20 = .ok (.iconst 1, 1) := by decide +kernel
theorem dX1_takes_21 : decode cX1_takes 21 = .ok (.ireturn, 1) := by decide +kernel
theorem dX1_next_0 : decode cX1_next 0 = .ok (.aload_n 0, 1) := by decide +kernel
theorem dX1_next_1 : decode cX1_next 1 = .ok (.getfield 35, 3) := by decide +kernel
theorem dX1_next_4 : decode cX1_next 4 = .ok (.ifCond .lt 26, 3) := by decide +kernel
theorem dX1_next_7 : decode cX1_next 7 = .ok (.aload_n 0, 1) := by decide +kernel
theorem dX1_next_8 : decode cX1_next 8 = .ok (.getfield 35, 3) := by decide +kernel
theorem dX1_next_11 : decode cX1_next 11 = .ok (.aload_n 0, 1) := by decide +kernel
theorem dX1_next_12 : decode cX1_next 12 = .ok (.getfield 15, 3) := by decide +kernel
theorem dX1_next_15 : decode cX1_next 15 = .ok (.if_icmp .ge 15, 3) := by decide +kernel
theorem dX1_next_18 : decode cX1_next 18 = .ok (.aload_n 0, 1) := by decide +kernel
theorem dX1_next_19 : decode cX1_next 19 = .ok (.getfield 9, 3) := by decide +kernel
theorem dX1_next_22 : decode cX1_next 22 = .ok (.aload_n 0, 1) := by decide +kernel
theorem dX1_next_23 : decode cX1_next 23 = .ok (.getfield 35, 3) := by decide +kernel
theorem dX1_next_26 : decode cX1_next 26 = .ok (.caload, 1) := by decide +kernel
theorem dX1_next_27 : decode cX1_next 27 = .ok (.goto 4, 3) := by decide +kernel
theorem dX1_next_30 : decode cX1_next 30 = .ok (.iconst (-1), 1) := by decide +kernel
theorem dX1_next_31 : decode cX1_next 31 = .ok (.ireturn, 1) := by decide +kernel
theorem dX1_noteAddition_0 : decode cX1_noteAddition 0 = .ok (.aload_n 0, 1) := by decide +kernel
theorem dX1_noteAddition_1 : decode cX1_noteAddition 1 = .ok (.getfield 32, 3) := by decide +kernel
theorem dX1_noteAddition_4 : decode cX1_noteAddition 4 = .ok (.bipush 12, 2) := by decide +kernel
theorem dX1_noteAddition_6 : decode cX1_noteAddition 6 = .ok (.if_icmp .lt 5, 3) := by decide +kernel
theorem dX1_noteAddition_9 : decode cX1_noteAddition 9 = .ok (.iconst 0, 1) := by decide +kernel
theorem dX1_noteAddition_10 : decode cX1_noteAddition 10 = .ok (.ireturn, 1) := by decide +kernel
theorem dX1_noteAddition_11 : decode cX1_noteAddition 11 = .ok (.aload_n 0, 1) := by decide +kernel
theorem dX1_noteAddition_12 : decode cX1_noteAddition 12 = .ok (.getfield 19, 3) := by decide +kernel
theorem dX1_noteAddition_15 : decode cX1_noteAddition 15 = .ok (.aload_n 0, 1) := by decide +kernel
theorem dX1_noteAddition_16 : decode cX1_noteAddition 16 = .ok (.getfield 32, 3) := by decide +kernel
theorem dX1_noteAddition_19 : decode cX1_noteAddition 19 = .ok (.iload_n 1, 1) := by decide +kernel
theorem dX1_noteAddition_20 : decode cX1_noteAddition 20 = .ok (.iastore, 1) := by decide +kernel
theorem dX1_noteAddition_21 : decode cX1_noteAddition 21 = .ok (.aload_n 0, 1) := by decide +kernel
theorem dX1_noteAddition_22 : decode cX1_noteAddition 22 = .ok (.getfield 23, 3) := by decide +kernel
theorem dX1_noteAddition_25 : decode cX1_noteAddition 25 = .ok (.aload_n 0, 1) := by decide +kernel
theorem dX1_noteAddition_26 : decode cX1_noteAddition 26 = .ok (.getfield 32, 3) := by decide +kernel
theorem dX1_noteAddition_29 : decode cX1_noteAddition 29 = .ok (.iload_n 2, 1) := by decide +kernel
theorem dX1_noteAddition_30 : decode cX1_noteAddition 30 = .ok (.iastore, 1) := by decide +kernel
theorem dX1_noteAddition_31 : decode cX1_noteAddition 31 = .ok (.aload_n 0, 1) := by decide +kernel
theorem dX1_noteAddition_32 : decode cX1_noteAddition 32 = .ok (.getfield 26, 3) := by decide +kernel
theorem dX1_noteAddition_35 : decode cX1_noteAddition 35 = .ok (.aload_n 0, 1) := by decide +kernel
theorem dX1_noteAddition_36 : decode cX1_noteAddition 36 = .ok (.getfield 32, 3) := by decide +kernel
theorem dX1_noteAddition_39 : decode cX1_noteAddition 39 = .ok (.iload_n 3, 1) := by decide +kernel
theorem dX1_noteAddition_40 : decode cX1_noteAddition 40 = .ok (.iastore, 1) := by decide +kernel
theorem dX1_noteAddition_41 : decode cX1_noteAddition 41 = .ok (.aload_n 0, 1) := by decide +kernel
theorem dX1_noteAddition_42 : decode cX1_noteAddition 42 = .ok (.getfield 29, 3) := by decide +kernel
theorem dX1_noteAddition_45 : decode cX1_noteAddition 45 = .ok (.aload_n 0, 1) := by decide +kernel
theorem dX1_noteAddition_46 : decode cX1_noteAddition 46 = .ok (.getfield 32, 3) := by decide +kernel
theorem dX1_noteAddition_49 : decode cX1_noteAddition 49 = .ok (.iload 4, 2) := by decide +kernel
theorem dX1_noteAddition_51 : decode cX1_noteAddition 51 = .ok (.iastore, 1) := by decide +kernel
theorem dX1_noteAddition_52 : decode cX1_noteAddition 52 = .ok (.aload_n 0, 1) := by decide +kernel
theorem dX1_noteAddition_53 : decode cX1_noteAddition 53 = .ok (.dup, 1) := by decide +kernel
theorem dX1_noteAddition_54 : decode cX1_noteAddition 54 = .ok (.getfield 32, 3) := by decide +kernel
theorem dX1_noteAddition_57 : decode cX1_noteAddition 57 = .ok (.iconst 1, 1) := by decide +kernel
theorem dX1_noteAddition_58 : decode cX1_noteAddition 58 = .ok (.iadd, 1) := by decide +kernel
theorem dX1_noteAddition_59 : decode cX1_noteAddition 59 = .ok (.putfield 32, 3) := by decide +kernel
theorem dX1_noteAddition_62 : decode cX1_noteAddition 62 = .ok (.iconst 1, 1) := by decide +kernel
theorem dX1_noteAddition_63 : decode cX1_noteAddition 63 = .ok (.ireturn, 1) := by decide +kernel
theorem dX2_init_0 : decode cX2_init 0 = .ok (.aload_n 0, 1) := by decide +kernel
theorem dX2_init_1 : decode cX2_init 1 = .ok (.invokespecial 3, 3) := by decide +kernel
theorem dX2_init_4 : decode cX2_init 4 = .ok (.aload_n 0, 1) := by decide +kernel
theorem dX2_init_5 : decode cX2_init 5 = .ok (.bipush 24, 2) := by decide +kernel
theorem dX2_init_7 : decode cX2_init 7 = .ok (.newarray .int, 2) := by decide +kernel
theorem dX2_init_9 : decode cX2_init 9 = .ok (.putfield 9, 3) := by decide +kernel
theorem dX2_init_12 : decode cX2_init 12 = .ok (.aload_n 0, 1) := by decide +kernel
theorem dX2_init_13 : decode cX2_init 13 = .ok (.bipush 24, 2) := by decide +kernel
theorem dX2_init_15 : decode cX2_init 15 = .ok (.newarray .int, 2) := by decide +kernel
theorem dX2_init_17 : decode cX2_init 17 = .ok (.putfield 15, 3) := by decide +kernel
theorem dX2_init_20 : decode cX2_init 20 = .ok (.aload_n 0, 1) := by decide +kernel
theorem dX2_init_21 : decode cX2_init 21 = .ok (.bipush 24, 2) := by decide +kernel
theorem dX2_init_23 : decode cX2_init 23 = .ok (.newarray .int, 2) := by decide +kernel
theorem dX2_init_25 : decode cX2_init 25 = .ok (.putfield 18, 3) := by decide +kernel
theorem dX2_init_28 : decode cX2_init 28 = .ok (.aload_n 0, 1) := by decide +kernel
theorem dX2_init_29 : decode cX2_init 29 = .ok (.bipush 24, 2) := by decide +kernel
theorem dX2_init_31 : decode cX2_init 31 = .ok (.newarray .int, 2) := by decide +kernel
theorem dX2_init_33 : decode cX2_init 33 = .ok (.putfield 21, 3) := by decide +kernel
theorem dX2_init_36 : decode cX2_init 36 = .ok (.aload_n 0, 1) := by decide +kernel
theorem dX2_init_37 : decode cX2_init 37 = .ok (.bipush 24, 2) := by decide +kernel
theorem dX2_init_39 : decode cX2_init 39 = .ok (.newarray .int, 2) := by decide +kernel
theorem dX2_init_41 : decode cX2_init 41 = .ok (.putfield 24, 3) := by decide +kernel
theorem dX2_init_44 : decode cX2_init 44 = .ok (.aload_n 0, 1) := by decide +kernel
theorem dX2_init_45 : decode cX2_init 45 = .ok (.iconst 0, 1) := by decide +kernel
theorem dX2_init_46 : decode cX2_init 46 = .ok (.putfield 27, 3) := by decide +kernel
theorem dX2_init_49 : decode cX2_init 49 = .ok (.aload_n 0, 1) := by decide +kernel
theorem dX2_init_50 : decode cX2_init 50 = .ok (.iconst 2, 1) := by decide +kernel
theorem dX2_init_51 : decode cX2_init 51 = .ok (.putfield 31, 3) := by decide +kernel
theorem dX2_init_54 : decode cX2_init 54 = .ok (.aload_n 0, 1) := by decide +kernel
theorem dX2_init_55 : decode cX2_init 55 = .ok (.iconst 0, 1) := by decide +kernel
theorem dX2_init_56 : decode cX2_init 56 = .ok (.putfield 34, 3) := by decide +kernel
theorem dX2_init_59 : decode cX2_init 59 = .ok (.aload_n 0, 1) := by decide +kernel
theorem dX2_init_60 : decode cX2_init 60 = .ok (.iconst 0, 1) := by decide +kernel
theorem dX2_init_61 : decode cX2_init 61 = .ok (.putfield 37, 3) := by decide +kernel
theorem dX2_init_64 : decode cX2_init 64 = .ok (.aload_n 0, 1) := by decide +kernel
theorem dX2_init_65 : decode cX2_init 65 = .ok (.iconst 0, 1) := by decide +kernel
theorem dX2_init_66 : decode cX2_init 66 = .ok (.putfield 40, 3) := by decide +kernel
theorem dX2_init_69 : decode cX2_init 69 = .ok (.return_, 1) := by decide +kernel
theorem dX2_copyFrom_0 : decode cX2_copyFrom 0 = .ok (.aload_n 1, 1) := by decide +kernel
theorem dX2_copyFrom_1 : decode cX2_copyFrom 1 = .ok (.getfield 9, 3) := by decide +kernel
theorem dX2_copyFrom_4 : decode cX2_copyFrom 4 = .ok (.iconst 0, 1) := by decide +kernel
theorem dX2_copyFrom_5 : decode cX2_copyFrom 5 = .ok (.aload_n 0, 1) := by decide +kernel
theorem dX2_copyFrom_6 : decode cX2_copyFrom 6 = .ok (.getfield 9, 3) := by decide +kernel
theorem dX2_copyFrom_9 : decode cX2_copyFrom 9 = .ok (.iconst 0, 1) := by decide +kernel
theorem dX2_copyFrom_10 : decode cX2_copyFrom 10 = .ok (.bipush 24, 2) := by decide +kernel
theorem dX2_copyFrom_12 : decode cX2_copyFrom 12 = .ok (.invokestatic 43, 3) := by decide +kernel
theorem dX2_copyFrom_15 : decode cX2_copyFrom 15 = .ok (.aload_n 1, 1) := by decide +kernel
theorem dX2_copyFrom_16 : decode cX2_copyFrom 16 = .ok (.getfield 15, 3) := by decide +kernel
theorem dX2_copyFrom_19 : decode cX2_copyFrom 19 = .ok (.iconst 0, 1) := by decide +kernel
theorem dX2_copyFrom_20 : decode cX2_copyFrom 20 = .ok (.aload_n 0, 1) := by decide +kernel
theorem dX2_copyFrom_21 : decode cX2_copyFrom 21 = .ok (.getfield 15, 3) := by decide +kernel
theorem dX2_copyFrom_24 : decode cX2_copyFrom 24 = .ok (.iconst 0, 1) := by decide +kernel
theorem dX2_copyFrom_25 : decode cX2_copyFrom 25 = .ok (.bipush 24, 2) := by decide +kernel
theorem dX2_copyFrom_27 : decode cX2_copyFrom 27 = .ok (.invokestatic 43, 3) := by decide +kernel
theorem dX2_copyFrom_30 : decode cX2_copyFrom 30 = .ok (.aload_n 1, 1) := by decide +kernel
theorem dX2_copyFrom_31 : decode cX2_copyFrom 31 = .ok (.getfield 18, 3) := by decide +kernel
theorem dX2_copyFrom_34 : decode cX2_copyFrom 34 = .ok (.iconst 0, 1) := by decide +kernel
theorem dX2_copyFrom_35 : decode cX2_copyFrom 35 = .ok (.aload_n 0, 1) := by decide +kernel
theorem dX2_copyFrom_36 : decode cX2_copyFrom 36 = .ok (.getfield 18, 3) := by decide +kernel
theorem dX2_copyFrom_39 : decode cX2_copyFrom 39 = .ok (.iconst 0, 1) := by decide +kernel
theorem dX2_copyFrom_40 : decode cX2_copyFrom 40 = .ok (.bipush 24, 2) := by decide +kernel
theorem dX2_copyFrom_42 : decode cX2_copyFrom 42 = .ok (.invokestatic 43, 3) := by decide +kernel
theorem dX2_copyFrom_45 : decode cX2_copyFrom 45 = .ok (.aload_n 1, 1) := by decide +kernel
theorem dX2_copyFrom_46 : decode cX2_copyFrom 46 = .ok (.getfield 21, 3) := by decide +kernel
theorem dX2_copyFrom_49 : decode cX2_copyFrom 49 = .ok (.iconst 0, 1) := by decide +kernel
theorem dX2_copyFrom_50 : decode cX2_copyFrom 50 = .ok (.aload_n 0, 1) := by decide +kernel
theorem dX2_copyFrom_51 : decode cX2_copyFrom 51 = .ok (.getfield 21, 3) := by decide +kernel
theorem dX2_copyFrom_54 : decode cX2_copyFrom 54 = .ok (.iconst 0, 1) := by decide +kernel
theorem dX2_copyFrom_55 : decode cX2_copyFrom 55 = .ok (.bipush 24, 2) := by decide +kernel
theorem dX2_copyFrom_57 : decode cX2_copyFrom 57 = .ok (.invokestatic 43, 3) := by decide +kernel
theorem dX2_copyFrom_60 : decode cX2_copyFrom 60 = .ok (.aload_n 1, 1) := by decide +kernel
theorem dX2_copyFrom_61 : decode cX2_copyFrom 61 = .ok (.getfield 24, 3) := by decide +kernel
theorem dX2_copyFrom_64 : decode cX2_copyFrom 64 = .ok (.iconst 0, 1) := by decide +kernel
theorem dX2_copyFrom_65 : decode cX2_copyFrom 65 = .ok (.aload_n 0, 1) := by decide +kernel
theorem dX2_copyFrom_66 : decode cX2_copyFrom 66 = .ok (.getfield 24, 3) := by decide +kernel
theorem dX2_copyFrom_69 : decode cX2_copyFrom 69 = .ok (.iconst 0, 1) := by decide +kernel
theorem dX2_copyFrom_70 : decode cX2_copyFrom 70 = .ok (.bipush 24, 2) := by decide +kernel
theorem dX2_copyFrom_72 : decode cX2_copyFrom 72 = .ok (.invokestatic 43, 3) := by decide +kernel
theorem dX2_copyFrom_75 : decode cX2_copyFrom 75 = .ok (.aload_n 0, 1) := by decide +kernel
theorem dX2_copyFrom_76 : decode cX2_copyFrom 76 = .ok (.aload_n 1, 1) := by decide +kernel
theorem dX2_copyFrom_77 : decode cX2_copyFrom 77 = .ok (.getfield 27, 3) := by decide +kernel
theorem dX2_copyFrom_80 : decode cX2_copyFrom 80 = .ok (.putfield 27, 3) := by decide +kernel
theorem dX2_copyFrom_83 : decode cX2_copyFrom 83 = .ok (.aload_n 0, 1) := by decide +kernel
theorem dX2_copyFrom_84 : decode cX2_copyFrom 84 = .ok (.aload_n 1, 1) := by decide +kernel
theorem dX2_copyFrom_85 : decode cX2_copyFrom 85 = .ok (.getfield 31, 3) := by decide +kernel
theorem dX2_copyFrom_88 : decode cX2_copyFrom 88 = .ok (.putfield 31, 3) := by decide +kernel
theorem dX2_copyFrom_91 : decode cX2_copyFrom 91 = .ok (.aload_n 0, 1) := by decide +kernel
theorem dX2_copyFrom_92 : decode cX2_copyFrom 92 = .ok (.aload_n 1, 1) := by decide +kernel
theorem dX2_copyFrom_93 : decode cX2_copyFrom 93 = .ok (.getfield 34, 3) := by decide +kernel
theorem dX2_copyFrom_96 : decode cX2_copyFrom 96 = .ok (.putfield 34, 3) := by decide +kernel
theorem dX2_copyFrom_99 : decode cX2_copyFrom 99 = .ok (.aload_n 0, 1) := by decide +kernel
theorem dX2_copyFrom_100 : decode cX2_copyFrom 100 = .ok (.aload_n 1, 1) := by decide +kernel
theorem dX2_copyFrom_101 : decode cX2_copyFrom 101 = .ok (.getfield 37, 3) := by decide +kernel
theorem dX2_copyFrom_104 : decode cX2_copyFrom 104 = .ok (.putfield 37, 3) := by decide +kernel
theorem dX2_copyFrom_107 : decode cX2_copyFrom 107 = .ok (.aload_n 0, 1) := by decide +kernel
theorem dX2_copyFrom_108 : decode cX2_copyFrom 108 = .ok (.aload_n 1, 1) := by decide +kernel
theorem dX2_copyFrom_109 : decode cX2_copyFrom 109 = .ok (.getfield 40, 3) := by decide +kernel
theorem dX2_copyFrom_112 : decode cX2_copyFrom 112 = .ok (.putfield 40, 3) := by decide +kernel
theorem dX2_copyFrom_115 : decode cX2_copyFrom 115 = .ok (.return_, 1) := by decide +kernel
theorem dX2_size_0 : decode cX2_size 0 = .ok (.aload_n 0, 1) := by decide +kernel
theorem dX2_size_1 : decode cX2_size 1 = .ok (.getfield 27, 3) := by decide +kernel
theorem dX2_size_4 : decode cX2_size 4 = .ok (.ireturn, 1) := by decide +kernel
theorem dX2_addMember_0 : decode cX2_addMember 0 = .ok (.iload_n 1, 1) := by decide +kernel
theorem dX2_addMember_1 : decode cX2_addMember 1 = .ok (.invokestatic 49, 3) := by decide +kernel
theorem dX2_addMember_4 : decode cX2_addMember 4 = .ok (.ifCond .eq 17, 3) := by decide +kernel
theorem dX2_addMember_7 : decode cX2_addMember 7 = .ok (.iload_n 2, 1) := by decide +kernel
theorem dX2_addMember_8 : decode cX2_addMember 8 = .ok (.invokestatic 53, 3) := by decide +kernel
theorem dX2_addMember_11 : decode cX2_addMember 11 = .ok (.ifCond .eq 10, 3) := by decide +kernel
theorem dX2_addMember_14 : decode cX2_addMember 14 = .ok (.iload_n 3, 1) := by decide +kernel
theorem dX2_addMember_15 : decode cX2_addMember 15 = .ok (.invokestatic 56, 3) := by decide +kernel
theorem dX2_addMember_18 : decode cX2_addMember 18 = .ok (.ifCond .ne 6, 3) := by decide +kernel
theorem dX2_addMember_21 : decode cX2_addMember 21 = .ok (.bipush (-2), 2) := by decide +kernel
theorem dX2_addMember_23 : decode cX2_addMember 23 = .ok (.ireturn, 1) := by decide +kernel
theorem dX2_addMember_24 : decode cX2_addMember 24 = .ok (.aload_n 0, 1) := by decide +kernel
theorem dX2_addMember_25 : decode cX2_addMember 25 = .ok (.aload_n 0, 1) := by decide +kernel
theorem dX2_addMember_26 : decode cX2_addMember 26 = .ok (.iload_n 1, 1) := by decide +kernel
theorem dX2_addMember_27 : decode cX2_addMember 27 = .ok (.invokevirtual 59, 3) := by decide +kernel
theorem dX2_addMember_30 : decode cX2_addMember 30 = .ok (.invokevirtual 63, 3) := by decide +kernel
theorem dX2_addMember_33 : decode cX2_addMember 33 = .ok (.ifCond .eq 6, 3) := by decide +kernel
theorem dX2_addMember_36 : decode cX2_addMember 36 = .ok (.bipush (-7), 2) := by decide +kernel
theorem dX2_addMember_38 : decode cX2_addMember 38 = .ok (.ireturn, 1) := by decide +kernel
theorem dX2_addMember_39 : decode cX2_addMember 39 = .ok (.aload_n 0, 1) := by decide +kernel
theorem dX2_addMember_40 : decode cX2_addMember 40 = .ok (.invokevirtual 66, 3) := by decide +kernel
theorem dX2_addMember_43 : decode cX2_addMember 43 = .ok (.ifCond .eq 6, 3) := by decide +kernel
theorem dX2_addMember_46 : decode cX2_addMember 46 = .ok (.bipush (-6), 2) := by decide +kernel
theorem dX2_addMember_48 : decode cX2_addMember 48 = .ok (.ireturn, 1) := by decide +kernel
theorem dX2_addMember_49 : decode cX2_addMember 49 = .ok (.aload_n 0, 1) := by decide +kernel
theorem dX2_addMember_50 : decode cX2_addMember 50 = .ok (.iload_n 2, 1) := by decide +kernel
theorem dX2_addMember_51 : decode cX2_addMember 51 = .ok (.invokevirtual 70, 3) := by decide +kernel
theorem dX2_addMember_54 : decode cX2_addMember 54 = .ok (.ifCond .ne 6, 3) := by decide +kernel
theorem dX2_addMember_57 : decode cX2_addMember 57 = .ok (.bipush (-3), 2) := by decide +kernel
theorem dX2_addMember_59 : decode cX2_addMember 59 = .ok (.ireturn, 1) := by decide +kernel
theorem dX2_addMember_60 : decode cX2_addMember 60 = .ok (.aload_n 0, 1) := by decide +kernel
theorem dX2_addMember_61 : decode cX2_addMember 61 = .ok (.iload_n 2, 1) := by decide +kernel
theorem dX2_addMember_62 : decode cX2_addMember 62 = .ok (.invokevirtual 73, 3) := by decide +kernel
theorem dX2_addMember_65 : decode cX2_addMember 65 = .ok (.istore 4, 2) := by decide +kernel
theorem dX2_addMember_67 : decode cX2_addMember 67 = .ok (.aload_n 0, 1) := by decide +kernel
theorem dX2_addMember_68 : decode cX2_addMember 68 = .ok (.iload_n 1, 1) := by decide +kernel
theorem dX2_addMember_69 : decode cX2_addMember 69 = .ok (.bipush (-5), 2) := by decide +kernel
theorem dX2_addMember_71 : decode cX2_addMember 71 = .ok (.iload 4, 2) := by decide +kernel
theorem dX2_addMember_73 : decode cX2_addMember 73 = .ok (.iload_n 2, 1) := by decide +kernel
theorem dX2_addMember_74 : decode cX2_addMember 74 = .ok (.iload_n 3, 1) := by decide +kernel
theorem dX2_addMember_75 : decode cX2_addMember 75 = .ok (.invokevirtual 76, 3) := by decide +kernel
theorem dX2_addMember_78 : decode cX2_addMember 78 = .ok (.pop, 1) := by decide +kernel
theorem dX2_addMember_79 : decode cX2_addMember 79 = .ok (.iload 4, 2) := by decide +kernel
theorem dX2_addMember_81 : decode cX2_addMember 81 = .ok (.ireturn, 1) := by decide +kernel
theorem dX2_replaceText_0 : decode cX2_replaceText 0 = .ok (.aload_n 0, 1) := by decide +kernel
theorem dX2_replaceText_1 : decode cX2_replaceText 1 = .ok (.iload_n 1, 1) := by decide +kernel
theorem dX2_replaceText_2 : decode cX2_replaceText 2 = .ok (.invokevirtual 59, 3) := by decide +kernel
theorem dX2_replaceText_5 : decode cX2_replaceText 5 = .ok (.istore 4, 2) := by decide +kernel
theorem dX2_replaceText_7 : decode cX2_replaceText 7 = .ok (.aload_n 0, 1) := by decide +kernel
theorem dX2_replaceText_8 : decode cX2_replaceText 8 = .ok (.iload 4, 2) := by decide +kernel
theorem dX2_replaceText_10 : decode cX2_replaceText 10 = .ok (.invokevirtual 80, 3) := by decide +kernel
theorem dX2_replaceText_13 : decode cX2_replaceText 13 = .ok (.ifCond .ne 5, 3) := by decide +kernel
theorem dX2_replaceText_16 : decode cX2_replaceText 16 = .ok (.iconst (-1), 1) := by decide +kernel
theorem dX2_replaceText_17 : decode cX2_replaceText 17 = .ok (.ireturn, 1) := by decide +kernel
theorem dX2_replaceText_18 : decode cX2_replaceText 18 = .ok (.iload_n 2, 1) := by decide +kernel
theorem dX2_replaceText_19 : decode cX2_replaceText 19 = .ok (.invokestatic 53, 3) := by decide +kernel
theorem dX2_replaceText_22 : decode cX2_replaceText 22 = .ok (.ifCond .eq 10, 3) := by decide +kernel
theorem dX2_replaceText_25 : decode cX2_replaceText 25 = .ok (.iload_n 3, 1) := by decide +kernel
theorem dX2_replaceText_26 : decode cX2_replaceText 26 = .ok (.invokestatic 56, 3) := by decide +kernel
theorem dX2_replaceText_29 : decode cX2_replaceText 29 = .ok (.ifCond .ne 6, 3) := by decide +kernel
theorem dX2_replaceText_32 : decode cX2_replaceText 32 = .ok (.bipush (-2), 2) := by decide +kernel
theorem dX2_replaceText_34 : decode cX2_replaceText 34 = .ok (.ireturn, 1) := by decide +kernel
theorem dX2_replaceText_35 : decode cX2_replaceText 35 = .ok (.aload_n 0, 1) := by decide +kernel
theorem dX2_replaceText_36 : decode cX2_replaceText 36 = .ok (.iload_n 2, 1) := by decide +kernel
theorem dX2_replaceText_37 : decode cX2_replaceText 37 = .ok (.invokevirtual 70, 3) := by decide +kernel
theorem dX2_replaceText_40 : decode cX2_replaceText 40 = .ok (.ifCond .ne 6, 3) := by decide +kernel
theorem dX2_replaceText_43 : decode cX2_replaceText 43 = .ok (.bipush (-3), 2) := by decide +kernel
theorem dX2_replaceText_45 : decode cX2_replaceText 45 = .ok (.ireturn, 1) := by decide +kernel
theorem dX2_replaceText_46 : decode cX2_replaceText 46 = .ok (.aload_n 0, 1) := by decide +kernel
theorem dX2_replaceText_47 : decode cX2_replaceText 47 = .ok (.iload_n 2, 1) := by decide +kernel
theorem dX2_replaceText_48 : decode cX2_replaceText 48 = .ok (.invokevirtual 73, 3) := by decide +kernel
theorem dX2_replaceText_51 : decode cX2_replaceText 51 = .ok (.istore 5, 2) := by decide +kernel
theorem dX2_replaceText_53 : decode cX2_replaceText 53 = .ok (.aload_n 0, 1) := by decide +kernel
theorem dX2_replaceText_54 : decode cX2_replaceText 54 = .ok (.iload 4, 2) := by decide +kernel
theorem dX2_replaceText_56 : decode cX2_replaceText 56 = .ok (.iload_n 1, 1) := by decide +kernel
theorem dX2_replaceText_57 : decode cX2_replaceText 57 = .ok (.bipush (-5), 2) := by decide +kernel
theorem dX2_replaceText_59 : decode cX2_replaceText 59 = .ok (.iload 5, 2) := by decide +kernel
theorem dX2_replaceText_61 : decode cX2_replaceText 61 = .ok (.iload_n 2, 1) := by decide +kernel
theorem dX2_replaceText_62 : decode cX2_replaceText 62 = .ok (.iload_n 3, 1) := by decide +kernel
theorem dX2_replaceText_63 : decode cX2_replaceText 63 = .ok (.invokevirtual 83, 3) := by decide +kernel
theorem dX2_replaceText_66 : decode cX2_replaceText 66 = .ok (.iload 5, 2) := by decide +kernel
theorem dX2_replaceText_68 : decode cX2_replaceText 68 = .ok (.ireturn, 1) := by decide +kernel
theorem dX2_removeEntry_0 : decode cX2_removeEntry 0 = .ok (.aload_n 0, 1) := by decide +kernel
theorem dX2_removeEntry_1 : decode cX2_removeEntry 1 = .ok (.iload_n 1, 1) := by decide +kernel
theorem dX2_removeEntry_2 : decode cX2_removeEntry 2 = .ok (.invokevirtual 59, 3) := by decide +kernel
theorem dX2_removeEntry_5 : decode cX2_removeEntry 5 = .ok (.istore_n 2, 1) := by decide +kernel
theorem dX2_removeEntry_6 : decode cX2_removeEntry 6 = .ok (.aload_n 0, 1) := by decide +kernel
theorem dX2_removeEntry_7 : decode cX2_removeEntry 7 = .ok (.iload_n 2, 1) := by decide +kernel
theorem dX2_removeEntry_8 : decode cX2_removeEntry 8 = .ok (.invokevirtual 63, 3) := by decide +kernel
theorem dX2_removeEntry_11 : decode cX2_removeEntry 11 = .ok (.ifCond .ne 5, 3) := by decide +kernel
theorem dX2_removeEntry_14 : decode cX2_removeEntry 14 = .ok (.iconst (-1), 1) := by decide +kernel
theorem dX2_removeEntry_15 : decode cX2_removeEntry 15 = .ok (.ireturn, 1) := by decide +kernel
theorem dX2_removeEntry_16 : decode cX2_removeEntry 16 = .ok (.aload_n 0, 1) := by decide +kernel
theorem dX2_removeEntry_17 : decode cX2_removeEntry 17 = .ok (.iload_n 2, 1) := by decide +kernel
theorem dX2_removeEntry_18 : decode cX2_removeEntry 18 = .ok (.invokevirtual 87, 3) := by decide +kernel
theorem dX2_removeEntry_21 : decode cX2_removeEntry 21 = .ok (.aload_n 0, 1) := by decide +kernel
theorem dX2_removeEntry_22 : decode cX2_removeEntry 22 = .ok (.getfield 27, 3) := by decide +kernel
theorem dX2_removeEntry_25 : decode cX2_removeEntry 25 = .ok (.ireturn, 1) := by decide +kernel
theorem dX2_renameEntry_0 : decode cX2_renameEntry 0 = .ok (.aload_n 0, 1) := by decide +kernel
theorem dX2_renameEntry_1 : decode cX2_renameEntry 1 = .ok (.iload_n 1, 1) := by decide +kernel
theorem dX2_renameEntry_2 : decode cX2_renameEntry 2 = .ok (.invokevirtual 59, 3) := by decide +kernel
theorem dX2_renameEntry_5 : decode cX2_renameEntry 5 = .ok (.istore_n 3, 1) := by decide +kernel
theorem dX2_renameEntry_6 : decode cX2_renameEntry 6 = .ok (.aload_n 0, 1) := by decide +kernel
theorem dX2_renameEntry_7 : decode cX2_renameEntry 7 = .ok (.iload_n 3, 1) := by decide +kernel
theorem dX2_renameEntry_8 : decode cX2_renameEntry 8 = .ok (.invokevirtual 63, 3) := by decide +kernel
theorem dX2_renameEntry_11 : decode cX2_renameEntry 11 = .ok (.ifCond .ne 5, 3) := by decide +kernel
theorem dX2_renameEntry_14 : decode cX2_renameEntry 14 = .ok (.iconst (-1), 1) := by decide +kernel
theorem dX2_renameEntry_15 : decode cX2_renameEntry 15 = .ok (.ireturn, 1) := by decide +kernel
theorem dX2_renameEntry_16 : decode cX2_renameEntry 16 = .ok (.iload_n 2, 1) := by decide +kernel
theorem dX2_renameEntry_17 : decode cX2_renameEntry 17 = .ok (.invokestatic 49, 3) := by decide +kernel
theorem dX2_renameEntry_20 : decode cX2_renameEntry 20 = .ok (.ifCond .ne 6, 3) := by decide +kernel
theorem dX2_renameEntry_23 : decode cX2_renameEntry 23 = .ok (.bipush (-2), 2) := by decide +kernel
theorem dX2_renameEntry_25 : decode cX2_renameEntry 25 = .ok (.ireturn, 1) := by decide +kernel
theorem dX2_renameEntry_26 : decode cX2_renameEntry 26 = .ok (.aload_n 0, 1) := by decide +kernel
theorem dX2_renameEntry_27 : decode cX2_renameEntry 27 = .ok (.iload_n 2, 1) := by decide +kernel
theorem dX2_renameEntry_28 : decode cX2_renameEntry 28 = .ok (.invokevirtual 59, 3) := by decide +kernel
theorem dX2_renameEntry_31 : decode cX2_renameEntry 31 = .ok (.istore 4, 2) := by decide +kernel
theorem dX2_renameEntry_33 : decode cX2_renameEntry 33 = .ok (.iload 4, 2) := by decide +kernel
theorem dX2_renameEntry_35 : decode cX2_renameEntry 35 = .ok (.iload_n 3, 1) := by decide +kernel
theorem dX2_renameEntry_36 : decode cX2_renameEntry 36 = .ok (.if_icmp .ne 6, 3) := by decide +kernel
theorem dX2_renameEntry_39 : decode cX2_renameEntry 39 = .ok (.bipush (-5), 2) := by decide +kernel
theorem dX2_renameEntry_41 : decode cX2_renameEntry 41 = .ok (.ireturn, 1) := by decide +kernel
theorem dX2_renameEntry_42 : decode cX2_renameEntry 42 = .ok (.aload_n 0, 1) := by decide +kernel
theorem dX2_renameEntry_43 : decode cX2_renameEntry 43 = .ok (.iload 4, 2) := by decide +kernel
theorem dX2_renameEntry_45 : decode cX2_renameEntry 45 = .ok (.invokevirtual 63, 3) := by decide +kernel
theorem dX2_renameEntry_48 : decode cX2_renameEntry 48 = .ok (.ifCond .eq 6, 3) := by decide +kernel
theorem dX2_renameEntry_51 : decode cX2_renameEntry 51 = .ok (.bipush (-7), 2) := by decide +kernel
theorem dX2_renameEntry_53 : decode cX2_renameEntry 53 = .ok (.ireturn, 1) := by decide +kernel
theorem dX2_renameEntry_54 : decode cX2_renameEntry 54 = .ok (.aload_n 0, 1) := by decide +kernel
theorem dX2_renameEntry_55 : decode cX2_renameEntry 55 = .ok (.iload_n 3, 1) := by decide +kernel
theorem dX2_renameEntry_56 : decode cX2_renameEntry 56 = .ok (.invokevirtual 80, 3) := by decide +kernel
theorem dX2_renameEntry_59 : decode cX2_renameEntry 59 = .ok (.ifCond .eq 9, 3) := by decide +kernel
theorem dX2_renameEntry_62 : decode cX2_renameEntry 62 = .ok (.aload_n 0, 1) := by decide +kernel
theorem dX2_renameEntry_63 : decode cX2_renameEntry 63 = .ok (.iload_n 1, 1) := by decide +kernel
theorem dX2_renameEntry_64 : decode cX2_renameEntry 64 = .ok (.iload_n 2, 1) := by decide +kernel
theorem dX2_renameEntry_65 : decode cX2_renameEntry 65 = .ok (.invokevirtual 91, 3) := by decide +kernel
theorem dX2_renameEntry_68 : decode cX2_renameEntry 68 = .ok (.aload_n 0, 1) := by decide +kernel
theorem dX2_renameEntry_69 : decode cX2_renameEntry 69 = .ok (.getfield 15, 3) := by decide +kernel
theorem dX2_renameEntry_72 : decode cX2_renameEntry 72 = .ok (.iload_n 3, 1) := by decide +kernel
theorem dX2_renameEntry_73 : decode cX2_renameEntry 73 = .ok (.iaload, 1) := by decide +kernel
theorem dX2_renameEntry_74 : decode cX2_renameEntry 74 = .ok (.istore 5, 2) := by decide +kernel
theorem dX2_renameEntry_76 : decode cX2_renameEntry 76 = .ok (.aload_n 0, 1) := by decide +kernel
theorem dX2_renameEntry_77 : decode cX2_renameEntry 77 = .ok (.getfield 18, 3) := by decide +kernel
theorem dX2_renameEntry_80 : decode cX2_renameEntry 80 = .ok (.iload_n 3, 1) := by decide +kernel
theorem dX2_renameEntry_81 : decode cX2_renameEntry 81 = .ok (.iaload, 1) := by decide +kernel
theorem dX2_renameEntry_82 : decode cX2_renameEntry 82 = .ok (.istore 6, 2) := by decide +kernel
theorem dX2_renameEntry_84 : decode cX2_renameEntry 84 = .ok (.aload_n 0, 1) := by decide +kernel
theorem dX2_renameEntry_85 : decode cX2_renameEntry 85 = .ok (.getfield 21, 3) := by decide +kernel
theorem dX2_renameEntry_88 : decode cX2_renameEntry 88 = .ok (.iload_n 3, 1) := by decide +kernel
theorem dX2_renameEntry_89 : decode cX2_renameEntry 89 = .ok (.iaload, 1) := by decide +kernel
theorem dX2_renameEntry_90 : decode cX2_renameEntry 90 = .ok (.istore 7, 2) := by decide +kernel
theorem dX2_renameEntry_92 : decode cX2_renameEntry 92 = .ok (.aload_n 0, 1) := by decide +kernel
theorem dX2_renameEntry_93 : decode cX2_renameEntry 93 = .ok (.getfield 24, 3) := by decide +kernel
theorem dX2_renameEntry_96 : decode cX2_renameEntry 96 = .ok (.iload_n 3, 1) := by decide +kernel
theorem dX2_renameEntry_97 : decode cX2_renameEntry 97 = .ok (.iaload, 1) := by decide +kernel
theorem dX2_renameEntry_98 : decode cX2_renameEntry 98 = .ok (.istore 8, 2) := by decide +kernel
theorem dX2_renameEntry_100 : decode cX2_renameEntry 100 = .ok (.aload_n 0, 1) := by decide +kernel
theorem dX2_renameEntry_101 : decode cX2_renameEntry 101 = .ok (.iload_n 3, 1) := by decide +kernel
theorem dX2_renameEntry_102 : decode cX2_renameEntry 102 = .ok (.invokevirtual 87, 3) := by decide +kernel
theorem dX2_renameEntry_105 : decode cX2_renameEntry 105 = .ok (.aload_n 0, 1) := by decide +kernel
theorem dX2_renameEntry_106 : decode cX2_renameEntry 106 = .ok (.iload_n 2, 1) := by decide +kernel
theorem dX2_renameEntry_107 : decode cX2_renameEntry 107 = .ok (.iload 5, 2) := by decide +kernel
theorem dX2_renameEntry_109 : decode cX2_renameEntry 109 = .ok (.iload 6, 2) := by decide +kernel
theorem dX2_renameEntry_111 : decode cX2_renameEntry 111 = .ok (.iload 7, 2) := by decide +kernel
theorem dX2_renameEntry_113 : decode cX2_renameEntry 113 = .ok (.iload 8, 2) := by decide +kernel
theorem dX2_renameEntry_115 : decode cX2_renameEntry 115 = .ok (.invokevirtual 76, 3) := by decide +kernel
theorem dX2_renameEntry_118 : decode cX2_renameEntry 118 = .ok (.ireturn, 1) := by decide +kernel
theorem dX2_giveAlias_0 : decode cX2_giveAlias 0 = .ok (.aload_n 0, 1) := by decide +kernel
theorem dX2_giveAlias_1 : decode cX2_giveAlias 1 = .ok (.iload_n 2, 1) := by decide +kernel
theorem dX2_giveAlias_2 : decode cX2_giveAlias 2 = .ok (.invokevirtual 59, 3) := by decide +kernel
theorem dX2_giveAlias_5 : decode cX2_giveAlias 5 = .ok (.istore_n 3, 1) := by decide +kernel
theorem dX2_giveAlias_6 : decode cX2_giveAlias 6 = .ok (.aload_n 0, 1) := by decide +kernel
theorem dX2_giveAlias_7 : decode cX2_giveAlias 7 = .ok (.iload_n 3, 1) := by decide +kernel
theorem dX2_giveAlias_8 : decode cX2_giveAlias 8 = .ok (.invokevirtual 80, 3) := by decide +kernel
theorem dX2_giveAlias_11 : decode cX2_giveAlias 11 = .ok (.ifCond .ne 5, 3) := by decide +kernel
theorem dX2_giveAlias_14 : decode cX2_giveAlias 14 = .ok (.iconst (-1), 1) := by decide +kernel
theorem dX2_giveAlias_15 : decode cX2_giveAlias 15 = .ok (.ireturn, 1) := by decide +kernel
theorem dX2_giveAlias_16 : decode cX2_giveAlias 16 = .ok (.iload_n 1, 1) := by decide +kernel
theorem dX2_giveAlias_17 : decode cX2_giveAlias 17 = .ok (.invokestatic 49, 3) := by decide +kernel
theorem dX2_giveAlias_20 : decode cX2_giveAlias 20 = .ok (.ifCond .ne 6, 3) := by decide +kernel
theorem dX2_giveAlias_23 : decode cX2_giveAlias 23 = .ok (.bipush (-2), 2) := by decide +kernel
theorem dX2_giveAlias_25 : decode cX2_giveAlias 25 = .ok (.ireturn, 1) := by decide +kernel
theorem dX2_giveAlias_26 : decode cX2_giveAlias 26 = .ok (.aload_n 0, 1) := by decide +kernel
theorem dX2_giveAlias_27 : decode cX2_giveAlias 27 = .ok (.iload_n 1, 1) := by decide +kernel
theorem dX2_giveAlias_28 : decode cX2_giveAlias 28 = .ok (.invokevirtual 59, 3) := by decide +kernel
theorem dX2_giveAlias_31 : decode cX2_giveAlias 31 = .ok (.istore 4, 2) := by decide +kernel
theorem dX2_giveAlias_33 : decode cX2_giveAlias 33 = .ok (.aload_n 0, 1) := by decide +kernel
theorem dX2_giveAlias_34 : decode cX2_giveAlias 34 = .ok (.iload 4, 2) := by decide +kernel
theorem dX2_giveAlias_36 : decode cX2_giveAlias 36 = .ok (.invokevirtual 80, 3) := by decide +kernel
theorem dX2_giveAlias_39 : decode cX2_giveAlias 39 = .ok (.ifCond .eq 6, 3) := by decide +kernel
theorem dX2_giveAlias_42 : decode cX2_giveAlias 42 = .ok (.bipush (-7), 2) := by decide +kernel
theorem dX2_giveAlias_44 : decode cX2_giveAlias 44 = .ok (.ireturn, 1) := by decide +kernel
theorem dX2_giveAlias_45 : decode cX2_giveAlias 45 = .ok (.aload_n 0, 1) := by decide +kernel
theorem dX2_giveAlias_46 : decode cX2_giveAlias 46 = .ok (.getfield 18, 3) := by decide +kernel
theorem dX2_giveAlias_49 : decode cX2_giveAlias 49 = .ok (.iload_n 3, 1) := by decide +kernel
theorem dX2_giveAlias_50 : decode cX2_giveAlias 50 = .ok (.iaload, 1) := by decide +kernel
theorem dX2_giveAlias_51 : decode cX2_giveAlias 51 = .ok (.istore 5, 2) := by decide +kernel
theorem dX2_giveAlias_53 : decode cX2_giveAlias 53 = .ok (.aload_n 0, 1) := by decide +kernel
theorem dX2_giveAlias_54 : decode cX2_giveAlias 54 = .ok (.iload 4, 2) := by decide +kernel
theorem dX2_giveAlias_56 : decode cX2_giveAlias 56 = .ok (.invokevirtual 63, 3) := by decide +kernel
theorem dX2_giveAlias_59 : decode cX2_giveAlias 59 = .ok (.ifCond .ne 37, 3) := by decide +kernel
theorem dX2_giveAlias_62 : decode cX2_giveAlias 62 = .ok (.aload_n 0, 1) := by decide +kernel
theorem dX2_giveAlias_63 : decode cX2_giveAlias 63 = .ok (.invokevirtual 66, 3) := by decide +kernel
theorem dX2_giveAlias_66 : decode cX2_giveAlias 66 = .ok (.ifCond .eq 6, 3) := by decide +kernel
theorem dX2_giveAlias_69 : decode cX2_giveAlias 69 = .ok (.bipush (-6), 2) := by decide +kernel
theorem dX2_giveAlias_71 : decode cX2_giveAlias 71 = .ok (.ireturn, 1) := by decide +kernel
theorem dX2_giveAlias_72 : decode cX2_giveAlias 72 = .ok (.aload_n 0, 1) := by decide +kernel
theorem dX2_giveAlias_73 : decode cX2_giveAlias 73 = .ok (.iload_n 1, 1) := by decide +kernel
theorem dX2_giveAlias_74 : decode cX2_giveAlias 74 = .ok (.iload_n 2, 1) := by decide +kernel
theorem dX2_giveAlias_75 : decode cX2_giveAlias 75 = .ok (.iload 5, 2) := by decide +kernel
theorem dX2_giveAlias_77 : decode cX2_giveAlias 77 = .ok (.aload_n 0, 1) := by decide +kernel
theorem dX2_giveAlias_78 : decode cX2_giveAlias 78 = .ok (.getfield 21, 3) := by decide +kernel
theorem dX2_giveAlias_81 : decode cX2_giveAlias 81 = .ok (.iload_n 3, 1) := by decide +kernel
theorem dX2_giveAlias_82 : decode cX2_giveAlias 82 = .ok (.iaload, 1) := by decide +kernel
theorem dX2_giveAlias_83 : decode cX2_giveAlias 83 = .ok (.aload_n 0, 1) := by decide +kernel
theorem dX2_giveAlias_84 : decode cX2_giveAlias 84 = .ok (.getfield 24, 3) := by decide +kernel
theorem dX2_giveAlias_87 : decode cX2_giveAlias 87 = .ok (.iload_n 3, 1) := by decide +kernel
theorem dX2_giveAlias_88 : decode cX2_giveAlias 88 = .ok (.iaload, 1) := by decide +kernel
theorem dX2_giveAlias_89 : decode cX2_giveAlias 89 = .ok (.invokevirtual 76, 3) := by decide +kernel
theorem dX2_giveAlias_92 : decode cX2_giveAlias 92 = .ok (.pop, 1) := by decide +kernel
theorem dX2_giveAlias_93 : decode cX2_giveAlias 93 = .ok (.iload 5, 2) := by decide +kernel
theorem dX2_giveAlias_95 : decode cX2_giveAlias 95 = .ok (.ireturn, 1) := by decide +kernel
theorem dX2_giveAlias_96 : decode cX2_giveAlias 96 = .ok (.aload_n 0, 1) := by decide +kernel
theorem dX2_giveAlias_97 : decode cX2_giveAlias 97 = .ok (.getfield 18, 3) := by decide +kernel
theorem dX2_giveAlias_100 : decode cX2_giveAlias 100 = .ok (.iload 4, 2) := by decide +kernel
theorem dX2_giveAlias_102 : decode cX2_giveAlias 102 = .ok (.iaload, 1) := by decide +kernel
theorem dX2_giveAlias_103 : decode cX2_giveAlias 103 = .ok (.iload 5, 2) := by decide +kernel
theorem dX2_giveAlias_105 : decode cX2_giveAlias 105 = .ok (.if_icmp .ne 17, 3) := by decide +kernel
theorem dX2_giveAlias_108 : decode cX2_giveAlias 108 = .ok (.aload_n 0, 1) := by decide +kernel
theorem dX2_giveAlias_109 : decode cX2_giveAlias 109 = .ok (.getfield 15, 3) := by decide +kernel
theorem dX2_giveAlias_112 : decode cX2_giveAlias 112 = .ok (.iload 4, 2) := by decide +kernel
theorem dX2_giveAlias_114 : decode cX2_giveAlias 114 = .ok (.iaload, 1) := by decide +kernel
theorem dX2_giveAlias_115 : decode cX2_giveAlias 115 = .ok (.iload_n 2, 1) := by decide +kernel
theorem dX2_giveAlias_116 : decode cX2_giveAlias 116 = .ok (.if_icmp .ne 6, 3) := by decide +kernel
theorem dX2_giveAlias_119 : decode cX2_giveAlias 119 = .ok (.bipush (-5), 2) := by decide +kernel
theorem dX2_giveAlias_121 : decode cX2_giveAlias 121 = .ok (.ireturn, 1) := by decide +kernel
theorem dX2_giveAlias_122 : decode cX2_giveAlias 122 = .ok (.aload_n 0, 1) := by decide +kernel
theorem dX2_giveAlias_123 : decode cX2_giveAlias 123 = .ok (.iload 4, 2) := by decide +kernel
theorem dX2_giveAlias_125 : decode cX2_giveAlias 125 = .ok (.iload_n 1, 1) := by decide +kernel
theorem dX2_giveAlias_126 : decode cX2_giveAlias 126 = .ok (.iload_n 2, 1) := by decide +kernel
theorem dX2_giveAlias_127 : decode cX2_giveAlias 127 = .ok (.iload 5, 2) := by decide +kernel
theorem dX2_giveAlias_129 : decode cX2_giveAlias 129 = .ok (.aload_n 0, 1) := by decide +kernel
theorem dX2_giveAlias_130 : decode cX2_giveAlias 130 = .ok (.getfield 21, 3) := by decide +kernel
theorem dX2_giveAlias_133 : decode cX2_giveAlias 133 = .ok (.iload_n 3, 1) := by decide +kernel
theorem dX2_giveAlias_134 : decode cX2_giveAlias 134 = .ok (.iaload, 1) := by decide +kernel
theorem dX2_giveAlias_135 : decode cX2_giveAlias 135 = .ok (.aload_n 0, 1) := by decide +kernel
theorem dX2_giveAlias_136 : decode cX2_giveAlias 136 = .ok (.getfield 24, 3) := by decide +kernel
theorem dX2_giveAlias_139 : decode cX2_giveAlias 139 = .ok (.iload_n 3, 1) := by decide +kernel
theorem dX2_giveAlias_140 : decode cX2_giveAlias 140 = .ok (.iaload, 1) := by decide +kernel
theorem dX2_giveAlias_141 : decode cX2_giveAlias 141 = .ok (.invokevirtual 83, 3) := by decide +kernel
theorem dX2_giveAlias_144 : decode cX2_giveAlias 144 = .ok (.iload 5, 2) := by decide +kernel
theorem dX2_giveAlias_146 : decode cX2_giveAlias 146 = .ok (.ireturn, 1) := by decide +kernel
theorem dX2_giveBackDeadRoom_0 : decode cX2_giveBackDeadRoom 0 = .ok (.aload_n 0, 1) := by decide +kernel
theorem dX2_giveBackDeadRoom_1 : decode cX2_giveBackDeadRoom 1 = .ok (.invokevirtual 95, 3) := by decide +kernel
theorem dX2_giveBackDeadRoom_4 : decode cX2_giveBackDeadRoom 4 = .ok (.ifCond .ne 6, 3) := by decide +kernel
theorem dX2_giveBackDeadRoom_7 : decode cX2_giveBackDeadRoom 7 = .ok (.bipush (-5), 2) := by decide +kernel
theorem dX2_giveBackDeadRoom_9 : decode cX2_giveBackDeadRoom 9 = .ok (.ireturn, 1) := by decide +kernel
theorem dX2_giveBackDeadRoom_10 : decode cX2_giveBackDeadRoom 10 = .ok (.aload_n 0, 1) := by decide +kernel
theorem dX2_giveBackDeadRoom_11 : decode cX2_giveBackDeadRoom 11 = .ok (.invokevirtual 99, 3) := by decide +kernel
theorem dX2_giveBackDeadRoom_14 : decode cX2_giveBackDeadRoom 14 = .ok (.ireturn, 1) := by decide +kernel
theorem dX2_changeBlocks_0 : decode cX2_changeBlocks 0 = .ok (.iload_n 1, 1) := by decide +kernel
theorem dX2_changeBlocks_1 : decode cX2_changeBlocks 1 = .ok (.iconst 1, 1) := by decide +kernel
theorem dX2_changeBlocks_2 : decode cX2_changeBlocks 2 = .ok (.if_icmp .lt 9, 3) := by decide +kernel
theorem dX2_changeBlocks_5 : decode cX2_changeBlocks 5 = .ok (.iload_n 1, 1) := by decide +kernel
theorem dX2_changeBlocks_6 : decode cX2_changeBlocks 6 = .ok (.bipush 6, 2) := by decide +kernel
theorem dX2_changeBlocks_8 : decode cX2_changeBlocks 8 = .ok (.if_icmp .le 6, 3) := by decide +kernel
theorem dX2_changeBlocks_11 : decode cX2_changeBlocks 11 = .ok (.bipush (-2), 2) := by decide +kernel
theorem dX2_changeBlocks_13 : decode cX2_changeBlocks 13 = .ok (.ireturn, 1) := by decide +kernel
theorem dX2_changeBlocks_14 : decode cX2_changeBlocks 14 = .ok (.aload_n 0, 1) := by decide +kernel
theorem dX2_changeBlocks_15 : decode cX2_changeBlocks 15 = .ok (.getfield 27, 3) := by decide +kernel
theorem dX2_changeBlocks_18 : decode cX2_changeBlocks 18 = .ok (.iload_n 1, 1) := by decide +kernel
theorem dX2_changeBlocks_19 : decode cX2_changeBlocks 19 = .ok (.iconst 4, 1) := by decide +kernel
theorem dX2_changeBlocks_20 : decode cX2_changeBlocks 20 = .ok (.imul, 1) := by decide +kernel
theorem dX2_changeBlocks_21 : decode cX2_changeBlocks 21 = .ok (.if_icmp .le 6, 3) := by decide +kernel
theorem dX2_changeBlocks_24 : decode cX2_changeBlocks 24 = .ok (.bipush (-6), 2) := by decide +kernel
theorem dX2_changeBlocks_26 : decode cX2_changeBlocks 26 = .ok (.ireturn, 1) := by decide +kernel
theorem dX2_changeBlocks_27 : decode cX2_changeBlocks 27 = .ok (.iload_n 1, 1) := by decide +kernel
theorem dX2_changeBlocks_28 : decode cX2_changeBlocks 28 = .ok (.aload_n 0, 1) := by decide +kernel
theorem dX2_changeBlocks_29 : decode cX2_changeBlocks 29 = .ok (.getfield 31, 3) := by decide +kernel
theorem dX2_changeBlocks_32 : decode cX2_changeBlocks 32 = .ok (.if_icmp .ne 6, 3) := by decide +kernel
theorem dX2_changeBlocks_35 : decode cX2_changeBlocks 35 = .ok (.bipush (-5), 2) := by decide +kernel
theorem dX2_changeBlocks_37 : decode cX2_changeBlocks 37 = .ok (.ireturn, 1) := by decide +kernel
theorem dX2_changeBlocks_38 : decode cX2_changeBlocks 38 = .ok (.aload_n 0, 1) := by decide +kernel
theorem dX2_changeBlocks_39 : decode cX2_changeBlocks 39 = .ok (.getfield 31, 3) := by decide +kernel
theorem dX2_changeBlocks_42 : decode cX2_changeBlocks 42 = .ok (.istore_n 2, 1) := by decide +kernel
theorem dX2_changeBlocks_43 : decode cX2_changeBlocks 43 = .ok (.aload_n 0, 1) := by decide +kernel
theorem dX2_changeBlocks_44 : decode cX2_changeBlocks 44 = .ok (.iload_n 1, 1) := by decide +kernel
theorem dX2_changeBlocks_45 : decode cX2_changeBlocks 45 = .ok (.putfield 31, 3) := by decide +kernel
theorem dX2_changeBlocks_48 : decode cX2_changeBlocks 48 = .ok (.aload_n 0, 1) := by decide +kernel
theorem dX2_changeBlocks_49 : decode cX2_changeBlocks 49 = .ok (.invokevirtual 99, 3) := by decide +kernel
theorem dX2_changeBlocks_52 : decode cX2_changeBlocks 52 = .ok (.pop, 1) := by decide +kernel
theorem dX2_changeBlocks_53 : decode cX2_changeBlocks 53 = .ok (.iload_n 2, 1) := by decide +kernel
theorem dX2_changeBlocks_54 : decode cX2_changeBlocks 54 = .ok (.ireturn, 1) := by decide +kernel
theorem dX2_tellEntry_0 : decode cX2_tellEntry 0 = .ok (.aload_n 0, 1) := by decide +kernel
theorem dX2_tellEntry_1 : decode cX2_tellEntry 1 = .ok (.iload_n 1, 1) := by decide +kernel
theorem dX2_tellEntry_2 : decode cX2_tellEntry 2 = .ok (.invokevirtual 59, 3) := by decide +kernel
theorem dX2_tellEntry_5 : decode cX2_tellEntry 5 = .ok (.istore_n 3, 1) := by decide +kernel
theorem dX2_tellEntry_6 : decode cX2_tellEntry 6 = .ok (.aload_n 0, 1) := by decide +kernel
theorem dX2_tellEntry_7 : decode cX2_tellEntry 7 = .ok (.iload_n 3, 1) := by decide +kernel
theorem dX2_tellEntry_8 : decode cX2_tellEntry 8 = .ok (.invokevirtual 63, 3) := by decide +kernel
theorem dX2_tellEntry_11 : decode cX2_tellEntry 11 = .ok (.ifCond .ne 5, 3) := by decide +kernel
theorem dX2_tellEntry_14 : decode cX2_tellEntry 14 = .ok (.iconst (-1), 1) := by decide +kernel
theorem dX2_tellEntry_15 : decode cX2_tellEntry 15 = .ok (.ireturn, 1) := by decide +kernel
theorem dX2_tellEntry_16 : decode cX2_tellEntry 16 = .ok (.iload_n 2, 1) := by decide +kernel
theorem dX2_tellEntry_17 : decode cX2_tellEntry 17 = .ok (.tableswitch 124 0 8 #[51, 53, 57, 71, 78, 85, 92, 103, 110], 51) := by decide +kernel
theorem dX2_tellEntry_68 : decode cX2_tellEntry 68 = .ok (.iload_n 3, 1) := by decide +kernel
theorem dX2_tellEntry_69 : decode cX2_tellEntry 69 = .ok (.ireturn, 1) := by decide +kernel
theorem dX2_tellEntry_70 : decode cX2_tellEntry 70 = .ok (.iload_n 3, 1) := by decide +kernel
theorem dX2_tellEntry_71 : decode cX2_tellEntry 71 = .ok (.iconst 4, 1) := by decide +kernel
theorem dX2_tellEntry_72 : decode cX2_tellEntry 72 = .ok (.idiv, 1) := by decide +kernel
theorem dX2_tellEntry_73 : decode cX2_tellEntry 73 = .ok (.ireturn, 1) := by decide +kernel
theorem dX2_tellEntry_74 : decode cX2_tellEntry 74 = .ok (.aload_n 0, 1) := by decide +kernel
theorem dX2_tellEntry_75 : decode cX2_tellEntry 75 = .ok (.iload_n 3, 1) := by decide +kernel
theorem dX2_tellEntry_76 : decode cX2_tellEntry 76 = .ok (.invokevirtual 80, 3) := by decide +kernel
theorem dX2_tellEntry_79 : decode cX2_tellEntry 79 = .ok (.ifCond .eq 7, 3) := by decide +kernel
theorem dX2_tellEntry_82 : decode cX2_tellEntry 82 = .ok (.iconst 0, 1) := by decide +kernel
theorem dX2_tellEntry_83 : decode cX2_tellEntry 83 = .ok (.goto 4, 3) := by decide +kernel
theorem dX2_tellEntry_86 : decode cX2_tellEntry 86 = .ok (.iconst 1, 1) := by decide +kernel
theorem dX2_tellEntry_87 : decode cX2_tellEntry 87 = .ok (.ireturn, 1) := by decide +kernel
theorem dX2_tellEntry_88 : decode cX2_tellEntry 88 = .ok (.aload_n 0, 1) := by decide +kernel
theorem dX2_tellEntry_89 : decode cX2_tellEntry 89 = .ok (.getfield 18, 3) := by decide +kernel
theorem dX2_tellEntry_92 : decode cX2_tellEntry 92 = .ok (.iload_n 3, 1) := by decide +kernel
theorem dX2_tellEntry_93 : decode cX2_tellEntry 93 = .ok (.iaload, 1) := by decide +kernel
theorem dX2_tellEntry_94 : decode cX2_tellEntry 94 = .ok (.ireturn, 1) := by decide +kernel
theorem dX2_tellEntry_95 : decode cX2_tellEntry 95 = .ok (.aload_n 0, 1) := by decide +kernel
theorem dX2_tellEntry_96 : decode cX2_tellEntry 96 = .ok (.getfield 21, 3) := by decide +kernel
theorem dX2_tellEntry_99 : decode cX2_tellEntry 99 = .ok (.iload_n 3, 1) := by decide +kernel
theorem dX2_tellEntry_100 : decode cX2_tellEntry 100 = .ok (.iaload, 1) := by decide +kernel
theorem dX2_tellEntry_101 : decode cX2_tellEntry 101 = .ok (.ireturn, 1) := by decide +kernel
theorem dX2_tellEntry_102 : decode cX2_tellEntry 102 = .ok (.aload_n 0, 1) := by decide +kernel
theorem dX2_tellEntry_103 : decode cX2_tellEntry 103 = .ok (.getfield 24, 3) := by decide +kernel
theorem dX2_tellEntry_106 : decode cX2_tellEntry 106 = .ok (.iload_n 3, 1) := by decide +kernel
theorem dX2_tellEntry_107 : decode cX2_tellEntry 107 = .ok (.iaload, 1) := by decide +kernel
theorem dX2_tellEntry_108 : decode cX2_tellEntry 108 = .ok (.ireturn, 1) := by decide +kernel
theorem dX2_tellEntry_109 : decode cX2_tellEntry 109 = .ok (.aload_n 0, 1) := by decide +kernel
theorem dX2_tellEntry_110 : decode cX2_tellEntry 110 = .ok (.aload_n 0, 1) := by decide +kernel
theorem dX2_tellEntry_111 : decode cX2_tellEntry 111 = .ok (.getfield 18, 3) := by decide +kernel
theorem dX2_tellEntry_114 : decode cX2_tellEntry 114 = .ok (.iload_n 3, 1) := by decide +kernel
theorem dX2_tellEntry_115 : decode cX2_tellEntry 115 = .ok (.iaload, 1) := by decide +kernel
theorem dX2_tellEntry_116 : decode cX2_tellEntry 116 = .ok (.invokevirtual 102, 3) := by decide +kernel
theorem dX2_tellEntry_119 : decode cX2_tellEntry 119 = .ok (.ireturn, 1) := by decide +kernel
theorem dX2_tellEntry_120 : decode cX2_tellEntry 120 = .ok (.aload_n 0, 1) := by decide +kernel
theorem dX2_tellEntry_121 : decode cX2_tellEntry 121 = .ok (.getfield 15, 3) := by decide +kernel
theorem dX2_tellEntry_124 : decode cX2_tellEntry 124 = .ok (.iload_n 3, 1) := by decide +kernel
theorem dX2_tellEntry_125 : decode cX2_tellEntry 125 = .ok (.iaload, 1) := by decide +kernel
theorem dX2_tellEntry_126 : decode cX2_tellEntry 126 = .ok (.ireturn, 1) := by decide +kernel
theorem dX2_tellEntry_127 : decode cX2_tellEntry 127 = .ok (.aload_n 0, 1) := by decide +kernel
theorem dX2_tellEntry_128 : decode cX2_tellEntry 128 = .ok (.iload_n 3, 1) := by decide +kernel
theorem dX2_tellEntry_129 : decode cX2_tellEntry 129 = .ok (.invokevirtual 105, 3) := by decide +kernel
theorem dX2_tellEntry_132 : decode cX2_tellEntry 132 = .ok (.ifCond .eq 7, 3) := by decide +kernel
theorem dX2_tellEntry_135 : decode cX2_tellEntry 135 = .ok (.iconst 1, 1) := by decide +kernel
theorem dX2_tellEntry_136 : decode cX2_tellEntry 136 = .ok (.goto 4, 3) := by decide +kernel
theorem dX2_tellEntry_139 : decode cX2_tellEntry 139 = .ok (.iconst 0, 1) := by decide +kernel
theorem dX2_tellEntry_140 : decode cX2_tellEntry 140 = .ok (.ireturn, 1) := by decide +kernel
theorem dX2_tellEntry_141 : decode cX2_tellEntry 141 = .ok (.bipush (-2), 2) := by decide +kernel
theorem dX2_tellEntry_143 : decode cX2_tellEntry 143 = .ok (.ireturn, 1) := by decide +kernel
theorem dX2_tellName_0 : decode cX2_tellName 0 = .ok (.iload_n 1, 1) := by decide +kernel
theorem dX2_tellName_1 : decode cX2_tellName 1 = .ok (.ifCond .ge 6, 3) := by decide +kernel
theorem dX2_tellName_4 : decode cX2_tellName 4 = .ok (.bipush (-2), 2) := by decide +kernel
theorem dX2_tellName_6 : decode cX2_tellName 6 = .ok (.ireturn, 1) := by decide +kernel
theorem dX2_tellName_7 : decode cX2_tellName 7 = .ok (.aload_n 0, 1) := by decide +kernel
theorem dX2_tellName_8 : decode cX2_tellName 8 = .ok (.iload_n 1, 1) := by decide +kernel
theorem dX2_tellName_9 : decode cX2_tellName 9 = .ok (.invokevirtual 63, 3) := by decide +kernel
theorem dX2_tellName_12 : decode cX2_tellName 12 = .ok (.ifCond .eq 12, 3) := by decide +kernel
theorem dX2_tellName_15 : decode cX2_tellName 15 = .ok (.aload_n 0, 1) := by decide +kernel
theorem dX2_tellName_16 : decode cX2_tellName 16 = .ok (.getfield 9, 3) := by decide +kernel
theorem dX2_tellName_19 : decode cX2_tellName 19 = .ok (.iload_n 1, 1) := by decide +kernel
theorem dX2_tellName_20 : decode cX2_tellName 20 = .ok (.iaload, 1) := by decide +kernel
theorem dX2_tellName_21 : decode cX2_tellName 21 = .ok (.goto 5, 3) := by decide +kernel
theorem dX2_tellName_24 : decode cX2_tellName 24 = .ok (.bipush (-5), 2) := by decide +kernel
theorem dX2_tellName_26 : decode cX2_tellName 26 = .ok (.ireturn, 1) := by decide +kernel
theorem dX2_tellBlock_0 : decode cX2_tellBlock 0 = .ok (.iload_n 1, 1) := by decide +kernel
theorem dX2_tellBlock_1 : decode cX2_tellBlock 1 = .ok (.ifCond .lt 11, 3) := by decide +kernel
theorem dX2_tellBlock_4 : decode cX2_tellBlock 4 = .ok (.iload_n 1, 1) := by decide +kernel
theorem dX2_tellBlock_5 : decode cX2_tellBlock 5 = .ok (.aload_n 0, 1) := by decide +kernel
theorem dX2_tellBlock_6 : decode cX2_tellBlock 6 = .ok (.getfield 31, 3) := by decide +kernel
theorem dX2_tellBlock_9 : decode cX2_tellBlock 9 = .ok (.if_icmp .lt 5, 3) := by decide +kernel
theorem dX2_tellBlock_12 : decode cX2_tellBlock 12 = .ok (.iconst (-1), 1) := by decide +kernel
theorem dX2_tellBlock_13 : decode cX2_tellBlock 13 = .ok (.ireturn, 1) := by decide +kernel
theorem dX2_tellBlock_14 : decode cX2_tellBlock 14 = .ok (.iload_n 1, 1) := by decide +kernel
theorem dX2_tellBlock_15 : decode cX2_tellBlock 15 = .ok (.iconst 4, 1) := by decide +kernel
theorem dX2_tellBlock_16 : decode cX2_tellBlock 16 = .ok (.imul, 1) := by decide +kernel
theorem dX2_tellBlock_17 : decode cX2_tellBlock 17 = .ok (.istore_n 3, 1) := by decide +kernel
theorem dX2_tellBlock_18 : decode cX2_tellBlock 18 = .ok (.iconst 0, 1) := by decide +kernel
theorem dX2_tellBlock_19 : decode cX2_tellBlock 19 = .ok (.iconst 4, 1) := by decide +kernel
theorem dX2_tellBlock_20 : decode cX2_tellBlock 20 = .ok (.aload_n 0, 1) := by decide +kernel
theorem dX2_tellBlock_21 : decode cX2_tellBlock 21 = .ok (.getfield 27, 3) := by decide +kernel
theorem dX2_tellBlock_24 : decode cX2_tellBlock 24 = .ok (.iload_n 3, 1) := by decide +kernel
theorem dX2_tellBlock_25 : decode cX2_tellBlock 25 = .ok (.isub, 1) := by decide +kernel
theorem dX2_tellBlock_26 : decode cX2_tellBlock 26 = .ok (.invokestatic 108, 3) := by decide +kernel
theorem dX2_tellBlock_29 : decode cX2_tellBlock 29 = .ok (.invokestatic 114, 3) := by decide +kernel
theorem dX2_tellBlock_32 : decode cX2_tellBlock 32 = .ok (.istore 4, 2) := by decide +kernel
theorem dX2_tellBlock_34 : decode cX2_tellBlock 34 = .ok (.iload_n 2, 1) := by decide +kernel
theorem dX2_tellBlock_35 : decode cX2_tellBlock 35 = .ok (.tableswitch 55 0 2 #[25, 28, 34], 25) := by decide +kernel
theorem dX2_tellBlock_60 : decode cX2_tellBlock 60 = .ok (.iload 4, 2) := by decide +kernel
theorem dX2_tellBlock_62 : decode cX2_tellBlock 62 = .ok (.ireturn, 1) := by decide +kernel
theorem dX2_tellBlock_63 : decode cX2_tellBlock 63 = .ok (.aload_n 0, 1) := by decide +kernel
theorem dX2_tellBlock_64 : decode cX2_tellBlock 64 = .ok (.iload_n 3, 1) := by decide +kernel
theorem dX2_tellBlock_65 : decode cX2_tellBlock 65 = .ok (.invokevirtual 117, 3) := by decide +kernel
theorem dX2_tellBlock_68 : decode cX2_tellBlock 68 = .ok (.ireturn, 1) := by decide +kernel
theorem dX2_tellBlock_69 : decode cX2_tellBlock 69 = .ok (.iload 4, 2) := by decide +kernel
theorem dX2_tellBlock_71 : decode cX2_tellBlock 71 = .ok (.ifCond .ne 8, 3) := by decide +kernel
theorem dX2_tellBlock_74 : decode cX2_tellBlock 74 = .ok (.bipush (-5), 2) := by decide +kernel
theorem dX2_tellBlock_76 : decode cX2_tellBlock 76 = .ok (.goto 13, 3) := by decide +kernel
theorem dX2_tellBlock_79 : decode cX2_tellBlock 79 = .ok (.aload_n 0, 1) := by decide +kernel
theorem dX2_tellBlock_80 : decode cX2_tellBlock 80 = .ok (.iload_n 3, 1) := by decide +kernel
theorem dX2_tellBlock_81 : decode cX2_tellBlock 81 = .ok (.iload 4, 2) := by decide +kernel
theorem dX2_tellBlock_83 : decode cX2_tellBlock 83 = .ok (.iadd, 1) := by decide +kernel
theorem dX2_tellBlock_84 : decode cX2_tellBlock 84 = .ok (.iconst 1, 1) := by decide +kernel
theorem dX2_tellBlock_85 : decode cX2_tellBlock 85 = .ok (.isub, 1) := by decide +kernel
theorem dX2_tellBlock_86 : decode cX2_tellBlock 86 = .ok (.invokevirtual 117, 3) := by decide +kernel
theorem dX2_tellBlock_89 : decode cX2_tellBlock 89 = .ok (.ireturn, 1) := by decide +kernel
theorem dX2_tellBlock_90 : decode cX2_tellBlock 90 = .ok (.bipush (-2), 2) := by decide +kernel
theorem dX2_tellBlock_92 : decode cX2_tellBlock 92 = .ok (.ireturn, 1) := by decide +kernel
theorem dX2_tellUnit_0 : decode cX2_tellUnit 0 = .ok (.iload_n 1, 1) := by decide +kernel
theorem dX2_tellUnit_1 : decode cX2_tellUnit 1 = .ok (.ifCond .lt 9, 3) := by decide +kernel
theorem dX2_tellUnit_4 : decode cX2_tellUnit 4 = .ok (.iload_n 1, 1) := by decide +kernel
theorem dX2_tellUnit_5 : decode cX2_tellUnit 5 = .ok (.bipush 100, 2) := by decide +kernel
theorem dX2_tellUnit_7 : decode cX2_tellUnit 7 = .ok (.if_icmp .lt 5, 3) := by decide +kernel
theorem dX2_tellUnit_10 : decode cX2_tellUnit 10 = .ok (.iconst (-1), 1) := by decide +kernel
theorem dX2_tellUnit_11 : decode cX2_tellUnit 11 = .ok (.ireturn, 1) := by decide +kernel
theorem dX2_tellUnit_12 : decode cX2_tellUnit 12 = .ok (.iload_n 1, 1) := by decide +kernel
theorem dX2_tellUnit_13 : decode cX2_tellUnit 13 = .ok (.aload_n 0, 1) := by decide +kernel
theorem dX2_tellUnit_14 : decode cX2_tellUnit 14 = .ok (.getfield 34, 3) := by decide +kernel
theorem dX2_tellUnit_17 : decode cX2_tellUnit 17 = .ok (.if_icmp .lt 6, 3) := by decide +kernel
theorem dX2_tellUnit_20 : decode cX2_tellUnit 20 = .ok (.bipush (-5), 2) := by decide +kernel
theorem dX2_tellUnit_22 : decode cX2_tellUnit 22 = .ok (.ireturn, 1) := by decide +kernel
theorem dX2_tellUnit_23 : decode cX2_tellUnit 23 = .ok (.iconst 0, 1) := by decide +kernel
theorem dX2_tellUnit_24 : decode cX2_tellUnit 24 = .ok (.istore_n 2, 1) := by decide +kernel
theorem dX2_tellUnit_25 : decode cX2_tellUnit 25 = .ok (.iload_n 2, 1) := by decide +kernel
theorem dX2_tellUnit_26 : decode cX2_tellUnit 26 = .ok (.aload_n 0, 1) := by decide +kernel
theorem dX2_tellUnit_27 : decode cX2_tellUnit 27 = .ok (.getfield 27, 3) := by decide +kernel
theorem dX2_tellUnit_30 : decode cX2_tellUnit 30 = .ok (.if_icmp .ge 43, 3) := by decide +kernel
theorem dX2_tellUnit_33 : decode cX2_tellUnit 33 = .ok (.iload_n 1, 1) := by decide +kernel
theorem dX2_tellUnit_34 : decode cX2_tellUnit 34 = .ok (.aload_n 0, 1) := by decide +kernel
theorem dX2_tellUnit_35 : decode cX2_tellUnit 35 = .ok (.getfield 18, 3) := by decide +kernel
theorem dX2_tellUnit_38 : decode cX2_tellUnit 38 = .ok (.iload_n 2, 1) := by decide +kernel
theorem dX2_tellUnit_39 : decode cX2_tellUnit 39 = .ok (.iaload, 1) := by decide +kernel
theorem dX2_tellUnit_40 : decode cX2_tellUnit 40 = .ok (.if_icmp .lt 27, 3) := by decide +kernel
theorem dX2_tellUnit_43 : decode cX2_tellUnit 43 = .ok (.iload_n 1, 1) := by decide +kernel
theorem dX2_tellUnit_44 : decode cX2_tellUnit 44 = .ok (.aload_n 0, 1) := by decide +kernel
theorem dX2_tellUnit_45 : decode cX2_tellUnit 45 = .ok (.getfield 18, 3) := by decide +kernel
theorem dX2_tellUnit_48 : decode cX2_tellUnit 48 = .ok (.iload_n 2, 1) := by decide +kernel
theorem dX2_tellUnit_49 : decode cX2_tellUnit 49 = .ok (.iaload, 1) := by decide +kernel
theorem dX2_tellUnit_50 : decode cX2_tellUnit 50 = .ok (.aload_n 0, 1) := by decide +kernel
theorem dX2_tellUnit_51 : decode cX2_tellUnit 51 = .ok (.getfield 21, 3) := by decide +kernel
theorem dX2_tellUnit_54 : decode cX2_tellUnit 54 = .ok (.iload_n 2, 1) := by decide +kernel
theorem dX2_tellUnit_55 : decode cX2_tellUnit 55 = .ok (.iaload, 1) := by decide +kernel
theorem dX2_tellUnit_56 : decode cX2_tellUnit 56 = .ok (.iadd, 1) := by decide +kernel
theorem dX2_tellUnit_57 : decode cX2_tellUnit 57 = .ok (.if_icmp .ge 10, 3) := by decide +kernel
theorem dX2_tellUnit_60 : decode cX2_tellUnit 60 = .ok (.aload_n 0, 1) := by decide +kernel
theorem dX2_tellUnit_61 : decode cX2_tellUnit 61 = .ok (.getfield 9, 3) := by decide +kernel
theorem dX2_tellUnit_64 : decode cX2_tellUnit 64 = .ok (.iload_n 2, 1) := by decide +kernel
theorem dX2_tellUnit_65 : decode cX2_tellUnit 65 = .ok (.iaload, 1) := by decide +kernel
theorem dX2_tellUnit_66 : decode cX2_tellUnit 66 = .ok (.ireturn, 1) := by decide +kernel
theorem dX2_tellUnit_67 : decode cX2_tellUnit 67 = .ok (.iinc 2 1, 3) := by decide +kernel
theorem dX2_tellUnit_70 : decode cX2_tellUnit 70 = .ok (.goto (-45), 3) := by decide +kernel
theorem dX2_tellUnit_73 : decode cX2_tellUnit 73 = .ok (.sipush 1000, 3) := by decide +kernel
theorem dX2_tellUnit_76 : decode cX2_tellUnit 76 = .ok (.ireturn, 1) := by decide +kernel
theorem dX2_tellFit_0 : decode cX2_tellFit 0 = .ok (.iload_n 1, 1) := by decide +kernel
theorem dX2_tellFit_1 : decode cX2_tellFit 1 = .ok (.invokestatic 53, 3) := by decide +kernel
theorem dX2_tellFit_4 : decode cX2_tellFit 4 = .ok (.ifCond .ne 6, 3) := by decide +kernel
theorem dX2_tellFit_7 : decode cX2_tellFit 7 = .ok (.bipush (-2), 2) := by decide +kernel
theorem dX2_tellFit_9 : decode cX2_tellFit 9 = .ok (.ireturn, 1) := by decide +kernel
theorem dX2_tellFit_10 : decode cX2_tellFit 10 = .ok (.aload_n 0, 1) := by decide +kernel
theorem dX2_tellFit_11 : decode cX2_tellFit 11 = .ok (.iload_n 1, 1) := by decide +kernel
theorem dX2_tellFit_12 : decode cX2_tellFit 12 = .ok (.invokevirtual 70, 3) := by decide +kernel
theorem dX2_tellFit_15 : decode cX2_tellFit 15 = .ok (.ifCond .eq 5, 3) := by decide +kernel
theorem dX2_tellFit_18 : decode cX2_tellFit 18 = .ok (.iconst 0, 1) := by decide +kernel
theorem dX2_tellFit_19 : decode cX2_tellFit 19 = .ok (.ireturn, 1) := by decide +kernel
theorem dX2_tellFit_20 : decode cX2_tellFit 20 = .ok (.aload_n 0, 1) := by decide +kernel
theorem dX2_tellFit_21 : decode cX2_tellFit 21 = .ok (.invokevirtual 120, 3) := by decide +kernel
theorem dX2_tellFit_24 : decode cX2_tellFit 24 = .ok (.iload_n 1, 1) := by decide +kernel
end
section
theorem dX2_tellFit_25 : decode cX2_tellFit 25 = .ok (.iadd, 1) := by decide +kernel
theorem dX2_tellFit_26 : decode cX2_tellFit 26 = .ok (.bipush 100, 2) := by decide +kernel
theorem dX2_tellFit_28 : decode cX2_tellFit 28 = .ok (.if_icmp .gt 7, 3) := by decide +kernel
theorem dX2_tellFit_31 : decode cX2_tellFit 31 = .ok (.iconst 1, 1) := by decide +kernel
theorem dX2_tellFit_32 : decode cX2_tellFit 32 = .ok (.goto 4, 3) := by decide +kernel
theorem dX2_tellFit_35 : decode cX2_tellFit 35 = .ok (.iconst 2, 1) := by decide +kernel
theorem dX2_tellFit_36 : decode cX2_tellFit 36 = .ok (.ireturn, 1) := by decide +kernel
theorem dX2_tellBeginning_0 : decode cX2_tellBeginning 0 = .ok (.iload_n 1, 1) := by decide +kernel
theorem dX2_tellBeginning_1 : decode cX2_tellBeginning 1 = .ok (.ifCond .lt 13, 3) := by decide +kernel
theorem dX2_tellBeginning_4 : decode cX2_tellBeginning 4 = .ok (.iload_n 1, 1) := by decide +kernel
theorem dX2_tellBeginning_5 : decode cX2_tellBeginning 5 = .ok (.bipush 26, 2) := by decide +kernel
theorem dX2_tellBeginning_7 : decode cX2_tellBeginning 7 = .ok (.if_icmp .ge 7, 3) := by decide +kernel
theorem dX2_tellBeginning_10 : decode cX2_tellBeginning 10 = .ok (.iload_n 2, 1) := by decide +kernel
theorem dX2_tellBeginning_11 : decode cX2_tellBeginning 11 = .ok (.ifCond .ge 6, 3) := by decide +kernel
theorem dX2_tellBeginning_14 : decode cX2_tellBeginning 14 = .ok (.bipush (-2), 2) := by decide +kernel
theorem dX2_tellBeginning_16 : decode cX2_tellBeginning 16 = .ok (.ireturn, 1) := by decide +kernel
theorem dX2_tellBeginning_17 : decode cX2_tellBeginning 17 = .ok (.aload_n 0, 1) := by decide +kernel
theorem dX2_tellBeginning_18 : decode cX2_tellBeginning 18 = .ok (.iload_n 1, 1) := by decide +kernel
theorem dX2_tellBeginning_19 : decode cX2_tellBeginning 19 = .ok (.bipush 26, 2) := by decide +kernel
theorem dX2_tellBeginning_21 : decode cX2_tellBeginning 21 = .ok (.imul, 1) := by decide +kernel
theorem dX2_tellBeginning_22 : decode cX2_tellBeginning 22 = .ok (.invokevirtual 123, 3) := by decide +kernel
theorem dX2_tellBeginning_25 : decode cX2_tellBeginning 25 = .ok (.istore_n 3, 1) := by decide +kernel
theorem dX2_tellBeginning_26 : decode cX2_tellBeginning 26 = .ok (.aload_n 0, 1) := by decide +kernel
theorem dX2_tellBeginning_27 : decode cX2_tellBeginning 27 = .ok (.iload_n 1, 1) := by decide +kernel
theorem dX2_tellBeginning_28 : decode cX2_tellBeginning 28 = .ok (.iconst 1, 1) := by decide +kernel
theorem dX2_tellBeginning_29 : decode cX2_tellBeginning 29 = .ok (.iadd, 1) := by decide +kernel
theorem dX2_tellBeginning_30 : decode cX2_tellBeginning 30 = .ok (.bipush 26, 2) := by decide +kernel
theorem dX2_tellBeginning_32 : decode cX2_tellBeginning 32 = .ok (.imul, 1) := by decide +kernel
theorem dX2_tellBeginning_33 : decode cX2_tellBeginning 33 = .ok (.invokevirtual 123, 3) := by decide +kernel
theorem dX2_tellBeginning_36 : decode cX2_tellBeginning 36 = .ok (.iload_n 3, 1) := by decide +kernel
theorem dX2_tellBeginning_37 : decode cX2_tellBeginning 37 = .ok (.isub, 1) := by decide +kernel
theorem dX2_tellBeginning_38 : decode cX2_tellBeginning 38 = .ok (.istore 4, 2) := by decide +kernel
theorem dX2_tellBeginning_40 : decode cX2_tellBeginning 40 = .ok (.iload_n 2, 1) := by decide +kernel
theorem dX2_tellBeginning_41 : decode cX2_tellBeginning 41 = .ok (.iload 4, 2) := by decide +kernel
theorem dX2_tellBeginning_43 : decode cX2_tellBeginning 43 = .ok (.if_icmp .ge 13, 3) := by decide +kernel
theorem dX2_tellBeginning_46 : decode cX2_tellBeginning 46 = .ok (.aload_n 0, 1) := by decide +kernel
theorem dX2_tellBeginning_47 : decode cX2_tellBeginning 47 = .ok (.iload_n 3, 1) := by decide +kernel
theorem dX2_tellBeginning_48 : decode cX2_tellBeginning 48 = .ok (.iload_n 2, 1) := by decide +kernel
theorem dX2_tellBeginning_49 : decode cX2_tellBeginning 49 = .ok (.iadd, 1) := by decide +kernel
theorem dX2_tellBeginning_50 : decode cX2_tellBeginning 50 = .ok (.invokevirtual 117, 3) := by decide +kernel
theorem dX2_tellBeginning_53 : decode cX2_tellBeginning 53 = .ok (.goto 5, 3) := by decide +kernel
theorem dX2_tellBeginning_56 : decode cX2_tellBeginning 56 = .ok (.bipush (-5), 2) := by decide +kernel
theorem dX2_tellBeginning_58 : decode cX2_tellBeginning 58 = .ok (.ireturn, 1) := by decide +kernel
theorem dX2_tellCount_0 : decode cX2_tellCount 0 = .ok (.iload_n 1, 1) := by decide +kernel
theorem dX2_tellCount_1 : decode cX2_tellCount 1 = .ok (.tableswitch 147 0 12 #[67, 72, 82, 87, 92, 97, 109, 114, 119, 124, 132, 137, 142], 67) := by decide +kernel
theorem dX2_tellCount_68 : decode cX2_tellCount 68 = .ok (.aload_n 0, 1) := by decide +kernel
theorem dX2_tellCount_69 : decode cX2_tellCount 69 = .ok (.getfield 27, 3) := by decide +kernel
theorem dX2_tellCount_72 : decode cX2_tellCount 72 = .ok (.ireturn, 1) := by decide +kernel
theorem dX2_tellCount_73 : decode cX2_tellCount 73 = .ok (.aload_n 0, 1) := by decide +kernel
theorem dX2_tellCount_74 : decode cX2_tellCount 74 = .ok (.getfield 27, 3) := by decide +kernel
theorem dX2_tellCount_77 : decode cX2_tellCount 77 = .ok (.aload_n 0, 1) := by decide +kernel
theorem dX2_tellCount_78 : decode cX2_tellCount 78 = .ok (.invokevirtual 126, 3) := by decide +kernel
theorem dX2_tellCount_81 : decode cX2_tellCount 81 = .ok (.isub, 1) := by decide +kernel
theorem dX2_tellCount_82 : decode cX2_tellCount 82 = .ok (.ireturn, 1) := by decide +kernel
theorem dX2_tellCount_83 : decode cX2_tellCount 83 = .ok (.aload_n 0, 1) := by decide +kernel
theorem dX2_tellCount_84 : decode cX2_tellCount 84 = .ok (.invokevirtual 126, 3) := by decide +kernel
theorem dX2_tellCount_87 : decode cX2_tellCount 87 = .ok (.ireturn, 1) := by decide +kernel
theorem dX2_tellCount_88 : decode cX2_tellCount 88 = .ok (.aload_n 0, 1) := by decide +kernel
theorem dX2_tellCount_89 : decode cX2_tellCount 89 = .ok (.invokevirtual 129, 3) := by decide +kernel
theorem dX2_tellCount_92 : decode cX2_tellCount 92 = .ok (.ireturn, 1) := by decide +kernel
theorem dX2_tellCount_93 : decode cX2_tellCount 93 = .ok (.aload_n 0, 1) := by decide +kernel
theorem dX2_tellCount_94 : decode cX2_tellCount 94 = .ok (.getfield 31, 3) := by decide +kernel
theorem dX2_tellCount_97 : decode cX2_tellCount 97 = .ok (.ireturn, 1) := by decide +kernel
theorem dX2_tellCount_98 : decode cX2_tellCount 98 = .ok (.aload_n 0, 1) := by decide +kernel
theorem dX2_tellCount_99 : decode cX2_tellCount 99 = .ok (.getfield 31, 3) := by decide +kernel
theorem dX2_tellCount_102 : decode cX2_tellCount 102 = .ok (.iconst 4, 1) := by decide +kernel
theorem dX2_tellCount_103 : decode cX2_tellCount 103 = .ok (.imul, 1) := by decide +kernel
theorem dX2_tellCount_104 : decode cX2_tellCount 104 = .ok (.aload_n 0, 1) := by decide +kernel
theorem dX2_tellCount_105 : decode cX2_tellCount 105 = .ok (.getfield 27, 3) := by decide +kernel
theorem dX2_tellCount_108 : decode cX2_tellCount 108 = .ok (.isub, 1) := by decide +kernel
theorem dX2_tellCount_109 : decode cX2_tellCount 109 = .ok (.ireturn, 1) := by decide +kernel
theorem dX2_tellCount_110 : decode cX2_tellCount 110 = .ok (.aload_n 0, 1) := by decide +kernel
theorem dX2_tellCount_111 : decode cX2_tellCount 111 = .ok (.getfield 34, 3) := by decide +kernel
theorem dX2_tellCount_114 : decode cX2_tellCount 114 = .ok (.ireturn, 1) := by decide +kernel
theorem dX2_tellCount_115 : decode cX2_tellCount 115 = .ok (.aload_n 0, 1) := by decide +kernel
theorem dX2_tellCount_116 : decode cX2_tellCount 116 = .ok (.invokevirtual 120, 3) := by decide +kernel
theorem dX2_tellCount_119 : decode cX2_tellCount 119 = .ok (.ireturn, 1) := by decide +kernel
theorem dX2_tellCount_120 : decode cX2_tellCount 120 = .ok (.aload_n 0, 1) := by decide +kernel
theorem dX2_tellCount_121 : decode cX2_tellCount 121 = .ok (.invokevirtual 95, 3) := by decide +kernel
theorem dX2_tellCount_124 : decode cX2_tellCount 124 = .ok (.ireturn, 1) := by decide +kernel
theorem dX2_tellCount_125 : decode cX2_tellCount 125 = .ok (.bipush 100, 2) := by decide +kernel
theorem dX2_tellCount_127 : decode cX2_tellCount 127 = .ok (.aload_n 0, 1) := by decide +kernel
theorem dX2_tellCount_128 : decode cX2_tellCount 128 = .ok (.getfield 34, 3) := by decide +kernel
theorem dX2_tellCount_131 : decode cX2_tellCount 131 = .ok (.isub, 1) := by decide +kernel
theorem dX2_tellCount_132 : decode cX2_tellCount 132 = .ok (.ireturn, 1) := by decide +kernel
theorem dX2_tellCount_133 : decode cX2_tellCount 133 = .ok (.aload_n 0, 1) := by decide +kernel
theorem dX2_tellCount_134 : decode cX2_tellCount 134 = .ok (.invokevirtual 132, 3) := by decide +kernel
theorem dX2_tellCount_137 : decode cX2_tellCount 137 = .ok (.ireturn, 1) := by decide +kernel
theorem dX2_tellCount_138 : decode cX2_tellCount 138 = .ok (.aload_n 0, 1) := by decide +kernel
theorem dX2_tellCount_139 : decode cX2_tellCount 139 = .ok (.getfield 37, 3) := by decide +kernel
theorem dX2_tellCount_142 : decode cX2_tellCount 142 = .ok (.ireturn, 1) := by decide +kernel
theorem dX2_tellCount_143 : decode cX2_tellCount 143 = .ok (.aload_n 0, 1) := by decide +kernel
theorem dX2_tellCount_144 : decode cX2_tellCount 144 = .ok (.getfield 40, 3) := by decide +kernel
theorem dX2_tellCount_147 : decode cX2_tellCount 147 = .ok (.ireturn, 1) := by decide +kernel
theorem dX2_tellCount_148 : decode cX2_tellCount 148 = .ok (.bipush (-2), 2) := by decide +kernel
theorem dX2_tellCount_150 : decode cX2_tellCount 150 = .ok (.ireturn, 1) := by decide +kernel
theorem dX2_isName_0 : decode cX2_isName 0 = .ok (.iload_n 0, 1) := by decide +kernel
theorem dX2_isName_1 : decode cX2_isName 1 = .ok (.ifCond .lt 14, 3) := by decide +kernel
theorem dX2_isName_4 : decode cX2_isName 4 = .ok (.iload_n 0, 1) := by decide +kernel
theorem dX2_isName_5 : decode cX2_isName 5 = .ok (.sipush 676, 3) := by decide +kernel
theorem dX2_isName_8 : decode cX2_isName 8 = .ok (.if_icmp .ge 7, 3) := by decide +kernel
theorem dX2_isName_11 : decode cX2_isName 11 = .ok (.iconst 1, 1) := by decide +kernel
theorem dX2_isName_12 : decode cX2_isName 12 = .ok (.goto 4, 3) := by decide +kernel
theorem dX2_isName_15 : decode cX2_isName 15 = .ok (.iconst 0, 1) := by decide +kernel
theorem dX2_isName_16 : decode cX2_isName 16 = .ok (.ireturn, 1) := by decide +kernel
theorem dX2_isLength_0 : decode cX2_isLength 0 = .ok (.iload_n 0, 1) := by decide +kernel
theorem dX2_isLength_1 : decode cX2_isLength 1 = .ok (.iconst 1, 1) := by decide +kernel
theorem dX2_isLength_2 : decode cX2_isLength 2 = .ok (.if_icmp .lt 13, 3) := by decide +kernel
theorem dX2_isLength_5 : decode cX2_isLength 5 = .ok (.iload_n 0, 1) := by decide +kernel
theorem dX2_isLength_6 : decode cX2_isLength 6 = .ok (.bipush 40, 2) := by decide +kernel
theorem dX2_isLength_8 : decode cX2_isLength 8 = .ok (.if_icmp .gt 7, 3) := by decide +kernel
theorem dX2_isLength_11 : decode cX2_isLength 11 = .ok (.iconst 1, 1) := by decide +kernel
theorem dX2_isLength_12 : decode cX2_isLength 12 = .ok (.goto 4, 3) := by decide +kernel
theorem dX2_isLength_15 : decode cX2_isLength 15 = .ok (.iconst 0, 1) := by decide +kernel
theorem dX2_isLength_16 : decode cX2_isLength 16 = .ok (.ireturn, 1) := by decide +kernel
theorem dX2_isMark_0 : decode cX2_isMark 0 = .ok (.iload_n 0, 1) := by decide +kernel
theorem dX2_isMark_1 : decode cX2_isMark 1 = .ok (.ifCond .lt 14, 3) := by decide +kernel
theorem dX2_isMark_4 : decode cX2_isMark 4 = .ok (.iload_n 0, 1) := by decide +kernel
theorem dX2_isMark_5 : decode cX2_isMark 5 = .ok (.sipush 9999, 3) := by decide +kernel
theorem dX2_isMark_8 : decode cX2_isMark 8 = .ok (.if_icmp .gt 7, 3) := by decide +kernel
theorem dX2_isMark_11 : decode cX2_isMark 11 = .ok (.iconst 1, 1) := by decide +kernel
theorem dX2_isMark_12 : decode cX2_isMark 12 = .ok (.goto 4, 3) := by decide +kernel
theorem dX2_isMark_15 : decode cX2_isMark 15 = .ok (.iconst 0, 1) := by decide +kernel
theorem dX2_isMark_16 : decode cX2_isMark 16 = .ok (.ireturn, 1) := by decide +kernel
theorem dX2_isRank_0 : decode cX2_isRank 0 = .ok (.iload_n 1, 1) := by decide +kernel
theorem dX2_isRank_1 : decode cX2_isRank 1 = .ok (.ifCond .lt 15, 3) := by decide +kernel
theorem dX2_isRank_4 : decode cX2_isRank 4 = .ok (.iload_n 1, 1) := by decide +kernel
theorem dX2_isRank_5 : decode cX2_isRank 5 = .ok (.aload_n 0, 1) := by decide +kernel
theorem dX2_isRank_6 : decode cX2_isRank 6 = .ok (.getfield 27, 3) := by decide +kernel
theorem dX2_isRank_9 : decode cX2_isRank 9 = .ok (.if_icmp .ge 7, 3) := by decide +kernel
theorem dX2_isRank_12 : decode cX2_isRank 12 = .ok (.iconst 1, 1) := by decide +kernel
theorem dX2_isRank_13 : decode cX2_isRank 13 = .ok (.goto 4, 3) := by decide +kernel
theorem dX2_isRank_16 : decode cX2_isRank 16 = .ok (.iconst 0, 1) := by decide +kernel
theorem dX2_isRank_17 : decode cX2_isRank 17 = .ok (.ireturn, 1) := by decide +kernel
theorem dX2_isMember_0 : decode cX2_isMember 0 = .ok (.aload_n 0, 1) := by decide +kernel
theorem dX2_isMember_1 : decode cX2_isMember 1 = .ok (.iload_n 1, 1) := by decide +kernel
theorem dX2_isMember_2 : decode cX2_isMember 2 = .ok (.invokevirtual 63, 3) := by decide +kernel
theorem dX2_isMember_5 : decode cX2_isMember 5 = .ok (.ifCond .eq 18, 3) := by decide +kernel
theorem dX2_isMember_8 : decode cX2_isMember 8 = .ok (.aload_n 0, 1) := by decide +kernel
theorem dX2_isMember_9 : decode cX2_isMember 9 = .ok (.getfield 15, 3) := by decide +kernel
theorem dX2_isMember_12 : decode cX2_isMember 12 = .ok (.iload_n 1, 1) := by decide +kernel
theorem dX2_isMember_13 : decode cX2_isMember 13 = .ok (.iaload, 1) := by decide +kernel
theorem dX2_isMember_14 : decode cX2_isMember 14 = .ok (.bipush (-5), 2) := by decide +kernel
theorem dX2_isMember_16 : decode cX2_isMember 16 = .ok (.if_icmp .ne 7, 3) := by decide +kernel
theorem dX2_isMember_19 : decode cX2_isMember 19 = .ok (.iconst 1, 1) := by decide +kernel
theorem dX2_isMember_20 : decode cX2_isMember 20 = .ok (.goto 4, 3) := by decide +kernel
theorem dX2_isMember_23 : decode cX2_isMember 23 = .ok (.iconst 0, 1) := by decide +kernel
theorem dX2_isMember_24 : decode cX2_isMember 24 = .ok (.ireturn, 1) := by decide +kernel
theorem dX2_isLost_0 : decode cX2_isLost 0 = .ok (.aload_n 0, 1) := by decide +kernel
theorem dX2_isLost_1 : decode cX2_isLost 1 = .ok (.iload_n 1, 1) := by decide +kernel
theorem dX2_isLost_2 : decode cX2_isLost 2 = .ok (.invokevirtual 63, 3) := by decide +kernel
theorem dX2_isLost_5 : decode cX2_isLost 5 = .ok (.ifCond .eq 11, 3) := by decide +kernel
theorem dX2_isLost_8 : decode cX2_isLost 8 = .ok (.aload_n 0, 1) := by decide +kernel
theorem dX2_isLost_9 : decode cX2_isLost 9 = .ok (.iload_n 1, 1) := by decide +kernel
theorem dX2_isLost_10 : decode cX2_isLost 10 = .ok (.invokevirtual 80, 3) := by decide +kernel
theorem dX2_isLost_13 : decode cX2_isLost 13 = .ok (.ifCond .eq 5, 3) := by decide +kernel
theorem dX2_isLost_16 : decode cX2_isLost 16 = .ok (.iconst 0, 1) := by decide +kernel
theorem dX2_isLost_17 : decode cX2_isLost 17 = .ok (.ireturn, 1) := by decide +kernel
theorem dX2_isLost_18 : decode cX2_isLost 18 = .ok (.aload_n 0, 1) := by decide +kernel
theorem dX2_isLost_19 : decode cX2_isLost 19 = .ok (.aload_n 0, 1) := by decide +kernel
theorem dX2_isLost_20 : decode cX2_isLost 20 = .ok (.getfield 15, 3) := by decide +kernel
theorem dX2_isLost_23 : decode cX2_isLost 23 = .ok (.iload_n 1, 1) := by decide +kernel
theorem dX2_isLost_24 : decode cX2_isLost 24 = .ok (.iaload, 1) := by decide +kernel
theorem dX2_isLost_25 : decode cX2_isLost 25 = .ok (.invokevirtual 59, 3) := by decide +kernel
theorem dX2_isLost_28 : decode cX2_isLost 28 = .ok (.istore_n 2, 1) := by decide +kernel
theorem dX2_isLost_29 : decode cX2_isLost 29 = .ok (.aload_n 0, 1) := by decide +kernel
theorem dX2_isLost_30 : decode cX2_isLost 30 = .ok (.iload_n 2, 1) := by decide +kernel
theorem dX2_isLost_31 : decode cX2_isLost 31 = .ok (.invokevirtual 80, 3) := by decide +kernel
theorem dX2_isLost_34 : decode cX2_isLost 34 = .ok (.ifCond .eq 18, 3) := by decide +kernel
theorem dX2_isLost_37 : decode cX2_isLost 37 = .ok (.aload_n 0, 1) := by decide +kernel
theorem dX2_isLost_38 : decode cX2_isLost 38 = .ok (.getfield 18, 3) := by decide +kernel
theorem dX2_isLost_41 : decode cX2_isLost 41 = .ok (.iload_n 2, 1) := by decide +kernel
theorem dX2_isLost_42 : decode cX2_isLost 42 = .ok (.iaload, 1) := by decide +kernel
theorem dX2_isLost_43 : decode cX2_isLost 43 = .ok (.aload_n 0, 1) := by decide +kernel
theorem dX2_isLost_44 : decode cX2_isLost 44 = .ok (.getfield 18, 3) := by decide +kernel
theorem dX2_isLost_47 : decode cX2_isLost 47 = .ok (.iload_n 1, 1) := by decide +kernel
theorem dX2_isLost_48 : decode cX2_isLost 48 = .ok (.iaload, 1) := by decide +kernel
theorem dX2_isLost_49 : decode cX2_isLost 49 = .ok (.if_icmp .eq 7, 3) := by decide +kernel
theorem dX2_isLost_52 : decode cX2_isLost 52 = .ok (.iconst 1, 1) := by decide +kernel
theorem dX2_isLost_53 : decode cX2_isLost 53 = .ok (.goto 4, 3) := by decide +kernel
theorem dX2_isLost_56 : decode cX2_isLost 56 = .ok (.iconst 0, 1) := by decide +kernel
theorem dX2_isLost_57 : decode cX2_isLost 57 = .ok (.ireturn, 1) := by decide +kernel
theorem dX2_isFirstOfText_0 : decode cX2_isFirstOfText 0 = .ok (.iconst 0, 1) := by decide +kernel
theorem dX2_isFirstOfText_1 : decode cX2_isFirstOfText 1 = .ok (.istore_n 2, 1) := by decide +kernel
theorem dX2_isFirstOfText_2 : decode cX2_isFirstOfText 2 = .ok (.iload_n 2, 1) := by decide +kernel
theorem dX2_isFirstOfText_3 : decode cX2_isFirstOfText 3 = .ok (.iload_n 1, 1) := by decide +kernel
theorem dX2_isFirstOfText_4 : decode cX2_isFirstOfText 4 = .ok (.if_icmp .ge 34, 3) := by decide +kernel
theorem dX2_isFirstOfText_7 : decode cX2_isFirstOfText 7 = .ok (.iload_n 2, 1) := by decide +kernel
theorem dX2_isFirstOfText_8 : decode cX2_isFirstOfText 8 = .ok (.aload_n 0, 1) := by decide +kernel
theorem dX2_isFirstOfText_9 : decode cX2_isFirstOfText 9 = .ok (.getfield 27, 3) := by decide +kernel
theorem dX2_isFirstOfText_12 : decode cX2_isFirstOfText 12 = .ok (.if_icmp .ge 26, 3) := by decide +kernel
theorem dX2_isFirstOfText_15 : decode cX2_isFirstOfText 15 = .ok (.aload_n 0, 1) := by decide +kernel
theorem dX2_isFirstOfText_16 : decode cX2_isFirstOfText 16 = .ok (.getfield 18, 3) := by decide +kernel
theorem dX2_isFirstOfText_19 : decode cX2_isFirstOfText 19 = .ok (.iload_n 2, 1) := by decide +kernel
theorem dX2_isFirstOfText_20 : decode cX2_isFirstOfText 20 = .ok (.iaload, 1) := by decide +kernel
theorem dX2_isFirstOfText_21 : decode cX2_isFirstOfText 21 = .ok (.aload_n 0, 1) := by decide +kernel
theorem dX2_isFirstOfText_22 : decode cX2_isFirstOfText 22 = .ok (.getfield 18, 3) := by decide +kernel
theorem dX2_isFirstOfText_25 : decode cX2_isFirstOfText 25 = .ok (.iload_n 1, 1) := by decide +kernel
theorem dX2_isFirstOfText_26 : decode cX2_isFirstOfText 26 = .ok (.iaload, 1) := by decide +kernel
theorem dX2_isFirstOfText_27 : decode cX2_isFirstOfText 27 = .ok (.if_icmp .ne 5, 3) := by decide +kernel
theorem dX2_isFirstOfText_30 : decode cX2_isFirstOfText 30 = .ok (.iconst 0, 1) := by decide +kernel
theorem dX2_isFirstOfText_31 : decode cX2_isFirstOfText 31 = .ok (.ireturn, 1) := by decide +kernel
theorem dX2_isFirstOfText_32 : decode cX2_isFirstOfText 32 = .ok (.iinc 2 1, 3) := by decide +kernel
theorem dX2_isFirstOfText_35 : decode cX2_isFirstOfText 35 = .ok (.goto (-33), 3) := by decide +kernel
theorem dX2_isFirstOfText_38 : decode cX2_isFirstOfText 38 = .ok (.iconst 1, 1) := by decide +kernel
theorem dX2_isFirstOfText_39 : decode cX2_isFirstOfText 39 = .ok (.ireturn, 1) := by decide +kernel
theorem dX2_isDirectoryFull_0 : decode cX2_isDirectoryFull 0 = .ok (.aload_n 0, 1) := by decide +kernel
theorem dX2_isDirectoryFull_1 : decode cX2_isDirectoryFull 1 = .ok (.getfield 27, 3) := by decide +kernel
theorem dX2_isDirectoryFull_4 : decode cX2_isDirectoryFull 4 = .ok (.aload_n 0, 1) := by decide +kernel
theorem dX2_isDirectoryFull_5 : decode cX2_isDirectoryFull 5 = .ok (.getfield 31, 3) := by decide +kernel
theorem dX2_isDirectoryFull_8 : decode cX2_isDirectoryFull 8 = .ok (.iconst 4, 1) := by decide +kernel
theorem dX2_isDirectoryFull_9 : decode cX2_isDirectoryFull 9 = .ok (.imul, 1) := by decide +kernel
theorem dX2_isDirectoryFull_10 : decode cX2_isDirectoryFull 10 = .ok (.if_icmp .lt 7, 3) := by decide +kernel
theorem dX2_isDirectoryFull_13 : decode cX2_isDirectoryFull 13 = .ok (.iconst 1, 1) := by decide +kernel
theorem dX2_isDirectoryFull_14 : decode cX2_isDirectoryFull 14 = .ok (.goto 4, 3) := by decide +kernel
theorem dX2_isDirectoryFull_17 : decode cX2_isDirectoryFull 17 = .ok (.iconst 0, 1) := by decide +kernel
theorem dX2_isDirectoryFull_18 : decode cX2_isDirectoryFull 18 = .ok (.ireturn, 1) := by decide +kernel
theorem dX2_hasRoom_0 : decode cX2_hasRoom 0 = .ok (.aload_n 0, 1) := by decide +kernel
theorem dX2_hasRoom_1 : decode cX2_hasRoom 1 = .ok (.getfield 34, 3) := by decide +kernel
theorem dX2_hasRoom_4 : decode cX2_hasRoom 4 = .ok (.iload_n 1, 1) := by decide +kernel
theorem dX2_hasRoom_5 : decode cX2_hasRoom 5 = .ok (.iadd, 1) := by decide +kernel
theorem dX2_hasRoom_6 : decode cX2_hasRoom 6 = .ok (.bipush 100, 2) := by decide +kernel
theorem dX2_hasRoom_8 : decode cX2_hasRoom 8 = .ok (.if_icmp .gt 7, 3) := by decide +kernel
theorem dX2_hasRoom_11 : decode cX2_hasRoom 11 = .ok (.iconst 1, 1) := by decide +kernel
theorem dX2_hasRoom_12 : decode cX2_hasRoom 12 = .ok (.goto 4, 3) := by decide +kernel
theorem dX2_hasRoom_15 : decode cX2_hasRoom 15 = .ok (.iconst 0, 1) := by decide +kernel
theorem dX2_hasRoom_16 : decode cX2_hasRoom 16 = .ok (.ireturn, 1) := by decide +kernel
theorem dX2_rankOf_0 : decode cX2_rankOf 0 = .ok (.iconst 0, 1) := by decide +kernel
theorem dX2_rankOf_1 : decode cX2_rankOf 1 = .ok (.istore_n 2, 1) := by decide +kernel
theorem dX2_rankOf_2 : decode cX2_rankOf 2 = .ok (.iload_n 2, 1) := by decide +kernel
theorem dX2_rankOf_3 : decode cX2_rankOf 3 = .ok (.aload_n 0, 1) := by decide +kernel
theorem dX2_rankOf_4 : decode cX2_rankOf 4 = .ok (.getfield 27, 3) := by decide +kernel
theorem dX2_rankOf_7 : decode cX2_rankOf 7 = .ok (.if_icmp .ge 21, 3) := by decide +kernel
theorem dX2_rankOf_10 : decode cX2_rankOf 10 = .ok (.aload_n 0, 1) := by decide +kernel
theorem dX2_rankOf_11 : decode cX2_rankOf 11 = .ok (.getfield 9, 3) := by decide +kernel
theorem dX2_rankOf_14 : decode cX2_rankOf 14 = .ok (.iload_n 2, 1) := by decide +kernel
theorem dX2_rankOf_15 : decode cX2_rankOf 15 = .ok (.iaload, 1) := by decide +kernel
theorem dX2_rankOf_16 : decode cX2_rankOf 16 = .ok (.iload_n 1, 1) := by decide +kernel
theorem dX2_rankOf_17 : decode cX2_rankOf 17 = .ok (.if_icmp .ne 5, 3) := by decide +kernel
theorem dX2_rankOf_20 : decode cX2_rankOf 20 = .ok (.iload_n 2, 1) := by decide +kernel
theorem dX2_rankOf_21 : decode cX2_rankOf 21 = .ok (.ireturn, 1) := by decide +kernel
theorem dX2_rankOf_22 : decode cX2_rankOf 22 = .ok (.iinc 2 1, 3) := by decide +kernel
theorem dX2_rankOf_25 : decode cX2_rankOf 25 = .ok (.goto (-23), 3) := by decide +kernel
theorem dX2_rankOf_28 : decode cX2_rankOf 28 = .ok (.iconst (-1), 1) := by decide +kernel
theorem dX2_rankOf_29 : decode cX2_rankOf 29 = .ok (.ireturn, 1) := by decide +kernel
theorem dX2_namesBelow_0 : decode cX2_namesBelow 0 = .ok (.iconst 0, 1) := by decide +kernel
theorem dX2_namesBelow_1 : decode cX2_namesBelow 1 = .ok (.istore_n 2, 1) := by decide +kernel
theorem dX2_namesBelow_2 : decode cX2_namesBelow 2 = .ok (.iconst 0, 1) := by decide +kernel
theorem dX2_namesBelow_3 : decode cX2_namesBelow 3 = .ok (.istore_n 3, 1) := by decide +kernel
theorem dX2_namesBelow_4 : decode cX2_namesBelow 4 = .ok (.iload_n 3, 1) := by decide +kernel
theorem dX2_namesBelow_5 : decode cX2_namesBelow 5 = .ok (.aload_n 0, 1) := by decide +kernel
theorem dX2_namesBelow_6 : decode cX2_namesBelow 6 = .ok (.getfield 27, 3) := by decide +kernel
theorem dX2_namesBelow_9 : decode cX2_namesBelow 9 = .ok (.if_icmp .ge 22, 3) := by decide +kernel
theorem dX2_namesBelow_12 : decode cX2_namesBelow 12 = .ok (.aload_n 0, 1) := by decide +kernel
theorem dX2_namesBelow_13 : decode cX2_namesBelow 13 = .ok (.getfield 9, 3) := by decide +kernel
theorem dX2_namesBelow_16 : decode cX2_namesBelow 16 = .ok (.iload_n 3, 1) := by decide +kernel
theorem dX2_namesBelow_17 : decode cX2_namesBelow 17 = .ok (.iaload, 1) := by decide +kernel
theorem dX2_namesBelow_18 : decode cX2_namesBelow 18 = .ok (.iload_n 1, 1) := by decide +kernel
theorem dX2_namesBelow_19 : decode cX2_namesBelow 19 = .ok (.if_icmp .ge 6, 3) := by decide +kernel
theorem dX2_namesBelow_22 : decode cX2_namesBelow 22 = .ok (.iinc 2 1, 3) := by decide +kernel
theorem dX2_namesBelow_25 : decode cX2_namesBelow 25 = .ok (.iinc 3 1, 3) := by decide +kernel
theorem dX2_namesBelow_28 : decode cX2_namesBelow 28 = .ok (.goto (-24), 3) := by decide +kernel
theorem dX2_namesBelow_31 : decode cX2_namesBelow 31 = .ok (.iload_n 2, 1) := by decide +kernel
theorem dX2_namesBelow_32 : decode cX2_namesBelow 32 = .ok (.ireturn, 1) := by decide +kernel
theorem dX2_aliases_0 : decode cX2_aliases 0 = .ok (.iconst 0, 1) := by decide +kernel
theorem dX2_aliases_1 : decode cX2_aliases 1 = .ok (.istore_n 1, 1) := by decide +kernel
theorem dX2_aliases_2 : decode cX2_aliases 2 = .ok (.iconst 0, 1) := by decide +kernel
theorem dX2_aliases_3 : decode cX2_aliases 3 = .ok (.istore_n 2, 1) := by decide +kernel
theorem dX2_aliases_4 : decode cX2_aliases 4 = .ok (.iload_n 2, 1) := by decide +kernel
theorem dX2_aliases_5 : decode cX2_aliases 5 = .ok (.aload_n 0, 1) := by decide +kernel
theorem dX2_aliases_6 : decode cX2_aliases 6 = .ok (.getfield 27, 3) := by decide +kernel
theorem dX2_aliases_9 : decode cX2_aliases 9 = .ok (.if_icmp .ge 20, 3) := by decide +kernel
theorem dX2_aliases_12 : decode cX2_aliases 12 = .ok (.aload_n 0, 1) := by decide +kernel
theorem dX2_aliases_13 : decode cX2_aliases 13 = .ok (.iload_n 2, 1) := by decide +kernel
theorem dX2_aliases_14 : decode cX2_aliases 14 = .ok (.invokevirtual 80, 3) := by decide +kernel
theorem dX2_aliases_17 : decode cX2_aliases 17 = .ok (.ifCond .ne 6, 3) := by decide +kernel
theorem dX2_aliases_20 : decode cX2_aliases 20 = .ok (.iinc 1 1, 3) := by decide +kernel
theorem dX2_aliases_23 : decode cX2_aliases 23 = .ok (.iinc 2 1, 3) := by decide +kernel
theorem dX2_aliases_26 : decode cX2_aliases 26 = .ok (.goto (-22), 3) := by decide +kernel
theorem dX2_aliases_29 : decode cX2_aliases 29 = .ok (.iload_n 1, 1) := by decide +kernel
theorem dX2_aliases_30 : decode cX2_aliases 30 = .ok (.ireturn, 1) := by decide +kernel
theorem dX2_lostAliases_0 : decode cX2_lostAliases 0 = .ok (.iconst 0, 1) := by decide +kernel
theorem dX2_lostAliases_1 : decode cX2_lostAliases 1 = .ok (.istore_n 1, 1) := by decide +kernel
theorem dX2_lostAliases_2 : decode cX2_lostAliases 2 = .ok (.iconst 0, 1) := by decide +kernel
theorem dX2_lostAliases_3 : decode cX2_lostAliases 3 = .ok (.istore_n 2, 1) := by decide +kernel
theorem dX2_lostAliases_4 : decode cX2_lostAliases 4 = .ok (.iload_n 2, 1) := by decide +kernel
theorem dX2_lostAliases_5 : decode cX2_lostAliases 5 = .ok (.aload_n 0, 1) := by decide +kernel
theorem dX2_lostAliases_6 : decode cX2_lostAliases 6 = .ok (.getfield 27, 3) := by decide +kernel
theorem dX2_lostAliases_9 : decode cX2_lostAliases 9 = .ok (.if_icmp .ge 20, 3) := by decide +kernel
theorem dX2_lostAliases_12 : decode cX2_lostAliases 12 = .ok (.aload_n 0, 1) := by decide +kernel
theorem dX2_lostAliases_13 : decode cX2_lostAliases 13 = .ok (.iload_n 2, 1) := by decide +kernel
theorem dX2_lostAliases_14 : decode cX2_lostAliases 14 = .ok (.invokevirtual 105, 3) := by decide +kernel
theorem dX2_lostAliases_17 : decode cX2_lostAliases 17 = .ok (.ifCond .eq 6, 3) := by decide +kernel
theorem dX2_lostAliases_20 : decode cX2_lostAliases 20 = .ok (.iinc 1 1, 3) := by decide +kernel
theorem dX2_lostAliases_23 : decode cX2_lostAliases 23 = .ok (.iinc 2 1, 3) := by decide +kernel
theorem dX2_lostAliases_26 : decode cX2_lostAliases 26 = .ok (.goto (-22), 3) := by decide +kernel
theorem dX2_lostAliases_29 : decode cX2_lostAliases 29 = .ok (.iload_n 1, 1) := by decide +kernel
theorem dX2_lostAliases_30 : decode cX2_lostAliases 30 = .ok (.ireturn, 1) := by decide +kernel
theorem dX2_aliasesOf_0 : decode cX2_aliasesOf 0 = .ok (.iconst 0, 1) := by decide +kernel
theorem dX2_aliasesOf_1 : decode cX2_aliasesOf 1 = .ok (.istore_n 2, 1) := by decide +kernel
theorem dX2_aliasesOf_2 : decode cX2_aliasesOf 2 = .ok (.iconst 0, 1) := by decide +kernel
theorem dX2_aliasesOf_3 : decode cX2_aliasesOf 3 = .ok (.istore_n 3, 1) := by decide +kernel
theorem dX2_aliasesOf_4 : decode cX2_aliasesOf 4 = .ok (.iload_n 3, 1) := by decide +kernel
theorem dX2_aliasesOf_5 : decode cX2_aliasesOf 5 = .ok (.aload_n 0, 1) := by decide +kernel
theorem dX2_aliasesOf_6 : decode cX2_aliasesOf 6 = .ok (.getfield 27, 3) := by decide +kernel
theorem dX2_aliasesOf_9 : decode cX2_aliasesOf 9 = .ok (.if_icmp .ge 30, 3) := by decide +kernel
theorem dX2_aliasesOf_12 : decode cX2_aliasesOf 12 = .ok (.aload_n 0, 1) := by decide +kernel
theorem dX2_aliasesOf_13 : decode cX2_aliasesOf 13 = .ok (.getfield 18, 3) := by decide +kernel
theorem dX2_aliasesOf_16 : decode cX2_aliasesOf 16 = .ok (.iload_n 3, 1) := by decide +kernel
theorem dX2_aliasesOf_17 : decode cX2_aliasesOf 17 = .ok (.iaload, 1) := by decide +kernel
theorem dX2_aliasesOf_18 : decode cX2_aliasesOf 18 = .ok (.iload_n 1, 1) := by decide +kernel
theorem dX2_aliasesOf_19 : decode cX2_aliasesOf 19 = .ok (.if_icmp .ne 14, 3) := by decide +kernel
theorem dX2_aliasesOf_22 : decode cX2_aliasesOf 22 = .ok (.aload_n 0, 1) := by decide +kernel
theorem dX2_aliasesOf_23 : decode cX2_aliasesOf 23 = .ok (.iload_n 3, 1) := by decide +kernel
theorem dX2_aliasesOf_24 : decode cX2_aliasesOf 24 = .ok (.invokevirtual 80, 3) := by decide +kernel
theorem dX2_aliasesOf_27 : decode cX2_aliasesOf 27 = .ok (.ifCond .ne 6, 3) := by decide +kernel
theorem dX2_aliasesOf_30 : decode cX2_aliasesOf 30 = .ok (.iinc 2 1, 3) := by decide +kernel
theorem dX2_aliasesOf_33 : decode cX2_aliasesOf 33 = .ok (.iinc 3 1, 3) := by decide +kernel
theorem dX2_aliasesOf_36 : decode cX2_aliasesOf 36 = .ok (.goto (-32), 3) := by decide +kernel
theorem dX2_aliasesOf_39 : decode cX2_aliasesOf 39 = .ok (.iload_n 2, 1) := by decide +kernel
theorem dX2_aliasesOf_40 : decode cX2_aliasesOf 40 = .ok (.ireturn, 1) := by decide +kernel
theorem dX2_livingTexts_0 : decode cX2_livingTexts 0 = .ok (.iconst 0, 1) := by decide +kernel
theorem dX2_livingTexts_1 : decode cX2_livingTexts 1 = .ok (.istore_n 1, 1) := by decide +kernel
theorem dX2_livingTexts_2 : decode cX2_livingTexts 2 = .ok (.iconst 0, 1) := by decide +kernel
theorem dX2_livingTexts_3 : decode cX2_livingTexts 3 = .ok (.istore_n 2, 1) := by decide +kernel
theorem dX2_livingTexts_4 : decode cX2_livingTexts 4 = .ok (.iload_n 2, 1) := by decide +kernel
theorem dX2_livingTexts_5 : decode cX2_livingTexts 5 = .ok (.aload_n 0, 1) := by decide +kernel
theorem dX2_livingTexts_6 : decode cX2_livingTexts 6 = .ok (.getfield 27, 3) := by decide +kernel
theorem dX2_livingTexts_9 : decode cX2_livingTexts 9 = .ok (.if_icmp .ge 20, 3) := by decide +kernel
theorem dX2_livingTexts_12 : decode cX2_livingTexts 12 = .ok (.aload_n 0, 1) := by decide +kernel
theorem dX2_livingTexts_13 : decode cX2_livingTexts 13 = .ok (.iload_n 2, 1) := by decide +kernel
theorem dX2_livingTexts_14 : decode cX2_livingTexts 14 = .ok (.invokevirtual 135, 3) := by decide +kernel
theorem dX2_livingTexts_17 : decode cX2_livingTexts 17 = .ok (.ifCond .eq 6, 3) := by decide +kernel
theorem dX2_livingTexts_20 : decode cX2_livingTexts 20 = .ok (.iinc 1 1, 3) := by decide +kernel
theorem dX2_livingTexts_23 : decode cX2_livingTexts 23 = .ok (.iinc 2 1, 3) := by decide +kernel
theorem dX2_livingTexts_26 : decode cX2_livingTexts 26 = .ok (.goto (-22), 3) := by decide +kernel
theorem dX2_livingTexts_29 : decode cX2_livingTexts 29 = .ok (.iload_n 1, 1) := by decide +kernel
theorem dX2_livingTexts_30 : decode cX2_livingTexts 30 = .ok (.ireturn, 1) := by decide +kernel
theorem dX2_livingUnits_0 : decode cX2_livingUnits 0 = .ok (.iconst 0, 1) := by decide +kernel
theorem dX2_livingUnits_1 : decode cX2_livingUnits 1 = .ok (.istore_n 1, 1) := by decide +kernel
theorem dX2_livingUnits_2 : decode cX2_livingUnits 2 = .ok (.iconst 0, 1) := by decide +kernel
theorem dX2_livingUnits_3 : decode cX2_livingUnits 3 = .ok (.istore_n 2, 1) := by decide +kernel
theorem dX2_livingUnits_4 : decode cX2_livingUnits 4 = .ok (.iload_n 2, 1) := by decide +kernel
theorem dX2_livingUnits_5 : decode cX2_livingUnits 5 = .ok (.aload_n 0, 1) := by decide +kernel
theorem dX2_livingUnits_6 : decode cX2_livingUnits 6 = .ok (.getfield 27, 3) := by decide +kernel
theorem dX2_livingUnits_9 : decode cX2_livingUnits 9 = .ok (.if_icmp .ge 26, 3) := by decide +kernel
theorem dX2_livingUnits_12 : decode cX2_livingUnits 12 = .ok (.aload_n 0, 1) := by decide +kernel
theorem dX2_livingUnits_13 : decode cX2_livingUnits 13 = .ok (.iload_n 2, 1) := by decide +kernel
theorem dX2_livingUnits_14 : decode cX2_livingUnits 14 = .ok (.invokevirtual 135, 3) := by decide +kernel
theorem dX2_livingUnits_17 : decode cX2_livingUnits 17 = .ok (.ifCond .eq 12, 3) := by decide +kernel
theorem dX2_livingUnits_20 : decode cX2_livingUnits 20 = .ok (.iload_n 1, 1) := by decide +kernel
theorem dX2_livingUnits_21 : decode cX2_livingUnits 21 = .ok (.aload_n 0, 1) := by decide +kernel
theorem dX2_livingUnits_22 : decode cX2_livingUnits 22 = .ok (.getfield 21, 3) := by decide +kernel
theorem dX2_livingUnits_25 : decode cX2_livingUnits 25 = .ok (.iload_n 2, 1) := by decide +kernel
theorem dX2_livingUnits_26 : decode cX2_livingUnits 26 = .ok (.iaload, 1) := by decide +kernel
theorem dX2_livingUnits_27 : decode cX2_livingUnits 27 = .ok (.iadd, 1) := by decide +kernel
theorem dX2_livingUnits_28 : decode cX2_livingUnits 28 = .ok (.istore_n 1, 1) := by decide +kernel
theorem dX2_livingUnits_29 : decode cX2_livingUnits 29 = .ok (.iinc 2 1, 3) := by decide +kernel
theorem dX2_livingUnits_32 : decode cX2_livingUnits 32 = .ok (.goto (-28), 3) := by decide +kernel
theorem dX2_livingUnits_35 : decode cX2_livingUnits 35 = .ok (.iload_n 1, 1) := by decide +kernel
theorem dX2_livingUnits_36 : decode cX2_livingUnits 36 = .ok (.ireturn, 1) := by decide +kernel
theorem dX2_deadUnits_0 : decode cX2_deadUnits 0 = .ok (.aload_n 0, 1) := by decide +kernel
theorem dX2_deadUnits_1 : decode cX2_deadUnits 1 = .ok (.getfield 34, 3) := by decide +kernel
theorem dX2_deadUnits_4 : decode cX2_deadUnits 4 = .ok (.aload_n 0, 1) := by decide +kernel
theorem dX2_deadUnits_5 : decode cX2_deadUnits 5 = .ok (.invokevirtual 120, 3) := by decide +kernel
theorem dX2_deadUnits_8 : decode cX2_deadUnits 8 = .ok (.isub, 1) := by decide +kernel
theorem dX2_deadUnits_9 : decode cX2_deadUnits 9 = .ok (.ireturn, 1) := by decide +kernel
theorem dX2_layText_0 : decode cX2_layText 0 = .ok (.aload_n 0, 1) := by decide +kernel
theorem dX2_layText_1 : decode cX2_layText 1 = .ok (.getfield 34, 3) := by decide +kernel
theorem dX2_layText_4 : decode cX2_layText 4 = .ok (.istore_n 2, 1) := by decide +kernel
theorem dX2_layText_5 : decode cX2_layText 5 = .ok (.aload_n 0, 1) := by decide +kernel
theorem dX2_layText_6 : decode cX2_layText 6 = .ok (.dup, 1) := by decide +kernel
theorem dX2_layText_7 : decode cX2_layText 7 = .ok (.getfield 34, 3) := by decide +kernel
theorem dX2_layText_10 : decode cX2_layText 10 = .ok (.iload_n 1, 1) := by decide +kernel
theorem dX2_layText_11 : decode cX2_layText 11 = .ok (.iadd, 1) := by decide +kernel
theorem dX2_layText_12 : decode cX2_layText 12 = .ok (.putfield 34, 3) := by decide +kernel
theorem dX2_layText_15 : decode cX2_layText 15 = .ok (.iload_n 2, 1) := by decide +kernel
theorem dX2_layText_16 : decode cX2_layText 16 = .ok (.ireturn, 1) := by decide +kernel
theorem dX2_tellAliases_0 : decode cX2_tellAliases 0 = .ok (.iconst 0, 1) := by decide +kernel
theorem dX2_tellAliases_1 : decode cX2_tellAliases 1 = .ok (.istore_n 3, 1) := by decide +kernel
theorem dX2_tellAliases_2 : decode cX2_tellAliases 2 = .ok (.iload_n 3, 1) := by decide +kernel
theorem dX2_tellAliases_3 : decode cX2_tellAliases 3 = .ok (.aload_n 0, 1) := by decide +kernel
theorem dX2_tellAliases_4 : decode cX2_tellAliases 4 = .ok (.getfield 27, 3) := by decide +kernel
theorem dX2_tellAliases_7 : decode cX2_tellAliases 7 = .ok (.if_icmp .ge 26, 3) := by decide +kernel
theorem dX2_tellAliases_10 : decode cX2_tellAliases 10 = .ok (.aload_n 0, 1) := by decide +kernel
theorem dX2_tellAliases_11 : decode cX2_tellAliases 11 = .ok (.getfield 15, 3) := by decide +kernel
theorem dX2_tellAliases_14 : decode cX2_tellAliases 14 = .ok (.iload_n 3, 1) := by decide +kernel
theorem dX2_tellAliases_15 : decode cX2_tellAliases 15 = .ok (.iaload, 1) := by decide +kernel
theorem dX2_tellAliases_16 : decode cX2_tellAliases 16 = .ok (.iload_n 1, 1) := by decide +kernel
theorem dX2_tellAliases_17 : decode cX2_tellAliases 17 = .ok (.if_icmp .ne 10, 3) := by decide +kernel
theorem dX2_tellAliases_20 : decode cX2_tellAliases 20 = .ok (.aload_n 0, 1) := by decide +kernel
theorem dX2_tellAliases_21 : decode cX2_tellAliases 21 = .ok (.getfield 15, 3) := by decide +kernel
theorem dX2_tellAliases_24 : decode cX2_tellAliases 24 = .ok (.iload_n 3, 1) := by decide +kernel
theorem dX2_tellAliases_25 : decode cX2_tellAliases 25 = .ok (.iload_n 2, 1) := by decide +kernel
theorem dX2_tellAliases_26 : decode cX2_tellAliases 26 = .ok (.iastore, 1) := by decide +kernel
theorem dX2_tellAliases_27 : decode cX2_tellAliases 27 = .ok (.iinc 3 1, 3) := by decide +kernel
theorem dX2_tellAliases_30 : decode cX2_tellAliases 30 = .ok (.goto (-28), 3) := by decide +kernel
theorem dX2_tellAliases_33 : decode cX2_tellAliases 33 = .ok (.return_, 1) := by decide +kernel
theorem dX2_insertEntry_0 : decode cX2_insertEntry 0 = .ok (.aload_n 0, 1) := by decide +kernel
theorem dX2_insertEntry_1 : decode cX2_insertEntry 1 = .ok (.invokevirtual 66, 3) := by decide +kernel
theorem dX2_insertEntry_4 : decode cX2_insertEntry 4 = .ok (.ifCond .eq 6, 3) := by decide +kernel
theorem dX2_insertEntry_7 : decode cX2_insertEntry 7 = .ok (.bipush (-6), 2) := by decide +kernel
theorem dX2_insertEntry_9 : decode cX2_insertEntry 9 = .ok (.ireturn, 1) := by decide +kernel
theorem dX2_insertEntry_10 : decode cX2_insertEntry 10 = .ok (.aload_n 0, 1) := by decide +kernel
theorem dX2_insertEntry_11 : decode cX2_insertEntry 11 = .ok (.iload_n 1, 1) := by decide +kernel
theorem dX2_insertEntry_12 : decode cX2_insertEntry 12 = .ok (.invokevirtual 123, 3) := by decide +kernel
theorem dX2_insertEntry_15 : decode cX2_insertEntry 15 = .ok (.istore 6, 2) := by decide +kernel
theorem dX2_insertEntry_17 : decode cX2_insertEntry 17 = .ok (.aload_n 0, 1) := by decide +kernel
theorem dX2_insertEntry_18 : decode cX2_insertEntry 18 = .ok (.iload 6, 2) := by decide +kernel
theorem dX2_insertEntry_20 : decode cX2_insertEntry 20 = .ok (.iload 6, 2) := by decide +kernel
theorem dX2_insertEntry_22 : decode cX2_insertEntry 22 = .ok (.iconst 1, 1) := by decide +kernel
theorem dX2_insertEntry_23 : decode cX2_insertEntry 23 = .ok (.iadd, 1) := by decide +kernel
theorem dX2_insertEntry_24 : decode cX2_insertEntry 24 = .ok (.aload_n 0, 1) := by decide +kernel
theorem dX2_insertEntry_25 : decode cX2_insertEntry 25 = .ok (.getfield 27, 3) := by decide +kernel
theorem dX2_insertEntry_28 : decode cX2_insertEntry 28 = .ok (.iload 6, 2) := by decide +kernel
theorem dX2_insertEntry_30 : decode cX2_insertEntry 30 = .ok (.isub, 1) := by decide +kernel
theorem dX2_insertEntry_31 : decode cX2_insertEntry 31 = .ok (.invokevirtual 138, 3) := by decide +kernel
theorem dX2_insertEntry_34 : decode cX2_insertEntry 34 = .ok (.aload_n 0, 1) := by decide +kernel
theorem dX2_insertEntry_35 : decode cX2_insertEntry 35 = .ok (.dup, 1) := by decide +kernel
theorem dX2_insertEntry_36 : decode cX2_insertEntry 36 = .ok (.getfield 27, 3) := by decide +kernel
theorem dX2_insertEntry_39 : decode cX2_insertEntry 39 = .ok (.iconst 1, 1) := by decide +kernel
theorem dX2_insertEntry_40 : decode cX2_insertEntry 40 = .ok (.iadd, 1) := by decide +kernel
theorem dX2_insertEntry_41 : decode cX2_insertEntry 41 = .ok (.putfield 27, 3) := by decide +kernel
theorem dX2_insertEntry_44 : decode cX2_insertEntry 44 = .ok (.aload_n 0, 1) := by decide +kernel
theorem dX2_insertEntry_45 : decode cX2_insertEntry 45 = .ok (.iload 6, 2) := by decide +kernel
theorem dX2_insertEntry_47 : decode cX2_insertEntry 47 = .ok (.iload_n 1, 1) := by decide +kernel
theorem dX2_insertEntry_48 : decode cX2_insertEntry 48 = .ok (.iload_n 2, 1) := by decide +kernel
theorem dX2_insertEntry_49 : decode cX2_insertEntry 49 = .ok (.iload_n 3, 1) := by decide +kernel
theorem dX2_insertEntry_50 : decode cX2_insertEntry 50 = .ok (.iload 4, 2) := by decide +kernel
theorem dX2_insertEntry_52 : decode cX2_insertEntry 52 = .ok (.iload 5, 2) := by decide +kernel
theorem dX2_insertEntry_54 : decode cX2_insertEntry 54 = .ok (.invokevirtual 83, 3) := by decide +kernel
theorem dX2_insertEntry_57 : decode cX2_insertEntry 57 = .ok (.iload 6, 2) := by decide +kernel
theorem dX2_insertEntry_59 : decode cX2_insertEntry 59 = .ok (.ireturn, 1) := by decide +kernel
theorem dX2_takeOut_0 : decode cX2_takeOut 0 = .ok (.aload_n 0, 1) := by decide +kernel
theorem dX2_takeOut_1 : decode cX2_takeOut 1 = .ok (.iload_n 1, 1) := by decide +kernel
theorem dX2_takeOut_2 : decode cX2_takeOut 2 = .ok (.invokevirtual 63, 3) := by decide +kernel
theorem dX2_takeOut_5 : decode cX2_takeOut 5 = .ok (.ifCond .eq 29, 3) := by decide +kernel
theorem dX2_takeOut_8 : decode cX2_takeOut 8 = .ok (.aload_n 0, 1) := by decide +kernel
theorem dX2_takeOut_9 : decode cX2_takeOut 9 = .ok (.iload_n 1, 1) := by decide +kernel
theorem dX2_takeOut_10 : decode cX2_takeOut 10 = .ok (.iconst 1, 1) := by decide +kernel
theorem dX2_takeOut_11 : decode cX2_takeOut 11 = .ok (.iadd, 1) := by decide +kernel
theorem dX2_takeOut_12 : decode cX2_takeOut 12 = .ok (.iload_n 1, 1) := by decide +kernel
theorem dX2_takeOut_13 : decode cX2_takeOut 13 = .ok (.aload_n 0, 1) := by decide +kernel
theorem dX2_takeOut_14 : decode cX2_takeOut 14 = .ok (.getfield 27, 3) := by decide +kernel
theorem dX2_takeOut_17 : decode cX2_takeOut 17 = .ok (.iload_n 1, 1) := by decide +kernel
theorem dX2_takeOut_18 : decode cX2_takeOut 18 = .ok (.isub, 1) := by decide +kernel
theorem dX2_takeOut_19 : decode cX2_takeOut 19 = .ok (.iconst 1, 1) := by decide +kernel
theorem dX2_takeOut_20 : decode cX2_takeOut 20 = .ok (.isub, 1) := by decide +kernel
theorem dX2_takeOut_21 : decode cX2_takeOut 21 = .ok (.invokevirtual 138, 3) := by decide +kernel
theorem dX2_takeOut_24 : decode cX2_takeOut 24 = .ok (.aload_n 0, 1) := by decide +kernel
theorem dX2_takeOut_25 : decode cX2_takeOut 25 = .ok (.dup, 1) := by decide +kernel
theorem dX2_takeOut_26 : decode cX2_takeOut 26 = .ok (.getfield 27, 3) := by decide +kernel
theorem dX2_takeOut_29 : decode cX2_takeOut 29 = .ok (.iconst 1, 1) := by decide +kernel
theorem dX2_takeOut_30 : decode cX2_takeOut 30 = .ok (.isub, 1) := by decide +kernel
theorem dX2_takeOut_31 : decode cX2_takeOut 31 = .ok (.putfield 27, 3) := by decide +kernel
theorem dX2_takeOut_34 : decode cX2_takeOut 34 = .ok (.return_, 1) := by decide +kernel
theorem dX2_setEntry_0 : decode cX2_setEntry 0 = .ok (.aload_n 0, 1) := by decide +kernel
theorem dX2_setEntry_1 : decode cX2_setEntry 1 = .ok (.iload_n 1, 1) := by decide +kernel
theorem dX2_setEntry_2 : decode cX2_setEntry 2 = .ok (.invokevirtual 63, 3) := by decide +kernel
theorem dX2_setEntry_5 : decode cX2_setEntry 5 = .ok (.ifCond .eq 41, 3) := by decide +kernel
theorem dX2_setEntry_8 : decode cX2_setEntry 8 = .ok (.aload_n 0, 1) := by decide +kernel
theorem dX2_setEntry_9 : decode cX2_setEntry 9 = .ok (.getfield 9, 3) := by decide +kernel
theorem dX2_setEntry_12 : decode cX2_setEntry 12 = .ok (.iload_n 1, 1) := by decide +kernel
theorem dX2_setEntry_13 : decode cX2_setEntry 13 = .ok (.iload_n 2, 1) := by decide +kernel
theorem dX2_setEntry_14 : decode cX2_setEntry 14 = .ok (.iastore, 1) := by decide +kernel
theorem dX2_setEntry_15 : decode cX2_setEntry 15 = .ok (.aload_n 0, 1) := by decide +kernel
theorem dX2_setEntry_16 : decode cX2_setEntry 16 = .ok (.getfield 15, 3) := by decide +kernel
theorem dX2_setEntry_19 : decode cX2_setEntry 19 = .ok (.iload_n 1, 1) := by decide +kernel
theorem dX2_setEntry_20 : decode cX2_setEntry 20 = .ok (.iload_n 3, 1) := by decide +kernel
theorem dX2_setEntry_21 : decode cX2_setEntry 21 = .ok (.iastore, 1) := by decide +kernel
theorem dX2_setEntry_22 : decode cX2_setEntry 22 = .ok (.aload_n 0, 1) := by decide +kernel
theorem dX2_setEntry_23 : decode cX2_setEntry 23 = .ok (.getfield 18, 3) := by decide +kernel
theorem dX2_setEntry_26 : decode cX2_setEntry 26 = .ok (.iload_n 1, 1) := by decide +kernel
theorem dX2_setEntry_27 : decode cX2_setEntry 27 = .ok (.iload 4, 2) := by decide +kernel
theorem dX2_setEntry_29 : decode cX2_setEntry 29 = .ok (.iastore, 1) := by decide +kernel
theorem dX2_setEntry_30 : decode cX2_setEntry 30 = .ok (.aload_n 0, 1) := by decide +kernel
theorem dX2_setEntry_31 : decode cX2_setEntry 31 = .ok (.getfield 21, 3) := by decide +kernel
theorem dX2_setEntry_34 : decode cX2_setEntry 34 = .ok (.iload_n 1, 1) := by decide +kernel
theorem dX2_setEntry_35 : decode cX2_setEntry 35 = .ok (.iload 5, 2) := by decide +kernel
theorem dX2_setEntry_37 : decode cX2_setEntry 37 = .ok (.iastore, 1) := by decide +kernel
theorem dX2_setEntry_38 : decode cX2_setEntry 38 = .ok (.aload_n 0, 1) := by decide +kernel
theorem dX2_setEntry_39 : decode cX2_setEntry 39 = .ok (.getfield 24, 3) := by decide +kernel
theorem dX2_setEntry_42 : decode cX2_setEntry 42 = .ok (.iload_n 1, 1) := by decide +kernel
theorem dX2_setEntry_43 : decode cX2_setEntry 43 = .ok (.iload 6, 2) := by decide +kernel
theorem dX2_setEntry_45 : decode cX2_setEntry 45 = .ok (.iastore, 1) := by decide +kernel
theorem dX2_setEntry_46 : decode cX2_setEntry 46 = .ok (.return_, 1) := by decide +kernel
theorem dX2_moveEntries_0 : decode cX2_moveEntries 0 = .ok (.iload_n 1, 1) := by decide +kernel
theorem dX2_moveEntries_1 : decode cX2_moveEntries 1 = .ok (.ifCond .lt 23, 3) := by decide +kernel
theorem dX2_moveEntries_4 : decode cX2_moveEntries 4 = .ok (.iload_n 2, 1) := by decide +kernel
theorem dX2_moveEntries_5 : decode cX2_moveEntries 5 = .ok (.ifCond .lt 19, 3) := by decide +kernel
theorem dX2_moveEntries_8 : decode cX2_moveEntries 8 = .ok (.iload_n 3, 1) := by decide +kernel
theorem dX2_moveEntries_9 : decode cX2_moveEntries 9 = .ok (.ifCond .lt 15, 3) := by decide +kernel
theorem dX2_moveEntries_12 : decode cX2_moveEntries 12 = .ok (.iload_n 1, 1) := by decide +kernel
theorem dX2_moveEntries_13 : decode cX2_moveEntries 13 = .ok (.iload_n 2, 1) := by decide +kernel
theorem dX2_moveEntries_14 : decode cX2_moveEntries 14 = .ok (.invokestatic 114, 3) := by decide +kernel
theorem dX2_moveEntries_17 : decode cX2_moveEntries 17 = .ok (.bipush 24, 2) := by decide +kernel
theorem dX2_moveEntries_19 : decode cX2_moveEntries 19 = .ok (.iload_n 3, 1) := by decide +kernel
theorem dX2_moveEntries_20 : decode cX2_moveEntries 20 = .ok (.isub, 1) := by decide +kernel
theorem dX2_moveEntries_21 : decode cX2_moveEntries 21 = .ok (.if_icmp .le 4, 3) := by decide +kernel
theorem dX2_moveEntries_24 : decode cX2_moveEntries 24 = .ok (.return_, 1) := by decide +kernel
theorem dX2_moveEntries_25 : decode cX2_moveEntries 25 = .ok (.aload_n 0, 1) := by decide +kernel
theorem dX2_moveEntries_26 : decode cX2_moveEntries 26 = .ok (.getfield 9, 3) := by decide +kernel
theorem dX2_moveEntries_29 : decode cX2_moveEntries 29 = .ok (.iload_n 1, 1) := by decide +kernel
theorem dX2_moveEntries_30 : decode cX2_moveEntries 30 = .ok (.aload_n 0, 1) := by decide +kernel
theorem dX2_moveEntries_31 : decode cX2_moveEntries 31 = .ok (.getfield 9, 3) := by decide +kernel
theorem dX2_moveEntries_34 : decode cX2_moveEntries 34 = .ok (.iload_n 2, 1) := by decide +kernel
theorem dX2_moveEntries_35 : decode cX2_moveEntries 35 = .ok (.iload_n 3, 1) := by decide +kernel
theorem dX2_moveEntries_36 : decode cX2_moveEntries 36 = .ok (.invokestatic 43, 3) := by decide +kernel
theorem dX2_moveEntries_39 : decode cX2_moveEntries 39 = .ok (.aload_n 0, 1) := by decide +kernel
theorem dX2_moveEntries_40 : decode cX2_moveEntries 40 = .ok (.getfield 15, 3) := by decide +kernel
theorem dX2_moveEntries_43 : decode cX2_moveEntries 43 = .ok (.iload_n 1, 1) := by decide +kernel
theorem dX2_moveEntries_44 : decode cX2_moveEntries 44 = .ok (.aload_n 0, 1) := by decide +kernel
theorem dX2_moveEntries_45 : decode cX2_moveEntries 45 = .ok (.getfield 15, 3) := by decide +kernel
theorem dX2_moveEntries_48 : decode cX2_moveEntries 48 = .ok (.iload_n 2, 1) := by decide +kernel
theorem dX2_moveEntries_49 : decode cX2_moveEntries 49 = .ok (.iload_n 3, 1) := by decide +kernel
theorem dX2_moveEntries_50 : decode cX2_moveEntries 50 = .ok (.invokestatic 43, 3) := by decide +kernel
theorem dX2_moveEntries_53 : decode cX2_moveEntries 53 = .ok (.aload_n 0, 1) := by decide +kernel
theorem dX2_moveEntries_54 : decode cX2_moveEntries 54 = .ok (.getfield 18, 3) := by decide +kernel
theorem dX2_moveEntries_57 : decode cX2_moveEntries 57 = .ok (.iload_n 1, 1) := by decide +kernel
theorem dX2_moveEntries_58 : decode cX2_moveEntries 58 = .ok (.aload_n 0, 1) := by decide +kernel
theorem dX2_moveEntries_59 : decode cX2_moveEntries 59 = .ok (.getfield 18, 3) := by decide +kernel
theorem dX2_moveEntries_62 : decode cX2_moveEntries 62 = .ok (.iload_n 2, 1) := by decide +kernel
theorem dX2_moveEntries_63 : decode cX2_moveEntries 63 = .ok (.iload_n 3, 1) := by decide +kernel
theorem dX2_moveEntries_64 : decode cX2_moveEntries 64 = .ok (.invokestatic 43, 3) := by decide +kernel
theorem dX2_moveEntries_67 : decode cX2_moveEntries 67 = .ok (.aload_n 0, 1) := by decide +kernel
theorem dX2_moveEntries_68 : decode cX2_moveEntries 68 = .ok (.getfield 21, 3) := by decide +kernel
theorem dX2_moveEntries_71 : decode cX2_moveEntries 71 = .ok (.iload_n 1, 1) := by decide +kernel
theorem dX2_moveEntries_72 : decode cX2_moveEntries 72 = .ok (.aload_n 0, 1) := by decide +kernel
theorem dX2_moveEntries_73 : decode cX2_moveEntries 73 = .ok (.getfield 21, 3) := by decide +kernel
theorem dX2_moveEntries_76 : decode cX2_moveEntries 76 = .ok (.iload_n 2, 1) := by decide +kernel
theorem dX2_moveEntries_77 : decode cX2_moveEntries 77 = .ok (.iload_n 3, 1) := by decide +kernel
theorem dX2_moveEntries_78 : decode cX2_moveEntries 78 = .ok (.invokestatic 43, 3) := by decide +kernel
theorem dX2_moveEntries_81 : decode cX2_moveEntries 81 = .ok (.aload_n 0, 1) := by decide +kernel
theorem dX2_moveEntries_82 : decode cX2_moveEntries 82 = .ok (.getfield 24, 3) := by decide +kernel
theorem dX2_moveEntries_85 : decode cX2_moveEntries 85 = .ok (.iload_n 1, 1) := by decide +kernel
theorem dX2_moveEntries_86 : decode cX2_moveEntries 86 = .ok (.aload_n 0, 1) := by decide +kernel
theorem dX2_moveEntries_87 : decode cX2_moveEntries 87 = .ok (.getfield 24, 3) := by decide +kernel
theorem dX2_moveEntries_90 : decode cX2_moveEntries 90 = .ok (.iload_n 2, 1) := by decide +kernel
theorem dX2_moveEntries_91 : decode cX2_moveEntries 91 = .ok (.iload_n 3, 1) := by decide +kernel
theorem dX2_moveEntries_92 : decode cX2_moveEntries 92 = .ok (.invokestatic 43, 3) := by decide +kernel
theorem dX2_moveEntries_95 : decode cX2_moveEntries 95 = .ok (.return_, 1) := by decide +kernel
theorem dX2_closeUp_0 : decode cX2_closeUp 0 = .ok (.iconst 0, 1) := by decide +kernel
theorem dX2_closeUp_1 : decode cX2_closeUp 1 = .ok (.istore_n 1, 1) := by decide +kernel
theorem dX2_closeUp_2 : decode cX2_closeUp 2 = .ok (.iconst 0, 1) := by decide +kernel
theorem dX2_closeUp_3 : decode cX2_closeUp 3 = .ok (.istore_n 2, 1) := by decide +kernel
theorem dX2_closeUp_4 : decode cX2_closeUp 4 = .ok (.iload_n 2, 1) := by decide +kernel
theorem dX2_closeUp_5 : decode cX2_closeUp 5 = .ok (.bipush 100, 2) := by decide +kernel
theorem dX2_closeUp_7 : decode cX2_closeUp 7 = .ok (.if_icmp .ge 18, 3) := by decide +kernel
theorem dX2_closeUp_10 : decode cX2_closeUp 10 = .ok (.iload_n 1, 1) := by decide +kernel
theorem dX2_closeUp_11 : decode cX2_closeUp 11 = .ok (.aload_n 0, 1) := by decide +kernel
theorem dX2_closeUp_12 : decode cX2_closeUp 12 = .ok (.iload_n 2, 1) := by decide +kernel
theorem dX2_closeUp_13 : decode cX2_closeUp 13 = .ok (.iload_n 1, 1) := by decide +kernel
theorem dX2_closeUp_14 : decode cX2_closeUp 14 = .ok (.invokevirtual 142, 3) := by decide +kernel
theorem dX2_closeUp_17 : decode cX2_closeUp 17 = .ok (.iadd, 1) := by decide +kernel
theorem dX2_closeUp_18 : decode cX2_closeUp 18 = .ok (.istore_n 1, 1) := by decide +kernel
theorem dX2_closeUp_19 : decode cX2_closeUp 19 = .ok (.iinc 2 1, 3) := by decide +kernel
theorem dX2_closeUp_22 : decode cX2_closeUp 22 = .ok (.goto (-18), 3) := by decide +kernel
theorem dX2_closeUp_25 : decode cX2_closeUp 25 = .ok (.aload_n 0, 1) := by decide +kernel
theorem dX2_closeUp_26 : decode cX2_closeUp 26 = .ok (.getfield 34, 3) := by decide +kernel
theorem dX2_closeUp_29 : decode cX2_closeUp 29 = .ok (.iload_n 1, 1) := by decide +kernel
theorem dX2_closeUp_30 : decode cX2_closeUp 30 = .ok (.isub, 1) := by decide +kernel
theorem dX2_closeUp_31 : decode cX2_closeUp 31 = .ok (.istore_n 2, 1) := by decide +kernel
theorem dX2_closeUp_32 : decode cX2_closeUp 32 = .ok (.aload_n 0, 1) := by decide +kernel
theorem dX2_closeUp_33 : decode cX2_closeUp 33 = .ok (.iload_n 1, 1) := by decide +kernel
theorem dX2_closeUp_34 : decode cX2_closeUp 34 = .ok (.putfield 34, 3) := by decide +kernel
theorem dX2_closeUp_37 : decode cX2_closeUp 37 = .ok (.aload_n 0, 1) := by decide +kernel
theorem dX2_closeUp_38 : decode cX2_closeUp 38 = .ok (.dup, 1) := by decide +kernel
theorem dX2_closeUp_39 : decode cX2_closeUp 39 = .ok (.getfield 37, 3) := by decide +kernel
theorem dX2_closeUp_42 : decode cX2_closeUp 42 = .ok (.iconst 1, 1) := by decide +kernel
theorem dX2_closeUp_43 : decode cX2_closeUp 43 = .ok (.iadd, 1) := by decide +kernel
theorem dX2_closeUp_44 : decode cX2_closeUp 44 = .ok (.putfield 37, 3) := by decide +kernel
theorem dX2_closeUp_47 : decode cX2_closeUp 47 = .ok (.aload_n 0, 1) := by decide +kernel
theorem dX2_closeUp_48 : decode cX2_closeUp 48 = .ok (.dup, 1) := by decide +kernel
theorem dX2_closeUp_49 : decode cX2_closeUp 49 = .ok (.getfield 40, 3) := by decide +kernel
theorem dX2_closeUp_52 : decode cX2_closeUp 52 = .ok (.iload_n 2, 1) := by decide +kernel
theorem dX2_closeUp_53 : decode cX2_closeUp 53 = .ok (.iadd, 1) := by decide +kernel
theorem dX2_closeUp_54 : decode cX2_closeUp 54 = .ok (.putfield 40, 3) := by decide +kernel
theorem dX2_closeUp_57 : decode cX2_closeUp 57 = .ok (.iload_n 2, 1) := by decide +kernel
theorem dX2_closeUp_58 : decode cX2_closeUp 58 = .ok (.ireturn, 1) := by decide +kernel
theorem dX2_moveText_0 : decode cX2_moveText 0 = .ok (.iconst 0, 1) := by decide +kernel
theorem dX2_moveText_1 : decode cX2_moveText 1 = .ok (.istore_n 3, 1) := by decide +kernel
theorem dX2_moveText_2 : decode cX2_moveText 2 = .ok (.iconst 0, 1) := by decide +kernel
theorem dX2_moveText_3 : decode cX2_moveText 3 = .ok (.istore 4, 2) := by decide +kernel
theorem dX2_moveText_5 : decode cX2_moveText 5 = .ok (.iload 4, 2) := by decide +kernel
theorem dX2_moveText_7 : decode cX2_moveText 7 = .ok (.aload_n 0, 1) := by decide +kernel
theorem dX2_moveText_8 : decode cX2_moveText 8 = .ok (.getfield 27, 3) := by decide +kernel
theorem dX2_moveText_11 : decode cX2_moveText 11 = .ok (.if_icmp .ge 36, 3) := by decide +kernel
theorem dX2_moveText_14 : decode cX2_moveText 14 = .ok (.aload_n 0, 1) := by decide +kernel
theorem dX2_moveText_15 : decode cX2_moveText 15 = .ok (.getfield 18, 3) := by decide +kernel
theorem dX2_moveText_18 : decode cX2_moveText 18 = .ok (.iload 4, 2) := by decide +kernel
theorem dX2_moveText_20 : decode cX2_moveText 20 = .ok (.iaload, 1) := by decide +kernel
theorem dX2_moveText_21 : decode cX2_moveText 21 = .ok (.iload_n 1, 1) := by decide +kernel
theorem dX2_moveText_22 : decode cX2_moveText 22 = .ok (.if_icmp .ne 19, 3) := by decide +kernel
theorem dX2_moveText_25 : decode cX2_moveText 25 = .ok (.aload_n 0, 1) := by decide +kernel
theorem dX2_moveText_26 : decode cX2_moveText 26 = .ok (.getfield 18, 3) := by decide +kernel
theorem dX2_moveText_29 : decode cX2_moveText 29 = .ok (.iload 4, 2) := by decide +kernel
theorem dX2_moveText_31 : decode cX2_moveText 31 = .ok (.iload_n 2, 1) := by decide +kernel
theorem dX2_moveText_32 : decode cX2_moveText 32 = .ok (.iastore, 1) := by decide +kernel
theorem dX2_moveText_33 : decode cX2_moveText 33 = .ok (.aload_n 0, 1) := by decide +kernel
theorem dX2_moveText_34 : decode cX2_moveText 34 = .ok (.getfield 21, 3) := by decide +kernel
theorem dX2_moveText_37 : decode cX2_moveText 37 = .ok (.iload 4, 2) := by decide +kernel
theorem dX2_moveText_39 : decode cX2_moveText 39 = .ok (.iaload, 1) := by decide +kernel
theorem dX2_moveText_40 : decode cX2_moveText 40 = .ok (.istore_n 3, 1) := by decide +kernel
theorem dX2_moveText_41 : decode cX2_moveText 41 = .ok (.iinc 4 1, 3) := by decide +kernel
theorem dX2_moveText_44 : decode cX2_moveText 44 = .ok (.goto (-39), 3) := by decide +kernel
theorem dX2_moveText_47 : decode cX2_moveText 47 = .ok (.iload_n 3, 1) := by decide +kernel
theorem dX2_moveText_48 : decode cX2_moveText 48 = .ok (.ireturn, 1) := by decide +kernel
theorem dX3_init_0 : decode cX3_init 0 = .ok (.aload_n 0, 1) := by decide +kernel
theorem dX3_init_1 : decode cX3_init 1 = .ok (.invokespecial 3, 3) := by decide +kernel
theorem dX3_init_4 : decode cX3_init 4 = .ok (.aload_n 0, 1) := by decide +kernel
theorem dX3_init_5 : decode cX3_init 5 = .ok (.new 9, 3) := by decide +kernel
theorem dX3_init_8 : decode cX3_init 8 = .ok (.dup, 1) := by decide +kernel
theorem dX3_init_9 : decode cX3_init 9 = .ok (.invokespecial 11, 3) := by decide +kernel
theorem dX3_init_12 : decode cX3_init 12 = .ok (.putfield 12, 3) := by decide +kernel
theorem dX3_init_15 : decode cX3_init 15 = .ok (.aload_n 0, 1) := by decide +kernel
theorem dX3_init_16 : decode cX3_init 16 = .ok (.new 9, 3) := by decide +kernel
theorem dX3_init_19 : decode cX3_init 19 = .ok (.dup, 1) := by decide +kernel
theorem dX3_init_20 : decode cX3_init 20 = .ok (.invokespecial 11, 3) := by decide +kernel
theorem dX3_init_23 : decode cX3_init 23 = .ok (.putfield 16, 3) := by decide +kernel
theorem dX3_init_26 : decode cX3_init 26 = .ok (.aload_n 0, 1) := by decide +kernel
theorem dX3_init_27 : decode cX3_init 27 = .ok (.new 9, 3) := by decide +kernel
theorem dX3_init_30 : decode cX3_init 30 = .ok (.dup, 1) := by decide +kernel
theorem dX3_init_31 : decode cX3_init 31 = .ok (.invokespecial 11, 3) := by decide +kernel
theorem dX3_init_34 : decode cX3_init 34 = .ok (.putfield 19, 3) := by decide +kernel
theorem dX3_init_37 : decode cX3_init 37 = .ok (.aload_n 0, 1) := by decide +kernel
theorem dX3_init_38 : decode cX3_init 38 = .ok (.iconst 0, 1) := by decide +kernel
theorem dX3_init_39 : decode cX3_init 39 = .ok (.putfield 22, 3) := by decide +kernel
theorem dX3_init_42 : decode cX3_init 42 = .ok (.aload_n 0, 1) := by decide +kernel
theorem dX3_init_43 : decode cX3_init 43 = .ok (.new 26, 3) := by decide +kernel
theorem dX3_init_46 : decode cX3_init 46 = .ok (.dup, 1) := by decide +kernel
theorem dX3_init_47 : decode cX3_init 47 = .ok (.invokespecial 28, 3) := by decide +kernel
theorem dX3_init_50 : decode cX3_init 50 = .ok (.putfield 29, 3) := by decide +kernel
theorem dX3_init_53 : decode cX3_init 53 = .ok (.aload_n 0, 1) := by decide +kernel
theorem dX3_init_54 : decode cX3_init 54 = .ok (.new 33, 3) := by decide +kernel
theorem dX3_init_57 : decode cX3_init 57 = .ok (.dup, 1) := by decide +kernel
theorem dX3_init_58 : decode cX3_init 58 = .ok (.invokespecial 35, 3) := by decide +kernel
theorem dX3_init_61 : decode cX3_init 61 = .ok (.putfield 36, 3) := by decide +kernel
theorem dX3_init_64 : decode cX3_init 64 = .ok (.return_, 1) := by decide +kernel
theorem dX3_add_0 : decode cX3_add 0 = .ok (.aload_n 0, 1) := by decide +kernel
theorem dX3_add_1 : decode cX3_add 1 = .ok (.getfield 16, 3) := by decide +kernel
theorem dX3_add_4 : decode cX3_add 4 = .ok (.aload_n 0, 1) := by decide +kernel
theorem dX3_add_5 : decode cX3_add 5 = .ok (.getfield 12, 3) := by decide +kernel
theorem dX3_add_8 : decode cX3_add 8 = .ok (.invokevirtual 40, 3) := by decide +kernel
theorem dX3_add_11 : decode cX3_add 11 = .ok (.aload_n 0, 1) := by decide +kernel
theorem dX3_add_12 : decode cX3_add 12 = .ok (.aload_n 0, 1) := by decide +kernel
theorem dX3_add_13 : decode cX3_add 13 = .ok (.getfield 16, 3) := by decide +kernel
theorem dX3_add_16 : decode cX3_add 16 = .ok (.iload_n 1, 1) := by decide +kernel
theorem dX3_add_17 : decode cX3_add 17 = .ok (.iload_n 2, 1) := by decide +kernel
theorem dX3_add_18 : decode cX3_add 18 = .ok (.iload_n 3, 1) := by decide +kernel
theorem dX3_add_19 : decode cX3_add 19 = .ok (.invokevirtual 44, 3) := by decide +kernel
theorem dX3_add_22 : decode cX3_add 22 = .ok (.invokevirtual 48, 3) := by decide +kernel
theorem dX3_add_25 : decode cX3_add 25 = .ok (.ireturn, 1) := by decide +kernel
theorem dX3_replace_0 : decode cX3_replace 0 = .ok (.aload_n 0, 1) := by decide +kernel
theorem dX3_replace_1 : decode cX3_replace 1 = .ok (.getfield 16, 3) := by decide +kernel
theorem dX3_replace_4 : decode cX3_replace 4 = .ok (.aload_n 0, 1) := by decide +kernel
theorem dX3_replace_5 : decode cX3_replace 5 = .ok (.getfield 12, 3) := by decide +kernel
theorem dX3_replace_8 : decode cX3_replace 8 = .ok (.invokevirtual 40, 3) := by decide +kernel
theorem dX3_replace_11 : decode cX3_replace 11 = .ok (.aload_n 0, 1) := by decide +kernel
theorem dX3_replace_12 : decode cX3_replace 12 = .ok (.aload_n 0, 1) := by decide +kernel
theorem dX3_replace_13 : decode cX3_replace 13 = .ok (.getfield 16, 3) := by decide +kernel
theorem dX3_replace_16 : decode cX3_replace 16 = .ok (.iload_n 1, 1) := by decide +kernel
theorem dX3_replace_17 : decode cX3_replace 17 = .ok (.iload_n 2, 1) := by decide +kernel
theorem dX3_replace_18 : decode cX3_replace 18 = .ok (.iload_n 3, 1) := by decide +kernel
theorem dX3_replace_19 : decode cX3_replace 19 = .ok (.invokevirtual 52, 3) := by decide +kernel
theorem dX3_replace_22 : decode cX3_replace 22 = .ok (.invokevirtual 48, 3) := by decide +kernel
theorem dX3_replace_25 : decode cX3_replace 25 = .ok (.ireturn, 1) := by decide +kernel
theorem dX3_remove_0 : decode cX3_remove 0 = .ok (.aload_n 0, 1) := by decide +kernel
theorem dX3_remove_1 : decode cX3_remove 1 = .ok (.getfield 16, 3) := by decide +kernel
theorem dX3_remove_4 : decode cX3_remove 4 = .ok (.aload_n 0, 1) := by decide +kernel
theorem dX3_remove_5 : decode cX3_remove 5 = .ok (.getfield 12, 3) := by decide +kernel
theorem dX3_remove_8 : decode cX3_remove 8 = .ok (.invokevirtual 40, 3) := by decide +kernel
theorem dX3_remove_11 : decode cX3_remove 11 = .ok (.aload_n 0, 1) := by decide +kernel
theorem dX3_remove_12 : decode cX3_remove 12 = .ok (.aload_n 0, 1) := by decide +kernel
theorem dX3_remove_13 : decode cX3_remove 13 = .ok (.getfield 16, 3) := by decide +kernel
theorem dX3_remove_16 : decode cX3_remove 16 = .ok (.iload_n 1, 1) := by decide +kernel
theorem dX3_remove_17 : decode cX3_remove 17 = .ok (.invokevirtual 55, 3) := by decide +kernel
theorem dX3_remove_20 : decode cX3_remove 20 = .ok (.invokevirtual 48, 3) := by decide +kernel
theorem dX3_remove_23 : decode cX3_remove 23 = .ok (.ireturn, 1) := by decide +kernel
theorem dX3_rename_0 : decode cX3_rename 0 = .ok (.aload_n 0, 1) := by decide +kernel
theorem dX3_rename_1 : decode cX3_rename 1 = .ok (.getfield 16, 3) := by decide +kernel
theorem dX3_rename_4 : decode cX3_rename 4 = .ok (.aload_n 0, 1) := by decide +kernel
theorem dX3_rename_5 : decode cX3_rename 5 = .ok (.getfield 12, 3) := by decide +kernel
theorem dX3_rename_8 : decode cX3_rename 8 = .ok (.invokevirtual 40, 3) := by decide +kernel
theorem dX3_rename_11 : decode cX3_rename 11 = .ok (.aload_n 0, 1) := by decide +kernel
theorem dX3_rename_12 : decode cX3_rename 12 = .ok (.aload_n 0, 1) := by decide +kernel
theorem dX3_rename_13 : decode cX3_rename 13 = .ok (.getfield 16, 3) := by decide +kernel
theorem dX3_rename_16 : decode cX3_rename 16 = .ok (.iload_n 1, 1) := by decide +kernel
theorem dX3_rename_17 : decode cX3_rename 17 = .ok (.iload_n 2, 1) := by decide +kernel
theorem dX3_rename_18 : decode cX3_rename 18 = .ok (.invokevirtual 58, 3) := by decide +kernel
theorem dX3_rename_21 : decode cX3_rename 21 = .ok (.invokevirtual 48, 3) := by decide +kernel
theorem dX3_rename_24 : decode cX3_rename 24 = .ok (.ireturn, 1) := by decide +kernel
theorem dX3_alias_0 : decode cX3_alias 0 = .ok (.aload_n 0, 1) := by decide +kernel
theorem dX3_alias_1 : decode cX3_alias 1 = .ok (.getfield 16, 3) := by decide +kernel
theorem dX3_alias_4 : decode cX3_alias 4 = .ok (.aload_n 0, 1) := by decide +kernel
theorem dX3_alias_5 : decode cX3_alias 5 = .ok (.getfield 12, 3) := by decide +kernel
theorem dX3_alias_8 : decode cX3_alias 8 = .ok (.invokevirtual 40, 3) := by decide +kernel
theorem dX3_alias_11 : decode cX3_alias 11 = .ok (.aload_n 0, 1) := by decide +kernel
theorem dX3_alias_12 : decode cX3_alias 12 = .ok (.aload_n 0, 1) := by decide +kernel
theorem dX3_alias_13 : decode cX3_alias 13 = .ok (.getfield 16, 3) := by decide +kernel
theorem dX3_alias_16 : decode cX3_alias 16 = .ok (.iload_n 1, 1) := by decide +kernel
theorem dX3_alias_17 : decode cX3_alias 17 = .ok (.iload_n 2, 1) := by decide +kernel
theorem dX3_alias_18 : decode cX3_alias 18 = .ok (.invokevirtual 62, 3) := by decide +kernel
theorem dX3_alias_21 : decode cX3_alias 21 = .ok (.invokevirtual 48, 3) := by decide +kernel
theorem dX3_alias_24 : decode cX3_alias 24 = .ok (.ireturn, 1) := by decide +kernel
theorem dX3_addAll_0 : decode cX3_addAll 0 = .ok (.aload_n 0, 1) := by decide +kernel
theorem dX3_addAll_1 : decode cX3_addAll 1 = .ok (.getfield 36, 3) := by decide +kernel
theorem dX3_addAll_4 : decode cX3_addAll 4 = .ok (.invokevirtual 65, 3) := by decide +kernel
theorem dX3_addAll_7 : decode cX3_addAll 7 = .ok (.istore_n 1, 1) := by decide +kernel
theorem dX3_addAll_8 : decode cX3_addAll 8 = .ok (.iload_n 1, 1) := by decide +kernel
theorem dX3_addAll_9 : decode cX3_addAll 9 = .ok (.iconst (-1), 1) := by decide +kernel
theorem dX3_addAll_10 : decode cX3_addAll 10 = .ok (.if_icmp .eq 8, 3) := by decide +kernel
theorem dX3_addAll_13 : decode cX3_addAll 13 = .ok (.bipush (-100), 2) := by decide +kernel
theorem dX3_addAll_15 : decode cX3_addAll 15 = .ok (.iload_n 1, 1) := by decide +kernel
theorem dX3_addAll_16 : decode cX3_addAll 16 = .ok (.isub, 1) := by decide +kernel
theorem dX3_addAll_17 : decode cX3_addAll 17 = .ok (.ireturn, 1) := by decide +kernel
theorem dX3_addAll_18 : decode cX3_addAll 18 = .ok (.aload_n 0, 1) := by decide +kernel
theorem dX3_addAll_19 : decode cX3_addAll 19 = .ok (.getfield 16, 3) := by decide +kernel
theorem dX3_addAll_22 : decode cX3_addAll 22 = .ok (.aload_n 0, 1) := by decide +kernel
theorem dX3_addAll_23 : decode cX3_addAll 23 = .ok (.getfield 12, 3) := by decide +kernel
theorem dX3_addAll_26 : decode cX3_addAll 26 = .ok (.invokevirtual 40, 3) := by decide +kernel
theorem dX3_addAll_29 : decode cX3_addAll 29 = .ok (.aload_n 0, 1) := by decide +kernel
theorem dX3_addAll_30 : decode cX3_addAll 30 = .ok (.aload_n 0, 1) := by decide +kernel
theorem dX3_addAll_31 : decode cX3_addAll 31 = .ok (.getfield 36, 3) := by decide +kernel
theorem dX3_addAll_34 : decode cX3_addAll 34 = .ok (.aload_n 0, 1) := by decide +kernel
theorem dX3_addAll_35 : decode cX3_addAll 35 = .ok (.getfield 16, 3) := by decide +kernel
theorem dX3_addAll_38 : decode cX3_addAll 38 = .ok (.invokevirtual 69, 3) := by decide +kernel
theorem dX3_addAll_41 : decode cX3_addAll 41 = .ok (.invokevirtual 48, 3) := by decide +kernel
theorem dX3_addAll_44 : decode cX3_addAll 44 = .ok (.ireturn, 1) := by decide +kernel
theorem dX3_squeeze_0 : decode cX3_squeeze 0 = .ok (.aload_n 0, 1) := by decide +kernel
theorem dX3_squeeze_1 : decode cX3_squeeze 1 = .ok (.getfield 16, 3) := by decide +kernel
theorem dX3_squeeze_4 : decode cX3_squeeze 4 = .ok (.aload_n 0, 1) := by decide +kernel
theorem dX3_squeeze_5 : decode cX3_squeeze 5 = .ok (.getfield 12, 3) := by decide +kernel
theorem dX3_squeeze_8 : decode cX3_squeeze 8 = .ok (.invokevirtual 40, 3) := by decide +kernel
theorem dX3_squeeze_11 : decode cX3_squeeze 11 = .ok (.aload_n 0, 1) := by decide +kernel
theorem dX3_squeeze_12 : decode cX3_squeeze 12 = .ok (.aload_n 0, 1) := by decide +kernel
theorem dX3_squeeze_13 : decode cX3_squeeze 13 = .ok (.getfield 16, 3) := by decide +kernel
theorem dX3_squeeze_16 : decode cX3_squeeze 16 = .ok (.invokevirtual 73, 3) := by decide +kernel
theorem dX3_squeeze_19 : decode cX3_squeeze 19 = .ok (.invokevirtual 48, 3) := by decide +kernel
theorem dX3_squeeze_22 : decode cX3_squeeze 22 = .ok (.ireturn, 1) := by decide +kernel
theorem dX3_makeAnew_0 : decode cX3_makeAnew 0 = .ok (.aload_n 0, 1) := by decide +kernel
theorem dX3_makeAnew_1 : decode cX3_makeAnew 1 = .ok (.getfield 16, 3) := by decide +kernel
theorem dX3_makeAnew_4 : decode cX3_makeAnew 4 = .ok (.aload_n 0, 1) := by decide +kernel
theorem dX3_makeAnew_5 : decode cX3_makeAnew 5 = .ok (.getfield 12, 3) := by decide +kernel
theorem dX3_makeAnew_8 : decode cX3_makeAnew 8 = .ok (.invokevirtual 40, 3) := by decide +kernel
theorem dX3_makeAnew_11 : decode cX3_makeAnew 11 = .ok (.aload_n 0, 1) := by decide +kernel
theorem dX3_makeAnew_12 : decode cX3_makeAnew 12 = .ok (.aload_n 0, 1) := by decide +kernel
theorem dX3_makeAnew_13 : decode cX3_makeAnew 13 = .ok (.getfield 16, 3) := by decide +kernel
theorem dX3_makeAnew_16 : decode cX3_makeAnew 16 = .ok (.iload_n 1, 1) := by decide +kernel
theorem dX3_makeAnew_17 : decode cX3_makeAnew 17 = .ok (.invokevirtual 76, 3) := by decide +kernel
theorem dX3_makeAnew_20 : decode cX3_makeAnew 20 = .ok (.invokevirtual 48, 3) := by decide +kernel
theorem dX3_makeAnew_23 : decode cX3_makeAnew 23 = .ok (.ireturn, 1) := by decide +kernel
theorem dX3_type_0 : decode cX3_type 0 = .ok (.aload_n 0, 1) := by decide +kernel
theorem dX3_type_1 : decode cX3_type 1 = .ok (.getfield 36, 3) := by decide +kernel
theorem dX3_type_4 : decode cX3_type 4 = .ok (.iload_n 1, 1) := by decide +kernel
theorem dX3_type_5 : decode cX3_type 5 = .ok (.invokevirtual 79, 3) := by decide +kernel
theorem dX3_type_8 : decode cX3_type 8 = .ok (.ireturn, 1) := by decide +kernel
theorem dX3_clearPad_0 : decode cX3_clearPad 0 = .ok (.aload_n 0, 1) := by decide +kernel
theorem dX3_clearPad_1 : decode cX3_clearPad 1 = .ok (.getfield 36, 3) := by decide +kernel
theorem dX3_clearPad_4 : decode cX3_clearPad 4 = .ok (.invokevirtual 83, 3) := by decide +kernel
theorem dX3_clearPad_7 : decode cX3_clearPad 7 = .ok (.ireturn, 1) := by decide +kernel
theorem dX3_undo_0 : decode cX3_undo 0 = .ok (.aload_n 0, 1) := by decide +kernel
theorem dX3_undo_1 : decode cX3_undo 1 = .ok (.getfield 29, 3) := by decide +kernel
theorem dX3_undo_4 : decode cX3_undo 4 = .ok (.aload_n 0, 1) := by decide +kernel
theorem dX3_undo_5 : decode cX3_undo 5 = .ok (.getfield 12, 3) := by decide +kernel
theorem dX3_undo_8 : decode cX3_undo 8 = .ok (.invokevirtual 86, 3) := by decide +kernel
theorem dX3_undo_11 : decode cX3_undo 11 = .ok (.ifCond .ne 6, 3) := by decide +kernel
theorem dX3_undo_14 : decode cX3_undo 14 = .ok (.bipush (-5), 2) := by decide +kernel
theorem dX3_undo_16 : decode cX3_undo 16 = .ok (.ireturn, 1) := by decide +kernel
theorem dX3_undo_17 : decode cX3_undo 17 = .ok (.aload_n 0, 1) := by decide +kernel
theorem dX3_undo_18 : decode cX3_undo 18 = .ok (.getfield 29, 3) := by decide +kernel
theorem dX3_undo_21 : decode cX3_undo 21 = .ok (.invokevirtual 90, 3) := by decide +kernel
theorem dX3_undo_24 : decode cX3_undo 24 = .ok (.ireturn, 1) := by decide +kernel
theorem dX3_keep_0 : decode cX3_keep 0 = .ok (.aload_n 0, 1) := by decide +kernel
theorem dX3_keep_1 : decode cX3_keep 1 = .ok (.getfield 19, 3) := by decide +kernel
theorem dX3_keep_4 : decode cX3_keep 4 = .ok (.aload_n 0, 1) := by decide +kernel
theorem dX3_keep_5 : decode cX3_keep 5 = .ok (.getfield 12, 3) := by decide +kernel
theorem dX3_keep_8 : decode cX3_keep 8 = .ok (.invokevirtual 40, 3) := by decide +kernel
theorem dX3_keep_11 : decode cX3_keep 11 = .ok (.aload_n 0, 1) := by decide +kernel
theorem dX3_keep_12 : decode cX3_keep 12 = .ok (.iconst 1, 1) := by decide +kernel
theorem dX3_keep_13 : decode cX3_keep 13 = .ok (.putfield 22, 3) := by decide +kernel
theorem dX3_keep_16 : decode cX3_keep 16 = .ok (.aload_n 0, 1) := by decide +kernel
theorem dX3_keep_17 : decode cX3_keep 17 = .ok (.getfield 12, 3) := by decide +kernel
theorem dX3_keep_20 : decode cX3_keep 20 = .ok (.invokevirtual 93, 3) := by decide +kernel
theorem dX3_keep_23 : decode cX3_keep 23 = .ok (.ireturn, 1) := by decide +kernel
theorem dX3_restore_0 : decode cX3_restore 0 = .ok (.aload_n 0, 1) := by decide +kernel
theorem dX3_restore_1 : decode cX3_restore 1 = .ok (.getfield 22, 3) := by decide +kernel
theorem dX3_restore_4 : decode cX3_restore 4 = .ok (.ifCond .ne 6, 3) := by decide +kernel
theorem dX3_restore_7 : decode cX3_restore 7 = .ok (.bipush (-5), 2) := by decide +kernel
theorem dX3_restore_9 : decode cX3_restore 9 = .ok (.ireturn, 1) := by decide +kernel
theorem dX3_restore_10 : decode cX3_restore 10 = .ok (.aload_n 0, 1) := by decide +kernel
theorem dX3_restore_11 : decode cX3_restore 11 = .ok (.getfield 16, 3) := by decide +kernel
theorem dX3_restore_14 : decode cX3_restore 14 = .ok (.aload_n 0, 1) := by decide +kernel
theorem dX3_restore_15 : decode cX3_restore 15 = .ok (.getfield 19, 3) := by decide +kernel
theorem dX3_restore_18 : decode cX3_restore 18 = .ok (.invokevirtual 40, 3) := by decide +kernel
theorem dX3_restore_21 : decode cX3_restore 21 = .ok (.aload_n 0, 1) := by decide +kernel
theorem dX3_restore_22 : decode cX3_restore 22 = .ok (.aload_n 0, 1) := by decide +kernel
theorem dX3_restore_23 : decode cX3_restore 23 = .ok (.getfield 16, 3) := by decide +kernel
theorem dX3_restore_26 : decode cX3_restore 26 = .ok (.invokevirtual 93, 3) := by decide +kernel
theorem dX3_restore_29 : decode cX3_restore 29 = .ok (.invokevirtual 48, 3) := by decide +kernel
theorem dX3_restore_32 : decode cX3_restore 32 = .ok (.ireturn, 1) := by decide +kernel
theorem dX3_entry_0 : decode cX3_entry 0 = .ok (.aload_n 0, 1) := by decide +kernel
theorem dX3_entry_1 : decode cX3_entry 1 = .ok (.getfield 12, 3) := by decide +kernel
theorem dX3_entry_4 : decode cX3_entry 4 = .ok (.iload_n 1, 1) := by decide +kernel
theorem dX3_entry_5 : decode cX3_entry 5 = .ok (.iload_n 2, 1) := by decide +kernel
theorem dX3_entry_6 : decode cX3_entry 6 = .ok (.invokevirtual 94, 3) := by decide +kernel
theorem dX3_entry_9 : decode cX3_entry 9 = .ok (.ireturn, 1) := by decide +kernel
theorem dX3_named_0 : decode cX3_named 0 = .ok (.aload_n 0, 1) := by decide +kernel
theorem dX3_named_1 : decode cX3_named 1 = .ok (.getfield 12, 3) := by decide +kernel
theorem dX3_named_4 : decode cX3_named 4 = .ok (.iload_n 1, 1) := by decide +kernel
theorem dX3_named_5 : decode cX3_named 5 = .ok (.invokevirtual 97, 3) := by decide +kernel
theorem dX3_named_8 : decode cX3_named 8 = .ok (.ireturn, 1) := by decide +kernel
theorem dX3_block_0 : decode cX3_block 0 = .ok (.aload_n 0, 1) := by decide +kernel
theorem dX3_block_1 : decode cX3_block 1 = .ok (.getfield 12, 3) := by decide +kernel
theorem dX3_block_4 : decode cX3_block 4 = .ok (.iload_n 1, 1) := by decide +kernel
theorem dX3_block_5 : decode cX3_block 5 = .ok (.iload_n 2, 1) := by decide +kernel
theorem dX3_block_6 : decode cX3_block 6 = .ok (.invokevirtual 100, 3) := by decide +kernel
theorem dX3_block_9 : decode cX3_block 9 = .ok (.ireturn, 1) := by decide +kernel
theorem dX3_at_0 : decode cX3_at 0 = .ok (.aload_n 0, 1) := by decide +kernel
theorem dX3_at_1 : decode cX3_at 1 = .ok (.getfield 12, 3) := by decide +kernel
theorem dX3_at_4 : decode cX3_at 4 = .ok (.iload_n 1, 1) := by decide +kernel
theorem dX3_at_5 : decode cX3_at 5 = .ok (.invokevirtual 103, 3) := by decide +kernel
theorem dX3_at_8 : decode cX3_at 8 = .ok (.ireturn, 1) := by decide +kernel
theorem dX3_fits_0 : decode cX3_fits 0 = .ok (.aload_n 0, 1) := by decide +kernel
theorem dX3_fits_1 : decode cX3_fits 1 = .ok (.getfield 12, 3) := by decide +kernel
theorem dX3_fits_4 : decode cX3_fits 4 = .ok (.iload_n 1, 1) := by decide +kernel
theorem dX3_fits_5 : decode cX3_fits 5 = .ok (.invokevirtual 106, 3) := by decide +kernel
theorem dX3_fits_8 : decode cX3_fits 8 = .ok (.ireturn, 1) := by decide +kernel
theorem dX3_beginning_0 : decode cX3_beginning 0 = .ok (.aload_n 0, 1) := by decide +kernel
theorem dX3_beginning_1 : decode cX3_beginning 1 = .ok (.getfield 12, 3) := by decide +kernel
theorem dX3_beginning_4 : decode cX3_beginning 4 = .ok (.iload_n 1, 1) := by decide +kernel
theorem dX3_beginning_5 : decode cX3_beginning 5 = .ok (.iload_n 2, 1) := by decide +kernel
theorem dX3_beginning_6 : decode cX3_beginning 6 = .ok (.invokevirtual 109, 3) := by decide +kernel
theorem dX3_beginning_9 : decode cX3_beginning 9 = .ok (.ireturn, 1) := by decide +kernel
theorem dX3_count_0 : decode cX3_count 0 = .ok (.iload_n 1, 1) := by decide +kernel
theorem dX3_count_1 : decode cX3_count 1 = .ok (.lookupswitch 43 #[(13, 27), (14, 35)], 27) := by decide +kernel
theorem dX3_count_28 : decode cX3_count 28 = .ok (.aload_n 0, 1) := by decide +kernel
theorem dX3_count_29 : decode cX3_count 29 = .ok (.getfield 29, 3) := by decide +kernel
theorem dX3_count_32 : decode cX3_count 32 = .ok (.invokevirtual 90, 3) := by decide +kernel
theorem dX3_count_35 : decode cX3_count 35 = .ok (.ireturn, 1) := by decide +kernel
theorem dX3_count_36 : decode cX3_count 36 = .ok (.aload_n 0, 1) := by decide +kernel
theorem dX3_count_37 : decode cX3_count 37 = .ok (.getfield 36, 3) := by decide +kernel
theorem dX3_count_40 : decode cX3_count 40 = .ok (.invokevirtual 112, 3) := by decide +kernel
theorem dX3_count_43 : decode cX3_count 43 = .ok (.ireturn, 1) := by decide +kernel
theorem dX3_count_44 : decode cX3_count 44 = .ok (.aload_n 0, 1) := by decide +kernel
theorem dX3_count_45 : decode cX3_count 45 = .ok (.getfield 12, 3) := by decide +kernel
theorem dX3_count_48 : decode cX3_count 48 = .ok (.iload_n 1, 1) := by decide +kernel
theorem dX3_count_49 : decode cX3_count 49 = .ok (.invokevirtual 115, 3) := by decide +kernel
theorem dX3_count_52 : decode cX3_count 52 = .ok (.ireturn, 1) := by decide +kernel
theorem dX3_settle_0 : decode cX3_settle 0 = .ok (.iload_n 1, 1) := by decide +kernel
theorem dX3_settle_1 : decode cX3_settle 1 = .ok (.ifCond .lt 25, 3) := by decide +kernel
theorem dX3_settle_4 : decode cX3_settle 4 = .ok (.aload_n 0, 1) := by decide +kernel
theorem dX3_settle_5 : decode cX3_settle 5 = .ok (.getfield 29, 3) := by decide +kernel
theorem dX3_settle_8 : decode cX3_settle 8 = .ok (.aload_n 0, 1) := by decide +kernel
theorem dX3_settle_9 : decode cX3_settle 9 = .ok (.getfield 12, 3) := by decide +kernel
theorem dX3_settle_12 : decode cX3_settle 12 = .ok (.invokevirtual 118, 3) := by decide +kernel
theorem dX3_settle_15 : decode cX3_settle 15 = .ok (.aload_n 0, 1) := by decide +kernel
theorem dX3_settle_16 : decode cX3_settle 16 = .ok (.getfield 12, 3) := by decide +kernel
theorem dX3_settle_19 : decode cX3_settle 19 = .ok (.aload_n 0, 1) := by decide +kernel
theorem dX3_settle_20 : decode cX3_settle 20 = .ok (.getfield 16, 3) := by decide +kernel
theorem dX3_settle_23 : decode cX3_settle 23 = .ok (.invokevirtual 40, 3) := by decide +kernel
theorem dX3_settle_26 : decode cX3_settle 26 = .ok (.iload_n 1, 1) := by decide +kernel
theorem dX3_settle_27 : decode cX3_settle 27 = .ok (.ireturn, 1) := by decide +kernel
theorem dX4_init_0 : decode cX4_init 0 = .ok (.aload_n 0, 1) := by decide +kernel
theorem dX4_init_1 : decode cX4_init 1 = .ok (.invokespecial 1, 3) := by decide +kernel
theorem dX4_init_4 : decode cX4_init 4 = .ok (.aload_n 0, 1) := by decide +kernel
theorem dX4_init_5 : decode cX4_init 5 = .ok (.sipush 149, 3) := by decide +kernel
theorem dX4_init_8 : decode cX4_init 8 = .ok (.newarray .int, 2) := by decide +kernel
theorem dX4_init_10 : decode cX4_init 10 = .ok (.putfield 7, 3) := by decide +kernel
theorem dX4_init_13 : decode cX4_init 13 = .ok (.aload_n 0, 1) := by decide +kernel
theorem dX4_init_14 : decode cX4_init 14 = .ok (.sipush 149, 3) := by decide +kernel
theorem dX4_init_17 : decode cX4_init 17 = .ok (.newarray .int, 2) := by decide +kernel
theorem dX4_init_19 : decode cX4_init 19 = .ok (.putfield 13, 3) := by decide +kernel
theorem dX4_init_22 : decode cX4_init 22 = .ok (.aload_n 0, 1) := by decide +kernel
theorem dX4_init_23 : decode cX4_init 23 = .ok (.sipush 596, 3) := by decide +kernel
theorem dX4_init_26 : decode cX4_init 26 = .ok (.newarray .int, 2) := by decide +kernel
theorem dX4_init_28 : decode cX4_init 28 = .ok (.putfield 16, 3) := by decide +kernel
theorem dX4_init_31 : decode cX4_init 31 = .ok (.aload_n 0, 1) := by decide +kernel
theorem dX4_init_32 : decode cX4_init 32 = .ok (.sipush 149, 3) := by decide +kernel
theorem dX4_init_35 : decode cX4_init 35 = .ok (.newarray .int, 2) := by decide +kernel
theorem dX4_init_37 : decode cX4_init 37 = .ok (.putfield 19, 3) := by decide +kernel
theorem dX4_init_40 : decode cX4_init 40 = .ok (.aload_n 0, 1) := by decide +kernel
theorem dX4_init_41 : decode cX4_init 41 = .ok (.bipush 6, 2) := by decide +kernel
theorem dX4_init_43 : decode cX4_init 43 = .ok (.newarray .int, 2) := by decide +kernel
theorem dX4_init_45 : decode cX4_init 45 = .ok (.putfield 22, 3) := by decide +kernel
theorem dX4_init_48 : decode cX4_init 48 = .ok (.aload_n 0, 1) := by decide +kernel
theorem dX4_init_49 : decode cX4_init 49 = .ok (.bipush 60, 2) := by decide +kernel
theorem dX4_init_51 : decode cX4_init 51 = .ok (.newarray .int, 2) := by decide +kernel
theorem dX4_init_53 : decode cX4_init 53 = .ok (.putfield 25, 3) := by decide +kernel
theorem dX4_init_56 : decode cX4_init 56 = .ok (.aload_n 0, 1) := by decide +kernel
theorem dX4_init_57 : decode cX4_init 57 = .ok (.getfield 7, 3) := by decide +kernel
theorem dX4_init_60 : decode cX4_init 60 = .ok (.iconst 1, 1) := by decide +kernel
theorem dX4_init_61 : decode cX4_init 61 = .ok (.iconst 2, 1) := by decide +kernel
theorem dX4_init_62 : decode cX4_init 62 = .ok (.iastore, 1) := by decide +kernel
theorem dX4_init_63 : decode cX4_init 63 = .ok (.return_, 1) := by decide +kernel
theorem dX4_in_0 : decode cX4_in 0 = .ok (.lload_n 0, 1) := by decide +kernel
theorem dX4_in_1 : decode cX4_in 1 = .ok (.lload_n 2, 1) := by decide +kernel
theorem dX4_in_2 : decode cX4_in 2 = .ok (.lcmp, 1) := by decide +kernel
theorem dX4_in_3 : decode cX4_in 3 = .ok (.ifCond .lt 14, 3) := by decide +kernel
theorem dX4_in_6 : decode cX4_in 6 = .ok (.lload_n 0, 1) := by decide +kernel
theorem dX4_in_7 : decode cX4_in 7 = .ok (.lload 4, 2) := by decide +kernel
theorem dX4_in_9 : decode cX4_in 9 = .ok (.lcmp, 1) := by decide +kernel
theorem dX4_in_10 : decode cX4_in 10 = .ok (.ifCond .gt 7, 3) := by decide +kernel
theorem dX4_in_13 : decode cX4_in 13 = .ok (.iconst 1, 1) := by decide +kernel
theorem dX4_in_14 : decode cX4_in 14 = .ok (.goto 4, 3) := by decide +kernel
theorem dX4_in_17 : decode cX4_in 17 = .ok (.iconst 0, 1) := by decide +kernel
theorem dX4_in_18 : decode cX4_in 18 = .ok (.ireturn, 1) := by decide +kernel
theorem dX4_remember_0 : decode cX4_remember 0 = .ok (.iconst 0, 1) := by decide +kernel
theorem dX4_remember_1 : decode cX4_remember 1 = .ok (.istore_n 1, 1) := by decide +kernel
theorem dX4_remember_2 : decode cX4_remember 2 = .ok (.iload_n 1, 1) := by decide +kernel
theorem dX4_remember_3 : decode cX4_remember 3 = .ok (.sipush 149, 3) := by decide +kernel
theorem dX4_remember_6 : decode cX4_remember 6 = .ok (.if_icmp .ge 21, 3) := by decide +kernel
theorem dX4_remember_9 : decode cX4_remember 9 = .ok (.aload_n 0, 1) := by decide +kernel
theorem dX4_remember_10 : decode cX4_remember 10 = .ok (.getfield 13, 3) := by decide +kernel
theorem dX4_remember_13 : decode cX4_remember 13 = .ok (.iload_n 1, 1) := by decide +kernel
theorem dX4_remember_14 : decode cX4_remember 14 = .ok (.aload_n 0, 1) := by decide +kernel
theorem dX4_remember_15 : decode cX4_remember 15 = .ok (.getfield 7, 3) := by decide +kernel
theorem dX4_remember_18 : decode cX4_remember 18 = .ok (.iload_n 1, 1) := by decide +kernel
theorem dX4_remember_19 : decode cX4_remember 19 = .ok (.iaload, 1) := by decide +kernel
theorem dX4_remember_20 : decode cX4_remember 20 = .ok (.iastore, 1) := by decide +kernel
theorem dX4_remember_21 : decode cX4_remember 21 = .ok (.iinc 1 1, 3) := by decide +kernel
theorem dX4_remember_24 : decode cX4_remember 24 = .ok (.goto (-22), 3) := by decide +kernel
theorem dX4_remember_27 : decode cX4_remember 27 = .ok (.return_, 1) := by decide +kernel
theorem dX4_acted_0 : decode cX4_acted 0 = .ok (.aload_n 0, 1) := by decide +kernel
theorem dX4_acted_1 : decode cX4_acted 1 = .ok (.getfield 28, 3) := by decide +kernel
theorem dX4_acted_4 : decode cX4_acted 4 = .ok (.iconst 4, 1) := by decide +kernel
theorem dX4_acted_5 : decode cX4_acted 5 = .ok (.if_icmp .ne 44, 3) := by decide +kernel
theorem dX4_acted_8 : decode cX4_acted 8 = .ok (.iconst 0, 1) := by decide +kernel
theorem dX4_acted_9 : decode cX4_acted 9 = .ok (.istore_n 2, 1) := by decide +kernel
theorem dX4_acted_10 : decode cX4_acted 10 = .ok (.iload_n 2, 1) := by decide +kernel
theorem dX4_acted_11 : decode cX4_acted 11 = .ok (.sipush 447, 3) := by decide +kernel
theorem dX4_acted_14 : decode cX4_acted 14 = .ok (.if_icmp .ge 25, 3) := by decide +kernel
theorem dX4_acted_17 : decode cX4_acted 17 = .ok (.aload_n 0, 1) := by decide +kernel
theorem dX4_acted_18 : decode cX4_acted 18 = .ok (.getfield 16, 3) := by decide +kernel
theorem dX4_acted_21 : decode cX4_acted 21 = .ok (.iload_n 2, 1) := by decide +kernel
theorem dX4_acted_22 : decode cX4_acted 22 = .ok (.aload_n 0, 1) := by decide +kernel
theorem dX4_acted_23 : decode cX4_acted 23 = .ok (.getfield 16, 3) := by decide +kernel
theorem dX4_acted_26 : decode cX4_acted 26 = .ok (.iload_n 2, 1) := by decide +kernel
theorem dX4_acted_27 : decode cX4_acted 27 = .ok (.sipush 149, 3) := by decide +kernel
theorem dX4_acted_30 : decode cX4_acted 30 = .ok (.iadd, 1) := by decide +kernel
theorem dX4_acted_31 : decode cX4_acted 31 = .ok (.iaload, 1) := by decide +kernel
theorem dX4_acted_32 : decode cX4_acted 32 = .ok (.iastore, 1) := by decide +kernel
theorem dX4_acted_33 : decode cX4_acted 33 = .ok (.iinc 2 1, 3) := by decide +kernel
theorem dX4_acted_36 : decode cX4_acted 36 = .ok (.goto (-26), 3) := by decide +kernel
theorem dX4_acted_39 : decode cX4_acted 39 = .ok (.aload_n 0, 1) := by decide +kernel
theorem dX4_acted_40 : decode cX4_acted 40 = .ok (.dup, 1) := by decide +kernel
theorem dX4_acted_41 : decode cX4_acted 41 = .ok (.getfield 28, 3) := by decide +kernel
theorem dX4_acted_44 : decode cX4_acted 44 = .ok (.iconst 1, 1) := by decide +kernel
theorem dX4_acted_45 : decode cX4_acted 45 = .ok (.isub, 1) := by decide +kernel
theorem dX4_acted_46 : decode cX4_acted 46 = .ok (.putfield 28, 3) := by decide +kernel
theorem dX4_acted_49 : decode cX4_acted 49 = .ok (.iconst 0, 1) := by decide +kernel
theorem dX4_acted_50 : decode cX4_acted 50 = .ok (.istore_n 2, 1) := by decide +kernel
theorem dX4_acted_51 : decode cX4_acted 51 = .ok (.iload_n 2, 1) := by decide +kernel
theorem dX4_acted_52 : decode cX4_acted 52 = .ok (.sipush 149, 3) := by decide +kernel
theorem dX4_acted_55 : decode cX4_acted 55 = .ok (.if_icmp .ge 30, 3) := by decide +kernel
theorem dX4_acted_58 : decode cX4_acted 58 = .ok (.aload_n 0, 1) := by decide +kernel
theorem dX4_acted_59 : decode cX4_acted 59 = .ok (.getfield 16, 3) := by decide +kernel
theorem dX4_acted_62 : decode cX4_acted 62 = .ok (.sipush 149, 3) := by decide +kernel
theorem dX4_acted_65 : decode cX4_acted 65 = .ok (.aload_n 0, 1) := by decide +kernel
theorem dX4_acted_66 : decode cX4_acted 66 = .ok (.getfield 28, 3) := by decide +kernel
theorem dX4_acted_69 : decode cX4_acted 69 = .ok (.imul, 1) := by decide +kernel
theorem dX4_acted_70 : decode cX4_acted 70 = .ok (.iload_n 2, 1) := by decide +kernel
theorem dX4_acted_71 : decode cX4_acted 71 = .ok (.iadd, 1) := by decide +kernel
theorem dX4_acted_72 : decode cX4_acted 72 = .ok (.aload_n 0, 1) := by decide +kernel
theorem dX4_acted_73 : decode cX4_acted 73 = .ok (.getfield 13, 3) := by decide +kernel
theorem dX4_acted_76 : decode cX4_acted 76 = .ok (.iload_n 2, 1) := by decide +kernel
theorem dX4_acted_77 : decode cX4_acted 77 = .ok (.iaload, 1) := by decide +kernel
theorem dX4_acted_78 : decode cX4_acted 78 = .ok (.iastore, 1) := by decide +kernel
theorem dX4_acted_79 : decode cX4_acted 79 = .ok (.iinc 2 1, 3) := by decide +kernel
theorem dX4_acted_82 : decode cX4_acted 82 = .ok (.goto (-31), 3) := by decide +kernel
theorem dX4_acted_85 : decode cX4_acted 85 = .ok (.aload_n 0, 1) := by decide +kernel
theorem dX4_acted_86 : decode cX4_acted 86 = .ok (.dup, 1) := by decide +kernel
theorem dX4_acted_87 : decode cX4_acted 87 = .ok (.getfield 28, 3) := by decide +kernel
theorem dX4_acted_90 : decode cX4_acted 90 = .ok (.iconst 1, 1) := by decide +kernel
theorem dX4_acted_91 : decode cX4_acted 91 = .ok (.iadd, 1) := by decide +kernel
theorem dX4_acted_92 : decode cX4_acted 92 = .ok (.putfield 28, 3) := by decide +kernel
theorem dX4_acted_95 : decode cX4_acted 95 = .ok (.iload_n 1, 1) := by decide +kernel
theorem dX4_acted_96 : decode cX4_acted 96 = .ok (.ireturn, 1) := by decide +kernel
theorem dX4_of_0 : decode cX4_of 0 = .ok (.aload_n 0, 1) := by decide +kernel
theorem dX4_of_1 : decode cX4_of 1 = .ok (.getfield 7, 3) := by decide +kernel
theorem dX4_of_4 : decode cX4_of 4 = .ok (.iconst 5, 1) := by decide +kernel
theorem dX4_of_5 : decode cX4_of 5 = .ok (.bipush 6, 2) := by decide +kernel
theorem dX4_of_7 : decode cX4_of 7 = .ok (.iload_n 1, 1) := by decide +kernel
theorem dX4_of_8 : decode cX4_of 8 = .ok (.imul, 1) := by decide +kernel
theorem dX4_of_9 : decode cX4_of 9 = .ok (.iadd, 1) := by decide +kernel
theorem dX4_of_10 : decode cX4_of 10 = .ok (.iload_n 2, 1) := by decide +kernel
theorem dX4_of_11 : decode cX4_of 11 = .ok (.iadd, 1) := by decide +kernel
theorem dX4_of_12 : decode cX4_of 12 = .ok (.iaload, 1) := by decide +kernel
theorem dX4_of_13 : decode cX4_of 13 = .ok (.ireturn, 1) := by decide +kernel
theorem dX4_sets_0 : decode cX4_sets 0 = .ok (.aload_n 0, 1) := by decide +kernel
theorem dX4_sets_1 : decode cX4_sets 1 = .ok (.getfield 7, 3) := by decide +kernel
theorem dX4_sets_4 : decode cX4_sets 4 = .ok (.iconst 5, 1) := by decide +kernel
theorem dX4_sets_5 : decode cX4_sets 5 = .ok (.bipush 6, 2) := by decide +kernel
theorem dX4_sets_7 : decode cX4_sets 7 = .ok (.iload_n 1, 1) := by decide +kernel
theorem dX4_sets_8 : decode cX4_sets 8 = .ok (.imul, 1) := by decide +kernel
theorem dX4_sets_9 : decode cX4_sets 9 = .ok (.iadd, 1) := by decide +kernel
theorem dX4_sets_10 : decode cX4_sets 10 = .ok (.iload_n 2, 1) := by decide +kernel
theorem dX4_sets_11 : decode cX4_sets 11 = .ok (.iadd, 1) := by decide +kernel
theorem dX4_sets_12 : decode cX4_sets 12 = .ok (.iload_n 3, 1) := by decide +kernel
theorem dX4_sets_13 : decode cX4_sets 13 = .ok (.iastore, 1) := by decide +kernel
theorem dX4_sets_14 : decode cX4_sets 14 = .ok (.return_, 1) := by decide +kernel
theorem dX4_isName_0 : decode cX4_isName 0 = .ok (.iload_n 0, 1) := by decide +kernel
theorem dX4_isName_1 : decode cX4_isName 1 = .ok (.i2l, 1) := by decide +kernel
theorem dX4_isName_2 : decode cX4_isName 2 = .ok (.lconst 0, 1) := by decide +kernel
theorem dX4_isName_3 : decode cX4_isName 3 = .ok (.ldc2_w 32, 3) := by decide +kernel
theorem dX4_isName_6 : decode cX4_isName 6 = .ok (.invokestatic 34, 3) := by decide +kernel
theorem dX4_isName_9 : decode cX4_isName 9 = .ok (.ireturn, 1) := by decide +kernel
theorem dX4_rankOf_0 : decode cX4_rankOf 0 = .ok (.iconst 0, 1) := by decide +kernel
theorem dX4_rankOf_1 : decode cX4_rankOf 1 = .ok (.istore_n 2, 1) := by decide +kernel
theorem dX4_rankOf_2 : decode cX4_rankOf 2 = .ok (.iload_n 2, 1) := by decide +kernel
theorem dX4_rankOf_3 : decode cX4_rankOf 3 = .ok (.aload_n 0, 1) := by decide +kernel
theorem dX4_rankOf_4 : decode cX4_rankOf 4 = .ok (.getfield 7, 3) := by decide +kernel
theorem dX4_rankOf_7 : decode cX4_rankOf 7 = .ok (.iconst 0, 1) := by decide +kernel
theorem dX4_rankOf_8 : decode cX4_rankOf 8 = .ok (.iaload, 1) := by decide +kernel
theorem dX4_rankOf_9 : decode cX4_rankOf 9 = .ok (.if_icmp .ge 21, 3) := by decide +kernel
theorem dX4_rankOf_12 : decode cX4_rankOf 12 = .ok (.aload_n 0, 1) := by decide +kernel
theorem dX4_rankOf_13 : decode cX4_rankOf 13 = .ok (.iload_n 2, 1) := by decide +kernel
theorem dX4_rankOf_14 : decode cX4_rankOf 14 = .ok (.iconst 0, 1) := by decide +kernel
theorem dX4_rankOf_15 : decode cX4_rankOf 15 = .ok (.invokevirtual 38, 3) := by decide +kernel
theorem dX4_rankOf_18 : decode cX4_rankOf 18 = .ok (.iload_n 1, 1) := by decide +kernel
theorem dX4_rankOf_19 : decode cX4_rankOf 19 = .ok (.if_icmp .ne 5, 3) := by decide +kernel
theorem dX4_rankOf_22 : decode cX4_rankOf 22 = .ok (.iload_n 2, 1) := by decide +kernel
theorem dX4_rankOf_23 : decode cX4_rankOf 23 = .ok (.ireturn, 1) := by decide +kernel
theorem dX4_rankOf_24 : decode cX4_rankOf 24 = .ok (.iinc 2 1, 3) := by decide +kernel
theorem dX4_rankOf_27 : decode cX4_rankOf 27 = .ok (.goto (-25), 3) := by decide +kernel
theorem dX4_rankOf_30 : decode cX4_rankOf 30 = .ok (.bipush (-5), 2) := by decide +kernel
theorem dX4_rankOf_32 : decode cX4_rankOf 32 = .ok (.ireturn, 1) := by decide +kernel
theorem dX4_isMember_0 : decode cX4_isMember 0 = .ok (.iload_n 1, 1) := by decide +kernel
theorem dX4_isMember_1 : decode cX4_isMember 1 = .ok (.bipush (-5), 2) := by decide +kernel
theorem dX4_isMember_3 : decode cX4_isMember 3 = .ok (.if_icmp .eq 16, 3) := by decide +kernel
theorem dX4_isMember_6 : decode cX4_isMember 6 = .ok (.aload_n 0, 1) := by decide +kernel
theorem dX4_isMember_7 : decode cX4_isMember 7 = .ok (.iload_n 1, 1) := by decide +kernel
theorem dX4_isMember_8 : decode cX4_isMember 8 = .ok (.iconst 1, 1) := by decide +kernel
theorem dX4_isMember_9 : decode cX4_isMember 9 = .ok (.invokevirtual 38, 3) := by decide +kernel
theorem dX4_isMember_12 : decode cX4_isMember 12 = .ok (.ifCond .ne 7, 3) := by decide +kernel
theorem dX4_isMember_15 : decode cX4_isMember 15 = .ok (.iconst 1, 1) := by decide +kernel
theorem dX4_isMember_16 : decode cX4_isMember 16 = .ok (.goto 4, 3) := by decide +kernel
theorem dX4_isMember_19 : decode cX4_isMember 19 = .ok (.iconst 0, 1) := by decide +kernel
theorem dX4_isMember_20 : decode cX4_isMember 20 = .ok (.ireturn, 1) := by decide +kernel
theorem dX4_isDirectoryFull_0 : decode cX4_isDirectoryFull 0 = .ok (.aload_n 0, 1) := by decide +kernel
theorem dX4_isDirectoryFull_1 : decode cX4_isDirectoryFull 1 = .ok (.getfield 7, 3) := by decide +kernel
theorem dX4_isDirectoryFull_4 : decode cX4_isDirectoryFull 4 = .ok (.iconst 0, 1) := by decide +kernel
theorem dX4_isDirectoryFull_5 : decode cX4_isDirectoryFull 5 = .ok (.iaload, 1) := by decide +kernel
theorem dX4_isDirectoryFull_6 : decode cX4_isDirectoryFull 6 = .ok (.iconst 4, 1) := by decide +kernel
theorem dX4_isDirectoryFull_7 : decode cX4_isDirectoryFull 7 = .ok (.aload_n 0, 1) := by decide +kernel
theorem dX4_isDirectoryFull_8 : decode cX4_isDirectoryFull 8 = .ok (.getfield 7, 3) := by decide +kernel
theorem dX4_isDirectoryFull_11 : decode cX4_isDirectoryFull 11 = .ok (.iconst 1, 1) := by decide +kernel
theorem dX4_isDirectoryFull_12 : decode cX4_isDirectoryFull 12 = .ok (.iaload, 1) := by decide +kernel
theorem dX4_isDirectoryFull_13 : decode cX4_isDirectoryFull 13 = .ok (.imul, 1) := by decide +kernel
theorem dX4_isDirectoryFull_14 : decode cX4_isDirectoryFull 14 = .ok (.if_icmp .ne 7, 3) := by decide +kernel
theorem dX4_isDirectoryFull_17 : decode cX4_isDirectoryFull 17 = .ok (.iconst 1, 1) := by decide +kernel
theorem dX4_isDirectoryFull_18 : decode cX4_isDirectoryFull 18 = .ok (.goto 4, 3) := by decide +kernel
theorem dX4_isDirectoryFull_21 : decode cX4_isDirectoryFull 21 = .ok (.iconst 0, 1) := by decide +kernel
theorem dX4_isDirectoryFull_22 : decode cX4_isDirectoryFull 22 = .ok (.ireturn, 1) := by decide +kernel
theorem dX4_takesOut_0 : decode cX4_takesOut 0 = .ok (.iconst 0, 1) := by decide +kernel
theorem dX4_takesOut_1 : decode cX4_takesOut 1 = .ok (.istore_n 2, 1) := by decide +kernel
theorem dX4_takesOut_2 : decode cX4_takesOut 2 = .ok (.iload_n 2, 1) := by decide +kernel
theorem dX4_takesOut_3 : decode cX4_takesOut 3 = .ok (.bipush 6, 2) := by decide +kernel
theorem dX4_takesOut_5 : decode cX4_takesOut 5 = .ok (.if_icmp .ge 21, 3) := by decide +kernel
theorem dX4_takesOut_8 : decode cX4_takesOut 8 = .ok (.aload_n 0, 1) := by decide +kernel
theorem dX4_takesOut_9 : decode cX4_takesOut 9 = .ok (.getfield 22, 3) := by decide +kernel
theorem dX4_takesOut_12 : decode cX4_takesOut 12 = .ok (.iload_n 2, 1) := by decide +kernel
theorem dX4_takesOut_13 : decode cX4_takesOut 13 = .ok (.aload_n 0, 1) := by decide +kernel
theorem dX4_takesOut_14 : decode cX4_takesOut 14 = .ok (.iload_n 1, 1) := by decide +kernel
theorem dX4_takesOut_15 : decode cX4_takesOut 15 = .ok (.iload_n 2, 1) := by decide +kernel
theorem dX4_takesOut_16 : decode cX4_takesOut 16 = .ok (.invokevirtual 38, 3) := by decide +kernel
theorem dX4_takesOut_19 : decode cX4_takesOut 19 = .ok (.iastore, 1) := by decide +kernel
theorem dX4_takesOut_20 : decode cX4_takesOut 20 = .ok (.iinc 2 1, 3) := by decide +kernel
theorem dX4_takesOut_23 : decode cX4_takesOut 23 = .ok (.goto (-21), 3) := by decide +kernel
theorem dX4_takesOut_26 : decode cX4_takesOut 26 = .ok (.aload_n 0, 1) := by decide +kernel
theorem dX4_takesOut_27 : decode cX4_takesOut 27 = .ok (.getfield 7, 3) := by decide +kernel
theorem dX4_takesOut_30 : decode cX4_takesOut 30 = .ok (.iconst 0, 1) := by decide +kernel
theorem dX4_takesOut_31 : decode cX4_takesOut 31 = .ok (.dup2, 1) := by decide +kernel
theorem dX4_takesOut_32 : decode cX4_takesOut 32 = .ok (.iaload, 1) := by decide +kernel
theorem dX4_takesOut_33 : decode cX4_takesOut 33 = .ok (.iconst 1, 1) := by decide +kernel
theorem dX4_takesOut_34 : decode cX4_takesOut 34 = .ok (.isub, 1) := by decide +kernel
theorem dX4_takesOut_35 : decode cX4_takesOut 35 = .ok (.iastore, 1) := by decide +kernel
theorem dX4_takesOut_36 : decode cX4_takesOut 36 = .ok (.iconst 5, 1) := by decide +kernel
theorem dX4_takesOut_37 : decode cX4_takesOut 37 = .ok (.bipush 6, 2) := by decide +kernel
theorem dX4_takesOut_39 : decode cX4_takesOut 39 = .ok (.iload_n 1, 1) := by decide +kernel
theorem dX4_takesOut_40 : decode cX4_takesOut 40 = .ok (.imul, 1) := by decide +kernel
theorem dX4_takesOut_41 : decode cX4_takesOut 41 = .ok (.iadd, 1) := by decide +kernel
theorem dX4_takesOut_42 : decode cX4_takesOut 42 = .ok (.istore_n 2, 1) := by decide +kernel
theorem dX4_takesOut_43 : decode cX4_takesOut 43 = .ok (.iload_n 2, 1) := by decide +kernel
theorem dX4_takesOut_44 : decode cX4_takesOut 44 = .ok (.iconst 5, 1) := by decide +kernel
theorem dX4_takesOut_45 : decode cX4_takesOut 45 = .ok (.bipush 6, 2) := by decide +kernel
theorem dX4_takesOut_47 : decode cX4_takesOut 47 = .ok (.aload_n 0, 1) := by decide +kernel
theorem dX4_takesOut_48 : decode cX4_takesOut 48 = .ok (.getfield 7, 3) := by decide +kernel
theorem dX4_takesOut_51 : decode cX4_takesOut 51 = .ok (.iconst 0, 1) := by decide +kernel
theorem dX4_takesOut_52 : decode cX4_takesOut 52 = .ok (.iaload, 1) := by decide +kernel
theorem dX4_takesOut_53 : decode cX4_takesOut 53 = .ok (.imul, 1) := by decide +kernel
theorem dX4_takesOut_54 : decode cX4_takesOut 54 = .ok (.iadd, 1) := by decide +kernel
theorem dX4_takesOut_55 : decode cX4_takesOut 55 = .ok (.if_icmp .ge 24, 3) := by decide +kernel
theorem dX4_takesOut_58 : decode cX4_takesOut 58 = .ok (.aload_n 0, 1) := by decide +kernel
theorem dX4_takesOut_59 : decode cX4_takesOut 59 = .ok (.getfield 7, 3) := by decide +kernel
theorem dX4_takesOut_62 : decode cX4_takesOut 62 = .ok (.iload_n 2, 1) := by decide +kernel
theorem dX4_takesOut_63 : decode cX4_takesOut 63 = .ok (.aload_n 0, 1) := by decide +kernel
theorem dX4_takesOut_64 : decode cX4_takesOut 64 = .ok (.getfield 7, 3) := by decide +kernel
theorem dX4_takesOut_67 : decode cX4_takesOut 67 = .ok (.iload_n 2, 1) := by decide +kernel
theorem dX4_takesOut_68 : decode cX4_takesOut 68 = .ok (.bipush 6, 2) := by decide +kernel
theorem dX4_takesOut_70 : decode cX4_takesOut 70 = .ok (.iadd, 1) := by decide +kernel
end
section
theorem dX4_takesOut_71 : decode cX4_takesOut 71 = .ok (.iaload, 1) := by decide +kernel
theorem dX4_takesOut_72 : decode cX4_takesOut 72 = .ok (.iastore, 1) := by decide +kernel
theorem dX4_takesOut_73 : decode cX4_takesOut 73 = .ok (.iinc 2 1, 3) := by decide +kernel
theorem dX4_takesOut_76 : decode cX4_takesOut 76 = .ok (.goto (-33), 3) := by decide +kernel
theorem dX4_takesOut_79 : decode cX4_takesOut 79 = .ok (.return_, 1) := by decide +kernel
theorem dX4_putsIn_0 : decode cX4_putsIn 0 = .ok (.iconst 0, 1) := by decide +kernel
theorem dX4_putsIn_1 : decode cX4_putsIn 1 = .ok (.istore_n 1, 1) := by decide +kernel
theorem dX4_putsIn_2 : decode cX4_putsIn 2 = .ok (.iload_n 1, 1) := by decide +kernel
theorem dX4_putsIn_3 : decode cX4_putsIn 3 = .ok (.aload_n 0, 1) := by decide +kernel
theorem dX4_putsIn_4 : decode cX4_putsIn 4 = .ok (.getfield 7, 3) := by decide +kernel
theorem dX4_putsIn_7 : decode cX4_putsIn 7 = .ok (.iconst 0, 1) := by decide +kernel
theorem dX4_putsIn_8 : decode cX4_putsIn 8 = .ok (.iaload, 1) := by decide +kernel
theorem dX4_putsIn_9 : decode cX4_putsIn 9 = .ok (.if_icmp .ge 24, 3) := by decide +kernel
theorem dX4_putsIn_12 : decode cX4_putsIn 12 = .ok (.aload_n 0, 1) := by decide +kernel
theorem dX4_putsIn_13 : decode cX4_putsIn 13 = .ok (.iload_n 1, 1) := by decide +kernel
theorem dX4_putsIn_14 : decode cX4_putsIn 14 = .ok (.iconst 0, 1) := by decide +kernel
theorem dX4_putsIn_15 : decode cX4_putsIn 15 = .ok (.invokevirtual 38, 3) := by decide +kernel
theorem dX4_putsIn_18 : decode cX4_putsIn 18 = .ok (.aload_n 0, 1) := by decide +kernel
theorem dX4_putsIn_19 : decode cX4_putsIn 19 = .ok (.getfield 22, 3) := by decide +kernel
theorem dX4_putsIn_22 : decode cX4_putsIn 22 = .ok (.iconst 0, 1) := by decide +kernel
theorem dX4_putsIn_23 : decode cX4_putsIn 23 = .ok (.iaload, 1) := by decide +kernel
theorem dX4_putsIn_24 : decode cX4_putsIn 24 = .ok (.if_icmp .ge 9, 3) := by decide +kernel
theorem dX4_putsIn_27 : decode cX4_putsIn 27 = .ok (.iinc 1 1, 3) := by decide +kernel
theorem dX4_putsIn_30 : decode cX4_putsIn 30 = .ok (.goto (-28), 3) := by decide +kernel
theorem dX4_putsIn_33 : decode cX4_putsIn 33 = .ok (.iconst 5, 1) := by decide +kernel
theorem dX4_putsIn_34 : decode cX4_putsIn 34 = .ok (.bipush 6, 2) := by decide +kernel
theorem dX4_putsIn_36 : decode cX4_putsIn 36 = .ok (.aload_n 0, 1) := by decide +kernel
theorem dX4_putsIn_37 : decode cX4_putsIn 37 = .ok (.getfield 7, 3) := by decide +kernel
theorem dX4_putsIn_40 : decode cX4_putsIn 40 = .ok (.iconst 0, 1) := by decide +kernel
theorem dX4_putsIn_41 : decode cX4_putsIn 41 = .ok (.iaload, 1) := by decide +kernel
theorem dX4_putsIn_42 : decode cX4_putsIn 42 = .ok (.imul, 1) := by decide +kernel
theorem dX4_putsIn_43 : decode cX4_putsIn 43 = .ok (.iadd, 1) := by decide +kernel
theorem dX4_putsIn_44 : decode cX4_putsIn 44 = .ok (.iconst 1, 1) := by decide +kernel
theorem dX4_putsIn_45 : decode cX4_putsIn 45 = .ok (.isub, 1) := by decide +kernel
theorem dX4_putsIn_46 : decode cX4_putsIn 46 = .ok (.istore_n 2, 1) := by decide +kernel
theorem dX4_putsIn_47 : decode cX4_putsIn 47 = .ok (.iload_n 2, 1) := by decide +kernel
theorem dX4_putsIn_48 : decode cX4_putsIn 48 = .ok (.iconst 5, 1) := by decide +kernel
theorem dX4_putsIn_49 : decode cX4_putsIn 49 = .ok (.bipush 6, 2) := by decide +kernel
theorem dX4_putsIn_51 : decode cX4_putsIn 51 = .ok (.iload_n 1, 1) := by decide +kernel
theorem dX4_putsIn_52 : decode cX4_putsIn 52 = .ok (.imul, 1) := by decide +kernel
theorem dX4_putsIn_53 : decode cX4_putsIn 53 = .ok (.iadd, 1) := by decide +kernel
theorem dX4_putsIn_54 : decode cX4_putsIn 54 = .ok (.if_icmp .lt 24, 3) := by decide +kernel
theorem dX4_putsIn_57 : decode cX4_putsIn 57 = .ok (.aload_n 0, 1) := by decide +kernel
theorem dX4_putsIn_58 : decode cX4_putsIn 58 = .ok (.getfield 7, 3) := by decide +kernel
theorem dX4_putsIn_61 : decode cX4_putsIn 61 = .ok (.iload_n 2, 1) := by decide +kernel
theorem dX4_putsIn_62 : decode cX4_putsIn 62 = .ok (.bipush 6, 2) := by decide +kernel
theorem dX4_putsIn_64 : decode cX4_putsIn 64 = .ok (.iadd, 1) := by decide +kernel
theorem dX4_putsIn_65 : decode cX4_putsIn 65 = .ok (.aload_n 0, 1) := by decide +kernel
theorem dX4_putsIn_66 : decode cX4_putsIn 66 = .ok (.getfield 7, 3) := by decide +kernel
theorem dX4_putsIn_69 : decode cX4_putsIn 69 = .ok (.iload_n 2, 1) := by decide +kernel
theorem dX4_putsIn_70 : decode cX4_putsIn 70 = .ok (.iaload, 1) := by decide +kernel
theorem dX4_putsIn_71 : decode cX4_putsIn 71 = .ok (.iastore, 1) := by decide +kernel
theorem dX4_putsIn_72 : decode cX4_putsIn 72 = .ok (.iinc 2 (-1), 3) := by decide +kernel
theorem dX4_putsIn_75 : decode cX4_putsIn 75 = .ok (.goto (-28), 3) := by decide +kernel
theorem dX4_putsIn_78 : decode cX4_putsIn 78 = .ok (.aload_n 0, 1) := by decide +kernel
theorem dX4_putsIn_79 : decode cX4_putsIn 79 = .ok (.getfield 7, 3) := by decide +kernel
theorem dX4_putsIn_82 : decode cX4_putsIn 82 = .ok (.iconst 0, 1) := by decide +kernel
theorem dX4_putsIn_83 : decode cX4_putsIn 83 = .ok (.dup2, 1) := by decide +kernel
theorem dX4_putsIn_84 : decode cX4_putsIn 84 = .ok (.iaload, 1) := by decide +kernel
theorem dX4_putsIn_85 : decode cX4_putsIn 85 = .ok (.iconst 1, 1) := by decide +kernel
theorem dX4_putsIn_86 : decode cX4_putsIn 86 = .ok (.iadd, 1) := by decide +kernel
theorem dX4_putsIn_87 : decode cX4_putsIn 87 = .ok (.iastore, 1) := by decide +kernel
theorem dX4_putsIn_88 : decode cX4_putsIn 88 = .ok (.iconst 0, 1) := by decide +kernel
theorem dX4_putsIn_89 : decode cX4_putsIn 89 = .ok (.istore_n 2, 1) := by decide +kernel
theorem dX4_putsIn_90 : decode cX4_putsIn 90 = .ok (.iload_n 2, 1) := by decide +kernel
theorem dX4_putsIn_91 : decode cX4_putsIn 91 = .ok (.bipush 6, 2) := by decide +kernel
theorem dX4_putsIn_93 : decode cX4_putsIn 93 = .ok (.if_icmp .ge 21, 3) := by decide +kernel
theorem dX4_putsIn_96 : decode cX4_putsIn 96 = .ok (.aload_n 0, 1) := by decide +kernel
theorem dX4_putsIn_97 : decode cX4_putsIn 97 = .ok (.iload_n 1, 1) := by decide +kernel
theorem dX4_putsIn_98 : decode cX4_putsIn 98 = .ok (.iload_n 2, 1) := by decide +kernel
theorem dX4_putsIn_99 : decode cX4_putsIn 99 = .ok (.aload_n 0, 1) := by decide +kernel
theorem dX4_putsIn_100 : decode cX4_putsIn 100 = .ok (.getfield 22, 3) := by decide +kernel
theorem dX4_putsIn_103 : decode cX4_putsIn 103 = .ok (.iload_n 2, 1) := by decide +kernel
theorem dX4_putsIn_104 : decode cX4_putsIn 104 = .ok (.iaload, 1) := by decide +kernel
theorem dX4_putsIn_105 : decode cX4_putsIn 105 = .ok (.invokevirtual 42, 3) := by decide +kernel
theorem dX4_putsIn_108 : decode cX4_putsIn 108 = .ok (.iinc 2 1, 3) := by decide +kernel
theorem dX4_putsIn_111 : decode cX4_putsIn 111 = .ok (.goto (-21), 3) := by decide +kernel
theorem dX4_putsIn_114 : decode cX4_putsIn 114 = .ok (.iload_n 1, 1) := by decide +kernel
theorem dX4_putsIn_115 : decode cX4_putsIn 115 = .ok (.ireturn, 1) := by decide +kernel
theorem dX4_isRoomFor_0 : decode cX4_isRoomFor 0 = .ok (.aload_n 0, 1) := by decide +kernel
theorem dX4_isRoomFor_1 : decode cX4_isRoomFor 1 = .ok (.getfield 7, 3) := by decide +kernel
theorem dX4_isRoomFor_4 : decode cX4_isRoomFor 4 = .ok (.iconst 2, 1) := by decide +kernel
theorem dX4_isRoomFor_5 : decode cX4_isRoomFor 5 = .ok (.iaload, 1) := by decide +kernel
theorem dX4_isRoomFor_6 : decode cX4_isRoomFor 6 = .ok (.iload_n 1, 1) := by decide +kernel
theorem dX4_isRoomFor_7 : decode cX4_isRoomFor 7 = .ok (.iadd, 1) := by decide +kernel
theorem dX4_isRoomFor_8 : decode cX4_isRoomFor 8 = .ok (.bipush 100, 2) := by decide +kernel
theorem dX4_isRoomFor_10 : decode cX4_isRoomFor 10 = .ok (.if_icmp .gt 7, 3) := by decide +kernel
theorem dX4_isRoomFor_13 : decode cX4_isRoomFor 13 = .ok (.iconst 1, 1) := by decide +kernel
theorem dX4_isRoomFor_14 : decode cX4_isRoomFor 14 = .ok (.goto 4, 3) := by decide +kernel
theorem dX4_isRoomFor_17 : decode cX4_isRoomFor 17 = .ok (.iconst 0, 1) := by decide +kernel
theorem dX4_isRoomFor_18 : decode cX4_isRoomFor 18 = .ok (.ireturn, 1) := by decide +kernel
theorem dX4_laysText_0 : decode cX4_laysText 0 = .ok (.aload_n 0, 1) := by decide +kernel
theorem dX4_laysText_1 : decode cX4_laysText 1 = .ok (.iload_n 1, 1) := by decide +kernel
theorem dX4_laysText_2 : decode cX4_laysText 2 = .ok (.iconst 2, 1) := by decide +kernel
theorem dX4_laysText_3 : decode cX4_laysText 3 = .ok (.aload_n 0, 1) := by decide +kernel
theorem dX4_laysText_4 : decode cX4_laysText 4 = .ok (.getfield 7, 3) := by decide +kernel
theorem dX4_laysText_7 : decode cX4_laysText 7 = .ok (.iconst 2, 1) := by decide +kernel
theorem dX4_laysText_8 : decode cX4_laysText 8 = .ok (.iaload, 1) := by decide +kernel
theorem dX4_laysText_9 : decode cX4_laysText 9 = .ok (.invokevirtual 42, 3) := by decide +kernel
theorem dX4_laysText_12 : decode cX4_laysText 12 = .ok (.aload_n 0, 1) := by decide +kernel
theorem dX4_laysText_13 : decode cX4_laysText 13 = .ok (.iload_n 1, 1) := by decide +kernel
theorem dX4_laysText_14 : decode cX4_laysText 14 = .ok (.iconst 3, 1) := by decide +kernel
theorem dX4_laysText_15 : decode cX4_laysText 15 = .ok (.iload_n 2, 1) := by decide +kernel
theorem dX4_laysText_16 : decode cX4_laysText 16 = .ok (.invokevirtual 42, 3) := by decide +kernel
theorem dX4_laysText_19 : decode cX4_laysText 19 = .ok (.aload_n 0, 1) := by decide +kernel
theorem dX4_laysText_20 : decode cX4_laysText 20 = .ok (.iload_n 1, 1) := by decide +kernel
theorem dX4_laysText_21 : decode cX4_laysText 21 = .ok (.iconst 4, 1) := by decide +kernel
theorem dX4_laysText_22 : decode cX4_laysText 22 = .ok (.iload_n 3, 1) := by decide +kernel
theorem dX4_laysText_23 : decode cX4_laysText 23 = .ok (.invokevirtual 42, 3) := by decide +kernel
theorem dX4_laysText_26 : decode cX4_laysText 26 = .ok (.aload_n 0, 1) := by decide +kernel
theorem dX4_laysText_27 : decode cX4_laysText 27 = .ok (.getfield 7, 3) := by decide +kernel
theorem dX4_laysText_30 : decode cX4_laysText 30 = .ok (.iconst 2, 1) := by decide +kernel
theorem dX4_laysText_31 : decode cX4_laysText 31 = .ok (.dup2, 1) := by decide +kernel
theorem dX4_laysText_32 : decode cX4_laysText 32 = .ok (.iaload, 1) := by decide +kernel
theorem dX4_laysText_33 : decode cX4_laysText 33 = .ok (.iload_n 2, 1) := by decide +kernel
theorem dX4_laysText_34 : decode cX4_laysText 34 = .ok (.iadd, 1) := by decide +kernel
theorem dX4_laysText_35 : decode cX4_laysText 35 = .ok (.iastore, 1) := by decide +kernel
theorem dX4_laysText_36 : decode cX4_laysText 36 = .ok (.return_, 1) := by decide +kernel
theorem dX4_nextText_0 : decode cX4_nextText 0 = .ok (.bipush (-5), 2) := by decide +kernel
theorem dX4_nextText_2 : decode cX4_nextText 2 = .ok (.istore_n 2, 1) := by decide +kernel
theorem dX4_nextText_3 : decode cX4_nextText 3 = .ok (.iconst 0, 1) := by decide +kernel
theorem dX4_nextText_4 : decode cX4_nextText 4 = .ok (.istore_n 3, 1) := by decide +kernel
theorem dX4_nextText_5 : decode cX4_nextText 5 = .ok (.iload_n 3, 1) := by decide +kernel
theorem dX4_nextText_6 : decode cX4_nextText 6 = .ok (.aload_n 0, 1) := by decide +kernel
theorem dX4_nextText_7 : decode cX4_nextText 7 = .ok (.getfield 7, 3) := by decide +kernel
theorem dX4_nextText_10 : decode cX4_nextText 10 = .ok (.iconst 0, 1) := by decide +kernel
theorem dX4_nextText_11 : decode cX4_nextText 11 = .ok (.iaload, 1) := by decide +kernel
theorem dX4_nextText_12 : decode cX4_nextText 12 = .ok (.if_icmp .ge 58, 3) := by decide +kernel
theorem dX4_nextText_15 : decode cX4_nextText 15 = .ok (.aload_n 0, 1) := by decide +kernel
theorem dX4_nextText_16 : decode cX4_nextText 16 = .ok (.iload_n 3, 1) := by decide +kernel
theorem dX4_nextText_17 : decode cX4_nextText 17 = .ok (.iconst 2, 1) := by decide +kernel
theorem dX4_nextText_18 : decode cX4_nextText 18 = .ok (.invokevirtual 38, 3) := by decide +kernel
theorem dX4_nextText_21 : decode cX4_nextText 21 = .ok (.iload_n 1, 1) := by decide +kernel
theorem dX4_nextText_22 : decode cX4_nextText 22 = .ok (.if_icmp .lt 28, 3) := by decide +kernel
theorem dX4_nextText_25 : decode cX4_nextText 25 = .ok (.iload_n 2, 1) := by decide +kernel
theorem dX4_nextText_26 : decode cX4_nextText 26 = .ok (.bipush (-5), 2) := by decide +kernel
theorem dX4_nextText_28 : decode cX4_nextText 28 = .ok (.if_icmp .eq 18, 3) := by decide +kernel
theorem dX4_nextText_31 : decode cX4_nextText 31 = .ok (.aload_n 0, 1) := by decide +kernel
theorem dX4_nextText_32 : decode cX4_nextText 32 = .ok (.iload_n 3, 1) := by decide +kernel
theorem dX4_nextText_33 : decode cX4_nextText 33 = .ok (.iconst 2, 1) := by decide +kernel
theorem dX4_nextText_34 : decode cX4_nextText 34 = .ok (.invokevirtual 38, 3) := by decide +kernel
theorem dX4_nextText_37 : decode cX4_nextText 37 = .ok (.aload_n 0, 1) := by decide +kernel
theorem dX4_nextText_38 : decode cX4_nextText 38 = .ok (.iload_n 2, 1) := by decide +kernel
theorem dX4_nextText_39 : decode cX4_nextText 39 = .ok (.iconst 2, 1) := by decide +kernel
theorem dX4_nextText_40 : decode cX4_nextText 40 = .ok (.invokevirtual 38, 3) := by decide +kernel
theorem dX4_nextText_43 : decode cX4_nextText 43 = .ok (.if_icmp .ge 7, 3) := by decide +kernel
theorem dX4_nextText_46 : decode cX4_nextText 46 = .ok (.iconst 1, 1) := by decide +kernel
theorem dX4_nextText_47 : decode cX4_nextText 47 = .ok (.goto 4, 3) := by decide +kernel
theorem dX4_nextText_50 : decode cX4_nextText 50 = .ok (.iconst 0, 1) := by decide +kernel
theorem dX4_nextText_51 : decode cX4_nextText 51 = .ok (.istore 4, 2) := by decide +kernel
theorem dX4_nextText_53 : decode cX4_nextText 53 = .ok (.iload 4, 2) := by decide +kernel
theorem dX4_nextText_55 : decode cX4_nextText 55 = .ok (.ifCond .eq 7, 3) := by decide +kernel
theorem dX4_nextText_58 : decode cX4_nextText 58 = .ok (.iload_n 3, 1) := by decide +kernel
theorem dX4_nextText_59 : decode cX4_nextText 59 = .ok (.goto 4, 3) := by decide +kernel
theorem dX4_nextText_62 : decode cX4_nextText 62 = .ok (.iload_n 2, 1) := by decide +kernel
theorem dX4_nextText_63 : decode cX4_nextText 63 = .ok (.istore_n 2, 1) := by decide +kernel
theorem dX4_nextText_64 : decode cX4_nextText 64 = .ok (.iinc 3 1, 3) := by decide +kernel
theorem dX4_nextText_67 : decode cX4_nextText 67 = .ok (.goto (-62), 3) := by decide +kernel
theorem dX4_nextText_70 : decode cX4_nextText 70 = .ok (.iload_n 2, 1) := by decide +kernel
theorem dX4_nextText_71 : decode cX4_nextText 71 = .ok (.ireturn, 1) := by decide +kernel
theorem dX4_living_0 : decode cX4_living 0 = .ok (.iconst 0, 1) := by decide +kernel
theorem dX4_living_1 : decode cX4_living 1 = .ok (.istore_n 2, 1) := by decide +kernel
theorem dX4_living_2 : decode cX4_living 2 = .ok (.aload_n 0, 1) := by decide +kernel
theorem dX4_living_3 : decode cX4_living 3 = .ok (.iconst 0, 1) := by decide +kernel
theorem dX4_living_4 : decode cX4_living 4 = .ok (.invokevirtual 46, 3) := by decide +kernel
theorem dX4_living_7 : decode cX4_living 7 = .ok (.istore_n 3, 1) := by decide +kernel
theorem dX4_living_8 : decode cX4_living 8 = .ok (.iload_n 3, 1) := by decide +kernel
theorem dX4_living_9 : decode cX4_living 9 = .ok (.bipush (-5), 2) := by decide +kernel
theorem dX4_living_11 : decode cX4_living 11 = .ok (.if_icmp .eq 36, 3) := by decide +kernel
theorem dX4_living_14 : decode cX4_living 14 = .ok (.iload_n 2, 1) := by decide +kernel
theorem dX4_living_15 : decode cX4_living 15 = .ok (.iload_n 1, 1) := by decide +kernel
theorem dX4_living_16 : decode cX4_living 16 = .ok (.ifCond .eq 12, 3) := by decide +kernel
theorem dX4_living_19 : decode cX4_living 19 = .ok (.aload_n 0, 1) := by decide +kernel
theorem dX4_living_20 : decode cX4_living 20 = .ok (.iload_n 3, 1) := by decide +kernel
theorem dX4_living_21 : decode cX4_living 21 = .ok (.iconst 3, 1) := by decide +kernel
theorem dX4_living_22 : decode cX4_living 22 = .ok (.invokevirtual 38, 3) := by decide +kernel
theorem dX4_living_25 : decode cX4_living 25 = .ok (.goto 4, 3) := by decide +kernel
theorem dX4_living_28 : decode cX4_living 28 = .ok (.iconst 1, 1) := by decide +kernel
theorem dX4_living_29 : decode cX4_living 29 = .ok (.iadd, 1) := by decide +kernel
theorem dX4_living_30 : decode cX4_living 30 = .ok (.istore_n 2, 1) := by decide +kernel
theorem dX4_living_31 : decode cX4_living 31 = .ok (.aload_n 0, 1) := by decide +kernel
theorem dX4_living_32 : decode cX4_living 32 = .ok (.aload_n 0, 1) := by decide +kernel
theorem dX4_living_33 : decode cX4_living 33 = .ok (.iload_n 3, 1) := by decide +kernel
theorem dX4_living_34 : decode cX4_living 34 = .ok (.iconst 2, 1) := by decide +kernel
theorem dX4_living_35 : decode cX4_living 35 = .ok (.invokevirtual 38, 3) := by decide +kernel
theorem dX4_living_38 : decode cX4_living 38 = .ok (.iconst 1, 1) := by decide +kernel
theorem dX4_living_39 : decode cX4_living 39 = .ok (.iadd, 1) := by decide +kernel
theorem dX4_living_40 : decode cX4_living 40 = .ok (.invokevirtual 46, 3) := by decide +kernel
theorem dX4_living_43 : decode cX4_living 43 = .ok (.istore_n 3, 1) := by decide +kernel
theorem dX4_living_44 : decode cX4_living 44 = .ok (.goto (-36), 3) := by decide +kernel
theorem dX4_living_47 : decode cX4_living 47 = .ok (.iload_n 2, 1) := by decide +kernel
theorem dX4_living_48 : decode cX4_living 48 = .ok (.ireturn, 1) := by decide +kernel
theorem dX4_squeezes_0 : decode cX4_squeezes 0 = .ok (.aload_n 0, 1) := by decide +kernel
theorem dX4_squeezes_1 : decode cX4_squeezes 1 = .ok (.getfield 7, 3) := by decide +kernel
theorem dX4_squeezes_4 : decode cX4_squeezes 4 = .ok (.iconst 2, 1) := by decide +kernel
theorem dX4_squeezes_5 : decode cX4_squeezes 5 = .ok (.iaload, 1) := by decide +kernel
theorem dX4_squeezes_6 : decode cX4_squeezes 6 = .ok (.istore_n 1, 1) := by decide +kernel
theorem dX4_squeezes_7 : decode cX4_squeezes 7 = .ok (.iconst 0, 1) := by decide +kernel
theorem dX4_squeezes_8 : decode cX4_squeezes 8 = .ok (.istore_n 2, 1) := by decide +kernel
theorem dX4_squeezes_9 : decode cX4_squeezes 9 = .ok (.aload_n 0, 1) := by decide +kernel
theorem dX4_squeezes_10 : decode cX4_squeezes 10 = .ok (.iconst 0, 1) := by decide +kernel
theorem dX4_squeezes_11 : decode cX4_squeezes 11 = .ok (.invokevirtual 46, 3) := by decide +kernel
theorem dX4_squeezes_14 : decode cX4_squeezes 14 = .ok (.istore_n 3, 1) := by decide +kernel
theorem dX4_squeezes_15 : decode cX4_squeezes 15 = .ok (.iload_n 3, 1) := by decide +kernel
theorem dX4_squeezes_16 : decode cX4_squeezes 16 = .ok (.bipush (-5), 2) := by decide +kernel
theorem dX4_squeezes_18 : decode cX4_squeezes 18 = .ok (.if_icmp .eq 87, 3) := by decide +kernel
theorem dX4_squeezes_21 : decode cX4_squeezes 21 = .ok (.aload_n 0, 1) := by decide +kernel
theorem dX4_squeezes_22 : decode cX4_squeezes 22 = .ok (.iload_n 3, 1) := by decide +kernel
theorem dX4_squeezes_23 : decode cX4_squeezes 23 = .ok (.iconst 2, 1) := by decide +kernel
theorem dX4_squeezes_24 : decode cX4_squeezes 24 = .ok (.invokevirtual 38, 3) := by decide +kernel
theorem dX4_squeezes_27 : decode cX4_squeezes 27 = .ok (.istore 4, 2) := by decide +kernel
theorem dX4_squeezes_29 : decode cX4_squeezes 29 = .ok (.aload_n 0, 1) := by decide +kernel
theorem dX4_squeezes_30 : decode cX4_squeezes 30 = .ok (.iload_n 3, 1) := by decide +kernel
theorem dX4_squeezes_31 : decode cX4_squeezes 31 = .ok (.iconst 3, 1) := by decide +kernel
theorem dX4_squeezes_32 : decode cX4_squeezes 32 = .ok (.invokevirtual 38, 3) := by decide +kernel
theorem dX4_squeezes_35 : decode cX4_squeezes 35 = .ok (.istore 5, 2) := by decide +kernel
theorem dX4_squeezes_37 : decode cX4_squeezes 37 = .ok (.iconst 0, 1) := by decide +kernel
theorem dX4_squeezes_38 : decode cX4_squeezes 38 = .ok (.istore 6, 2) := by decide +kernel
theorem dX4_squeezes_40 : decode cX4_squeezes 40 = .ok (.iload 6, 2) := by decide +kernel
theorem dX4_squeezes_42 : decode cX4_squeezes 42 = .ok (.aload_n 0, 1) := by decide +kernel
theorem dX4_squeezes_43 : decode cX4_squeezes 43 = .ok (.getfield 7, 3) := by decide +kernel
theorem dX4_squeezes_46 : decode cX4_squeezes 46 = .ok (.iconst 0, 1) := by decide +kernel
theorem dX4_squeezes_47 : decode cX4_squeezes 47 = .ok (.iaload, 1) := by decide +kernel
theorem dX4_squeezes_48 : decode cX4_squeezes 48 = .ok (.if_icmp .ge 39, 3) := by decide +kernel
theorem dX4_squeezes_51 : decode cX4_squeezes 51 = .ok (.aload_n 0, 1) := by decide +kernel
theorem dX4_squeezes_52 : decode cX4_squeezes 52 = .ok (.iload 6, 2) := by decide +kernel
theorem dX4_squeezes_54 : decode cX4_squeezes 54 = .ok (.iconst 2, 1) := by decide +kernel
theorem dX4_squeezes_55 : decode cX4_squeezes 55 = .ok (.aload_n 0, 1) := by decide +kernel
theorem dX4_squeezes_56 : decode cX4_squeezes 56 = .ok (.iload 6, 2) := by decide +kernel
theorem dX4_squeezes_58 : decode cX4_squeezes 58 = .ok (.iconst 2, 1) := by decide +kernel
theorem dX4_squeezes_59 : decode cX4_squeezes 59 = .ok (.invokevirtual 38, 3) := by decide +kernel
theorem dX4_squeezes_62 : decode cX4_squeezes 62 = .ok (.iload 4, 2) := by decide +kernel
theorem dX4_squeezes_64 : decode cX4_squeezes 64 = .ok (.if_icmp .ne 7, 3) := by decide +kernel
theorem dX4_squeezes_67 : decode cX4_squeezes 67 = .ok (.iload_n 2, 1) := by decide +kernel
theorem dX4_squeezes_68 : decode cX4_squeezes 68 = .ok (.goto 10, 3) := by decide +kernel
theorem dX4_squeezes_71 : decode cX4_squeezes 71 = .ok (.aload_n 0, 1) := by decide +kernel
theorem dX4_squeezes_72 : decode cX4_squeezes 72 = .ok (.iload 6, 2) := by decide +kernel
theorem dX4_squeezes_74 : decode cX4_squeezes 74 = .ok (.iconst 2, 1) := by decide +kernel
theorem dX4_squeezes_75 : decode cX4_squeezes 75 = .ok (.invokevirtual 38, 3) := by decide +kernel
theorem dX4_squeezes_78 : decode cX4_squeezes 78 = .ok (.invokevirtual 42, 3) := by decide +kernel
theorem dX4_squeezes_81 : decode cX4_squeezes 81 = .ok (.iinc 6 1, 3) := by decide +kernel
theorem dX4_squeezes_84 : decode cX4_squeezes 84 = .ok (.goto (-44), 3) := by decide +kernel
theorem dX4_squeezes_87 : decode cX4_squeezes 87 = .ok (.iload_n 2, 1) := by decide +kernel
theorem dX4_squeezes_88 : decode cX4_squeezes 88 = .ok (.iload 5, 2) := by decide +kernel
theorem dX4_squeezes_90 : decode cX4_squeezes 90 = .ok (.iadd, 1) := by decide +kernel
theorem dX4_squeezes_91 : decode cX4_squeezes 91 = .ok (.istore_n 2, 1) := by decide +kernel
theorem dX4_squeezes_92 : decode cX4_squeezes 92 = .ok (.aload_n 0, 1) := by decide +kernel
theorem dX4_squeezes_93 : decode cX4_squeezes 93 = .ok (.iload 4, 2) := by decide +kernel
theorem dX4_squeezes_95 : decode cX4_squeezes 95 = .ok (.iload 5, 2) := by decide +kernel
theorem dX4_squeezes_97 : decode cX4_squeezes 97 = .ok (.iadd, 1) := by decide +kernel
theorem dX4_squeezes_98 : decode cX4_squeezes 98 = .ok (.invokevirtual 46, 3) := by decide +kernel
theorem dX4_squeezes_101 : decode cX4_squeezes 101 = .ok (.istore_n 3, 1) := by decide +kernel
theorem dX4_squeezes_102 : decode cX4_squeezes 102 = .ok (.goto (-87), 3) := by decide +kernel
theorem dX4_squeezes_105 : decode cX4_squeezes 105 = .ok (.aload_n 0, 1) := by decide +kernel
theorem dX4_squeezes_106 : decode cX4_squeezes 106 = .ok (.getfield 7, 3) := by decide +kernel
theorem dX4_squeezes_109 : decode cX4_squeezes 109 = .ok (.iconst 2, 1) := by decide +kernel
theorem dX4_squeezes_110 : decode cX4_squeezes 110 = .ok (.iload_n 2, 1) := by decide +kernel
theorem dX4_squeezes_111 : decode cX4_squeezes 111 = .ok (.iastore, 1) := by decide +kernel
theorem dX4_squeezes_112 : decode cX4_squeezes 112 = .ok (.aload_n 0, 1) := by decide +kernel
theorem dX4_squeezes_113 : decode cX4_squeezes 113 = .ok (.getfield 7, 3) := by decide +kernel
theorem dX4_squeezes_116 : decode cX4_squeezes 116 = .ok (.iconst 3, 1) := by decide +kernel
theorem dX4_squeezes_117 : decode cX4_squeezes 117 = .ok (.dup2, 1) := by decide +kernel
theorem dX4_squeezes_118 : decode cX4_squeezes 118 = .ok (.iaload, 1) := by decide +kernel
theorem dX4_squeezes_119 : decode cX4_squeezes 119 = .ok (.iconst 1, 1) := by decide +kernel
theorem dX4_squeezes_120 : decode cX4_squeezes 120 = .ok (.iadd, 1) := by decide +kernel
theorem dX4_squeezes_121 : decode cX4_squeezes 121 = .ok (.iastore, 1) := by decide +kernel
theorem dX4_squeezes_122 : decode cX4_squeezes 122 = .ok (.aload_n 0, 1) := by decide +kernel
theorem dX4_squeezes_123 : decode cX4_squeezes 123 = .ok (.getfield 7, 3) := by decide +kernel
theorem dX4_squeezes_126 : decode cX4_squeezes 126 = .ok (.iconst 4, 1) := by decide +kernel
theorem dX4_squeezes_127 : decode cX4_squeezes 127 = .ok (.dup2, 1) := by decide +kernel
theorem dX4_squeezes_128 : decode cX4_squeezes 128 = .ok (.iaload, 1) := by decide +kernel
theorem dX4_squeezes_129 : decode cX4_squeezes 129 = .ok (.iload_n 1, 1) := by decide +kernel
theorem dX4_squeezes_130 : decode cX4_squeezes 130 = .ok (.iload_n 2, 1) := by decide +kernel
theorem dX4_squeezes_131 : decode cX4_squeezes 131 = .ok (.isub, 1) := by decide +kernel
theorem dX4_squeezes_132 : decode cX4_squeezes 132 = .ok (.iadd, 1) := by decide +kernel
theorem dX4_squeezes_133 : decode cX4_squeezes 133 = .ok (.iastore, 1) := by decide +kernel
theorem dX4_squeezes_134 : decode cX4_squeezes 134 = .ok (.iload_n 1, 1) := by decide +kernel
theorem dX4_squeezes_135 : decode cX4_squeezes 135 = .ok (.iload_n 2, 1) := by decide +kernel
theorem dX4_squeezes_136 : decode cX4_squeezes 136 = .ok (.isub, 1) := by decide +kernel
theorem dX4_squeezes_137 : decode cX4_squeezes 137 = .ok (.ireturn, 1) := by decide +kernel
theorem dX4_isLost_0 : decode cX4_isLost 0 = .ok (.aload_n 0, 1) := by decide +kernel
theorem dX4_isLost_1 : decode cX4_isLost 1 = .ok (.aload_n 0, 1) := by decide +kernel
theorem dX4_isLost_2 : decode cX4_isLost 2 = .ok (.iload_n 1, 1) := by decide +kernel
theorem dX4_isLost_3 : decode cX4_isLost 3 = .ok (.iconst 5, 1) := by decide +kernel
theorem dX4_isLost_4 : decode cX4_isLost 4 = .ok (.invokevirtual 38, 3) := by decide +kernel
theorem dX4_isLost_7 : decode cX4_isLost 7 = .ok (.invokevirtual 50, 3) := by decide +kernel
theorem dX4_isLost_10 : decode cX4_isLost 10 = .ok (.istore_n 2, 1) := by decide +kernel
theorem dX4_isLost_11 : decode cX4_isLost 11 = .ok (.aload_n 0, 1) := by decide +kernel
theorem dX4_isLost_12 : decode cX4_isLost 12 = .ok (.iload_n 1, 1) := by decide +kernel
theorem dX4_isLost_13 : decode cX4_isLost 13 = .ok (.iconst 1, 1) := by decide +kernel
theorem dX4_isLost_14 : decode cX4_isLost 14 = .ok (.invokevirtual 38, 3) := by decide +kernel
theorem dX4_isLost_17 : decode cX4_isLost 17 = .ok (.iconst 1, 1) := by decide +kernel
theorem dX4_isLost_18 : decode cX4_isLost 18 = .ok (.if_icmp .ne 30, 3) := by decide +kernel
theorem dX4_isLost_21 : decode cX4_isLost 21 = .ok (.aload_n 0, 1) := by decide +kernel
theorem dX4_isLost_22 : decode cX4_isLost 22 = .ok (.iload_n 2, 1) := by decide +kernel
theorem dX4_isLost_23 : decode cX4_isLost 23 = .ok (.invokevirtual 53, 3) := by decide +kernel
theorem dX4_isLost_26 : decode cX4_isLost 26 = .ok (.ifCond .eq 18, 3) := by decide +kernel
theorem dX4_isLost_29 : decode cX4_isLost 29 = .ok (.aload_n 0, 1) := by decide +kernel
theorem dX4_isLost_30 : decode cX4_isLost 30 = .ok (.iload_n 2, 1) := by decide +kernel
theorem dX4_isLost_31 : decode cX4_isLost 31 = .ok (.iconst 2, 1) := by decide +kernel
theorem dX4_isLost_32 : decode cX4_isLost 32 = .ok (.invokevirtual 38, 3) := by decide +kernel
theorem dX4_isLost_35 : decode cX4_isLost 35 = .ok (.aload_n 0, 1) := by decide +kernel
theorem dX4_isLost_36 : decode cX4_isLost 36 = .ok (.iload_n 1, 1) := by decide +kernel
theorem dX4_isLost_37 : decode cX4_isLost 37 = .ok (.iconst 2, 1) := by decide +kernel
theorem dX4_isLost_38 : decode cX4_isLost 38 = .ok (.invokevirtual 38, 3) := by decide +kernel
theorem dX4_isLost_41 : decode cX4_isLost 41 = .ok (.if_icmp .eq 7, 3) := by decide +kernel
theorem dX4_isLost_44 : decode cX4_isLost 44 = .ok (.iconst 1, 1) := by decide +kernel
theorem dX4_isLost_45 : decode cX4_isLost 45 = .ok (.goto 4, 3) := by decide +kernel
theorem dX4_isLost_48 : decode cX4_isLost 48 = .ok (.iconst 0, 1) := by decide +kernel
theorem dX4_isLost_49 : decode cX4_isLost 49 = .ok (.ireturn, 1) := by decide +kernel
theorem dX4_aliasesOf_0 : decode cX4_aliasesOf 0 = .ok (.iconst 0, 1) := by decide +kernel
theorem dX4_aliasesOf_1 : decode cX4_aliasesOf 1 = .ok (.istore_n 2, 1) := by decide +kernel
theorem dX4_aliasesOf_2 : decode cX4_aliasesOf 2 = .ok (.iconst 0, 1) := by decide +kernel
theorem dX4_aliasesOf_3 : decode cX4_aliasesOf 3 = .ok (.istore_n 3, 1) := by decide +kernel
theorem dX4_aliasesOf_4 : decode cX4_aliasesOf 4 = .ok (.iload_n 3, 1) := by decide +kernel
theorem dX4_aliasesOf_5 : decode cX4_aliasesOf 5 = .ok (.aload_n 0, 1) := by decide +kernel
theorem dX4_aliasesOf_6 : decode cX4_aliasesOf 6 = .ok (.getfield 7, 3) := by decide +kernel
theorem dX4_aliasesOf_9 : decode cX4_aliasesOf 9 = .ok (.iconst 0, 1) := by decide +kernel
theorem dX4_aliasesOf_10 : decode cX4_aliasesOf 10 = .ok (.iaload, 1) := by decide +kernel
theorem dX4_aliasesOf_11 : decode cX4_aliasesOf 11 = .ok (.if_icmp .ge 37, 3) := by decide +kernel
theorem dX4_aliasesOf_14 : decode cX4_aliasesOf 14 = .ok (.iload_n 2, 1) := by decide +kernel
theorem dX4_aliasesOf_15 : decode cX4_aliasesOf 15 = .ok (.aload_n 0, 1) := by decide +kernel
theorem dX4_aliasesOf_16 : decode cX4_aliasesOf 16 = .ok (.iload_n 3, 1) := by decide +kernel
theorem dX4_aliasesOf_17 : decode cX4_aliasesOf 17 = .ok (.iconst 1, 1) := by decide +kernel
theorem dX4_aliasesOf_18 : decode cX4_aliasesOf 18 = .ok (.invokevirtual 38, 3) := by decide +kernel
theorem dX4_aliasesOf_21 : decode cX4_aliasesOf 21 = .ok (.iconst 1, 1) := by decide +kernel
theorem dX4_aliasesOf_22 : decode cX4_aliasesOf 22 = .ok (.if_icmp .ne 17, 3) := by decide +kernel
theorem dX4_aliasesOf_25 : decode cX4_aliasesOf 25 = .ok (.aload_n 0, 1) := by decide +kernel
theorem dX4_aliasesOf_26 : decode cX4_aliasesOf 26 = .ok (.iload_n 3, 1) := by decide +kernel
theorem dX4_aliasesOf_27 : decode cX4_aliasesOf 27 = .ok (.iconst 2, 1) := by decide +kernel
theorem dX4_aliasesOf_28 : decode cX4_aliasesOf 28 = .ok (.invokevirtual 38, 3) := by decide +kernel
theorem dX4_aliasesOf_31 : decode cX4_aliasesOf 31 = .ok (.iload_n 1, 1) := by decide +kernel
theorem dX4_aliasesOf_32 : decode cX4_aliasesOf 32 = .ok (.if_icmp .ne 7, 3) := by decide +kernel
theorem dX4_aliasesOf_35 : decode cX4_aliasesOf 35 = .ok (.iconst 1, 1) := by decide +kernel
theorem dX4_aliasesOf_36 : decode cX4_aliasesOf 36 = .ok (.goto 4, 3) := by decide +kernel
theorem dX4_aliasesOf_39 : decode cX4_aliasesOf 39 = .ok (.iconst 0, 1) := by decide +kernel
theorem dX4_aliasesOf_40 : decode cX4_aliasesOf 40 = .ok (.iadd, 1) := by decide +kernel
theorem dX4_aliasesOf_41 : decode cX4_aliasesOf 41 = .ok (.istore_n 2, 1) := by decide +kernel
theorem dX4_aliasesOf_42 : decode cX4_aliasesOf 42 = .ok (.iinc 3 1, 3) := by decide +kernel
theorem dX4_aliasesOf_45 : decode cX4_aliasesOf 45 = .ok (.goto (-41), 3) := by decide +kernel
theorem dX4_aliasesOf_48 : decode cX4_aliasesOf 48 = .ok (.iload_n 2, 1) := by decide +kernel
theorem dX4_aliasesOf_49 : decode cX4_aliasesOf 49 = .ok (.ireturn, 1) := by decide +kernel
theorem dX4_doAdd_0 : decode cX4_doAdd 0 = .ok (.iload_n 1, 1) := by decide +kernel
theorem dX4_doAdd_1 : decode cX4_doAdd 1 = .ok (.invokestatic 57, 3) := by decide +kernel
theorem dX4_doAdd_4 : decode cX4_doAdd 4 = .ok (.ifCond .eq 27, 3) := by decide +kernel
theorem dX4_doAdd_7 : decode cX4_doAdd 7 = .ok (.iload_n 2, 1) := by decide +kernel
theorem dX4_doAdd_8 : decode cX4_doAdd 8 = .ok (.i2l, 1) := by decide +kernel
theorem dX4_doAdd_9 : decode cX4_doAdd 9 = .ok (.lconst 1, 1) := by decide +kernel
theorem dX4_doAdd_10 : decode cX4_doAdd 10 = .ok (.ldc2_w 60, 3) := by decide +kernel
theorem dX4_doAdd_13 : decode cX4_doAdd 13 = .ok (.invokestatic 34, 3) := by decide +kernel
theorem dX4_doAdd_16 : decode cX4_doAdd 16 = .ok (.ifCond .eq 15, 3) := by decide +kernel
theorem dX4_doAdd_19 : decode cX4_doAdd 19 = .ok (.iload_n 3, 1) := by decide +kernel
theorem dX4_doAdd_20 : decode cX4_doAdd 20 = .ok (.i2l, 1) := by decide +kernel
theorem dX4_doAdd_21 : decode cX4_doAdd 21 = .ok (.lconst 0, 1) := by decide +kernel
theorem dX4_doAdd_22 : decode cX4_doAdd 22 = .ok (.ldc2_w 62, 3) := by decide +kernel
theorem dX4_doAdd_25 : decode cX4_doAdd 25 = .ok (.invokestatic 34, 3) := by decide +kernel
theorem dX4_doAdd_28 : decode cX4_doAdd 28 = .ok (.ifCond .ne 6, 3) := by decide +kernel
theorem dX4_doAdd_31 : decode cX4_doAdd 31 = .ok (.bipush (-2), 2) := by decide +kernel
theorem dX4_doAdd_33 : decode cX4_doAdd 33 = .ok (.ireturn, 1) := by decide +kernel
theorem dX4_doAdd_34 : decode cX4_doAdd 34 = .ok (.aload_n 0, 1) := by decide +kernel
theorem dX4_doAdd_35 : decode cX4_doAdd 35 = .ok (.iload_n 1, 1) := by decide +kernel
theorem dX4_doAdd_36 : decode cX4_doAdd 36 = .ok (.invokevirtual 50, 3) := by decide +kernel
theorem dX4_doAdd_39 : decode cX4_doAdd 39 = .ok (.bipush (-5), 2) := by decide +kernel
theorem dX4_doAdd_41 : decode cX4_doAdd 41 = .ok (.if_icmp .eq 6, 3) := by decide +kernel
theorem dX4_doAdd_44 : decode cX4_doAdd 44 = .ok (.bipush (-7), 2) := by decide +kernel
theorem dX4_doAdd_46 : decode cX4_doAdd 46 = .ok (.ireturn, 1) := by decide +kernel
theorem dX4_doAdd_47 : decode cX4_doAdd 47 = .ok (.aload_n 0, 1) := by decide +kernel
theorem dX4_doAdd_48 : decode cX4_doAdd 48 = .ok (.invokevirtual 64, 3) := by decide +kernel
theorem dX4_doAdd_51 : decode cX4_doAdd 51 = .ok (.ifCond .eq 6, 3) := by decide +kernel
theorem dX4_doAdd_54 : decode cX4_doAdd 54 = .ok (.bipush (-6), 2) := by decide +kernel
theorem dX4_doAdd_56 : decode cX4_doAdd 56 = .ok (.ireturn, 1) := by decide +kernel
theorem dX4_doAdd_57 : decode cX4_doAdd 57 = .ok (.aload_n 0, 1) := by decide +kernel
theorem dX4_doAdd_58 : decode cX4_doAdd 58 = .ok (.iload_n 2, 1) := by decide +kernel
theorem dX4_doAdd_59 : decode cX4_doAdd 59 = .ok (.invokevirtual 68, 3) := by decide +kernel
theorem dX4_doAdd_62 : decode cX4_doAdd 62 = .ok (.ifCond .ne 6, 3) := by decide +kernel
theorem dX4_doAdd_65 : decode cX4_doAdd 65 = .ok (.bipush (-3), 2) := by decide +kernel
theorem dX4_doAdd_67 : decode cX4_doAdd 67 = .ok (.ireturn, 1) := by decide +kernel
theorem dX4_doAdd_68 : decode cX4_doAdd 68 = .ok (.aload_n 0, 1) := by decide +kernel
theorem dX4_doAdd_69 : decode cX4_doAdd 69 = .ok (.getfield 22, 3) := by decide +kernel
theorem dX4_doAdd_72 : decode cX4_doAdd 72 = .ok (.iconst 0, 1) := by decide +kernel
theorem dX4_doAdd_73 : decode cX4_doAdd 73 = .ok (.iload_n 1, 1) := by decide +kernel
theorem dX4_doAdd_74 : decode cX4_doAdd 74 = .ok (.iastore, 1) := by decide +kernel
theorem dX4_doAdd_75 : decode cX4_doAdd 75 = .ok (.aload_n 0, 1) := by decide +kernel
theorem dX4_doAdd_76 : decode cX4_doAdd 76 = .ok (.getfield 22, 3) := by decide +kernel
theorem dX4_doAdd_79 : decode cX4_doAdd 79 = .ok (.iconst 1, 1) := by decide +kernel
theorem dX4_doAdd_80 : decode cX4_doAdd 80 = .ok (.iconst 0, 1) := by decide +kernel
theorem dX4_doAdd_81 : decode cX4_doAdd 81 = .ok (.iastore, 1) := by decide +kernel
theorem dX4_doAdd_82 : decode cX4_doAdd 82 = .ok (.aload_n 0, 1) := by decide +kernel
theorem dX4_doAdd_83 : decode cX4_doAdd 83 = .ok (.getfield 22, 3) := by decide +kernel
theorem dX4_doAdd_86 : decode cX4_doAdd 86 = .ok (.iconst 5, 1) := by decide +kernel
theorem dX4_doAdd_87 : decode cX4_doAdd 87 = .ok (.bipush (-5), 2) := by decide +kernel
theorem dX4_doAdd_89 : decode cX4_doAdd 89 = .ok (.iastore, 1) := by decide +kernel
theorem dX4_doAdd_90 : decode cX4_doAdd 90 = .ok (.aload_n 0, 1) := by decide +kernel
theorem dX4_doAdd_91 : decode cX4_doAdd 91 = .ok (.invokevirtual 71, 3) := by decide +kernel
theorem dX4_doAdd_94 : decode cX4_doAdd 94 = .ok (.istore 4, 2) := by decide +kernel
theorem dX4_doAdd_96 : decode cX4_doAdd 96 = .ok (.aload_n 0, 1) := by decide +kernel
theorem dX4_doAdd_97 : decode cX4_doAdd 97 = .ok (.iload 4, 2) := by decide +kernel
theorem dX4_doAdd_99 : decode cX4_doAdd 99 = .ok (.iload_n 2, 1) := by decide +kernel
theorem dX4_doAdd_100 : decode cX4_doAdd 100 = .ok (.iload_n 3, 1) := by decide +kernel
theorem dX4_doAdd_101 : decode cX4_doAdd 101 = .ok (.invokevirtual 75, 3) := by decide +kernel
theorem dX4_doAdd_104 : decode cX4_doAdd 104 = .ok (.aload_n 0, 1) := by decide +kernel
theorem dX4_doAdd_105 : decode cX4_doAdd 105 = .ok (.iload 4, 2) := by decide +kernel
theorem dX4_doAdd_107 : decode cX4_doAdd 107 = .ok (.iconst 2, 1) := by decide +kernel
theorem dX4_doAdd_108 : decode cX4_doAdd 108 = .ok (.invokevirtual 38, 3) := by decide +kernel
theorem dX4_doAdd_111 : decode cX4_doAdd 111 = .ok (.ireturn, 1) := by decide +kernel
theorem dX4_doAlias_0 : decode cX4_doAlias 0 = .ok (.aload_n 0, 1) := by decide +kernel
theorem dX4_doAlias_1 : decode cX4_doAlias 1 = .ok (.iload_n 2, 1) := by decide +kernel
theorem dX4_doAlias_2 : decode cX4_doAlias 2 = .ok (.invokevirtual 50, 3) := by decide +kernel
theorem dX4_doAlias_5 : decode cX4_doAlias 5 = .ok (.istore_n 3, 1) := by decide +kernel
theorem dX4_doAlias_6 : decode cX4_doAlias 6 = .ok (.aload_n 0, 1) := by decide +kernel
theorem dX4_doAlias_7 : decode cX4_doAlias 7 = .ok (.iload_n 3, 1) := by decide +kernel
theorem dX4_doAlias_8 : decode cX4_doAlias 8 = .ok (.invokevirtual 53, 3) := by decide +kernel
theorem dX4_doAlias_11 : decode cX4_doAlias 11 = .ok (.ifCond .ne 5, 3) := by decide +kernel
theorem dX4_doAlias_14 : decode cX4_doAlias 14 = .ok (.iconst (-1), 1) := by decide +kernel
theorem dX4_doAlias_15 : decode cX4_doAlias 15 = .ok (.ireturn, 1) := by decide +kernel
theorem dX4_doAlias_16 : decode cX4_doAlias 16 = .ok (.iload_n 1, 1) := by decide +kernel
theorem dX4_doAlias_17 : decode cX4_doAlias 17 = .ok (.invokestatic 57, 3) := by decide +kernel
theorem dX4_doAlias_20 : decode cX4_doAlias 20 = .ok (.ifCond .ne 6, 3) := by decide +kernel
theorem dX4_doAlias_23 : decode cX4_doAlias 23 = .ok (.bipush (-2), 2) := by decide +kernel
theorem dX4_doAlias_25 : decode cX4_doAlias 25 = .ok (.ireturn, 1) := by decide +kernel
theorem dX4_doAlias_26 : decode cX4_doAlias 26 = .ok (.aload_n 0, 1) := by decide +kernel
theorem dX4_doAlias_27 : decode cX4_doAlias 27 = .ok (.iload_n 1, 1) := by decide +kernel
theorem dX4_doAlias_28 : decode cX4_doAlias 28 = .ok (.invokevirtual 50, 3) := by decide +kernel
theorem dX4_doAlias_31 : decode cX4_doAlias 31 = .ok (.istore 4, 2) := by decide +kernel
theorem dX4_doAlias_33 : decode cX4_doAlias 33 = .ok (.aload_n 0, 1) := by decide +kernel
theorem dX4_doAlias_34 : decode cX4_doAlias 34 = .ok (.iload 4, 2) := by decide +kernel
theorem dX4_doAlias_36 : decode cX4_doAlias 36 = .ok (.invokevirtual 53, 3) := by decide +kernel
theorem dX4_doAlias_39 : decode cX4_doAlias 39 = .ok (.ifCond .eq 6, 3) := by decide +kernel
theorem dX4_doAlias_42 : decode cX4_doAlias 42 = .ok (.bipush (-7), 2) := by decide +kernel
theorem dX4_doAlias_44 : decode cX4_doAlias 44 = .ok (.ireturn, 1) := by decide +kernel
theorem dX4_doAlias_45 : decode cX4_doAlias 45 = .ok (.iload 4, 2) := by decide +kernel
theorem dX4_doAlias_47 : decode cX4_doAlias 47 = .ok (.bipush (-5), 2) := by decide +kernel
theorem dX4_doAlias_49 : decode cX4_doAlias 49 = .ok (.if_icmp .ne 13, 3) := by decide +kernel
theorem dX4_doAlias_52 : decode cX4_doAlias 52 = .ok (.aload_n 0, 1) := by decide +kernel
theorem dX4_doAlias_53 : decode cX4_doAlias 53 = .ok (.invokevirtual 64, 3) := by decide +kernel
theorem dX4_doAlias_56 : decode cX4_doAlias 56 = .ok (.ifCond .eq 6, 3) := by decide +kernel
theorem dX4_doAlias_59 : decode cX4_doAlias 59 = .ok (.bipush (-6), 2) := by decide +kernel
theorem dX4_doAlias_61 : decode cX4_doAlias 61 = .ok (.ireturn, 1) := by decide +kernel
theorem dX4_doAlias_62 : decode cX4_doAlias 62 = .ok (.iload 4, 2) := by decide +kernel
theorem dX4_doAlias_64 : decode cX4_doAlias 64 = .ok (.bipush (-5), 2) := by decide +kernel
theorem dX4_doAlias_66 : decode cX4_doAlias 66 = .ok (.if_icmp .eq 33, 3) := by decide +kernel
theorem dX4_doAlias_69 : decode cX4_doAlias 69 = .ok (.aload_n 0, 1) := by decide +kernel
theorem dX4_doAlias_70 : decode cX4_doAlias 70 = .ok (.iload 4, 2) := by decide +kernel
theorem dX4_doAlias_72 : decode cX4_doAlias 72 = .ok (.iconst 2, 1) := by decide +kernel
theorem dX4_doAlias_73 : decode cX4_doAlias 73 = .ok (.invokevirtual 38, 3) := by decide +kernel
theorem dX4_doAlias_76 : decode cX4_doAlias 76 = .ok (.aload_n 0, 1) := by decide +kernel
theorem dX4_doAlias_77 : decode cX4_doAlias 77 = .ok (.iload_n 3, 1) := by decide +kernel
theorem dX4_doAlias_78 : decode cX4_doAlias 78 = .ok (.iconst 2, 1) := by decide +kernel
theorem dX4_doAlias_79 : decode cX4_doAlias 79 = .ok (.invokevirtual 38, 3) := by decide +kernel
theorem dX4_doAlias_82 : decode cX4_doAlias 82 = .ok (.if_icmp .ne 17, 3) := by decide +kernel
theorem dX4_doAlias_85 : decode cX4_doAlias 85 = .ok (.aload_n 0, 1) := by decide +kernel
theorem dX4_doAlias_86 : decode cX4_doAlias 86 = .ok (.iload 4, 2) := by decide +kernel
theorem dX4_doAlias_88 : decode cX4_doAlias 88 = .ok (.iconst 5, 1) := by decide +kernel
theorem dX4_doAlias_89 : decode cX4_doAlias 89 = .ok (.invokevirtual 38, 3) := by decide +kernel
theorem dX4_doAlias_92 : decode cX4_doAlias 92 = .ok (.iload_n 2, 1) := by decide +kernel
theorem dX4_doAlias_93 : decode cX4_doAlias 93 = .ok (.if_icmp .ne 6, 3) := by decide +kernel
theorem dX4_doAlias_96 : decode cX4_doAlias 96 = .ok (.bipush (-5), 2) := by decide +kernel
theorem dX4_doAlias_98 : decode cX4_doAlias 98 = .ok (.ireturn, 1) := by decide +kernel
theorem dX4_doAlias_99 : decode cX4_doAlias 99 = .ok (.aload_n 0, 1) := by decide +kernel
theorem dX4_doAlias_100 : decode cX4_doAlias 100 = .ok (.iload_n 3, 1) := by decide +kernel
theorem dX4_doAlias_101 : decode cX4_doAlias 101 = .ok (.iconst 2, 1) := by decide +kernel
theorem dX4_doAlias_102 : decode cX4_doAlias 102 = .ok (.invokevirtual 38, 3) := by decide +kernel
theorem dX4_doAlias_105 : decode cX4_doAlias 105 = .ok (.istore 5, 2) := by decide +kernel
theorem dX4_doAlias_107 : decode cX4_doAlias 107 = .ok (.aload_n 0, 1) := by decide +kernel
theorem dX4_doAlias_108 : decode cX4_doAlias 108 = .ok (.iload_n 3, 1) := by decide +kernel
theorem dX4_doAlias_109 : decode cX4_doAlias 109 = .ok (.iconst 3, 1) := by decide +kernel
theorem dX4_doAlias_110 : decode cX4_doAlias 110 = .ok (.invokevirtual 38, 3) := by decide +kernel
theorem dX4_doAlias_113 : decode cX4_doAlias 113 = .ok (.istore 6, 2) := by decide +kernel
theorem dX4_doAlias_115 : decode cX4_doAlias 115 = .ok (.aload_n 0, 1) := by decide +kernel
theorem dX4_doAlias_116 : decode cX4_doAlias 116 = .ok (.iload_n 3, 1) := by decide +kernel
theorem dX4_doAlias_117 : decode cX4_doAlias 117 = .ok (.iconst 4, 1) := by decide +kernel
theorem dX4_doAlias_118 : decode cX4_doAlias 118 = .ok (.invokevirtual 38, 3) := by decide +kernel
theorem dX4_doAlias_121 : decode cX4_doAlias 121 = .ok (.istore 7, 2) := by decide +kernel
theorem dX4_doAlias_123 : decode cX4_doAlias 123 = .ok (.iload 4, 2) := by decide +kernel
theorem dX4_doAlias_125 : decode cX4_doAlias 125 = .ok (.bipush (-5), 2) := by decide +kernel
theorem dX4_doAlias_127 : decode cX4_doAlias 127 = .ok (.if_icmp .eq 9, 3) := by decide +kernel
theorem dX4_doAlias_130 : decode cX4_doAlias 130 = .ok (.aload_n 0, 1) := by decide +kernel
theorem dX4_doAlias_131 : decode cX4_doAlias 131 = .ok (.iload 4, 2) := by decide +kernel
theorem dX4_doAlias_133 : decode cX4_doAlias 133 = .ok (.invokevirtual 78, 3) := by decide +kernel
theorem dX4_doAlias_136 : decode cX4_doAlias 136 = .ok (.aload_n 0, 1) := by decide +kernel
theorem dX4_doAlias_137 : decode cX4_doAlias 137 = .ok (.getfield 22, 3) := by decide +kernel
theorem dX4_doAlias_140 : decode cX4_doAlias 140 = .ok (.iconst 0, 1) := by decide +kernel
theorem dX4_doAlias_141 : decode cX4_doAlias 141 = .ok (.iload_n 1, 1) := by decide +kernel
theorem dX4_doAlias_142 : decode cX4_doAlias 142 = .ok (.iastore, 1) := by decide +kernel
theorem dX4_doAlias_143 : decode cX4_doAlias 143 = .ok (.aload_n 0, 1) := by decide +kernel
theorem dX4_doAlias_144 : decode cX4_doAlias 144 = .ok (.getfield 22, 3) := by decide +kernel
theorem dX4_doAlias_147 : decode cX4_doAlias 147 = .ok (.iconst 1, 1) := by decide +kernel
theorem dX4_doAlias_148 : decode cX4_doAlias 148 = .ok (.iconst 1, 1) := by decide +kernel
theorem dX4_doAlias_149 : decode cX4_doAlias 149 = .ok (.iastore, 1) := by decide +kernel
theorem dX4_doAlias_150 : decode cX4_doAlias 150 = .ok (.aload_n 0, 1) := by decide +kernel
theorem dX4_doAlias_151 : decode cX4_doAlias 151 = .ok (.getfield 22, 3) := by decide +kernel
theorem dX4_doAlias_154 : decode cX4_doAlias 154 = .ok (.iconst 2, 1) := by decide +kernel
theorem dX4_doAlias_155 : decode cX4_doAlias 155 = .ok (.iload 5, 2) := by decide +kernel
theorem dX4_doAlias_157 : decode cX4_doAlias 157 = .ok (.iastore, 1) := by decide +kernel
theorem dX4_doAlias_158 : decode cX4_doAlias 158 = .ok (.aload_n 0, 1) := by decide +kernel
theorem dX4_doAlias_159 : decode cX4_doAlias 159 = .ok (.getfield 22, 3) := by decide +kernel
theorem dX4_doAlias_162 : decode cX4_doAlias 162 = .ok (.iconst 3, 1) := by decide +kernel
theorem dX4_doAlias_163 : decode cX4_doAlias 163 = .ok (.iload 6, 2) := by decide +kernel
theorem dX4_doAlias_165 : decode cX4_doAlias 165 = .ok (.iastore, 1) := by decide +kernel
theorem dX4_doAlias_166 : decode cX4_doAlias 166 = .ok (.aload_n 0, 1) := by decide +kernel
theorem dX4_doAlias_167 : decode cX4_doAlias 167 = .ok (.getfield 22, 3) := by decide +kernel
theorem dX4_doAlias_170 : decode cX4_doAlias 170 = .ok (.iconst 4, 1) := by decide +kernel
theorem dX4_doAlias_171 : decode cX4_doAlias 171 = .ok (.iload 7, 2) := by decide +kernel
theorem dX4_doAlias_173 : decode cX4_doAlias 173 = .ok (.iastore, 1) := by decide +kernel
theorem dX4_doAlias_174 : decode cX4_doAlias 174 = .ok (.aload_n 0, 1) := by decide +kernel
theorem dX4_doAlias_175 : decode cX4_doAlias 175 = .ok (.getfield 22, 3) := by decide +kernel
theorem dX4_doAlias_178 : decode cX4_doAlias 178 = .ok (.iconst 5, 1) := by decide +kernel
theorem dX4_doAlias_179 : decode cX4_doAlias 179 = .ok (.iload_n 2, 1) := by decide +kernel
theorem dX4_doAlias_180 : decode cX4_doAlias 180 = .ok (.iastore, 1) := by decide +kernel
theorem dX4_doAlias_181 : decode cX4_doAlias 181 = .ok (.aload_n 0, 1) := by decide +kernel
theorem dX4_doAlias_182 : decode cX4_doAlias 182 = .ok (.invokevirtual 71, 3) := by decide +kernel
theorem dX4_doAlias_185 : decode cX4_doAlias 185 = .ok (.istore 8, 2) := by decide +kernel
theorem dX4_doAlias_187 : decode cX4_doAlias 187 = .ok (.iload 5, 2) := by decide +kernel
theorem dX4_doAlias_189 : decode cX4_doAlias 189 = .ok (.ireturn, 1) := by decide +kernel
theorem dX4_add_0 : decode cX4_add 0 = .ok (.aload_n 0, 1) := by decide +kernel
theorem dX4_add_1 : decode cX4_add 1 = .ok (.invokevirtual 82, 3) := by decide +kernel
theorem dX4_add_4 : decode cX4_add 4 = .ok (.aload_n 0, 1) := by decide +kernel
theorem dX4_add_5 : decode cX4_add 5 = .ok (.iload_n 1, 1) := by decide +kernel
theorem dX4_add_6 : decode cX4_add 6 = .ok (.iload_n 2, 1) := by decide +kernel
theorem dX4_add_7 : decode cX4_add 7 = .ok (.iload_n 3, 1) := by decide +kernel
theorem dX4_add_8 : decode cX4_add 8 = .ok (.invokevirtual 85, 3) := by decide +kernel
theorem dX4_add_11 : decode cX4_add 11 = .ok (.istore 4, 2) := by decide +kernel
theorem dX4_add_13 : decode cX4_add 13 = .ok (.iload 4, 2) := by decide +kernel
theorem dX4_add_15 : decode cX4_add 15 = .ok (.ifCond .ge 8, 3) := by decide +kernel
theorem dX4_add_18 : decode cX4_add 18 = .ok (.iload 4, 2) := by decide +kernel
theorem dX4_add_20 : decode cX4_add 20 = .ok (.goto 9, 3) := by decide +kernel
theorem dX4_add_23 : decode cX4_add 23 = .ok (.aload_n 0, 1) := by decide +kernel
theorem dX4_add_24 : decode cX4_add 24 = .ok (.iload 4, 2) := by decide +kernel
theorem dX4_add_26 : decode cX4_add 26 = .ok (.invokevirtual 89, 3) := by decide +kernel
theorem dX4_add_29 : decode cX4_add 29 = .ok (.ireturn, 1) := by decide +kernel
theorem dX4_replace_0 : decode cX4_replace 0 = .ok (.aload_n 0, 1) := by decide +kernel
theorem dX4_replace_1 : decode cX4_replace 1 = .ok (.iload_n 1, 1) := by decide +kernel
theorem dX4_replace_2 : decode cX4_replace 2 = .ok (.invokevirtual 50, 3) := by decide +kernel
theorem dX4_replace_5 : decode cX4_replace 5 = .ok (.istore 4, 2) := by decide +kernel
theorem dX4_replace_7 : decode cX4_replace 7 = .ok (.aload_n 0, 1) := by decide +kernel
theorem dX4_replace_8 : decode cX4_replace 8 = .ok (.iload 4, 2) := by decide +kernel
theorem dX4_replace_10 : decode cX4_replace 10 = .ok (.invokevirtual 53, 3) := by decide +kernel
theorem dX4_replace_13 : decode cX4_replace 13 = .ok (.ifCond .ne 5, 3) := by decide +kernel
theorem dX4_replace_16 : decode cX4_replace 16 = .ok (.iconst (-1), 1) := by decide +kernel
theorem dX4_replace_17 : decode cX4_replace 17 = .ok (.ireturn, 1) := by decide +kernel
theorem dX4_replace_18 : decode cX4_replace 18 = .ok (.iload_n 2, 1) := by decide +kernel
theorem dX4_replace_19 : decode cX4_replace 19 = .ok (.i2l, 1) := by decide +kernel
theorem dX4_replace_20 : decode cX4_replace 20 = .ok (.lconst 1, 1) := by decide +kernel
theorem dX4_replace_21 : decode cX4_replace 21 = .ok (.ldc2_w 60, 3) := by decide +kernel
theorem dX4_replace_24 : decode cX4_replace 24 = .ok (.invokestatic 34, 3) := by decide +kernel
theorem dX4_replace_27 : decode cX4_replace 27 = .ok (.ifCond .eq 15, 3) := by decide +kernel
theorem dX4_replace_30 : decode cX4_replace 30 = .ok (.iload_n 3, 1) := by decide +kernel
theorem dX4_replace_31 : decode cX4_replace 31 = .ok (.i2l, 1) := by decide +kernel
theorem dX4_replace_32 : decode cX4_replace 32 = .ok (.lconst 0, 1) := by decide +kernel
theorem dX4_replace_33 : decode cX4_replace 33 = .ok (.ldc2_w 62, 3) := by decide +kernel
theorem dX4_replace_36 : decode cX4_replace 36 = .ok (.invokestatic 34, 3) := by decide +kernel
theorem dX4_replace_39 : decode cX4_replace 39 = .ok (.ifCond .ne 6, 3) := by decide +kernel
theorem dX4_replace_42 : decode cX4_replace 42 = .ok (.bipush (-2), 2) := by decide +kernel
theorem dX4_replace_44 : decode cX4_replace 44 = .ok (.ireturn, 1) := by decide +kernel
theorem dX4_replace_45 : decode cX4_replace 45 = .ok (.aload_n 0, 1) := by decide +kernel
theorem dX4_replace_46 : decode cX4_replace 46 = .ok (.iload_n 2, 1) := by decide +kernel
theorem dX4_replace_47 : decode cX4_replace 47 = .ok (.invokevirtual 68, 3) := by decide +kernel
theorem dX4_replace_50 : decode cX4_replace 50 = .ok (.ifCond .ne 6, 3) := by decide +kernel
theorem dX4_replace_53 : decode cX4_replace 53 = .ok (.bipush (-3), 2) := by decide +kernel
theorem dX4_replace_55 : decode cX4_replace 55 = .ok (.ireturn, 1) := by decide +kernel
theorem dX4_replace_56 : decode cX4_replace 56 = .ok (.aload_n 0, 1) := by decide +kernel
theorem dX4_replace_57 : decode cX4_replace 57 = .ok (.invokevirtual 82, 3) := by decide +kernel
theorem dX4_replace_60 : decode cX4_replace 60 = .ok (.aload_n 0, 1) := by decide +kernel
theorem dX4_replace_61 : decode cX4_replace 61 = .ok (.iload 4, 2) := by decide +kernel
theorem dX4_replace_63 : decode cX4_replace 63 = .ok (.iload_n 2, 1) := by decide +kernel
theorem dX4_replace_64 : decode cX4_replace 64 = .ok (.iload_n 3, 1) := by decide +kernel
theorem dX4_replace_65 : decode cX4_replace 65 = .ok (.invokevirtual 75, 3) := by decide +kernel
theorem dX4_replace_68 : decode cX4_replace 68 = .ok (.aload_n 0, 1) := by decide +kernel
theorem dX4_replace_69 : decode cX4_replace 69 = .ok (.aload_n 0, 1) := by decide +kernel
theorem dX4_replace_70 : decode cX4_replace 70 = .ok (.iload 4, 2) := by decide +kernel
theorem dX4_replace_72 : decode cX4_replace 72 = .ok (.iconst 2, 1) := by decide +kernel
theorem dX4_replace_73 : decode cX4_replace 73 = .ok (.invokevirtual 38, 3) := by decide +kernel
theorem dX4_replace_76 : decode cX4_replace 76 = .ok (.invokevirtual 89, 3) := by decide +kernel
theorem dX4_replace_79 : decode cX4_replace 79 = .ok (.ireturn, 1) := by decide +kernel
theorem dX4_remove_0 : decode cX4_remove 0 = .ok (.aload_n 0, 1) := by decide +kernel
theorem dX4_remove_1 : decode cX4_remove 1 = .ok (.iload_n 1, 1) := by decide +kernel
theorem dX4_remove_2 : decode cX4_remove 2 = .ok (.invokevirtual 50, 3) := by decide +kernel
theorem dX4_remove_5 : decode cX4_remove 5 = .ok (.istore_n 2, 1) := by decide +kernel
theorem dX4_remove_6 : decode cX4_remove 6 = .ok (.iload_n 2, 1) := by decide +kernel
theorem dX4_remove_7 : decode cX4_remove 7 = .ok (.bipush (-5), 2) := by decide +kernel
theorem dX4_remove_9 : decode cX4_remove 9 = .ok (.if_icmp .ne 5, 3) := by decide +kernel
theorem dX4_remove_12 : decode cX4_remove 12 = .ok (.iconst (-1), 1) := by decide +kernel
theorem dX4_remove_13 : decode cX4_remove 13 = .ok (.ireturn, 1) := by decide +kernel
theorem dX4_remove_14 : decode cX4_remove 14 = .ok (.aload_n 0, 1) := by decide +kernel
theorem dX4_remove_15 : decode cX4_remove 15 = .ok (.invokevirtual 82, 3) := by decide +kernel
theorem dX4_remove_18 : decode cX4_remove 18 = .ok (.aload_n 0, 1) := by decide +kernel
theorem dX4_remove_19 : decode cX4_remove 19 = .ok (.iload_n 2, 1) := by decide +kernel
theorem dX4_remove_20 : decode cX4_remove 20 = .ok (.invokevirtual 78, 3) := by decide +kernel
theorem dX4_remove_23 : decode cX4_remove 23 = .ok (.aload_n 0, 1) := by decide +kernel
theorem dX4_remove_24 : decode cX4_remove 24 = .ok (.aload_n 0, 1) := by decide +kernel
theorem dX4_remove_25 : decode cX4_remove 25 = .ok (.getfield 7, 3) := by decide +kernel
theorem dX4_remove_28 : decode cX4_remove 28 = .ok (.iconst 0, 1) := by decide +kernel
theorem dX4_remove_29 : decode cX4_remove 29 = .ok (.iaload, 1) := by decide +kernel
theorem dX4_remove_30 : decode cX4_remove 30 = .ok (.invokevirtual 89, 3) := by decide +kernel
theorem dX4_remove_33 : decode cX4_remove 33 = .ok (.ireturn, 1) := by decide +kernel
theorem dX4_rename_0 : decode cX4_rename 0 = .ok (.aload_n 0, 1) := by decide +kernel
theorem dX4_rename_1 : decode cX4_rename 1 = .ok (.iload_n 1, 1) := by decide +kernel
theorem dX4_rename_2 : decode cX4_rename 2 = .ok (.invokevirtual 50, 3) := by decide +kernel
theorem dX4_rename_5 : decode cX4_rename 5 = .ok (.istore_n 3, 1) := by decide +kernel
theorem dX4_rename_6 : decode cX4_rename 6 = .ok (.iload_n 3, 1) := by decide +kernel
theorem dX4_rename_7 : decode cX4_rename 7 = .ok (.bipush (-5), 2) := by decide +kernel
theorem dX4_rename_9 : decode cX4_rename 9 = .ok (.if_icmp .ne 5, 3) := by decide +kernel
theorem dX4_rename_12 : decode cX4_rename 12 = .ok (.iconst (-1), 1) := by decide +kernel
theorem dX4_rename_13 : decode cX4_rename 13 = .ok (.ireturn, 1) := by decide +kernel
theorem dX4_rename_14 : decode cX4_rename 14 = .ok (.iload_n 2, 1) := by decide +kernel
theorem dX4_rename_15 : decode cX4_rename 15 = .ok (.invokestatic 57, 3) := by decide +kernel
theorem dX4_rename_18 : decode cX4_rename 18 = .ok (.ifCond .ne 6, 3) := by decide +kernel
theorem dX4_rename_21 : decode cX4_rename 21 = .ok (.bipush (-2), 2) := by decide +kernel
theorem dX4_rename_23 : decode cX4_rename 23 = .ok (.ireturn, 1) := by decide +kernel
theorem dX4_rename_24 : decode cX4_rename 24 = .ok (.iload_n 2, 1) := by decide +kernel
theorem dX4_rename_25 : decode cX4_rename 25 = .ok (.iload_n 1, 1) := by decide +kernel
theorem dX4_rename_26 : decode cX4_rename 26 = .ok (.if_icmp .ne 6, 3) := by decide +kernel
theorem dX4_rename_29 : decode cX4_rename 29 = .ok (.bipush (-5), 2) := by decide +kernel
theorem dX4_rename_31 : decode cX4_rename 31 = .ok (.ireturn, 1) := by decide +kernel
theorem dX4_rename_32 : decode cX4_rename 32 = .ok (.aload_n 0, 1) := by decide +kernel
theorem dX4_rename_33 : decode cX4_rename 33 = .ok (.iload_n 2, 1) := by decide +kernel
theorem dX4_rename_34 : decode cX4_rename 34 = .ok (.invokevirtual 50, 3) := by decide +kernel
theorem dX4_rename_37 : decode cX4_rename 37 = .ok (.bipush (-5), 2) := by decide +kernel
theorem dX4_rename_39 : decode cX4_rename 39 = .ok (.if_icmp .eq 6, 3) := by decide +kernel
theorem dX4_rename_42 : decode cX4_rename 42 = .ok (.bipush (-7), 2) := by decide +kernel
theorem dX4_rename_44 : decode cX4_rename 44 = .ok (.ireturn, 1) := by decide +kernel
theorem dX4_rename_45 : decode cX4_rename 45 = .ok (.aload_n 0, 1) := by decide +kernel
theorem dX4_rename_46 : decode cX4_rename 46 = .ok (.invokevirtual 82, 3) := by decide +kernel
theorem dX4_rename_49 : decode cX4_rename 49 = .ok (.aload_n 0, 1) := by decide +kernel
theorem dX4_rename_50 : decode cX4_rename 50 = .ok (.iload_n 3, 1) := by decide +kernel
theorem dX4_rename_51 : decode cX4_rename 51 = .ok (.invokevirtual 53, 3) := by decide +kernel
theorem dX4_rename_54 : decode cX4_rename 54 = .ok (.istore 4, 2) := by decide +kernel
theorem dX4_rename_56 : decode cX4_rename 56 = .ok (.aload_n 0, 1) := by decide +kernel
theorem dX4_rename_57 : decode cX4_rename 57 = .ok (.iload_n 3, 1) := by decide +kernel
theorem dX4_rename_58 : decode cX4_rename 58 = .ok (.invokevirtual 78, 3) := by decide +kernel
theorem dX4_rename_61 : decode cX4_rename 61 = .ok (.aload_n 0, 1) := by decide +kernel
theorem dX4_rename_62 : decode cX4_rename 62 = .ok (.getfield 22, 3) := by decide +kernel
theorem dX4_rename_65 : decode cX4_rename 65 = .ok (.iconst 0, 1) := by decide +kernel
theorem dX4_rename_66 : decode cX4_rename 66 = .ok (.iload_n 2, 1) := by decide +kernel
theorem dX4_rename_67 : decode cX4_rename 67 = .ok (.iastore, 1) := by decide +kernel
theorem dX4_rename_68 : decode cX4_rename 68 = .ok (.aload_n 0, 1) := by decide +kernel
theorem dX4_rename_69 : decode cX4_rename 69 = .ok (.invokevirtual 71, 3) := by decide +kernel
theorem dX4_rename_72 : decode cX4_rename 72 = .ok (.istore 5, 2) := by decide +kernel
theorem dX4_rename_74 : decode cX4_rename 74 = .ok (.iconst 0, 1) := by decide +kernel
theorem dX4_rename_75 : decode cX4_rename 75 = .ok (.istore 6, 2) := by decide +kernel
theorem dX4_rename_77 : decode cX4_rename 77 = .ok (.iload 6, 2) := by decide +kernel
theorem dX4_rename_79 : decode cX4_rename 79 = .ok (.aload_n 0, 1) := by decide +kernel
theorem dX4_rename_80 : decode cX4_rename 80 = .ok (.getfield 7, 3) := by decide +kernel
theorem dX4_rename_83 : decode cX4_rename 83 = .ok (.iconst 0, 1) := by decide +kernel
theorem dX4_rename_84 : decode cX4_rename 84 = .ok (.iaload, 1) := by decide +kernel
theorem dX4_rename_85 : decode cX4_rename 85 = .ok (.if_icmp .ge 43, 3) := by decide +kernel
theorem dX4_rename_88 : decode cX4_rename 88 = .ok (.aload_n 0, 1) := by decide +kernel
theorem dX4_rename_89 : decode cX4_rename 89 = .ok (.iload 6, 2) := by decide +kernel
theorem dX4_rename_91 : decode cX4_rename 91 = .ok (.iconst 5, 1) := by decide +kernel
theorem dX4_rename_92 : decode cX4_rename 92 = .ok (.iload 4, 2) := by decide +kernel
theorem dX4_rename_94 : decode cX4_rename 94 = .ok (.ifCond .eq 18, 3) := by decide +kernel
theorem dX4_rename_97 : decode cX4_rename 97 = .ok (.aload_n 0, 1) := by decide +kernel
theorem dX4_rename_98 : decode cX4_rename 98 = .ok (.iload 6, 2) := by decide +kernel
theorem dX4_rename_100 : decode cX4_rename 100 = .ok (.iconst 5, 1) := by decide +kernel
theorem dX4_rename_101 : decode cX4_rename 101 = .ok (.invokevirtual 38, 3) := by decide +kernel
theorem dX4_rename_104 : decode cX4_rename 104 = .ok (.iload_n 1, 1) := by decide +kernel
theorem dX4_rename_105 : decode cX4_rename 105 = .ok (.if_icmp .ne 7, 3) := by decide +kernel
theorem dX4_rename_108 : decode cX4_rename 108 = .ok (.iload_n 2, 1) := by decide +kernel
theorem dX4_rename_109 : decode cX4_rename 109 = .ok (.goto 10, 3) := by decide +kernel
theorem dX4_rename_112 : decode cX4_rename 112 = .ok (.aload_n 0, 1) := by decide +kernel
theorem dX4_rename_113 : decode cX4_rename 113 = .ok (.iload 6, 2) := by decide +kernel
theorem dX4_rename_115 : decode cX4_rename 115 = .ok (.iconst 5, 1) := by decide +kernel
theorem dX4_rename_116 : decode cX4_rename 116 = .ok (.invokevirtual 38, 3) := by decide +kernel
theorem dX4_rename_119 : decode cX4_rename 119 = .ok (.invokevirtual 42, 3) := by decide +kernel
theorem dX4_rename_122 : decode cX4_rename 122 = .ok (.iinc 6 1, 3) := by decide +kernel
theorem dX4_rename_125 : decode cX4_rename 125 = .ok (.goto (-48), 3) := by decide +kernel
theorem dX4_rename_128 : decode cX4_rename 128 = .ok (.aload_n 0, 1) := by decide +kernel
theorem dX4_rename_129 : decode cX4_rename 129 = .ok (.iload 5, 2) := by decide +kernel
theorem dX4_rename_131 : decode cX4_rename 131 = .ok (.invokevirtual 89, 3) := by decide +kernel
theorem dX4_rename_134 : decode cX4_rename 134 = .ok (.ireturn, 1) := by decide +kernel
theorem dX4_alias_0 : decode cX4_alias 0 = .ok (.aload_n 0, 1) := by decide +kernel
theorem dX4_alias_1 : decode cX4_alias 1 = .ok (.invokevirtual 82, 3) := by decide +kernel
theorem dX4_alias_4 : decode cX4_alias 4 = .ok (.aload_n 0, 1) := by decide +kernel
theorem dX4_alias_5 : decode cX4_alias 5 = .ok (.iload_n 1, 1) := by decide +kernel
theorem dX4_alias_6 : decode cX4_alias 6 = .ok (.iload_n 2, 1) := by decide +kernel
theorem dX4_alias_7 : decode cX4_alias 7 = .ok (.invokevirtual 92, 3) := by decide +kernel
theorem dX4_alias_10 : decode cX4_alias 10 = .ok (.istore_n 3, 1) := by decide +kernel
theorem dX4_alias_11 : decode cX4_alias 11 = .ok (.iload_n 3, 1) := by decide +kernel
theorem dX4_alias_12 : decode cX4_alias 12 = .ok (.ifCond .ge 7, 3) := by decide +kernel
theorem dX4_alias_15 : decode cX4_alias 15 = .ok (.iload_n 3, 1) := by decide +kernel
theorem dX4_alias_16 : decode cX4_alias 16 = .ok (.goto 8, 3) := by decide +kernel
theorem dX4_alias_19 : decode cX4_alias 19 = .ok (.aload_n 0, 1) := by decide +kernel
theorem dX4_alias_20 : decode cX4_alias 20 = .ok (.iload_n 3, 1) := by decide +kernel
theorem dX4_alias_21 : decode cX4_alias 21 = .ok (.invokevirtual 89, 3) := by decide +kernel
theorem dX4_alias_24 : decode cX4_alias 24 = .ok (.ireturn, 1) := by decide +kernel
theorem dX4_type_0 : decode cX4_type 0 = .ok (.aload_n 0, 1) := by decide +kernel
theorem dX4_type_1 : decode cX4_type 1 = .ok (.getfield 95, 3) := by decide +kernel
theorem dX4_type_4 : decode cX4_type 4 = .ok (.bipush 60, 2) := by decide +kernel
theorem dX4_type_6 : decode cX4_type 6 = .ok (.if_icmp .ne 6, 3) := by decide +kernel
theorem dX4_type_9 : decode cX4_type 9 = .ok (.bipush (-3), 2) := by decide +kernel
theorem dX4_type_11 : decode cX4_type 11 = .ok (.ireturn, 1) := by decide +kernel
theorem dX4_type_12 : decode cX4_type 12 = .ok (.aload_n 0, 1) := by decide +kernel
theorem dX4_type_13 : decode cX4_type 13 = .ok (.getfield 25, 3) := by decide +kernel
theorem dX4_type_16 : decode cX4_type 16 = .ok (.aload_n 0, 1) := by decide +kernel
theorem dX4_type_17 : decode cX4_type 17 = .ok (.getfield 95, 3) := by decide +kernel
theorem dX4_type_20 : decode cX4_type 20 = .ok (.iload_n 1, 1) := by decide +kernel
theorem dX4_type_21 : decode cX4_type 21 = .ok (.iastore, 1) := by decide +kernel
theorem dX4_type_22 : decode cX4_type 22 = .ok (.aload_n 0, 1) := by decide +kernel
theorem dX4_type_23 : decode cX4_type 23 = .ok (.dup, 1) := by decide +kernel
theorem dX4_type_24 : decode cX4_type 24 = .ok (.getfield 95, 3) := by decide +kernel
theorem dX4_type_27 : decode cX4_type 27 = .ok (.iconst 1, 1) := by decide +kernel
theorem dX4_type_28 : decode cX4_type 28 = .ok (.iadd, 1) := by decide +kernel
theorem dX4_type_29 : decode cX4_type 29 = .ok (.putfield 95, 3) := by decide +kernel
theorem dX4_type_32 : decode cX4_type 32 = .ok (.aload_n 0, 1) := by decide +kernel
theorem dX4_type_33 : decode cX4_type 33 = .ok (.getfield 95, 3) := by decide +kernel
theorem dX4_type_36 : decode cX4_type 36 = .ok (.ireturn, 1) := by decide +kernel
theorem dX4_clearPad_0 : decode cX4_clearPad 0 = .ok (.aload_n 0, 1) := by decide +kernel
theorem dX4_clearPad_1 : decode cX4_clearPad 1 = .ok (.getfield 95, 3) := by decide +kernel
theorem dX4_clearPad_4 : decode cX4_clearPad 4 = .ok (.istore_n 1, 1) := by decide +kernel
theorem dX4_clearPad_5 : decode cX4_clearPad 5 = .ok (.aload_n 0, 1) := by decide +kernel
theorem dX4_clearPad_6 : decode cX4_clearPad 6 = .ok (.iconst 0, 1) := by decide +kernel
theorem dX4_clearPad_7 : decode cX4_clearPad 7 = .ok (.putfield 95, 3) := by decide +kernel
theorem dX4_clearPad_10 : decode cX4_clearPad 10 = .ok (.iload_n 1, 1) := by decide +kernel
theorem dX4_clearPad_11 : decode cX4_clearPad 11 = .ok (.ireturn, 1) := by decide +kernel
theorem dX4_isHere_0 : decode cX4_isHere 0 = .ok (.aload_n 0, 1) := by decide +kernel
theorem dX4_isHere_1 : decode cX4_isHere 1 = .ok (.getfield 98, 3) := by decide +kernel
theorem dX4_isHere_4 : decode cX4_isHere 4 = .ok (.aload_n 0, 1) := by decide +kernel
theorem dX4_isHere_5 : decode cX4_isHere 5 = .ok (.getfield 95, 3) := by decide +kernel
theorem dX4_isHere_8 : decode cX4_isHere 8 = .ok (.if_icmp .ge 27, 3) := by decide +kernel
theorem dX4_isHere_11 : decode cX4_isHere 11 = .ok (.aload_n 0, 1) := by decide +kernel
theorem dX4_isHere_12 : decode cX4_isHere 12 = .ok (.getfield 25, 3) := by decide +kernel
theorem dX4_isHere_15 : decode cX4_isHere 15 = .ok (.aload_n 0, 1) := by decide +kernel
theorem dX4_isHere_16 : decode cX4_isHere 16 = .ok (.getfield 98, 3) := by decide +kernel
theorem dX4_isHere_19 : decode cX4_isHere 19 = .ok (.iaload, 1) := by decide +kernel
theorem dX4_isHere_20 : decode cX4_isHere 20 = .ok (.i2l, 1) := by decide +kernel
theorem dX4_isHere_21 : decode cX4_isHere 21 = .ok (.iload_n 1, 1) := by decide +kernel
theorem dX4_isHere_22 : decode cX4_isHere 22 = .ok (.i2l, 1) := by decide +kernel
theorem dX4_isHere_23 : decode cX4_isHere 23 = .ok (.iload_n 2, 1) := by decide +kernel
theorem dX4_isHere_24 : decode cX4_isHere 24 = .ok (.i2l, 1) := by decide +kernel
theorem dX4_isHere_25 : decode cX4_isHere 25 = .ok (.invokestatic 34, 3) := by decide +kernel
theorem dX4_isHere_28 : decode cX4_isHere 28 = .ok (.ifCond .eq 7, 3) := by decide +kernel
theorem dX4_isHere_31 : decode cX4_isHere 31 = .ok (.iconst 1, 1) := by decide +kernel
theorem dX4_isHere_32 : decode cX4_isHere 32 = .ok (.goto 4, 3) := by decide +kernel
theorem dX4_isHere_35 : decode cX4_isHere 35 = .ok (.iconst 0, 1) := by decide +kernel
theorem dX4_isHere_36 : decode cX4_isHere 36 = .ok (.ireturn, 1) := by decide +kernel
theorem dX4_takes_0 : decode cX4_takes 0 = .ok (.aload_n 0, 1) := by decide +kernel
theorem dX4_takes_1 : decode cX4_takes 1 = .ok (.iload_n 1, 1) := by decide +kernel
theorem dX4_takes_2 : decode cX4_takes 2 = .ok (.iload_n 1, 1) := by decide +kernel
theorem dX4_takes_3 : decode cX4_takes 3 = .ok (.invokevirtual 101, 3) := by decide +kernel
theorem dX4_takes_6 : decode cX4_takes 6 = .ok (.istore_n 2, 1) := by decide +kernel
theorem dX4_takes_7 : decode cX4_takes 7 = .ok (.aload_n 0, 1) := by decide +kernel
theorem dX4_takes_8 : decode cX4_takes 8 = .ok (.dup, 1) := by decide +kernel
theorem dX4_takes_9 : decode cX4_takes 9 = .ok (.getfield 98, 3) := by decide +kernel
theorem dX4_takes_12 : decode cX4_takes 12 = .ok (.iload_n 2, 1) := by decide +kernel
theorem dX4_takes_13 : decode cX4_takes 13 = .ok (.ifCond .eq 7, 3) := by decide +kernel
theorem dX4_takes_16 : decode cX4_takes 16 = .ok (.iconst 1, 1) := by decide +kernel
theorem dX4_takes_17 : decode cX4_takes 17 = .ok (.goto 4, 3) := by decide +kernel
theorem dX4_takes_20 : decode cX4_takes 20 = .ok (.iconst 0, 1) := by decide +kernel
theorem dX4_takes_21 : decode cX4_takes 21 = .ok (.iadd, 1) := by decide +kernel
theorem dX4_takes_22 : decode cX4_takes 22 = .ok (.putfield 98, 3) := by decide +kernel
theorem dX4_takes_25 : decode cX4_takes 25 = .ok (.iload_n 2, 1) := by decide +kernel
theorem dX4_takes_26 : decode cX4_takes 26 = .ok (.ireturn, 1) := by decide +kernel
theorem dX4_readsNumber_0 : decode cX4_readsNumber 0 = .ok (.aload_n 0, 1) := by decide +kernel
theorem dX4_readsNumber_1 : decode cX4_readsNumber 1 = .ok (.bipush 48, 2) := by decide +kernel
theorem dX4_readsNumber_3 : decode cX4_readsNumber 3 = .ok (.iload_n 1, 1) := by decide +kernel
theorem dX4_readsNumber_4 : decode cX4_readsNumber 4 = .ok (.iadd, 1) := by decide +kernel
theorem dX4_readsNumber_5 : decode cX4_readsNumber 5 = .ok (.bipush 57, 2) := by decide +kernel
theorem dX4_readsNumber_7 : decode cX4_readsNumber 7 = .ok (.invokevirtual 101, 3) := by decide +kernel
theorem dX4_readsNumber_10 : decode cX4_readsNumber 10 = .ok (.ifCond .ne 5, 3) := by decide +kernel
theorem dX4_readsNumber_13 : decode cX4_readsNumber 13 = .ok (.iconst 0, 1) := by decide +kernel
theorem dX4_readsNumber_14 : decode cX4_readsNumber 14 = .ok (.ireturn, 1) := by decide +kernel
theorem dX4_readsNumber_15 : decode cX4_readsNumber 15 = .ok (.aload_n 0, 1) := by decide +kernel
theorem dX4_readsNumber_16 : decode cX4_readsNumber 16 = .ok (.aload_n 0, 1) := by decide +kernel
theorem dX4_readsNumber_17 : decode cX4_readsNumber 17 = .ok (.getfield 25, 3) := by decide +kernel
theorem dX4_readsNumber_20 : decode cX4_readsNumber 20 = .ok (.aload_n 0, 1) := by decide +kernel
theorem dX4_readsNumber_21 : decode cX4_readsNumber 21 = .ok (.getfield 98, 3) := by decide +kernel
theorem dX4_readsNumber_24 : decode cX4_readsNumber 24 = .ok (.iaload, 1) := by decide +kernel
theorem dX4_readsNumber_25 : decode cX4_readsNumber 25 = .ok (.bipush 48, 2) := by decide +kernel
theorem dX4_readsNumber_27 : decode cX4_readsNumber 27 = .ok (.isub, 1) := by decide +kernel
theorem dX4_readsNumber_28 : decode cX4_readsNumber 28 = .ok (.putfield 105, 3) := by decide +kernel
theorem dX4_readsNumber_31 : decode cX4_readsNumber 31 = .ok (.aload_n 0, 1) := by decide +kernel
theorem dX4_readsNumber_32 : decode cX4_readsNumber 32 = .ok (.dup, 1) := by decide +kernel
theorem dX4_readsNumber_33 : decode cX4_readsNumber 33 = .ok (.getfield 98, 3) := by decide +kernel
theorem dX4_readsNumber_36 : decode cX4_readsNumber 36 = .ok (.iconst 1, 1) := by decide +kernel
theorem dX4_readsNumber_37 : decode cX4_readsNumber 37 = .ok (.iadd, 1) := by decide +kernel
theorem dX4_readsNumber_38 : decode cX4_readsNumber 38 = .ok (.putfield 98, 3) := by decide +kernel
theorem dX4_readsNumber_41 : decode cX4_readsNumber 41 = .ok (.aload_n 0, 1) := by decide +kernel
theorem dX4_readsNumber_42 : decode cX4_readsNumber 42 = .ok (.getfield 105, 3) := by decide +kernel
theorem dX4_readsNumber_45 : decode cX4_readsNumber 45 = .ok (.ifCond .le 75, 3) := by decide +kernel
theorem dX4_readsNumber_48 : decode cX4_readsNumber 48 = .ok (.aload_n 0, 1) := by decide +kernel
theorem dX4_readsNumber_49 : decode cX4_readsNumber 49 = .ok (.bipush 48, 2) := by decide +kernel
theorem dX4_readsNumber_51 : decode cX4_readsNumber 51 = .ok (.bipush 57, 2) := by decide +kernel
theorem dX4_readsNumber_53 : decode cX4_readsNumber 53 = .ok (.invokevirtual 101, 3) := by decide +kernel
theorem dX4_readsNumber_56 : decode cX4_readsNumber 56 = .ok (.ifCond .eq 64, 3) := by decide +kernel
theorem dX4_readsNumber_59 : decode cX4_readsNumber 59 = .ok (.bipush 10, 2) := by decide +kernel
theorem dX4_readsNumber_61 : decode cX4_readsNumber 61 = .ok (.aload_n 0, 1) := by decide +kernel
theorem dX4_readsNumber_62 : decode cX4_readsNumber 62 = .ok (.getfield 105, 3) := by decide +kernel
theorem dX4_readsNumber_65 : decode cX4_readsNumber 65 = .ok (.imul, 1) := by decide +kernel
theorem dX4_readsNumber_66 : decode cX4_readsNumber 66 = .ok (.aload_n 0, 1) := by decide +kernel
theorem dX4_readsNumber_67 : decode cX4_readsNumber 67 = .ok (.getfield 25, 3) := by decide +kernel
theorem dX4_readsNumber_70 : decode cX4_readsNumber 70 = .ok (.aload_n 0, 1) := by decide +kernel
theorem dX4_readsNumber_71 : decode cX4_readsNumber 71 = .ok (.getfield 98, 3) := by decide +kernel
theorem dX4_readsNumber_74 : decode cX4_readsNumber 74 = .ok (.iaload, 1) := by decide +kernel
theorem dX4_readsNumber_75 : decode cX4_readsNumber 75 = .ok (.iadd, 1) := by decide +kernel
theorem dX4_readsNumber_76 : decode cX4_readsNumber 76 = .ok (.bipush 48, 2) := by decide +kernel
theorem dX4_readsNumber_78 : decode cX4_readsNumber 78 = .ok (.isub, 1) := by decide +kernel
theorem dX4_readsNumber_79 : decode cX4_readsNumber 79 = .ok (.iload_n 2, 1) := by decide +kernel
theorem dX4_readsNumber_80 : decode cX4_readsNumber 80 = .ok (.if_icmp .gt 40, 3) := by decide +kernel
theorem dX4_readsNumber_83 : decode cX4_readsNumber 83 = .ok (.aload_n 0, 1) := by decide +kernel
theorem dX4_readsNumber_84 : decode cX4_readsNumber 84 = .ok (.bipush 10, 2) := by decide +kernel
theorem dX4_readsNumber_86 : decode cX4_readsNumber 86 = .ok (.aload_n 0, 1) := by decide +kernel
theorem dX4_readsNumber_87 : decode cX4_readsNumber 87 = .ok (.getfield 105, 3) := by decide +kernel
theorem dX4_readsNumber_90 : decode cX4_readsNumber 90 = .ok (.imul, 1) := by decide +kernel
theorem dX4_readsNumber_91 : decode cX4_readsNumber 91 = .ok (.aload_n 0, 1) := by decide +kernel
theorem dX4_readsNumber_92 : decode cX4_readsNumber 92 = .ok (.getfield 25, 3) := by decide +kernel
theorem dX4_readsNumber_95 : decode cX4_readsNumber 95 = .ok (.aload_n 0, 1) := by decide +kernel
theorem dX4_readsNumber_96 : decode cX4_readsNumber 96 = .ok (.getfield 98, 3) := by decide +kernel
theorem dX4_readsNumber_99 : decode cX4_readsNumber 99 = .ok (.iaload, 1) := by decide +kernel
theorem dX4_readsNumber_100 : decode cX4_readsNumber 100 = .ok (.iadd, 1) := by decide +kernel
theorem dX4_readsNumber_101 : decode cX4_readsNumber 101 = .ok (.bipush 48, 2) := by decide +kernel
theorem dX4_readsNumber_103 : decode cX4_readsNumber 103 = .ok (.isub, 1) := by decide +kernel
theorem dX4_readsNumber_104 : decode cX4_readsNumber 104 = .ok (.putfield 105, 3) := by decide +kernel
theorem dX4_readsNumber_107 : decode cX4_readsNumber 107 = .ok (.aload_n 0, 1) := by decide +kernel
theorem dX4_readsNumber_108 : decode cX4_readsNumber 108 = .ok (.dup, 1) := by decide +kernel
theorem dX4_readsNumber_109 : decode cX4_readsNumber 109 = .ok (.getfield 98, 3) := by decide +kernel
theorem dX4_readsNumber_112 : decode cX4_readsNumber 112 = .ok (.iconst 1, 1) := by decide +kernel
theorem dX4_readsNumber_113 : decode cX4_readsNumber 113 = .ok (.iadd, 1) := by decide +kernel
theorem dX4_readsNumber_114 : decode cX4_readsNumber 114 = .ok (.putfield 98, 3) := by decide +kernel
theorem dX4_readsNumber_117 : decode cX4_readsNumber 117 = .ok (.goto (-76), 3) := by decide +kernel
theorem dX4_readsNumber_120 : decode cX4_readsNumber 120 = .ok (.iconst 1, 1) := by decide +kernel
theorem dX4_readsNumber_121 : decode cX4_readsNumber 121 = .ok (.ireturn, 1) := by decide +kernel
theorem dX4_readsName_0 : decode cX4_readsName 0 = .ok (.aload_n 0, 1) := by decide +kernel
theorem dX4_readsName_1 : decode cX4_readsName 1 = .ok (.iconst 0, 1) := by decide +kernel
theorem dX4_readsName_2 : decode cX4_readsName 2 = .ok (.putfield 105, 3) := by decide +kernel
theorem dX4_readsName_5 : decode cX4_readsName 5 = .ok (.iconst 0, 1) := by decide +kernel
theorem dX4_readsName_6 : decode cX4_readsName 6 = .ok (.istore_n 1, 1) := by decide +kernel
theorem dX4_readsName_7 : decode cX4_readsName 7 = .ok (.iload_n 1, 1) := by decide +kernel
theorem dX4_readsName_8 : decode cX4_readsName 8 = .ok (.iconst 2, 1) := by decide +kernel
theorem dX4_readsName_9 : decode cX4_readsName 9 = .ok (.if_icmp .ge 56, 3) := by decide +kernel
theorem dX4_readsName_12 : decode cX4_readsName 12 = .ok (.aload_n 0, 1) := by decide +kernel
theorem dX4_readsName_13 : decode cX4_readsName 13 = .ok (.bipush 65, 2) := by decide +kernel
theorem dX4_readsName_15 : decode cX4_readsName 15 = .ok (.bipush 90, 2) := by decide +kernel
theorem dX4_readsName_17 : decode cX4_readsName 17 = .ok (.invokevirtual 101, 3) := by decide +kernel
theorem dX4_readsName_20 : decode cX4_readsName 20 = .ok (.ifCond .ne 5, 3) := by decide +kernel
theorem dX4_readsName_23 : decode cX4_readsName 23 = .ok (.iconst 0, 1) := by decide +kernel
theorem dX4_readsName_24 : decode cX4_readsName 24 = .ok (.ireturn, 1) := by decide +kernel
theorem dX4_readsName_25 : decode cX4_readsName 25 = .ok (.aload_n 0, 1) := by decide +kernel
theorem dX4_readsName_26 : decode cX4_readsName 26 = .ok (.bipush 26, 2) := by decide +kernel
theorem dX4_readsName_28 : decode cX4_readsName 28 = .ok (.aload_n 0, 1) := by decide +kernel
theorem dX4_readsName_29 : decode cX4_readsName 29 = .ok (.getfield 105, 3) := by decide +kernel
theorem dX4_readsName_32 : decode cX4_readsName 32 = .ok (.imul, 1) := by decide +kernel
theorem dX4_readsName_33 : decode cX4_readsName 33 = .ok (.aload_n 0, 1) := by decide +kernel
theorem dX4_readsName_34 : decode cX4_readsName 34 = .ok (.getfield 25, 3) := by decide +kernel
theorem dX4_readsName_37 : decode cX4_readsName 37 = .ok (.aload_n 0, 1) := by decide +kernel
theorem dX4_readsName_38 : decode cX4_readsName 38 = .ok (.getfield 98, 3) := by decide +kernel
theorem dX4_readsName_41 : decode cX4_readsName 41 = .ok (.iaload, 1) := by decide +kernel
theorem dX4_readsName_42 : decode cX4_readsName 42 = .ok (.iadd, 1) := by decide +kernel
theorem dX4_readsName_43 : decode cX4_readsName 43 = .ok (.bipush 65, 2) := by decide +kernel
theorem dX4_readsName_45 : decode cX4_readsName 45 = .ok (.isub, 1) := by decide +kernel
theorem dX4_readsName_46 : decode cX4_readsName 46 = .ok (.putfield 105, 3) := by decide +kernel
theorem dX4_readsName_49 : decode cX4_readsName 49 = .ok (.aload_n 0, 1) := by decide +kernel
theorem dX4_readsName_50 : decode cX4_readsName 50 = .ok (.dup, 1) := by decide +kernel
theorem dX4_readsName_51 : decode cX4_readsName 51 = .ok (.getfield 98, 3) := by decide +kernel
theorem dX4_readsName_54 : decode cX4_readsName 54 = .ok (.iconst 1, 1) := by decide +kernel
theorem dX4_readsName_55 : decode cX4_readsName 55 = .ok (.iadd, 1) := by decide +kernel
theorem dX4_readsName_56 : decode cX4_readsName 56 = .ok (.putfield 98, 3) := by decide +kernel
theorem dX4_readsName_59 : decode cX4_readsName 59 = .ok (.iinc 1 1, 3) := by decide +kernel
theorem dX4_readsName_62 : decode cX4_readsName 62 = .ok (.goto (-55), 3) := by decide +kernel
theorem dX4_readsName_65 : decode cX4_readsName 65 = .ok (.iconst 1, 1) := by decide +kernel
theorem dX4_readsName_66 : decode cX4_readsName 66 = .ok (.ireturn, 1) := by decide +kernel
theorem dX4_readsAddition_0 : decode cX4_readsAddition 0 = .ok (.aload_n 0, 1) := by decide +kernel
theorem dX4_readsAddition_1 : decode cX4_readsAddition 1 = .ok (.invokevirtual 108, 3) := by decide +kernel
theorem dX4_readsAddition_4 : decode cX4_readsAddition 4 = .ok (.ifCond .ne 5, 3) := by decide +kernel
theorem dX4_readsAddition_7 : decode cX4_readsAddition 7 = .ok (.iconst 0, 1) := by decide +kernel
theorem dX4_readsAddition_8 : decode cX4_readsAddition 8 = .ok (.ireturn, 1) := by decide +kernel
theorem dX4_readsAddition_9 : decode cX4_readsAddition 9 = .ok (.aload_n 0, 1) := by decide +kernel
theorem dX4_readsAddition_10 : decode cX4_readsAddition 10 = .ok (.getfield 105, 3) := by decide +kernel
theorem dX4_readsAddition_13 : decode cX4_readsAddition 13 = .ok (.istore_n 2, 1) := by decide +kernel
theorem dX4_readsAddition_14 : decode cX4_readsAddition 14 = .ok (.aload_n 0, 1) := by decide +kernel
theorem dX4_readsAddition_15 : decode cX4_readsAddition 15 = .ok (.bipush 62, 2) := by decide +kernel
theorem dX4_readsAddition_17 : decode cX4_readsAddition 17 = .ok (.invokevirtual 111, 3) := by decide +kernel
theorem dX4_readsAddition_20 : decode cX4_readsAddition 20 = .ok (.ifCond .eq 35, 3) := by decide +kernel
theorem dX4_readsAddition_23 : decode cX4_readsAddition 23 = .ok (.aload_n 0, 1) := by decide +kernel
theorem dX4_readsAddition_24 : decode cX4_readsAddition 24 = .ok (.invokevirtual 108, 3) := by decide +kernel
theorem dX4_readsAddition_27 : decode cX4_readsAddition 27 = .ok (.istore_n 3, 1) := by decide +kernel
theorem dX4_readsAddition_28 : decode cX4_readsAddition 28 = .ok (.aload_n 0, 1) := by decide +kernel
theorem dX4_readsAddition_29 : decode cX4_readsAddition 29 = .ok (.iload_n 3, 1) := by decide +kernel
theorem dX4_readsAddition_30 : decode cX4_readsAddition 30 = .ok (.ifCond .eq 19, 3) := by decide +kernel
theorem dX4_readsAddition_33 : decode cX4_readsAddition 33 = .ok (.iload_n 1, 1) := by decide +kernel
theorem dX4_readsAddition_34 : decode cX4_readsAddition 34 = .ok (.ifCond .eq 15, 3) := by decide +kernel
theorem dX4_readsAddition_37 : decode cX4_readsAddition 37 = .ok (.aload_n 0, 1) := by decide +kernel
theorem dX4_readsAddition_38 : decode cX4_readsAddition 38 = .ok (.iload_n 2, 1) := by decide +kernel
theorem dX4_readsAddition_39 : decode cX4_readsAddition 39 = .ok (.aload_n 0, 1) := by decide +kernel
theorem dX4_readsAddition_40 : decode cX4_readsAddition 40 = .ok (.getfield 105, 3) := by decide +kernel
theorem dX4_readsAddition_43 : decode cX4_readsAddition 43 = .ok (.invokevirtual 92, 3) := by decide +kernel
theorem dX4_readsAddition_46 : decode cX4_readsAddition 46 = .ok (.goto 4, 3) := by decide +kernel
theorem dX4_readsAddition_49 : decode cX4_readsAddition 49 = .ok (.iconst 0, 1) := by decide +kernel
theorem dX4_readsAddition_50 : decode cX4_readsAddition 50 = .ok (.putfield 114, 3) := by decide +kernel
theorem dX4_readsAddition_53 : decode cX4_readsAddition 53 = .ok (.iload_n 3, 1) := by decide +kernel
theorem dX4_readsAddition_54 : decode cX4_readsAddition 54 = .ok (.ireturn, 1) := by decide +kernel
theorem dX4_readsAddition_55 : decode cX4_readsAddition 55 = .ok (.aload_n 0, 1) := by decide +kernel
theorem dX4_readsAddition_56 : decode cX4_readsAddition 56 = .ok (.bipush 61, 2) := by decide +kernel
theorem dX4_readsAddition_58 : decode cX4_readsAddition 58 = .ok (.invokevirtual 111, 3) := by decide +kernel
theorem dX4_readsAddition_61 : decode cX4_readsAddition 61 = .ok (.ifCond .eq 13, 3) := by decide +kernel
theorem dX4_readsAddition_64 : decode cX4_readsAddition 64 = .ok (.aload_n 0, 1) := by decide +kernel
theorem dX4_readsAddition_65 : decode cX4_readsAddition 65 = .ok (.iconst 1, 1) := by decide +kernel
theorem dX4_readsAddition_66 : decode cX4_readsAddition 66 = .ok (.bipush 40, 2) := by decide +kernel
theorem dX4_readsAddition_68 : decode cX4_readsAddition 68 = .ok (.invokevirtual 117, 3) := by decide +kernel
theorem dX4_readsAddition_71 : decode cX4_readsAddition 71 = .ok (.ifCond .ne 5, 3) := by decide +kernel
theorem dX4_readsAddition_74 : decode cX4_readsAddition 74 = .ok (.iconst 0, 1) := by decide +kernel
theorem dX4_readsAddition_75 : decode cX4_readsAddition 75 = .ok (.ireturn, 1) := by decide +kernel
theorem dX4_readsAddition_76 : decode cX4_readsAddition 76 = .ok (.aload_n 0, 1) := by decide +kernel
theorem dX4_readsAddition_77 : decode cX4_readsAddition 77 = .ok (.getfield 105, 3) := by decide +kernel
theorem dX4_readsAddition_80 : decode cX4_readsAddition 80 = .ok (.istore_n 3, 1) := by decide +kernel
theorem dX4_readsAddition_81 : decode cX4_readsAddition 81 = .ok (.aload_n 0, 1) := by decide +kernel
theorem dX4_readsAddition_82 : decode cX4_readsAddition 82 = .ok (.iconst 0, 1) := by decide +kernel
theorem dX4_readsAddition_83 : decode cX4_readsAddition 83 = .ok (.putfield 105, 3) := by decide +kernel
theorem dX4_readsAddition_86 : decode cX4_readsAddition 86 = .ok (.aload_n 0, 1) := by decide +kernel
theorem dX4_readsAddition_87 : decode cX4_readsAddition 87 = .ok (.bipush 44, 2) := by decide +kernel
theorem dX4_readsAddition_89 : decode cX4_readsAddition 89 = .ok (.invokevirtual 111, 3) := by decide +kernel
theorem dX4_readsAddition_92 : decode cX4_readsAddition 92 = .ok (.ifCond .eq 14, 3) := by decide +kernel
theorem dX4_readsAddition_95 : decode cX4_readsAddition 95 = .ok (.aload_n 0, 1) := by decide +kernel
theorem dX4_readsAddition_96 : decode cX4_readsAddition 96 = .ok (.iconst 0, 1) := by decide +kernel
theorem dX4_readsAddition_97 : decode cX4_readsAddition 97 = .ok (.sipush 9999, 3) := by decide +kernel
theorem dX4_readsAddition_100 : decode cX4_readsAddition 100 = .ok (.invokevirtual 117, 3) := by decide +kernel
theorem dX4_readsAddition_103 : decode cX4_readsAddition 103 = .ok (.ifCond .eq 7, 3) := by decide +kernel
theorem dX4_readsAddition_106 : decode cX4_readsAddition 106 = .ok (.iconst 1, 1) := by decide +kernel
theorem dX4_readsAddition_107 : decode cX4_readsAddition 107 = .ok (.goto 4, 3) := by decide +kernel
theorem dX4_readsAddition_110 : decode cX4_readsAddition 110 = .ok (.iconst 0, 1) := by decide +kernel
theorem dX4_readsAddition_111 : decode cX4_readsAddition 111 = .ok (.istore 4, 2) := by decide +kernel
theorem dX4_readsAddition_113 : decode cX4_readsAddition 113 = .ok (.aload_n 0, 1) := by decide +kernel
theorem dX4_readsAddition_114 : decode cX4_readsAddition 114 = .ok (.iload 4, 2) := by decide +kernel
theorem dX4_readsAddition_116 : decode cX4_readsAddition 116 = .ok (.ifCond .eq 20, 3) := by decide +kernel
theorem dX4_readsAddition_119 : decode cX4_readsAddition 119 = .ok (.iload_n 1, 1) := by decide +kernel
theorem dX4_readsAddition_120 : decode cX4_readsAddition 120 = .ok (.ifCond .eq 16, 3) := by decide +kernel
theorem dX4_readsAddition_123 : decode cX4_readsAddition 123 = .ok (.aload_n 0, 1) := by decide +kernel
theorem dX4_readsAddition_124 : decode cX4_readsAddition 124 = .ok (.iload_n 2, 1) := by decide +kernel
theorem dX4_readsAddition_125 : decode cX4_readsAddition 125 = .ok (.iload_n 3, 1) := by decide +kernel
theorem dX4_readsAddition_126 : decode cX4_readsAddition 126 = .ok (.aload_n 0, 1) := by decide +kernel
theorem dX4_readsAddition_127 : decode cX4_readsAddition 127 = .ok (.getfield 105, 3) := by decide +kernel
theorem dX4_readsAddition_130 : decode cX4_readsAddition 130 = .ok (.invokevirtual 85, 3) := by decide +kernel
theorem dX4_readsAddition_133 : decode cX4_readsAddition 133 = .ok (.goto 4, 3) := by decide +kernel
theorem dX4_readsAddition_136 : decode cX4_readsAddition 136 = .ok (.iconst 0, 1) := by decide +kernel
theorem dX4_readsAddition_137 : decode cX4_readsAddition 137 = .ok (.putfield 114, 3) := by decide +kernel
theorem dX4_readsAddition_140 : decode cX4_readsAddition 140 = .ok (.iload 4, 2) := by decide +kernel
theorem dX4_readsAddition_142 : decode cX4_readsAddition 142 = .ok (.ireturn, 1) := by decide +kernel
theorem dX4_fault_0 : decode cX4_fault 0 = .ok (.aload_n 0, 1) := by decide +kernel
theorem dX4_fault_1 : decode cX4_fault 1 = .ok (.iconst 0, 1) := by decide +kernel
theorem dX4_fault_2 : decode cX4_fault 2 = .ok (.putfield 98, 3) := by decide +kernel
theorem dX4_fault_5 : decode cX4_fault 5 = .ok (.iconst 1, 1) := by decide +kernel
theorem dX4_fault_6 : decode cX4_fault 6 = .ok (.istore_n 1, 1) := by decide +kernel
theorem dX4_fault_7 : decode cX4_fault 7 = .ok (.iload_n 1, 1) := by decide +kernel
theorem dX4_fault_8 : decode cX4_fault 8 = .ok (.ifCond .eq 26, 3) := by decide +kernel
theorem dX4_fault_11 : decode cX4_fault 11 = .ok (.aload_n 0, 1) := by decide +kernel
theorem dX4_fault_12 : decode cX4_fault 12 = .ok (.iconst 0, 1) := by decide +kernel
theorem dX4_fault_13 : decode cX4_fault 13 = .ok (.invokevirtual 120, 3) := by decide +kernel
theorem dX4_fault_16 : decode cX4_fault 16 = .ok (.ifCond .ne 8, 3) := by decide +kernel
theorem dX4_fault_19 : decode cX4_fault 19 = .ok (.aload_n 0, 1) := by decide +kernel
theorem dX4_fault_20 : decode cX4_fault 20 = .ok (.getfield 98, 3) := by decide +kernel
theorem dX4_fault_23 : decode cX4_fault 23 = .ok (.ireturn, 1) := by decide +kernel
theorem dX4_fault_24 : decode cX4_fault 24 = .ok (.aload_n 0, 1) := by decide +kernel
theorem dX4_fault_25 : decode cX4_fault 25 = .ok (.bipush 59, 2) := by decide +kernel
theorem dX4_fault_27 : decode cX4_fault 27 = .ok (.invokevirtual 111, 3) := by decide +kernel
theorem dX4_fault_30 : decode cX4_fault 30 = .ok (.istore_n 1, 1) := by decide +kernel
theorem dX4_fault_31 : decode cX4_fault 31 = .ok (.goto (-24), 3) := by decide +kernel
theorem dX4_fault_34 : decode cX4_fault 34 = .ok (.aload_n 0, 1) := by decide +kernel
theorem dX4_fault_35 : decode cX4_fault 35 = .ok (.getfield 98, 3) := by decide +kernel
theorem dX4_fault_38 : decode cX4_fault 38 = .ok (.aload_n 0, 1) := by decide +kernel
theorem dX4_fault_39 : decode cX4_fault 39 = .ok (.getfield 95, 3) := by decide +kernel
theorem dX4_fault_42 : decode cX4_fault 42 = .ok (.if_icmp .ne 8, 3) := by decide +kernel
theorem dX4_fault_45 : decode cX4_fault 45 = .ok (.bipush (-5), 2) := by decide +kernel
theorem dX4_fault_47 : decode cX4_fault 47 = .ok (.goto 7, 3) := by decide +kernel
theorem dX4_fault_50 : decode cX4_fault 50 = .ok (.aload_n 0, 1) := by decide +kernel
theorem dX4_fault_51 : decode cX4_fault 51 = .ok (.getfield 98, 3) := by decide +kernel
theorem dX4_fault_54 : decode cX4_fault 54 = .ok (.ireturn, 1) := by decide +kernel
theorem dX4_addAll_0 : decode cX4_addAll 0 = .ok (.aload_n 0, 1) := by decide +kernel
theorem dX4_addAll_1 : decode cX4_addAll 1 = .ok (.invokevirtual 124, 3) := by decide +kernel
theorem dX4_addAll_4 : decode cX4_addAll 4 = .ok (.istore_n 1, 1) := by decide +kernel
theorem dX4_addAll_5 : decode cX4_addAll 5 = .ok (.iload_n 1, 1) := by decide +kernel
theorem dX4_addAll_6 : decode cX4_addAll 6 = .ok (.bipush (-5), 2) := by decide +kernel
theorem dX4_addAll_8 : decode cX4_addAll 8 = .ok (.if_icmp .eq 8, 3) := by decide +kernel
theorem dX4_addAll_11 : decode cX4_addAll 11 = .ok (.bipush (-100), 2) := by decide +kernel
theorem dX4_addAll_13 : decode cX4_addAll 13 = .ok (.iload_n 1, 1) := by decide +kernel
theorem dX4_addAll_14 : decode cX4_addAll 14 = .ok (.isub, 1) := by decide +kernel
theorem dX4_addAll_15 : decode cX4_addAll 15 = .ok (.ireturn, 1) := by decide +kernel
theorem dX4_addAll_16 : decode cX4_addAll 16 = .ok (.aload_n 0, 1) := by decide +kernel
theorem dX4_addAll_17 : decode cX4_addAll 17 = .ok (.invokevirtual 82, 3) := by decide +kernel
theorem dX4_addAll_20 : decode cX4_addAll 20 = .ok (.aload_n 0, 1) := by decide +kernel
theorem dX4_addAll_21 : decode cX4_addAll 21 = .ok (.iconst 0, 1) := by decide +kernel
theorem dX4_addAll_22 : decode cX4_addAll 22 = .ok (.putfield 98, 3) := by decide +kernel
theorem dX4_addAll_25 : decode cX4_addAll 25 = .ok (.iconst 0, 1) := by decide +kernel
theorem dX4_addAll_26 : decode cX4_addAll 26 = .ok (.istore_n 2, 1) := by decide +kernel
theorem dX4_addAll_27 : decode cX4_addAll 27 = .ok (.iconst 1, 1) := by decide +kernel
theorem dX4_addAll_28 : decode cX4_addAll 28 = .ok (.istore_n 3, 1) := by decide +kernel
theorem dX4_addAll_29 : decode cX4_addAll 29 = .ok (.iload_n 3, 1) := by decide +kernel
theorem dX4_addAll_30 : decode cX4_addAll 30 = .ok (.ifCond .eq 75, 3) := by decide +kernel
theorem dX4_addAll_33 : decode cX4_addAll 33 = .ok (.aload_n 0, 1) := by decide +kernel
theorem dX4_addAll_34 : decode cX4_addAll 34 = .ok (.iconst 1, 1) := by decide +kernel
theorem dX4_addAll_35 : decode cX4_addAll 35 = .ok (.invokevirtual 120, 3) := by decide +kernel
theorem dX4_addAll_38 : decode cX4_addAll 38 = .ok (.istore 4, 2) := by decide +kernel
theorem dX4_addAll_40 : decode cX4_addAll 40 = .ok (.aload_n 0, 1) := by decide +kernel
theorem dX4_addAll_41 : decode cX4_addAll 41 = .ok (.getfield 114, 3) := by decide +kernel
theorem dX4_addAll_44 : decode cX4_addAll 44 = .ok (.ifCond .ge 48, 3) := by decide +kernel
theorem dX4_addAll_47 : decode cX4_addAll 47 = .ok (.aload_n 0, 1) := by decide +kernel
theorem dX4_addAll_48 : decode cX4_addAll 48 = .ok (.getfield 114, 3) := by decide +kernel
theorem dX4_addAll_51 : decode cX4_addAll 51 = .ok (.bipush (-5), 2) := by decide +kernel
theorem dX4_addAll_53 : decode cX4_addAll 53 = .ok (.if_icmp .eq 39, 3) := by decide +kernel
theorem dX4_addAll_56 : decode cX4_addAll 56 = .ok (.iconst 0, 1) := by decide +kernel
theorem dX4_addAll_57 : decode cX4_addAll 57 = .ok (.istore 5, 2) := by decide +kernel
theorem dX4_addAll_59 : decode cX4_addAll 59 = .ok (.iload 5, 2) := by decide +kernel
theorem dX4_addAll_61 : decode cX4_addAll 61 = .ok (.sipush 149, 3) := by decide +kernel
theorem dX4_addAll_64 : decode cX4_addAll 64 = .ok (.if_icmp .ge 23, 3) := by decide +kernel
theorem dX4_addAll_67 : decode cX4_addAll 67 = .ok (.aload_n 0, 1) := by decide +kernel
theorem dX4_addAll_68 : decode cX4_addAll 68 = .ok (.getfield 7, 3) := by decide +kernel
theorem dX4_addAll_71 : decode cX4_addAll 71 = .ok (.iload 5, 2) := by decide +kernel
theorem dX4_addAll_73 : decode cX4_addAll 73 = .ok (.aload_n 0, 1) := by decide +kernel
theorem dX4_addAll_74 : decode cX4_addAll 74 = .ok (.getfield 13, 3) := by decide +kernel
theorem dX4_addAll_77 : decode cX4_addAll 77 = .ok (.iload 5, 2) := by decide +kernel
theorem dX4_addAll_79 : decode cX4_addAll 79 = .ok (.iaload, 1) := by decide +kernel
theorem dX4_addAll_80 : decode cX4_addAll 80 = .ok (.iastore, 1) := by decide +kernel
theorem dX4_addAll_81 : decode cX4_addAll 81 = .ok (.iinc 5 1, 3) := by decide +kernel
theorem dX4_addAll_84 : decode cX4_addAll 84 = .ok (.goto (-25), 3) := by decide +kernel
theorem dX4_addAll_87 : decode cX4_addAll 87 = .ok (.aload_n 0, 1) := by decide +kernel
theorem dX4_addAll_88 : decode cX4_addAll 88 = .ok (.getfield 114, 3) := by decide +kernel
theorem dX4_addAll_91 : decode cX4_addAll 91 = .ok (.ireturn, 1) := by decide +kernel
theorem dX4_addAll_92 : decode cX4_addAll 92 = .ok (.iinc 2 1, 3) := by decide +kernel
theorem dX4_addAll_95 : decode cX4_addAll 95 = .ok (.aload_n 0, 1) := by decide +kernel
theorem dX4_addAll_96 : decode cX4_addAll 96 = .ok (.bipush 59, 2) := by decide +kernel
theorem dX4_addAll_98 : decode cX4_addAll 98 = .ok (.invokevirtual 111, 3) := by decide +kernel
theorem dX4_addAll_101 : decode cX4_addAll 101 = .ok (.istore_n 3, 1) := by decide +kernel
theorem dX4_addAll_102 : decode cX4_addAll 102 = .ok (.goto (-73), 3) := by decide +kernel
theorem dX4_addAll_105 : decode cX4_addAll 105 = .ok (.aload_n 0, 1) := by decide +kernel
theorem dX4_addAll_106 : decode cX4_addAll 106 = .ok (.iload_n 2, 1) := by decide +kernel
theorem dX4_addAll_107 : decode cX4_addAll 107 = .ok (.invokevirtual 89, 3) := by decide +kernel
theorem dX4_addAll_110 : decode cX4_addAll 110 = .ok (.ireturn, 1) := by decide +kernel
theorem dX4_squeeze_0 : decode cX4_squeeze 0 = .ok (.aload_n 0, 1) := by decide +kernel
theorem dX4_squeeze_1 : decode cX4_squeeze 1 = .ok (.iconst 1, 1) := by decide +kernel
theorem dX4_squeeze_2 : decode cX4_squeeze 2 = .ok (.invokevirtual 127, 3) := by decide +kernel
theorem dX4_squeeze_5 : decode cX4_squeeze 5 = .ok (.aload_n 0, 1) := by decide +kernel
theorem dX4_squeeze_6 : decode cX4_squeeze 6 = .ok (.getfield 7, 3) := by decide +kernel
theorem dX4_squeeze_9 : decode cX4_squeeze 9 = .ok (.iconst 2, 1) := by decide +kernel
theorem dX4_squeeze_10 : decode cX4_squeeze 10 = .ok (.iaload, 1) := by decide +kernel
theorem dX4_squeeze_11 : decode cX4_squeeze 11 = .ok (.if_icmp .ne 6, 3) := by decide +kernel
theorem dX4_squeeze_14 : decode cX4_squeeze 14 = .ok (.bipush (-5), 2) := by decide +kernel
theorem dX4_squeeze_16 : decode cX4_squeeze 16 = .ok (.ireturn, 1) := by decide +kernel
theorem dX4_squeeze_17 : decode cX4_squeeze 17 = .ok (.aload_n 0, 1) := by decide +kernel
theorem dX4_squeeze_18 : decode cX4_squeeze 18 = .ok (.invokevirtual 82, 3) := by decide +kernel
theorem dX4_squeeze_21 : decode cX4_squeeze 21 = .ok (.aload_n 0, 1) := by decide +kernel
theorem dX4_squeeze_22 : decode cX4_squeeze 22 = .ok (.aload_n 0, 1) := by decide +kernel
theorem dX4_squeeze_23 : decode cX4_squeeze 23 = .ok (.invokevirtual 131, 3) := by decide +kernel
theorem dX4_squeeze_26 : decode cX4_squeeze 26 = .ok (.invokevirtual 89, 3) := by decide +kernel
theorem dX4_squeeze_29 : decode cX4_squeeze 29 = .ok (.ireturn, 1) := by decide +kernel
theorem dX4_makeAnew_0 : decode cX4_makeAnew 0 = .ok (.iload_n 1, 1) := by decide +kernel
theorem dX4_makeAnew_1 : decode cX4_makeAnew 1 = .ok (.i2l, 1) := by decide +kernel
theorem dX4_makeAnew_2 : decode cX4_makeAnew 2 = .ok (.lconst 1, 1) := by decide +kernel
theorem dX4_makeAnew_3 : decode cX4_makeAnew 3 = .ok (.ldc2_w 134, 3) := by decide +kernel
theorem dX4_makeAnew_6 : decode cX4_makeAnew 6 = .ok (.invokestatic 34, 3) := by decide +kernel
theorem dX4_makeAnew_9 : decode cX4_makeAnew 9 = .ok (.ifCond .ne 6, 3) := by decide +kernel
theorem dX4_makeAnew_12 : decode cX4_makeAnew 12 = .ok (.bipush (-2), 2) := by decide +kernel
theorem dX4_makeAnew_14 : decode cX4_makeAnew 14 = .ok (.ireturn, 1) := by decide +kernel
theorem dX4_makeAnew_15 : decode cX4_makeAnew 15 = .ok (.aload_n 0, 1) := by decide +kernel
theorem dX4_makeAnew_16 : decode cX4_makeAnew 16 = .ok (.getfield 7, 3) := by decide +kernel
theorem dX4_makeAnew_19 : decode cX4_makeAnew 19 = .ok (.iconst 0, 1) := by decide +kernel
theorem dX4_makeAnew_20 : decode cX4_makeAnew 20 = .ok (.iaload, 1) := by decide +kernel
theorem dX4_makeAnew_21 : decode cX4_makeAnew 21 = .ok (.iconst 4, 1) := by decide +kernel
theorem dX4_makeAnew_22 : decode cX4_makeAnew 22 = .ok (.iload_n 1, 1) := by decide +kernel
theorem dX4_makeAnew_23 : decode cX4_makeAnew 23 = .ok (.imul, 1) := by decide +kernel
theorem dX4_makeAnew_24 : decode cX4_makeAnew 24 = .ok (.if_icmp .le 6, 3) := by decide +kernel
theorem dX4_makeAnew_27 : decode cX4_makeAnew 27 = .ok (.bipush (-6), 2) := by decide +kernel
theorem dX4_makeAnew_29 : decode cX4_makeAnew 29 = .ok (.ireturn, 1) := by decide +kernel
theorem dX4_makeAnew_30 : decode cX4_makeAnew 30 = .ok (.aload_n 0, 1) := by decide +kernel
theorem dX4_makeAnew_31 : decode cX4_makeAnew 31 = .ok (.getfield 7, 3) := by decide +kernel
theorem dX4_makeAnew_34 : decode cX4_makeAnew 34 = .ok (.iconst 1, 1) := by decide +kernel
theorem dX4_makeAnew_35 : decode cX4_makeAnew 35 = .ok (.iaload, 1) := by decide +kernel
theorem dX4_makeAnew_36 : decode cX4_makeAnew 36 = .ok (.istore_n 2, 1) := by decide +kernel
theorem dX4_makeAnew_37 : decode cX4_makeAnew 37 = .ok (.iload_n 2, 1) := by decide +kernel
theorem dX4_makeAnew_38 : decode cX4_makeAnew 38 = .ok (.iload_n 1, 1) := by decide +kernel
theorem dX4_makeAnew_39 : decode cX4_makeAnew 39 = .ok (.if_icmp .ne 6, 3) := by decide +kernel
theorem dX4_makeAnew_42 : decode cX4_makeAnew 42 = .ok (.bipush (-5), 2) := by decide +kernel
theorem dX4_makeAnew_44 : decode cX4_makeAnew 44 = .ok (.ireturn, 1) := by decide +kernel
theorem dX4_makeAnew_45 : decode cX4_makeAnew 45 = .ok (.aload_n 0, 1) := by decide +kernel
theorem dX4_makeAnew_46 : decode cX4_makeAnew 46 = .ok (.invokevirtual 82, 3) := by decide +kernel
theorem dX4_makeAnew_49 : decode cX4_makeAnew 49 = .ok (.aload_n 0, 1) := by decide +kernel
theorem dX4_makeAnew_50 : decode cX4_makeAnew 50 = .ok (.getfield 7, 3) := by decide +kernel
theorem dX4_makeAnew_53 : decode cX4_makeAnew 53 = .ok (.iconst 1, 1) := by decide +kernel
theorem dX4_makeAnew_54 : decode cX4_makeAnew 54 = .ok (.iload_n 1, 1) := by decide +kernel
theorem dX4_makeAnew_55 : decode cX4_makeAnew 55 = .ok (.iastore, 1) := by decide +kernel
theorem dX4_makeAnew_56 : decode cX4_makeAnew 56 = .ok (.aload_n 0, 1) := by decide +kernel
theorem dX4_makeAnew_57 : decode cX4_makeAnew 57 = .ok (.invokevirtual 131, 3) := by decide +kernel
theorem dX4_makeAnew_60 : decode cX4_makeAnew 60 = .ok (.istore_n 3, 1) := by decide +kernel
theorem dX4_makeAnew_61 : decode cX4_makeAnew 61 = .ok (.aload_n 0, 1) := by decide +kernel
theorem dX4_makeAnew_62 : decode cX4_makeAnew 62 = .ok (.iload_n 2, 1) := by decide +kernel
theorem dX4_makeAnew_63 : decode cX4_makeAnew 63 = .ok (.invokevirtual 89, 3) := by decide +kernel
theorem dX4_makeAnew_66 : decode cX4_makeAnew 66 = .ok (.ireturn, 1) := by decide +kernel
theorem dX4_undo_0 : decode cX4_undo 0 = .ok (.aload_n 0, 1) := by decide +kernel
theorem dX4_undo_1 : decode cX4_undo 1 = .ok (.getfield 28, 3) := by decide +kernel
theorem dX4_undo_4 : decode cX4_undo 4 = .ok (.ifCond .ne 6, 3) := by decide +kernel
theorem dX4_undo_7 : decode cX4_undo 7 = .ok (.bipush (-5), 2) := by decide +kernel
theorem dX4_undo_9 : decode cX4_undo 9 = .ok (.ireturn, 1) := by decide +kernel
theorem dX4_undo_10 : decode cX4_undo 10 = .ok (.aload_n 0, 1) := by decide +kernel
theorem dX4_undo_11 : decode cX4_undo 11 = .ok (.dup, 1) := by decide +kernel
theorem dX4_undo_12 : decode cX4_undo 12 = .ok (.getfield 28, 3) := by decide +kernel
theorem dX4_undo_15 : decode cX4_undo 15 = .ok (.iconst 1, 1) := by decide +kernel
theorem dX4_undo_16 : decode cX4_undo 16 = .ok (.isub, 1) := by decide +kernel
theorem dX4_undo_17 : decode cX4_undo 17 = .ok (.putfield 28, 3) := by decide +kernel
theorem dX4_undo_20 : decode cX4_undo 20 = .ok (.iconst 0, 1) := by decide +kernel
theorem dX4_undo_21 : decode cX4_undo 21 = .ok (.istore_n 1, 1) := by decide +kernel
theorem dX4_undo_22 : decode cX4_undo 22 = .ok (.iload_n 1, 1) := by decide +kernel
theorem dX4_undo_23 : decode cX4_undo 23 = .ok (.sipush 149, 3) := by decide +kernel
theorem dX4_undo_26 : decode cX4_undo 26 = .ok (.if_icmp .ge 30, 3) := by decide +kernel
end
section
theorem dX4_undo_29 : decode cX4_undo 29 = .ok (.aload_n 0, 1) := by decide +kernel
theorem dX4_undo_30 : decode cX4_undo 30 = .ok (.getfield 7, 3) := by decide +kernel
theorem dX4_undo_33 : decode cX4_undo 33 = .ok (.iload_n 1, 1) := by decide +kernel
theorem dX4_undo_34 : decode cX4_undo 34 = .ok (.aload_n 0, 1) := by decide +kernel
theorem dX4_undo_35 : decode cX4_undo 35 = .ok (.getfield 16, 3) := by decide +kernel
theorem dX4_undo_38 : decode cX4_undo 38 = .ok (.sipush 149, 3) := by decide +kernel
theorem dX4_undo_41 : decode cX4_undo 41 = .ok (.aload_n 0, 1) := by decide +kernel
theorem dX4_undo_42 : decode cX4_undo 42 = .ok (.getfield 28, 3) := by decide +kernel
theorem dX4_undo_45 : decode cX4_undo 45 = .ok (.imul, 1) := by decide +kernel
theorem dX4_undo_46 : decode cX4_undo 46 = .ok (.iload_n 1, 1) := by decide +kernel
theorem dX4_undo_47 : decode cX4_undo 47 = .ok (.iadd, 1) := by decide +kernel
theorem dX4_undo_48 : decode cX4_undo 48 = .ok (.iaload, 1) := by decide +kernel
theorem dX4_undo_49 : decode cX4_undo 49 = .ok (.iastore, 1) := by decide +kernel
theorem dX4_undo_50 : decode cX4_undo 50 = .ok (.iinc 1 1, 3) := by decide +kernel
theorem dX4_undo_53 : decode cX4_undo 53 = .ok (.goto (-31), 3) := by decide +kernel
theorem dX4_undo_56 : decode cX4_undo 56 = .ok (.aload_n 0, 1) := by decide +kernel
theorem dX4_undo_57 : decode cX4_undo 57 = .ok (.getfield 28, 3) := by decide +kernel
theorem dX4_undo_60 : decode cX4_undo 60 = .ok (.ireturn, 1) := by decide +kernel
theorem dX4_keep_0 : decode cX4_keep 0 = .ok (.iconst 0, 1) := by decide +kernel
theorem dX4_keep_1 : decode cX4_keep 1 = .ok (.istore_n 1, 1) := by decide +kernel
theorem dX4_keep_2 : decode cX4_keep 2 = .ok (.iload_n 1, 1) := by decide +kernel
theorem dX4_keep_3 : decode cX4_keep 3 = .ok (.sipush 149, 3) := by decide +kernel
theorem dX4_keep_6 : decode cX4_keep 6 = .ok (.if_icmp .ge 21, 3) := by decide +kernel
theorem dX4_keep_9 : decode cX4_keep 9 = .ok (.aload_n 0, 1) := by decide +kernel
theorem dX4_keep_10 : decode cX4_keep 10 = .ok (.getfield 19, 3) := by decide +kernel
theorem dX4_keep_13 : decode cX4_keep 13 = .ok (.iload_n 1, 1) := by decide +kernel
theorem dX4_keep_14 : decode cX4_keep 14 = .ok (.aload_n 0, 1) := by decide +kernel
theorem dX4_keep_15 : decode cX4_keep 15 = .ok (.getfield 7, 3) := by decide +kernel
theorem dX4_keep_18 : decode cX4_keep 18 = .ok (.iload_n 1, 1) := by decide +kernel
theorem dX4_keep_19 : decode cX4_keep 19 = .ok (.iaload, 1) := by decide +kernel
theorem dX4_keep_20 : decode cX4_keep 20 = .ok (.iastore, 1) := by decide +kernel
theorem dX4_keep_21 : decode cX4_keep 21 = .ok (.iinc 1 1, 3) := by decide +kernel
theorem dX4_keep_24 : decode cX4_keep 24 = .ok (.goto (-22), 3) := by decide +kernel
theorem dX4_keep_27 : decode cX4_keep 27 = .ok (.aload_n 0, 1) := by decide +kernel
theorem dX4_keep_28 : decode cX4_keep 28 = .ok (.iconst 1, 1) := by decide +kernel
theorem dX4_keep_29 : decode cX4_keep 29 = .ok (.putfield 136, 3) := by decide +kernel
theorem dX4_keep_32 : decode cX4_keep 32 = .ok (.aload_n 0, 1) := by decide +kernel
theorem dX4_keep_33 : decode cX4_keep 33 = .ok (.getfield 7, 3) := by decide +kernel
theorem dX4_keep_36 : decode cX4_keep 36 = .ok (.iconst 0, 1) := by decide +kernel
theorem dX4_keep_37 : decode cX4_keep 37 = .ok (.iaload, 1) := by decide +kernel
theorem dX4_keep_38 : decode cX4_keep 38 = .ok (.ireturn, 1) := by decide +kernel
theorem dX4_restore_0 : decode cX4_restore 0 = .ok (.aload_n 0, 1) := by decide +kernel
theorem dX4_restore_1 : decode cX4_restore 1 = .ok (.getfield 136, 3) := by decide +kernel
theorem dX4_restore_4 : decode cX4_restore 4 = .ok (.ifCond .ne 6, 3) := by decide +kernel
theorem dX4_restore_7 : decode cX4_restore 7 = .ok (.bipush (-5), 2) := by decide +kernel
theorem dX4_restore_9 : decode cX4_restore 9 = .ok (.ireturn, 1) := by decide +kernel
theorem dX4_restore_10 : decode cX4_restore 10 = .ok (.aload_n 0, 1) := by decide +kernel
theorem dX4_restore_11 : decode cX4_restore 11 = .ok (.invokevirtual 82, 3) := by decide +kernel
theorem dX4_restore_14 : decode cX4_restore 14 = .ok (.iconst 0, 1) := by decide +kernel
theorem dX4_restore_15 : decode cX4_restore 15 = .ok (.istore_n 1, 1) := by decide +kernel
theorem dX4_restore_16 : decode cX4_restore 16 = .ok (.iload_n 1, 1) := by decide +kernel
theorem dX4_restore_17 : decode cX4_restore 17 = .ok (.sipush 149, 3) := by decide +kernel
theorem dX4_restore_20 : decode cX4_restore 20 = .ok (.if_icmp .ge 21, 3) := by decide +kernel
theorem dX4_restore_23 : decode cX4_restore 23 = .ok (.aload_n 0, 1) := by decide +kernel
theorem dX4_restore_24 : decode cX4_restore 24 = .ok (.getfield 7, 3) := by decide +kernel
theorem dX4_restore_27 : decode cX4_restore 27 = .ok (.iload_n 1, 1) := by decide +kernel
theorem dX4_restore_28 : decode cX4_restore 28 = .ok (.aload_n 0, 1) := by decide +kernel
theorem dX4_restore_29 : decode cX4_restore 29 = .ok (.getfield 19, 3) := by decide +kernel
theorem dX4_restore_32 : decode cX4_restore 32 = .ok (.iload_n 1, 1) := by decide +kernel
theorem dX4_restore_33 : decode cX4_restore 33 = .ok (.iaload, 1) := by decide +kernel
theorem dX4_restore_34 : decode cX4_restore 34 = .ok (.iastore, 1) := by decide +kernel
theorem dX4_restore_35 : decode cX4_restore 35 = .ok (.iinc 1 1, 3) := by decide +kernel
theorem dX4_restore_38 : decode cX4_restore 38 = .ok (.goto (-22), 3) := by decide +kernel
theorem dX4_restore_41 : decode cX4_restore 41 = .ok (.aload_n 0, 1) := by decide +kernel
theorem dX4_restore_42 : decode cX4_restore 42 = .ok (.aload_n 0, 1) := by decide +kernel
theorem dX4_restore_43 : decode cX4_restore 43 = .ok (.getfield 7, 3) := by decide +kernel
theorem dX4_restore_46 : decode cX4_restore 46 = .ok (.iconst 0, 1) := by decide +kernel
theorem dX4_restore_47 : decode cX4_restore 47 = .ok (.iaload, 1) := by decide +kernel
theorem dX4_restore_48 : decode cX4_restore 48 = .ok (.invokevirtual 89, 3) := by decide +kernel
theorem dX4_restore_51 : decode cX4_restore 51 = .ok (.ireturn, 1) := by decide +kernel
theorem dX4_entry_0 : decode cX4_entry 0 = .ok (.aload_n 0, 1) := by decide +kernel
theorem dX4_entry_1 : decode cX4_entry 1 = .ok (.iload_n 1, 1) := by decide +kernel
theorem dX4_entry_2 : decode cX4_entry 2 = .ok (.invokevirtual 50, 3) := by decide +kernel
theorem dX4_entry_5 : decode cX4_entry 5 = .ok (.istore_n 3, 1) := by decide +kernel
theorem dX4_entry_6 : decode cX4_entry 6 = .ok (.iload_n 3, 1) := by decide +kernel
theorem dX4_entry_7 : decode cX4_entry 7 = .ok (.bipush (-5), 2) := by decide +kernel
theorem dX4_entry_9 : decode cX4_entry 9 = .ok (.if_icmp .ne 5, 3) := by decide +kernel
theorem dX4_entry_12 : decode cX4_entry 12 = .ok (.iconst (-1), 1) := by decide +kernel
theorem dX4_entry_13 : decode cX4_entry 13 = .ok (.ireturn, 1) := by decide +kernel
theorem dX4_entry_14 : decode cX4_entry 14 = .ok (.iload_n 2, 1) := by decide +kernel
theorem dX4_entry_15 : decode cX4_entry 15 = .ok (.tableswitch 105 0 8 #[49, 51, 55, 62, 62, 62, 73, 84, 91], 49) := by decide +kernel
theorem dX4_entry_64 : decode cX4_entry 64 = .ok (.iload_n 3, 1) := by decide +kernel
theorem dX4_entry_65 : decode cX4_entry 65 = .ok (.ireturn, 1) := by decide +kernel
theorem dX4_entry_66 : decode cX4_entry 66 = .ok (.iload_n 3, 1) := by decide +kernel
theorem dX4_entry_67 : decode cX4_entry 67 = .ok (.iconst 4, 1) := by decide +kernel
theorem dX4_entry_68 : decode cX4_entry 68 = .ok (.idiv, 1) := by decide +kernel
theorem dX4_entry_69 : decode cX4_entry 69 = .ok (.ireturn, 1) := by decide +kernel
theorem dX4_entry_70 : decode cX4_entry 70 = .ok (.aload_n 0, 1) := by decide +kernel
theorem dX4_entry_71 : decode cX4_entry 71 = .ok (.iload_n 3, 1) := by decide +kernel
theorem dX4_entry_72 : decode cX4_entry 72 = .ok (.iconst 1, 1) := by decide +kernel
theorem dX4_entry_73 : decode cX4_entry 73 = .ok (.invokevirtual 38, 3) := by decide +kernel
theorem dX4_entry_76 : decode cX4_entry 76 = .ok (.ireturn, 1) := by decide +kernel
theorem dX4_entry_77 : decode cX4_entry 77 = .ok (.aload_n 0, 1) := by decide +kernel
theorem dX4_entry_78 : decode cX4_entry 78 = .ok (.iload_n 3, 1) := by decide +kernel
theorem dX4_entry_79 : decode cX4_entry 79 = .ok (.iconst 2, 1) := by decide +kernel
theorem dX4_entry_80 : decode cX4_entry 80 = .ok (.iload_n 2, 1) := by decide +kernel
theorem dX4_entry_81 : decode cX4_entry 81 = .ok (.iadd, 1) := by decide +kernel
theorem dX4_entry_82 : decode cX4_entry 82 = .ok (.iconst 3, 1) := by decide +kernel
theorem dX4_entry_83 : decode cX4_entry 83 = .ok (.isub, 1) := by decide +kernel
theorem dX4_entry_84 : decode cX4_entry 84 = .ok (.invokevirtual 38, 3) := by decide +kernel
theorem dX4_entry_87 : decode cX4_entry 87 = .ok (.ireturn, 1) := by decide +kernel
theorem dX4_entry_88 : decode cX4_entry 88 = .ok (.aload_n 0, 1) := by decide +kernel
theorem dX4_entry_89 : decode cX4_entry 89 = .ok (.aload_n 0, 1) := by decide +kernel
theorem dX4_entry_90 : decode cX4_entry 90 = .ok (.iload_n 3, 1) := by decide +kernel
theorem dX4_entry_91 : decode cX4_entry 91 = .ok (.iconst 2, 1) := by decide +kernel
theorem dX4_entry_92 : decode cX4_entry 92 = .ok (.invokevirtual 38, 3) := by decide +kernel
theorem dX4_entry_95 : decode cX4_entry 95 = .ok (.invokevirtual 139, 3) := by decide +kernel
theorem dX4_entry_98 : decode cX4_entry 98 = .ok (.ireturn, 1) := by decide +kernel
theorem dX4_entry_99 : decode cX4_entry 99 = .ok (.aload_n 0, 1) := by decide +kernel
theorem dX4_entry_100 : decode cX4_entry 100 = .ok (.iload_n 3, 1) := by decide +kernel
theorem dX4_entry_101 : decode cX4_entry 101 = .ok (.iconst 5, 1) := by decide +kernel
theorem dX4_entry_102 : decode cX4_entry 102 = .ok (.invokevirtual 38, 3) := by decide +kernel
theorem dX4_entry_105 : decode cX4_entry 105 = .ok (.ireturn, 1) := by decide +kernel
theorem dX4_entry_106 : decode cX4_entry 106 = .ok (.aload_n 0, 1) := by decide +kernel
theorem dX4_entry_107 : decode cX4_entry 107 = .ok (.iload_n 3, 1) := by decide +kernel
theorem dX4_entry_108 : decode cX4_entry 108 = .ok (.invokevirtual 142, 3) := by decide +kernel
theorem dX4_entry_111 : decode cX4_entry 111 = .ok (.ifCond .eq 7, 3) := by decide +kernel
theorem dX4_entry_114 : decode cX4_entry 114 = .ok (.iconst 1, 1) := by decide +kernel
theorem dX4_entry_115 : decode cX4_entry 115 = .ok (.goto 4, 3) := by decide +kernel
theorem dX4_entry_118 : decode cX4_entry 118 = .ok (.iconst 0, 1) := by decide +kernel
theorem dX4_entry_119 : decode cX4_entry 119 = .ok (.ireturn, 1) := by decide +kernel
theorem dX4_entry_120 : decode cX4_entry 120 = .ok (.bipush (-2), 2) := by decide +kernel
theorem dX4_entry_122 : decode cX4_entry 122 = .ok (.ireturn, 1) := by decide +kernel
theorem dX4_named_0 : decode cX4_named 0 = .ok (.iload_n 1, 1) := by decide +kernel
theorem dX4_named_1 : decode cX4_named 1 = .ok (.ifCond .ge 6, 3) := by decide +kernel
theorem dX4_named_4 : decode cX4_named 4 = .ok (.bipush (-2), 2) := by decide +kernel
theorem dX4_named_6 : decode cX4_named 6 = .ok (.ireturn, 1) := by decide +kernel
theorem dX4_named_7 : decode cX4_named 7 = .ok (.iload_n 1, 1) := by decide +kernel
theorem dX4_named_8 : decode cX4_named 8 = .ok (.aload_n 0, 1) := by decide +kernel
theorem dX4_named_9 : decode cX4_named 9 = .ok (.getfield 7, 3) := by decide +kernel
theorem dX4_named_12 : decode cX4_named 12 = .ok (.iconst 0, 1) := by decide +kernel
theorem dX4_named_13 : decode cX4_named 13 = .ok (.iaload, 1) := by decide +kernel
theorem dX4_named_14 : decode cX4_named 14 = .ok (.if_icmp .ge 12, 3) := by decide +kernel
theorem dX4_named_17 : decode cX4_named 17 = .ok (.aload_n 0, 1) := by decide +kernel
theorem dX4_named_18 : decode cX4_named 18 = .ok (.iload_n 1, 1) := by decide +kernel
theorem dX4_named_19 : decode cX4_named 19 = .ok (.iconst 0, 1) := by decide +kernel
theorem dX4_named_20 : decode cX4_named 20 = .ok (.invokevirtual 38, 3) := by decide +kernel
theorem dX4_named_23 : decode cX4_named 23 = .ok (.goto 5, 3) := by decide +kernel
theorem dX4_named_26 : decode cX4_named 26 = .ok (.bipush (-5), 2) := by decide +kernel
theorem dX4_named_28 : decode cX4_named 28 = .ok (.ireturn, 1) := by decide +kernel
theorem dX4_block_0 : decode cX4_block 0 = .ok (.iload_n 1, 1) := by decide +kernel
theorem dX4_block_1 : decode cX4_block 1 = .ok (.i2l, 1) := by decide +kernel
theorem dX4_block_2 : decode cX4_block 2 = .ok (.lconst 0, 1) := by decide +kernel
theorem dX4_block_3 : decode cX4_block 3 = .ok (.aload_n 0, 1) := by decide +kernel
theorem dX4_block_4 : decode cX4_block 4 = .ok (.getfield 7, 3) := by decide +kernel
theorem dX4_block_7 : decode cX4_block 7 = .ok (.iconst 1, 1) := by decide +kernel
theorem dX4_block_8 : decode cX4_block 8 = .ok (.iaload, 1) := by decide +kernel
theorem dX4_block_9 : decode cX4_block 9 = .ok (.i2l, 1) := by decide +kernel
theorem dX4_block_10 : decode cX4_block 10 = .ok (.lconst 1, 1) := by decide +kernel
theorem dX4_block_11 : decode cX4_block 11 = .ok (.lsub, 1) := by decide +kernel
theorem dX4_block_12 : decode cX4_block 12 = .ok (.invokestatic 34, 3) := by decide +kernel
theorem dX4_block_15 : decode cX4_block 15 = .ok (.ifCond .ne 5, 3) := by decide +kernel
theorem dX4_block_18 : decode cX4_block 18 = .ok (.iconst (-1), 1) := by decide +kernel
theorem dX4_block_19 : decode cX4_block 19 = .ok (.ireturn, 1) := by decide +kernel
theorem dX4_block_20 : decode cX4_block 20 = .ok (.iload_n 2, 1) := by decide +kernel
theorem dX4_block_21 : decode cX4_block 21 = .ok (.i2l, 1) := by decide +kernel
theorem dX4_block_22 : decode cX4_block 22 = .ok (.lconst 0, 1) := by decide +kernel
theorem dX4_block_23 : decode cX4_block 23 = .ok (.ldc2_w 145, 3) := by decide +kernel
theorem dX4_block_26 : decode cX4_block 26 = .ok (.invokestatic 34, 3) := by decide +kernel
theorem dX4_block_29 : decode cX4_block 29 = .ok (.ifCond .ne 6, 3) := by decide +kernel
theorem dX4_block_32 : decode cX4_block 32 = .ok (.bipush (-2), 2) := by decide +kernel
theorem dX4_block_34 : decode cX4_block 34 = .ok (.ireturn, 1) := by decide +kernel
theorem dX4_block_35 : decode cX4_block 35 = .ok (.iconst 4, 1) := by decide +kernel
theorem dX4_block_36 : decode cX4_block 36 = .ok (.iload_n 1, 1) := by decide +kernel
theorem dX4_block_37 : decode cX4_block 37 = .ok (.imul, 1) := by decide +kernel
theorem dX4_block_38 : decode cX4_block 38 = .ok (.istore_n 3, 1) := by decide +kernel
theorem dX4_block_39 : decode cX4_block 39 = .ok (.aload_n 0, 1) := by decide +kernel
theorem dX4_block_40 : decode cX4_block 40 = .ok (.getfield 7, 3) := by decide +kernel
theorem dX4_block_43 : decode cX4_block 43 = .ok (.iconst 0, 1) := by decide +kernel
theorem dX4_block_44 : decode cX4_block 44 = .ok (.iaload, 1) := by decide +kernel
theorem dX4_block_45 : decode cX4_block 45 = .ok (.iload_n 3, 1) := by decide +kernel
theorem dX4_block_46 : decode cX4_block 46 = .ok (.isub, 1) := by decide +kernel
theorem dX4_block_47 : decode cX4_block 47 = .ok (.istore 4, 2) := by decide +kernel
theorem dX4_block_49 : decode cX4_block 49 = .ok (.iload 4, 2) := by decide +kernel
theorem dX4_block_51 : decode cX4_block 51 = .ok (.ifCond .ge 7, 3) := by decide +kernel
theorem dX4_block_54 : decode cX4_block 54 = .ok (.iconst 0, 1) := by decide +kernel
theorem dX4_block_55 : decode cX4_block 55 = .ok (.goto 15, 3) := by decide +kernel
theorem dX4_block_58 : decode cX4_block 58 = .ok (.iload 4, 2) := by decide +kernel
theorem dX4_block_60 : decode cX4_block 60 = .ok (.iconst 4, 1) := by decide +kernel
theorem dX4_block_61 : decode cX4_block 61 = .ok (.if_icmp .ge 8, 3) := by decide +kernel
theorem dX4_block_64 : decode cX4_block 64 = .ok (.iload 4, 2) := by decide +kernel
theorem dX4_block_66 : decode cX4_block 66 = .ok (.goto 4, 3) := by decide +kernel
theorem dX4_block_69 : decode cX4_block 69 = .ok (.iconst 4, 1) := by decide +kernel
theorem dX4_block_70 : decode cX4_block 70 = .ok (.istore 5, 2) := by decide +kernel
theorem dX4_block_72 : decode cX4_block 72 = .ok (.iload_n 2, 1) := by decide +kernel
theorem dX4_block_73 : decode cX4_block 73 = .ok (.ifCond .ne 8, 3) := by decide +kernel
theorem dX4_block_76 : decode cX4_block 76 = .ok (.iload 5, 2) := by decide +kernel
theorem dX4_block_78 : decode cX4_block 78 = .ok (.goto 33, 3) := by decide +kernel
theorem dX4_block_81 : decode cX4_block 81 = .ok (.iload 5, 2) := by decide +kernel
theorem dX4_block_83 : decode cX4_block 83 = .ok (.ifCond .ne 8, 3) := by decide +kernel
theorem dX4_block_86 : decode cX4_block 86 = .ok (.bipush (-5), 2) := by decide +kernel
theorem dX4_block_88 : decode cX4_block 88 = .ok (.goto 23, 3) := by decide +kernel
theorem dX4_block_91 : decode cX4_block 91 = .ok (.aload_n 0, 1) := by decide +kernel
theorem dX4_block_92 : decode cX4_block 92 = .ok (.iload_n 2, 1) := by decide +kernel
theorem dX4_block_93 : decode cX4_block 93 = .ok (.iconst 1, 1) := by decide +kernel
theorem dX4_block_94 : decode cX4_block 94 = .ok (.if_icmp .ne 7, 3) := by decide +kernel
theorem dX4_block_97 : decode cX4_block 97 = .ok (.iload_n 3, 1) := by decide +kernel
theorem dX4_block_98 : decode cX4_block 98 = .ok (.goto 9, 3) := by decide +kernel
theorem dX4_block_101 : decode cX4_block 101 = .ok (.iload_n 3, 1) := by decide +kernel
theorem dX4_block_102 : decode cX4_block 102 = .ok (.iload 5, 2) := by decide +kernel
theorem dX4_block_104 : decode cX4_block 104 = .ok (.iadd, 1) := by decide +kernel
theorem dX4_block_105 : decode cX4_block 105 = .ok (.iconst 1, 1) := by decide +kernel
theorem dX4_block_106 : decode cX4_block 106 = .ok (.isub, 1) := by decide +kernel
theorem dX4_block_107 : decode cX4_block 107 = .ok (.iconst 0, 1) := by decide +kernel
theorem dX4_block_108 : decode cX4_block 108 = .ok (.invokevirtual 38, 3) := by decide +kernel
theorem dX4_block_111 : decode cX4_block 111 = .ok (.ireturn, 1) := by decide +kernel
theorem dX4_at_0 : decode cX4_at 0 = .ok (.iload_n 1, 1) := by decide +kernel
theorem dX4_at_1 : decode cX4_at 1 = .ok (.i2l, 1) := by decide +kernel
theorem dX4_at_2 : decode cX4_at 2 = .ok (.lconst 0, 1) := by decide +kernel
theorem dX4_at_3 : decode cX4_at 3 = .ok (.ldc2_w 147, 3) := by decide +kernel
theorem dX4_at_6 : decode cX4_at 6 = .ok (.invokestatic 34, 3) := by decide +kernel
theorem dX4_at_9 : decode cX4_at 9 = .ok (.ifCond .ne 5, 3) := by decide +kernel
theorem dX4_at_12 : decode cX4_at 12 = .ok (.iconst (-1), 1) := by decide +kernel
theorem dX4_at_13 : decode cX4_at 13 = .ok (.ireturn, 1) := by decide +kernel
theorem dX4_at_14 : decode cX4_at 14 = .ok (.iload_n 1, 1) := by decide +kernel
theorem dX4_at_15 : decode cX4_at 15 = .ok (.aload_n 0, 1) := by decide +kernel
theorem dX4_at_16 : decode cX4_at 16 = .ok (.getfield 7, 3) := by decide +kernel
theorem dX4_at_19 : decode cX4_at 19 = .ok (.iconst 2, 1) := by decide +kernel
theorem dX4_at_20 : decode cX4_at 20 = .ok (.iaload, 1) := by decide +kernel
theorem dX4_at_21 : decode cX4_at 21 = .ok (.if_icmp .lt 6, 3) := by decide +kernel
theorem dX4_at_24 : decode cX4_at 24 = .ok (.bipush (-5), 2) := by decide +kernel
theorem dX4_at_26 : decode cX4_at 26 = .ok (.ireturn, 1) := by decide +kernel
theorem dX4_at_27 : decode cX4_at 27 = .ok (.iconst 0, 1) := by decide +kernel
theorem dX4_at_28 : decode cX4_at 28 = .ok (.istore_n 2, 1) := by decide +kernel
theorem dX4_at_29 : decode cX4_at 29 = .ok (.iload_n 2, 1) := by decide +kernel
theorem dX4_at_30 : decode cX4_at 30 = .ok (.aload_n 0, 1) := by decide +kernel
theorem dX4_at_31 : decode cX4_at 31 = .ok (.getfield 7, 3) := by decide +kernel
theorem dX4_at_34 : decode cX4_at 34 = .ok (.iconst 0, 1) := by decide +kernel
theorem dX4_at_35 : decode cX4_at 35 = .ok (.iaload, 1) := by decide +kernel
theorem dX4_at_36 : decode cX4_at 36 = .ok (.if_icmp .ge 47, 3) := by decide +kernel
theorem dX4_at_39 : decode cX4_at 39 = .ok (.iload_n 1, 1) := by decide +kernel
theorem dX4_at_40 : decode cX4_at 40 = .ok (.i2l, 1) := by decide +kernel
theorem dX4_at_41 : decode cX4_at 41 = .ok (.aload_n 0, 1) := by decide +kernel
theorem dX4_at_42 : decode cX4_at 42 = .ok (.iload_n 2, 1) := by decide +kernel
theorem dX4_at_43 : decode cX4_at 43 = .ok (.iconst 2, 1) := by decide +kernel
theorem dX4_at_44 : decode cX4_at 44 = .ok (.invokevirtual 38, 3) := by decide +kernel
theorem dX4_at_47 : decode cX4_at 47 = .ok (.i2l, 1) := by decide +kernel
theorem dX4_at_48 : decode cX4_at 48 = .ok (.aload_n 0, 1) := by decide +kernel
theorem dX4_at_49 : decode cX4_at 49 = .ok (.iload_n 2, 1) := by decide +kernel
theorem dX4_at_50 : decode cX4_at 50 = .ok (.iconst 2, 1) := by decide +kernel
theorem dX4_at_51 : decode cX4_at 51 = .ok (.invokevirtual 38, 3) := by decide +kernel
theorem dX4_at_54 : decode cX4_at 54 = .ok (.aload_n 0, 1) := by decide +kernel
theorem dX4_at_55 : decode cX4_at 55 = .ok (.iload_n 2, 1) := by decide +kernel
theorem dX4_at_56 : decode cX4_at 56 = .ok (.iconst 3, 1) := by decide +kernel
theorem dX4_at_57 : decode cX4_at 57 = .ok (.invokevirtual 38, 3) := by decide +kernel
theorem dX4_at_60 : decode cX4_at 60 = .ok (.iadd, 1) := by decide +kernel
theorem dX4_at_61 : decode cX4_at 61 = .ok (.i2l, 1) := by decide +kernel
theorem dX4_at_62 : decode cX4_at 62 = .ok (.lconst 1, 1) := by decide +kernel
theorem dX4_at_63 : decode cX4_at 63 = .ok (.lsub, 1) := by decide +kernel
theorem dX4_at_64 : decode cX4_at 64 = .ok (.invokestatic 34, 3) := by decide +kernel
theorem dX4_at_67 : decode cX4_at 67 = .ok (.ifCond .eq 10, 3) := by decide +kernel
theorem dX4_at_70 : decode cX4_at 70 = .ok (.aload_n 0, 1) := by decide +kernel
theorem dX4_at_71 : decode cX4_at 71 = .ok (.iload_n 2, 1) := by decide +kernel
theorem dX4_at_72 : decode cX4_at 72 = .ok (.iconst 0, 1) := by decide +kernel
theorem dX4_at_73 : decode cX4_at 73 = .ok (.invokevirtual 38, 3) := by decide +kernel
theorem dX4_at_76 : decode cX4_at 76 = .ok (.ireturn, 1) := by decide +kernel
theorem dX4_at_77 : decode cX4_at 77 = .ok (.iinc 2 1, 3) := by decide +kernel
theorem dX4_at_80 : decode cX4_at 80 = .ok (.goto (-51), 3) := by decide +kernel
theorem dX4_at_83 : decode cX4_at 83 = .ok (.sipush 1000, 3) := by decide +kernel
theorem dX4_at_86 : decode cX4_at 86 = .ok (.ireturn, 1) := by decide +kernel
theorem dX4_fits_0 : decode cX4_fits 0 = .ok (.iload_n 1, 1) := by decide +kernel
theorem dX4_fits_1 : decode cX4_fits 1 = .ok (.i2l, 1) := by decide +kernel
theorem dX4_fits_2 : decode cX4_fits 2 = .ok (.lconst 1, 1) := by decide +kernel
theorem dX4_fits_3 : decode cX4_fits 3 = .ok (.ldc2_w 60, 3) := by decide +kernel
theorem dX4_fits_6 : decode cX4_fits 6 = .ok (.invokestatic 34, 3) := by decide +kernel
theorem dX4_fits_9 : decode cX4_fits 9 = .ok (.ifCond .ne 6, 3) := by decide +kernel
theorem dX4_fits_12 : decode cX4_fits 12 = .ok (.bipush (-2), 2) := by decide +kernel
theorem dX4_fits_14 : decode cX4_fits 14 = .ok (.ireturn, 1) := by decide +kernel
theorem dX4_fits_15 : decode cX4_fits 15 = .ok (.aload_n 0, 1) := by decide +kernel
theorem dX4_fits_16 : decode cX4_fits 16 = .ok (.iload_n 1, 1) := by decide +kernel
theorem dX4_fits_17 : decode cX4_fits 17 = .ok (.invokevirtual 68, 3) := by decide +kernel
theorem dX4_fits_20 : decode cX4_fits 20 = .ok (.ifCond .eq 7, 3) := by decide +kernel
theorem dX4_fits_23 : decode cX4_fits 23 = .ok (.iconst 0, 1) := by decide +kernel
theorem dX4_fits_24 : decode cX4_fits 24 = .ok (.goto 20, 3) := by decide +kernel
theorem dX4_fits_27 : decode cX4_fits 27 = .ok (.aload_n 0, 1) := by decide +kernel
theorem dX4_fits_28 : decode cX4_fits 28 = .ok (.iconst 1, 1) := by decide +kernel
theorem dX4_fits_29 : decode cX4_fits 29 = .ok (.invokevirtual 127, 3) := by decide +kernel
theorem dX4_fits_32 : decode cX4_fits 32 = .ok (.iload_n 1, 1) := by decide +kernel
theorem dX4_fits_33 : decode cX4_fits 33 = .ok (.iadd, 1) := by decide +kernel
theorem dX4_fits_34 : decode cX4_fits 34 = .ok (.bipush 100, 2) := by decide +kernel
theorem dX4_fits_36 : decode cX4_fits 36 = .ok (.if_icmp .gt 7, 3) := by decide +kernel
theorem dX4_fits_39 : decode cX4_fits 39 = .ok (.iconst 1, 1) := by decide +kernel
theorem dX4_fits_40 : decode cX4_fits 40 = .ok (.goto 4, 3) := by decide +kernel
theorem dX4_fits_43 : decode cX4_fits 43 = .ok (.iconst 2, 1) := by decide +kernel
theorem dX4_fits_44 : decode cX4_fits 44 = .ok (.ireturn, 1) := by decide +kernel
theorem dX4_beginning_0 : decode cX4_beginning 0 = .ok (.iload_n 1, 1) := by decide +kernel
theorem dX4_beginning_1 : decode cX4_beginning 1 = .ok (.i2l, 1) := by decide +kernel
theorem dX4_beginning_2 : decode cX4_beginning 2 = .ok (.lconst 0, 1) := by decide +kernel
theorem dX4_beginning_3 : decode cX4_beginning 3 = .ok (.ldc2_w 149, 3) := by decide +kernel
theorem dX4_beginning_6 : decode cX4_beginning 6 = .ok (.invokestatic 34, 3) := by decide +kernel
theorem dX4_beginning_9 : decode cX4_beginning 9 = .ok (.ifCond .eq 7, 3) := by decide +kernel
theorem dX4_beginning_12 : decode cX4_beginning 12 = .ok (.iload_n 2, 1) := by decide +kernel
theorem dX4_beginning_13 : decode cX4_beginning 13 = .ok (.ifCond .ge 6, 3) := by decide +kernel
theorem dX4_beginning_16 : decode cX4_beginning 16 = .ok (.bipush (-2), 2) := by decide +kernel
theorem dX4_beginning_18 : decode cX4_beginning 18 = .ok (.ireturn, 1) := by decide +kernel
theorem dX4_beginning_19 : decode cX4_beginning 19 = .ok (.iload_n 2, 1) := by decide +kernel
theorem dX4_beginning_20 : decode cX4_beginning 20 = .ok (.istore_n 3, 1) := by decide +kernel
theorem dX4_beginning_21 : decode cX4_beginning 21 = .ok (.iconst 0, 1) := by decide +kernel
theorem dX4_beginning_22 : decode cX4_beginning 22 = .ok (.istore 4, 2) := by decide +kernel
theorem dX4_beginning_24 : decode cX4_beginning 24 = .ok (.iload 4, 2) := by decide +kernel
theorem dX4_beginning_26 : decode cX4_beginning 26 = .ok (.aload_n 0, 1) := by decide +kernel
theorem dX4_beginning_27 : decode cX4_beginning 27 = .ok (.getfield 7, 3) := by decide +kernel
theorem dX4_beginning_30 : decode cX4_beginning 30 = .ok (.iconst 0, 1) := by decide +kernel
theorem dX4_beginning_31 : decode cX4_beginning 31 = .ok (.iaload, 1) := by decide +kernel
theorem dX4_beginning_32 : decode cX4_beginning 32 = .ok (.if_icmp .ge 38, 3) := by decide +kernel
theorem dX4_beginning_35 : decode cX4_beginning 35 = .ok (.aload_n 0, 1) := by decide +kernel
theorem dX4_beginning_36 : decode cX4_beginning 36 = .ok (.iload 4, 2) := by decide +kernel
theorem dX4_beginning_38 : decode cX4_beginning 38 = .ok (.iconst 0, 1) := by decide +kernel
theorem dX4_beginning_39 : decode cX4_beginning 39 = .ok (.invokevirtual 38, 3) := by decide +kernel
theorem dX4_beginning_42 : decode cX4_beginning 42 = .ok (.bipush 26, 2) := by decide +kernel
theorem dX4_beginning_44 : decode cX4_beginning 44 = .ok (.idiv, 1) := by decide +kernel
theorem dX4_beginning_45 : decode cX4_beginning 45 = .ok (.iload_n 1, 1) := by decide +kernel
theorem dX4_beginning_46 : decode cX4_beginning 46 = .ok (.if_icmp .ne 18, 3) := by decide +kernel
theorem dX4_beginning_49 : decode cX4_beginning 49 = .ok (.iload_n 3, 1) := by decide +kernel
theorem dX4_beginning_50 : decode cX4_beginning 50 = .ok (.ifCond .ne 11, 3) := by decide +kernel
theorem dX4_beginning_53 : decode cX4_beginning 53 = .ok (.aload_n 0, 1) := by decide +kernel
theorem dX4_beginning_54 : decode cX4_beginning 54 = .ok (.iload 4, 2) := by decide +kernel
theorem dX4_beginning_56 : decode cX4_beginning 56 = .ok (.iconst 0, 1) := by decide +kernel
theorem dX4_beginning_57 : decode cX4_beginning 57 = .ok (.invokevirtual 38, 3) := by decide +kernel
theorem dX4_beginning_60 : decode cX4_beginning 60 = .ok (.ireturn, 1) := by decide +kernel
theorem dX4_beginning_61 : decode cX4_beginning 61 = .ok (.iinc 3 (-1), 3) := by decide +kernel
theorem dX4_beginning_64 : decode cX4_beginning 64 = .ok (.iinc 4 1, 3) := by decide +kernel
theorem dX4_beginning_67 : decode cX4_beginning 67 = .ok (.goto (-43), 3) := by decide +kernel
theorem dX4_beginning_70 : decode cX4_beginning 70 = .ok (.bipush (-5), 2) := by decide +kernel
theorem dX4_beginning_72 : decode cX4_beginning 72 = .ok (.ireturn, 1) := by decide +kernel
theorem dX4_members_0 : decode cX4_members 0 = .ok (.iconst 0, 1) := by decide +kernel
theorem dX4_members_1 : decode cX4_members 1 = .ok (.istore_n 1, 1) := by decide +kernel
theorem dX4_members_2 : decode cX4_members 2 = .ok (.iconst 0, 1) := by decide +kernel
theorem dX4_members_3 : decode cX4_members 3 = .ok (.istore_n 2, 1) := by decide +kernel
theorem dX4_members_4 : decode cX4_members 4 = .ok (.iload_n 2, 1) := by decide +kernel
theorem dX4_members_5 : decode cX4_members 5 = .ok (.aload_n 0, 1) := by decide +kernel
theorem dX4_members_6 : decode cX4_members 6 = .ok (.getfield 7, 3) := by decide +kernel
theorem dX4_members_9 : decode cX4_members 9 = .ok (.iconst 0, 1) := by decide +kernel
theorem dX4_members_10 : decode cX4_members 10 = .ok (.iaload, 1) := by decide +kernel
theorem dX4_members_11 : decode cX4_members 11 = .ok (.if_icmp .ge 20, 3) := by decide +kernel
theorem dX4_members_14 : decode cX4_members 14 = .ok (.iload_n 1, 1) := by decide +kernel
theorem dX4_members_15 : decode cX4_members 15 = .ok (.iconst 1, 1) := by decide +kernel
theorem dX4_members_16 : decode cX4_members 16 = .ok (.aload_n 0, 1) := by decide +kernel
theorem dX4_members_17 : decode cX4_members 17 = .ok (.iload_n 2, 1) := by decide +kernel
theorem dX4_members_18 : decode cX4_members 18 = .ok (.iconst 1, 1) := by decide +kernel
theorem dX4_members_19 : decode cX4_members 19 = .ok (.invokevirtual 38, 3) := by decide +kernel
theorem dX4_members_22 : decode cX4_members 22 = .ok (.isub, 1) := by decide +kernel
theorem dX4_members_23 : decode cX4_members 23 = .ok (.iadd, 1) := by decide +kernel
theorem dX4_members_24 : decode cX4_members 24 = .ok (.istore_n 1, 1) := by decide +kernel
theorem dX4_members_25 : decode cX4_members 25 = .ok (.iinc 2 1, 3) := by decide +kernel
theorem dX4_members_28 : decode cX4_members 28 = .ok (.goto (-24), 3) := by decide +kernel
theorem dX4_members_31 : decode cX4_members 31 = .ok (.iload_n 1, 1) := by decide +kernel
theorem dX4_members_32 : decode cX4_members 32 = .ok (.ireturn, 1) := by decide +kernel
theorem dX4_lostOnes_0 : decode cX4_lostOnes 0 = .ok (.iconst 0, 1) := by decide +kernel
theorem dX4_lostOnes_1 : decode cX4_lostOnes 1 = .ok (.istore_n 1, 1) := by decide +kernel
theorem dX4_lostOnes_2 : decode cX4_lostOnes 2 = .ok (.iconst 0, 1) := by decide +kernel
theorem dX4_lostOnes_3 : decode cX4_lostOnes 3 = .ok (.istore_n 2, 1) := by decide +kernel
theorem dX4_lostOnes_4 : decode cX4_lostOnes 4 = .ok (.iload_n 2, 1) := by decide +kernel
theorem dX4_lostOnes_5 : decode cX4_lostOnes 5 = .ok (.aload_n 0, 1) := by decide +kernel
theorem dX4_lostOnes_6 : decode cX4_lostOnes 6 = .ok (.getfield 7, 3) := by decide +kernel
theorem dX4_lostOnes_9 : decode cX4_lostOnes 9 = .ok (.iconst 0, 1) := by decide +kernel
theorem dX4_lostOnes_10 : decode cX4_lostOnes 10 = .ok (.iaload, 1) := by decide +kernel
theorem dX4_lostOnes_11 : decode cX4_lostOnes 11 = .ok (.if_icmp .ge 25, 3) := by decide +kernel
theorem dX4_lostOnes_14 : decode cX4_lostOnes 14 = .ok (.iload_n 1, 1) := by decide +kernel
theorem dX4_lostOnes_15 : decode cX4_lostOnes 15 = .ok (.aload_n 0, 1) := by decide +kernel
theorem dX4_lostOnes_16 : decode cX4_lostOnes 16 = .ok (.iload_n 2, 1) := by decide +kernel
theorem dX4_lostOnes_17 : decode cX4_lostOnes 17 = .ok (.invokevirtual 142, 3) := by decide +kernel
theorem dX4_lostOnes_20 : decode cX4_lostOnes 20 = .ok (.ifCond .eq 7, 3) := by decide +kernel
theorem dX4_lostOnes_23 : decode cX4_lostOnes 23 = .ok (.iconst 1, 1) := by decide +kernel
theorem dX4_lostOnes_24 : decode cX4_lostOnes 24 = .ok (.goto 4, 3) := by decide +kernel
theorem dX4_lostOnes_27 : decode cX4_lostOnes 27 = .ok (.iconst 0, 1) := by decide +kernel
theorem dX4_lostOnes_28 : decode cX4_lostOnes 28 = .ok (.iadd, 1) := by decide +kernel
theorem dX4_lostOnes_29 : decode cX4_lostOnes 29 = .ok (.istore_n 1, 1) := by decide +kernel
theorem dX4_lostOnes_30 : decode cX4_lostOnes 30 = .ok (.iinc 2 1, 3) := by decide +kernel
theorem dX4_lostOnes_33 : decode cX4_lostOnes 33 = .ok (.goto (-29), 3) := by decide +kernel
theorem dX4_lostOnes_36 : decode cX4_lostOnes 36 = .ok (.iload_n 1, 1) := by decide +kernel
theorem dX4_lostOnes_37 : decode cX4_lostOnes 37 = .ok (.ireturn, 1) := by decide +kernel
theorem dX4_count_0 : decode cX4_count 0 = .ok (.iload_n 1, 1) := by decide +kernel
theorem dX4_count_1 : decode cX4_count 1 = .ok (.tableswitch 193 0 14 #[75, 82, 87, 99, 104, 111, 127, 134, 140, 153, 163, 169, 176, 183, 188], 75) := by decide +kernel
theorem dX4_count_76 : decode cX4_count 76 = .ok (.aload_n 0, 1) := by decide +kernel
theorem dX4_count_77 : decode cX4_count 77 = .ok (.getfield 7, 3) := by decide +kernel
theorem dX4_count_80 : decode cX4_count 80 = .ok (.iconst 0, 1) := by decide +kernel
theorem dX4_count_81 : decode cX4_count 81 = .ok (.iaload, 1) := by decide +kernel
theorem dX4_count_82 : decode cX4_count 82 = .ok (.ireturn, 1) := by decide +kernel
theorem dX4_count_83 : decode cX4_count 83 = .ok (.aload_n 0, 1) := by decide +kernel
theorem dX4_count_84 : decode cX4_count 84 = .ok (.invokevirtual 151, 3) := by decide +kernel
theorem dX4_count_87 : decode cX4_count 87 = .ok (.ireturn, 1) := by decide +kernel
theorem dX4_count_88 : decode cX4_count 88 = .ok (.aload_n 0, 1) := by decide +kernel
theorem dX4_count_89 : decode cX4_count 89 = .ok (.getfield 7, 3) := by decide +kernel
theorem dX4_count_92 : decode cX4_count 92 = .ok (.iconst 0, 1) := by decide +kernel
theorem dX4_count_93 : decode cX4_count 93 = .ok (.iaload, 1) := by decide +kernel
theorem dX4_count_94 : decode cX4_count 94 = .ok (.aload_n 0, 1) := by decide +kernel
theorem dX4_count_95 : decode cX4_count 95 = .ok (.invokevirtual 151, 3) := by decide +kernel
theorem dX4_count_98 : decode cX4_count 98 = .ok (.isub, 1) := by decide +kernel
theorem dX4_count_99 : decode cX4_count 99 = .ok (.ireturn, 1) := by decide +kernel
theorem dX4_count_100 : decode cX4_count 100 = .ok (.aload_n 0, 1) := by decide +kernel
theorem dX4_count_101 : decode cX4_count 101 = .ok (.invokevirtual 154, 3) := by decide +kernel
theorem dX4_count_104 : decode cX4_count 104 = .ok (.ireturn, 1) := by decide +kernel
theorem dX4_count_105 : decode cX4_count 105 = .ok (.aload_n 0, 1) := by decide +kernel
theorem dX4_count_106 : decode cX4_count 106 = .ok (.getfield 7, 3) := by decide +kernel
theorem dX4_count_109 : decode cX4_count 109 = .ok (.iconst 1, 1) := by decide +kernel
theorem dX4_count_110 : decode cX4_count 110 = .ok (.iaload, 1) := by decide +kernel
theorem dX4_count_111 : decode cX4_count 111 = .ok (.ireturn, 1) := by decide +kernel
theorem dX4_count_112 : decode cX4_count 112 = .ok (.iconst 4, 1) := by decide +kernel
theorem dX4_count_113 : decode cX4_count 113 = .ok (.aload_n 0, 1) := by decide +kernel
theorem dX4_count_114 : decode cX4_count 114 = .ok (.getfield 7, 3) := by decide +kernel
theorem dX4_count_117 : decode cX4_count 117 = .ok (.iconst 1, 1) := by decide +kernel
theorem dX4_count_118 : decode cX4_count 118 = .ok (.iaload, 1) := by decide +kernel
theorem dX4_count_119 : decode cX4_count 119 = .ok (.imul, 1) := by decide +kernel
theorem dX4_count_120 : decode cX4_count 120 = .ok (.aload_n 0, 1) := by decide +kernel
theorem dX4_count_121 : decode cX4_count 121 = .ok (.getfield 7, 3) := by decide +kernel
theorem dX4_count_124 : decode cX4_count 124 = .ok (.iconst 0, 1) := by decide +kernel
theorem dX4_count_125 : decode cX4_count 125 = .ok (.iaload, 1) := by decide +kernel
theorem dX4_count_126 : decode cX4_count 126 = .ok (.isub, 1) := by decide +kernel
theorem dX4_count_127 : decode cX4_count 127 = .ok (.ireturn, 1) := by decide +kernel
theorem dX4_count_128 : decode cX4_count 128 = .ok (.aload_n 0, 1) := by decide +kernel
theorem dX4_count_129 : decode cX4_count 129 = .ok (.getfield 7, 3) := by decide +kernel
theorem dX4_count_132 : decode cX4_count 132 = .ok (.iconst 2, 1) := by decide +kernel
theorem dX4_count_133 : decode cX4_count 133 = .ok (.iaload, 1) := by decide +kernel
theorem dX4_count_134 : decode cX4_count 134 = .ok (.ireturn, 1) := by decide +kernel
theorem dX4_count_135 : decode cX4_count 135 = .ok (.aload_n 0, 1) := by decide +kernel
theorem dX4_count_136 : decode cX4_count 136 = .ok (.iconst 1, 1) := by decide +kernel
theorem dX4_count_137 : decode cX4_count 137 = .ok (.invokevirtual 127, 3) := by decide +kernel
theorem dX4_count_140 : decode cX4_count 140 = .ok (.ireturn, 1) := by decide +kernel
theorem dX4_count_141 : decode cX4_count 141 = .ok (.aload_n 0, 1) := by decide +kernel
theorem dX4_count_142 : decode cX4_count 142 = .ok (.getfield 7, 3) := by decide +kernel
theorem dX4_count_145 : decode cX4_count 145 = .ok (.iconst 2, 1) := by decide +kernel
theorem dX4_count_146 : decode cX4_count 146 = .ok (.iaload, 1) := by decide +kernel
theorem dX4_count_147 : decode cX4_count 147 = .ok (.aload_n 0, 1) := by decide +kernel
theorem dX4_count_148 : decode cX4_count 148 = .ok (.iconst 1, 1) := by decide +kernel
theorem dX4_count_149 : decode cX4_count 149 = .ok (.invokevirtual 127, 3) := by decide +kernel
theorem dX4_count_152 : decode cX4_count 152 = .ok (.isub, 1) := by decide +kernel
theorem dX4_count_153 : decode cX4_count 153 = .ok (.ireturn, 1) := by decide +kernel
theorem dX4_count_154 : decode cX4_count 154 = .ok (.bipush 100, 2) := by decide +kernel
theorem dX4_count_156 : decode cX4_count 156 = .ok (.aload_n 0, 1) := by decide +kernel
theorem dX4_count_157 : decode cX4_count 157 = .ok (.getfield 7, 3) := by decide +kernel
theorem dX4_count_160 : decode cX4_count 160 = .ok (.iconst 2, 1) := by decide +kernel
theorem dX4_count_161 : decode cX4_count 161 = .ok (.iaload, 1) := by decide +kernel
theorem dX4_count_162 : decode cX4_count 162 = .ok (.isub, 1) := by decide +kernel
theorem dX4_count_163 : decode cX4_count 163 = .ok (.ireturn, 1) := by decide +kernel
theorem dX4_count_164 : decode cX4_count 164 = .ok (.aload_n 0, 1) := by decide +kernel
theorem dX4_count_165 : decode cX4_count 165 = .ok (.iconst 0, 1) := by decide +kernel
theorem dX4_count_166 : decode cX4_count 166 = .ok (.invokevirtual 127, 3) := by decide +kernel
theorem dX4_count_169 : decode cX4_count 169 = .ok (.ireturn, 1) := by decide +kernel
theorem dX4_count_170 : decode cX4_count 170 = .ok (.aload_n 0, 1) := by decide +kernel
theorem dX4_count_171 : decode cX4_count 171 = .ok (.getfield 7, 3) := by decide +kernel
theorem dX4_count_174 : decode cX4_count 174 = .ok (.iconst 3, 1) := by decide +kernel
theorem dX4_count_175 : decode cX4_count 175 = .ok (.iaload, 1) := by decide +kernel
theorem dX4_count_176 : decode cX4_count 176 = .ok (.ireturn, 1) := by decide +kernel
theorem dX4_count_177 : decode cX4_count 177 = .ok (.aload_n 0, 1) := by decide +kernel
theorem dX4_count_178 : decode cX4_count 178 = .ok (.getfield 7, 3) := by decide +kernel
theorem dX4_count_181 : decode cX4_count 181 = .ok (.iconst 4, 1) := by decide +kernel
theorem dX4_count_182 : decode cX4_count 182 = .ok (.iaload, 1) := by decide +kernel
theorem dX4_count_183 : decode cX4_count 183 = .ok (.ireturn, 1) := by decide +kernel
theorem dX4_count_184 : decode cX4_count 184 = .ok (.aload_n 0, 1) := by decide +kernel
theorem dX4_count_185 : decode cX4_count 185 = .ok (.getfield 28, 3) := by decide +kernel
theorem dX4_count_188 : decode cX4_count 188 = .ok (.ireturn, 1) := by decide +kernel
theorem dX4_count_189 : decode cX4_count 189 = .ok (.aload_n 0, 1) := by decide +kernel
theorem dX4_count_190 : decode cX4_count 190 = .ok (.getfield 95, 3) := by decide +kernel
theorem dX4_count_193 : decode cX4_count 193 = .ok (.ireturn, 1) := by decide +kernel
theorem dX4_count_194 : decode cX4_count 194 = .ok (.bipush (-2), 2) := by decide +kernel
theorem dX4_count_196 : decode cX4_count 196 = .ok (.ireturn, 1) := by decide +kernel
theorem dJ9_max_7cf53_0 : decode cJ9_max_7cf53 0 = .ok (.iload_n 0, 1) := by decide +kernel
theorem dJ9_max_7cf53_1 : decode cJ9_max_7cf53 1 = .ok (.iload_n 1, 1) := by decide +kernel
theorem dJ9_max_7cf53_2 : decode cJ9_max_7cf53 2 = .ok (.if_icmp .lt 7, 3) := by decide +kernel
theorem dJ9_max_7cf53_5 : decode cJ9_max_7cf53 5 = .ok (.iload_n 0, 1) := by decide +kernel
theorem dJ9_max_7cf53_6 : decode cJ9_max_7cf53 6 = .ok (.goto 4, 3) := by decide +kernel
theorem dJ9_max_7cf53_9 : decode cJ9_max_7cf53 9 = .ok (.iload_n 1, 1) := by decide +kernel
theorem dJ9_max_7cf53_10 : decode cJ9_max_7cf53 10 = .ok (.ireturn, 1) := by decide +kernel
theorem dJ9_min_7cf53_0 : decode cJ9_min_7cf53 0 = .ok (.iload_n 0, 1) := by decide +kernel
theorem dJ9_min_7cf53_1 : decode cJ9_min_7cf53 1 = .ok (.iload_n 1, 1) := by decide +kernel
theorem dJ9_min_7cf53_2 : decode cJ9_min_7cf53 2 = .ok (.if_icmp .gt 7, 3) := by decide +kernel
theorem dJ9_min_7cf53_5 : decode cJ9_min_7cf53 5 = .ok (.iload_n 0, 1) := by decide +kernel
theorem dJ9_min_7cf53_6 : decode cJ9_min_7cf53 6 = .ok (.goto 4, 3) := by decide +kernel
theorem dJ9_min_7cf53_9 : decode cJ9_min_7cf53 9 = .ok (.iload_n 1, 1) := by decide +kernel
theorem dJ9_min_7cf53_10 : decode cJ9_min_7cf53 10 = .ok (.ireturn, 1) := by decide +kernel
theorem dL_law_0 : decode cL_law 0 = .ok (.new 7, 3) := by decide +kernel
theorem dL_law_3 : decode cL_law 3 = .ok (.dup, 1) := by decide +kernel
theorem dL_law_4 : decode cL_law 4 = .ok (.invokespecial 9, 3) := by decide +kernel
theorem dL_law_7 : decode cL_law 7 = .ok (.astore_n 1, 1) := by decide +kernel
theorem dL_law_8 : decode cL_law 8 = .ok (.new 10, 3) := by decide +kernel
theorem dL_law_11 : decode cL_law 11 = .ok (.dup, 1) := by decide +kernel
theorem dL_law_12 : decode cL_law 12 = .ok (.invokespecial 12, 3) := by decide +kernel
theorem dL_law_15 : decode cL_law 15 = .ok (.astore_n 2, 1) := by decide +kernel
theorem dL_law_16 : decode cL_law 16 = .ok (.iconst 0, 1) := by decide +kernel
theorem dL_law_17 : decode cL_law 17 = .ok (.istore_n 3, 1) := by decide +kernel
theorem dL_law_18 : decode cL_law 18 = .ok (.iload_n 3, 1) := by decide +kernel
theorem dL_law_19 : decode cL_law 19 = .ok (.aload_n 0, 1) := by decide +kernel
theorem dL_law_20 : decode cL_law 20 = .ok (.arraylength, 1) := by decide +kernel
theorem dL_law_21 : decode cL_law 21 = .ok (.iconst 4, 1) := by decide +kernel
theorem dL_law_22 : decode cL_law 22 = .ok (.isub, 1) := by decide +kernel
theorem dL_law_23 : decode cL_law 23 = .ok (.if_icmp .gt 603, 3) := by decide +kernel
theorem dL_law_26 : decode cL_law 26 = .ok (.aload_n 0, 1) := by decide +kernel
theorem dL_law_27 : decode cL_law 27 = .ok (.iload_n 3, 1) := by decide +kernel
theorem dL_law_28 : decode cL_law 28 = .ok (.iaload, 1) := by decide +kernel
theorem dL_law_29 : decode cL_law 29 = .ok (.bipush 31, 2) := by decide +kernel
theorem dL_law_31 : decode cL_law 31 = .ok (.iand, 1) := by decide +kernel
theorem dL_law_32 : decode cL_law 32 = .ok (.tableswitch 588 0 19 #[96, 139, 182, 205, 238, 271, 284, 297, 320, 345, 358, 371, 384, 397, 430, 453, 486, 509, 532, 565], 96) := by decide +kernel
theorem dL_law_128 : decode cL_law 128 = .ok (.aload_n 1, 1) := by decide +kernel
theorem dL_law_129 : decode cL_law 129 = .ok (.aload_n 0, 1) := by decide +kernel
theorem dL_law_130 : decode cL_law 130 = .ok (.iload_n 3, 1) := by decide +kernel
theorem dL_law_131 : decode cL_law 131 = .ok (.iconst 1, 1) := by decide +kernel
theorem dL_law_132 : decode cL_law 132 = .ok (.iadd, 1) := by decide +kernel
theorem dL_law_133 : decode cL_law 133 = .ok (.iaload, 1) := by decide +kernel
theorem dL_law_134 : decode cL_law 134 = .ok (.aload_n 0, 1) := by decide +kernel
theorem dL_law_135 : decode cL_law 135 = .ok (.iload_n 3, 1) := by decide +kernel
theorem dL_law_136 : decode cL_law 136 = .ok (.iconst 2, 1) := by decide +kernel
theorem dL_law_137 : decode cL_law 137 = .ok (.iadd, 1) := by decide +kernel
theorem dL_law_138 : decode cL_law 138 = .ok (.iaload, 1) := by decide +kernel
theorem dL_law_139 : decode cL_law 139 = .ok (.aload_n 0, 1) := by decide +kernel
theorem dL_law_140 : decode cL_law 140 = .ok (.iload_n 3, 1) := by decide +kernel
theorem dL_law_141 : decode cL_law 141 = .ok (.iconst 3, 1) := by decide +kernel
theorem dL_law_142 : decode cL_law 142 = .ok (.iadd, 1) := by decide +kernel
theorem dL_law_143 : decode cL_law 143 = .ok (.iaload, 1) := by decide +kernel
theorem dL_law_144 : decode cL_law 144 = .ok (.invokevirtual 13, 3) := by decide +kernel
theorem dL_law_147 : decode cL_law 147 = .ok (.aload_n 2, 1) := by decide +kernel
theorem dL_law_148 : decode cL_law 148 = .ok (.aload_n 0, 1) := by decide +kernel
theorem dL_law_149 : decode cL_law 149 = .ok (.iload_n 3, 1) := by decide +kernel
theorem dL_law_150 : decode cL_law 150 = .ok (.iconst 1, 1) := by decide +kernel
theorem dL_law_151 : decode cL_law 151 = .ok (.iadd, 1) := by decide +kernel
theorem dL_law_152 : decode cL_law 152 = .ok (.iaload, 1) := by decide +kernel
theorem dL_law_153 : decode cL_law 153 = .ok (.aload_n 0, 1) := by decide +kernel
theorem dL_law_154 : decode cL_law 154 = .ok (.iload_n 3, 1) := by decide +kernel
theorem dL_law_155 : decode cL_law 155 = .ok (.iconst 2, 1) := by decide +kernel
theorem dL_law_156 : decode cL_law 156 = .ok (.iadd, 1) := by decide +kernel
theorem dL_law_157 : decode cL_law 157 = .ok (.iaload, 1) := by decide +kernel
theorem dL_law_158 : decode cL_law 158 = .ok (.aload_n 0, 1) := by decide +kernel
theorem dL_law_159 : decode cL_law 159 = .ok (.iload_n 3, 1) := by decide +kernel
theorem dL_law_160 : decode cL_law 160 = .ok (.iconst 3, 1) := by decide +kernel
theorem dL_law_161 : decode cL_law 161 = .ok (.iadd, 1) := by decide +kernel
theorem dL_law_162 : decode cL_law 162 = .ok (.iaload, 1) := by decide +kernel
theorem dL_law_163 : decode cL_law 163 = .ok (.invokevirtual 17, 3) := by decide +kernel
theorem dL_law_166 : decode cL_law 166 = .ok (.if_icmp .eq 454, 3) := by decide +kernel
theorem dL_law_169 : decode cL_law 169 = .ok (.iconst 0, 1) := by decide +kernel
theorem dL_law_170 : decode cL_law 170 = .ok (.ireturn, 1) := by decide +kernel
theorem dL_law_171 : decode cL_law 171 = .ok (.aload_n 1, 1) := by decide +kernel
theorem dL_law_172 : decode cL_law 172 = .ok (.aload_n 0, 1) := by decide +kernel
theorem dL_law_173 : decode cL_law 173 = .ok (.iload_n 3, 1) := by decide +kernel
theorem dL_law_174 : decode cL_law 174 = .ok (.iconst 1, 1) := by decide +kernel
theorem dL_law_175 : decode cL_law 175 = .ok (.iadd, 1) := by decide +kernel
theorem dL_law_176 : decode cL_law 176 = .ok (.iaload, 1) := by decide +kernel
theorem dL_law_177 : decode cL_law 177 = .ok (.aload_n 0, 1) := by decide +kernel
theorem dL_law_178 : decode cL_law 178 = .ok (.iload_n 3, 1) := by decide +kernel
theorem dL_law_179 : decode cL_law 179 = .ok (.iconst 2, 1) := by decide +kernel
theorem dL_law_180 : decode cL_law 180 = .ok (.iadd, 1) := by decide +kernel
theorem dL_law_181 : decode cL_law 181 = .ok (.iaload, 1) := by decide +kernel
theorem dL_law_182 : decode cL_law 182 = .ok (.aload_n 0, 1) := by decide +kernel
theorem dL_law_183 : decode cL_law 183 = .ok (.iload_n 3, 1) := by decide +kernel
theorem dL_law_184 : decode cL_law 184 = .ok (.iconst 3, 1) := by decide +kernel
theorem dL_law_185 : decode cL_law 185 = .ok (.iadd, 1) := by decide +kernel
theorem dL_law_186 : decode cL_law 186 = .ok (.iaload, 1) := by decide +kernel
theorem dL_law_187 : decode cL_law 187 = .ok (.invokevirtual 18, 3) := by decide +kernel
theorem dL_law_190 : decode cL_law 190 = .ok (.aload_n 2, 1) := by decide +kernel
theorem dL_law_191 : decode cL_law 191 = .ok (.aload_n 0, 1) := by decide +kernel
theorem dL_law_192 : decode cL_law 192 = .ok (.iload_n 3, 1) := by decide +kernel
theorem dL_law_193 : decode cL_law 193 = .ok (.iconst 1, 1) := by decide +kernel
theorem dL_law_194 : decode cL_law 194 = .ok (.iadd, 1) := by decide +kernel
theorem dL_law_195 : decode cL_law 195 = .ok (.iaload, 1) := by decide +kernel
theorem dL_law_196 : decode cL_law 196 = .ok (.aload_n 0, 1) := by decide +kernel
theorem dL_law_197 : decode cL_law 197 = .ok (.iload_n 3, 1) := by decide +kernel
theorem dL_law_198 : decode cL_law 198 = .ok (.iconst 2, 1) := by decide +kernel
theorem dL_law_199 : decode cL_law 199 = .ok (.iadd, 1) := by decide +kernel
theorem dL_law_200 : decode cL_law 200 = .ok (.iaload, 1) := by decide +kernel
theorem dL_law_201 : decode cL_law 201 = .ok (.aload_n 0, 1) := by decide +kernel
theorem dL_law_202 : decode cL_law 202 = .ok (.iload_n 3, 1) := by decide +kernel
theorem dL_law_203 : decode cL_law 203 = .ok (.iconst 3, 1) := by decide +kernel
theorem dL_law_204 : decode cL_law 204 = .ok (.iadd, 1) := by decide +kernel
theorem dL_law_205 : decode cL_law 205 = .ok (.iaload, 1) := by decide +kernel
theorem dL_law_206 : decode cL_law 206 = .ok (.invokevirtual 21, 3) := by decide +kernel
theorem dL_law_209 : decode cL_law 209 = .ok (.if_icmp .eq 411, 3) := by decide +kernel
theorem dL_law_212 : decode cL_law 212 = .ok (.iconst 0, 1) := by decide +kernel
theorem dL_law_213 : decode cL_law 213 = .ok (.ireturn, 1) := by decide +kernel
theorem dL_law_214 : decode cL_law 214 = .ok (.aload_n 1, 1) := by decide +kernel
theorem dL_law_215 : decode cL_law 215 = .ok (.aload_n 0, 1) := by decide +kernel
theorem dL_law_216 : decode cL_law 216 = .ok (.iload_n 3, 1) := by decide +kernel
theorem dL_law_217 : decode cL_law 217 = .ok (.iconst 1, 1) := by decide +kernel
theorem dL_law_218 : decode cL_law 218 = .ok (.iadd, 1) := by decide +kernel
theorem dL_law_219 : decode cL_law 219 = .ok (.iaload, 1) := by decide +kernel
theorem dL_law_220 : decode cL_law 220 = .ok (.invokevirtual 22, 3) := by decide +kernel
theorem dL_law_223 : decode cL_law 223 = .ok (.aload_n 2, 1) := by decide +kernel
theorem dL_law_224 : decode cL_law 224 = .ok (.aload_n 0, 1) := by decide +kernel
theorem dL_law_225 : decode cL_law 225 = .ok (.iload_n 3, 1) := by decide +kernel
theorem dL_law_226 : decode cL_law 226 = .ok (.iconst 1, 1) := by decide +kernel
theorem dL_law_227 : decode cL_law 227 = .ok (.iadd, 1) := by decide +kernel
theorem dL_law_228 : decode cL_law 228 = .ok (.iaload, 1) := by decide +kernel
theorem dL_law_229 : decode cL_law 229 = .ok (.invokevirtual 26, 3) := by decide +kernel
theorem dL_law_232 : decode cL_law 232 = .ok (.if_icmp .eq 388, 3) := by decide +kernel
theorem dL_law_235 : decode cL_law 235 = .ok (.iconst 0, 1) := by decide +kernel
theorem dL_law_236 : decode cL_law 236 = .ok (.ireturn, 1) := by decide +kernel
theorem dL_law_237 : decode cL_law 237 = .ok (.aload_n 1, 1) := by decide +kernel
theorem dL_law_238 : decode cL_law 238 = .ok (.aload_n 0, 1) := by decide +kernel
theorem dL_law_239 : decode cL_law 239 = .ok (.iload_n 3, 1) := by decide +kernel
theorem dL_law_240 : decode cL_law 240 = .ok (.iconst 1, 1) := by decide +kernel
theorem dL_law_241 : decode cL_law 241 = .ok (.iadd, 1) := by decide +kernel
theorem dL_law_242 : decode cL_law 242 = .ok (.iaload, 1) := by decide +kernel
theorem dL_law_243 : decode cL_law 243 = .ok (.aload_n 0, 1) := by decide +kernel
theorem dL_law_244 : decode cL_law 244 = .ok (.iload_n 3, 1) := by decide +kernel
theorem dL_law_245 : decode cL_law 245 = .ok (.iconst 2, 1) := by decide +kernel
theorem dL_law_246 : decode cL_law 246 = .ok (.iadd, 1) := by decide +kernel
theorem dL_law_247 : decode cL_law 247 = .ok (.iaload, 1) := by decide +kernel
theorem dL_law_248 : decode cL_law 248 = .ok (.invokevirtual 27, 3) := by decide +kernel
theorem dL_law_251 : decode cL_law 251 = .ok (.aload_n 2, 1) := by decide +kernel
theorem dL_law_252 : decode cL_law 252 = .ok (.aload_n 0, 1) := by decide +kernel
theorem dL_law_253 : decode cL_law 253 = .ok (.iload_n 3, 1) := by decide +kernel
theorem dL_law_254 : decode cL_law 254 = .ok (.iconst 1, 1) := by decide +kernel
theorem dL_law_255 : decode cL_law 255 = .ok (.iadd, 1) := by decide +kernel
theorem dL_law_256 : decode cL_law 256 = .ok (.iaload, 1) := by decide +kernel
theorem dL_law_257 : decode cL_law 257 = .ok (.aload_n 0, 1) := by decide +kernel
theorem dL_law_258 : decode cL_law 258 = .ok (.iload_n 3, 1) := by decide +kernel
theorem dL_law_259 : decode cL_law 259 = .ok (.iconst 2, 1) := by decide +kernel
theorem dL_law_260 : decode cL_law 260 = .ok (.iadd, 1) := by decide +kernel
theorem dL_law_261 : decode cL_law 261 = .ok (.iaload, 1) := by decide +kernel
theorem dL_law_262 : decode cL_law 262 = .ok (.invokevirtual 31, 3) := by decide +kernel
theorem dL_law_265 : decode cL_law 265 = .ok (.if_icmp .eq 355, 3) := by decide +kernel
theorem dL_law_268 : decode cL_law 268 = .ok (.iconst 0, 1) := by decide +kernel
theorem dL_law_269 : decode cL_law 269 = .ok (.ireturn, 1) := by decide +kernel
theorem dL_law_270 : decode cL_law 270 = .ok (.aload_n 1, 1) := by decide +kernel
theorem dL_law_271 : decode cL_law 271 = .ok (.aload_n 0, 1) := by decide +kernel
theorem dL_law_272 : decode cL_law 272 = .ok (.iload_n 3, 1) := by decide +kernel
theorem dL_law_273 : decode cL_law 273 = .ok (.iconst 1, 1) := by decide +kernel
theorem dL_law_274 : decode cL_law 274 = .ok (.iadd, 1) := by decide +kernel
theorem dL_law_275 : decode cL_law 275 = .ok (.iaload, 1) := by decide +kernel
theorem dL_law_276 : decode cL_law 276 = .ok (.aload_n 0, 1) := by decide +kernel
theorem dL_law_277 : decode cL_law 277 = .ok (.iload_n 3, 1) := by decide +kernel
theorem dL_law_278 : decode cL_law 278 = .ok (.iconst 2, 1) := by decide +kernel
theorem dL_law_279 : decode cL_law 279 = .ok (.iadd, 1) := by decide +kernel
theorem dL_law_280 : decode cL_law 280 = .ok (.iaload, 1) := by decide +kernel
theorem dL_law_281 : decode cL_law 281 = .ok (.invokevirtual 32, 3) := by decide +kernel
theorem dL_law_284 : decode cL_law 284 = .ok (.aload_n 2, 1) := by decide +kernel
theorem dL_law_285 : decode cL_law 285 = .ok (.aload_n 0, 1) := by decide +kernel
theorem dL_law_286 : decode cL_law 286 = .ok (.iload_n 3, 1) := by decide +kernel
theorem dL_law_287 : decode cL_law 287 = .ok (.iconst 1, 1) := by decide +kernel
theorem dL_law_288 : decode cL_law 288 = .ok (.iadd, 1) := by decide +kernel
theorem dL_law_289 : decode cL_law 289 = .ok (.iaload, 1) := by decide +kernel
theorem dL_law_290 : decode cL_law 290 = .ok (.aload_n 0, 1) := by decide +kernel
theorem dL_law_291 : decode cL_law 291 = .ok (.iload_n 3, 1) := by decide +kernel
theorem dL_law_292 : decode cL_law 292 = .ok (.iconst 2, 1) := by decide +kernel
theorem dL_law_293 : decode cL_law 293 = .ok (.iadd, 1) := by decide +kernel
theorem dL_law_294 : decode cL_law 294 = .ok (.iaload, 1) := by decide +kernel
theorem dL_law_295 : decode cL_law 295 = .ok (.invokevirtual 35, 3) := by decide +kernel
theorem dL_law_298 : decode cL_law 298 = .ok (.if_icmp .eq 322, 3) := by decide +kernel
theorem dL_law_301 : decode cL_law 301 = .ok (.iconst 0, 1) := by decide +kernel
theorem dL_law_302 : decode cL_law 302 = .ok (.ireturn, 1) := by decide +kernel
theorem dL_law_303 : decode cL_law 303 = .ok (.aload_n 1, 1) := by decide +kernel
theorem dL_law_304 : decode cL_law 304 = .ok (.invokevirtual 36, 3) := by decide +kernel
theorem dL_law_307 : decode cL_law 307 = .ok (.aload_n 2, 1) := by decide +kernel
theorem dL_law_308 : decode cL_law 308 = .ok (.invokevirtual 40, 3) := by decide +kernel
theorem dL_law_311 : decode cL_law 311 = .ok (.if_icmp .eq 309, 3) := by decide +kernel
theorem dL_law_314 : decode cL_law 314 = .ok (.iconst 0, 1) := by decide +kernel
theorem dL_law_315 : decode cL_law 315 = .ok (.ireturn, 1) := by decide +kernel
theorem dL_law_316 : decode cL_law 316 = .ok (.aload_n 1, 1) := by decide +kernel
theorem dL_law_317 : decode cL_law 317 = .ok (.invokevirtual 41, 3) := by decide +kernel
theorem dL_law_320 : decode cL_law 320 = .ok (.aload_n 2, 1) := by decide +kernel
theorem dL_law_321 : decode cL_law 321 = .ok (.invokevirtual 44, 3) := by decide +kernel
theorem dL_law_324 : decode cL_law 324 = .ok (.if_icmp .eq 296, 3) := by decide +kernel
theorem dL_law_327 : decode cL_law 327 = .ok (.iconst 0, 1) := by decide +kernel
theorem dL_law_328 : decode cL_law 328 = .ok (.ireturn, 1) := by decide +kernel
theorem dL_law_329 : decode cL_law 329 = .ok (.aload_n 1, 1) := by decide +kernel
theorem dL_law_330 : decode cL_law 330 = .ok (.aload_n 0, 1) := by decide +kernel
theorem dL_law_331 : decode cL_law 331 = .ok (.iload_n 3, 1) := by decide +kernel
theorem dL_law_332 : decode cL_law 332 = .ok (.iconst 1, 1) := by decide +kernel
theorem dL_law_333 : decode cL_law 333 = .ok (.iadd, 1) := by decide +kernel
theorem dL_law_334 : decode cL_law 334 = .ok (.iaload, 1) := by decide +kernel
theorem dL_law_335 : decode cL_law 335 = .ok (.invokevirtual 45, 3) := by decide +kernel
theorem dL_law_338 : decode cL_law 338 = .ok (.aload_n 2, 1) := by decide +kernel
theorem dL_law_339 : decode cL_law 339 = .ok (.aload_n 0, 1) := by decide +kernel
theorem dL_law_340 : decode cL_law 340 = .ok (.iload_n 3, 1) := by decide +kernel
theorem dL_law_341 : decode cL_law 341 = .ok (.iconst 1, 1) := by decide +kernel
theorem dL_law_342 : decode cL_law 342 = .ok (.iadd, 1) := by decide +kernel
theorem dL_law_343 : decode cL_law 343 = .ok (.iaload, 1) := by decide +kernel
theorem dL_law_344 : decode cL_law 344 = .ok (.invokevirtual 48, 3) := by decide +kernel
theorem dL_law_347 : decode cL_law 347 = .ok (.if_icmp .eq 273, 3) := by decide +kernel
theorem dL_law_350 : decode cL_law 350 = .ok (.iconst 0, 1) := by decide +kernel
theorem dL_law_351 : decode cL_law 351 = .ok (.ireturn, 1) := by decide +kernel
theorem dL_law_352 : decode cL_law 352 = .ok (.aload_n 1, 1) := by decide +kernel
theorem dL_law_353 : decode cL_law 353 = .ok (.aload_n 0, 1) := by decide +kernel
theorem dL_law_354 : decode cL_law 354 = .ok (.iload_n 3, 1) := by decide +kernel
theorem dL_law_355 : decode cL_law 355 = .ok (.iconst 1, 1) := by decide +kernel
theorem dL_law_356 : decode cL_law 356 = .ok (.iadd, 1) := by decide +kernel
theorem dL_law_357 : decode cL_law 357 = .ok (.iaload, 1) := by decide +kernel
theorem dL_law_358 : decode cL_law 358 = .ok (.i2c, 1) := by decide +kernel
theorem dL_law_359 : decode cL_law 359 = .ok (.invokevirtual 49, 3) := by decide +kernel
theorem dL_law_362 : decode cL_law 362 = .ok (.aload_n 2, 1) := by decide +kernel
theorem dL_law_363 : decode cL_law 363 = .ok (.aload_n 0, 1) := by decide +kernel
theorem dL_law_364 : decode cL_law 364 = .ok (.iload_n 3, 1) := by decide +kernel
theorem dL_law_365 : decode cL_law 365 = .ok (.iconst 1, 1) := by decide +kernel
theorem dL_law_366 : decode cL_law 366 = .ok (.iadd, 1) := by decide +kernel
theorem dL_law_367 : decode cL_law 367 = .ok (.iaload, 1) := by decide +kernel
theorem dL_law_368 : decode cL_law 368 = .ok (.i2c, 1) := by decide +kernel
theorem dL_law_369 : decode cL_law 369 = .ok (.invokevirtual 53, 3) := by decide +kernel
theorem dL_law_372 : decode cL_law 372 = .ok (.if_icmp .eq 248, 3) := by decide +kernel
theorem dL_law_375 : decode cL_law 375 = .ok (.iconst 0, 1) := by decide +kernel
theorem dL_law_376 : decode cL_law 376 = .ok (.ireturn, 1) := by decide +kernel
theorem dL_law_377 : decode cL_law 377 = .ok (.aload_n 1, 1) := by decide +kernel
theorem dL_law_378 : decode cL_law 378 = .ok (.invokevirtual 54, 3) := by decide +kernel
theorem dL_law_381 : decode cL_law 381 = .ok (.aload_n 2, 1) := by decide +kernel
theorem dL_law_382 : decode cL_law 382 = .ok (.invokevirtual 57, 3) := by decide +kernel
theorem dL_law_385 : decode cL_law 385 = .ok (.if_icmp .eq 235, 3) := by decide +kernel
theorem dL_law_388 : decode cL_law 388 = .ok (.iconst 0, 1) := by decide +kernel
theorem dL_law_389 : decode cL_law 389 = .ok (.ireturn, 1) := by decide +kernel
theorem dL_law_390 : decode cL_law 390 = .ok (.aload_n 1, 1) := by decide +kernel
theorem dL_law_391 : decode cL_law 391 = .ok (.invokevirtual 58, 3) := by decide +kernel
theorem dL_law_394 : decode cL_law 394 = .ok (.aload_n 2, 1) := by decide +kernel
theorem dL_law_395 : decode cL_law 395 = .ok (.invokevirtual 61, 3) := by decide +kernel
theorem dL_law_398 : decode cL_law 398 = .ok (.if_icmp .eq 222, 3) := by decide +kernel
theorem dL_law_401 : decode cL_law 401 = .ok (.iconst 0, 1) := by decide +kernel
theorem dL_law_402 : decode cL_law 402 = .ok (.ireturn, 1) := by decide +kernel
theorem dL_law_403 : decode cL_law 403 = .ok (.aload_n 1, 1) := by decide +kernel
theorem dL_law_404 : decode cL_law 404 = .ok (.invokevirtual 62, 3) := by decide +kernel
theorem dL_law_407 : decode cL_law 407 = .ok (.aload_n 2, 1) := by decide +kernel
theorem dL_law_408 : decode cL_law 408 = .ok (.invokevirtual 65, 3) := by decide +kernel
theorem dL_law_411 : decode cL_law 411 = .ok (.if_icmp .eq 209, 3) := by decide +kernel
theorem dL_law_414 : decode cL_law 414 = .ok (.iconst 0, 1) := by decide +kernel
theorem dL_law_415 : decode cL_law 415 = .ok (.ireturn, 1) := by decide +kernel
theorem dL_law_416 : decode cL_law 416 = .ok (.aload_n 1, 1) := by decide +kernel
theorem dL_law_417 : decode cL_law 417 = .ok (.invokevirtual 66, 3) := by decide +kernel
theorem dL_law_420 : decode cL_law 420 = .ok (.aload_n 2, 1) := by decide +kernel
theorem dL_law_421 : decode cL_law 421 = .ok (.invokevirtual 69, 3) := by decide +kernel
theorem dL_law_424 : decode cL_law 424 = .ok (.if_icmp .eq 196, 3) := by decide +kernel
theorem dL_law_427 : decode cL_law 427 = .ok (.iconst 0, 1) := by decide +kernel
theorem dL_law_428 : decode cL_law 428 = .ok (.ireturn, 1) := by decide +kernel
theorem dL_law_429 : decode cL_law 429 = .ok (.aload_n 1, 1) := by decide +kernel
theorem dL_law_430 : decode cL_law 430 = .ok (.aload_n 0, 1) := by decide +kernel
theorem dL_law_431 : decode cL_law 431 = .ok (.iload_n 3, 1) := by decide +kernel
theorem dL_law_432 : decode cL_law 432 = .ok (.iconst 1, 1) := by decide +kernel
theorem dL_law_433 : decode cL_law 433 = .ok (.iadd, 1) := by decide +kernel
theorem dL_law_434 : decode cL_law 434 = .ok (.iaload, 1) := by decide +kernel
theorem dL_law_435 : decode cL_law 435 = .ok (.aload_n 0, 1) := by decide +kernel
theorem dL_law_436 : decode cL_law 436 = .ok (.iload_n 3, 1) := by decide +kernel
theorem dL_law_437 : decode cL_law 437 = .ok (.iconst 2, 1) := by decide +kernel
theorem dL_law_438 : decode cL_law 438 = .ok (.iadd, 1) := by decide +kernel
theorem dL_law_439 : decode cL_law 439 = .ok (.iaload, 1) := by decide +kernel
theorem dL_law_440 : decode cL_law 440 = .ok (.invokevirtual 70, 3) := by decide +kernel
theorem dL_law_443 : decode cL_law 443 = .ok (.aload_n 2, 1) := by decide +kernel
theorem dL_law_444 : decode cL_law 444 = .ok (.aload_n 0, 1) := by decide +kernel
theorem dL_law_445 : decode cL_law 445 = .ok (.iload_n 3, 1) := by decide +kernel
theorem dL_law_446 : decode cL_law 446 = .ok (.iconst 1, 1) := by decide +kernel
theorem dL_law_447 : decode cL_law 447 = .ok (.iadd, 1) := by decide +kernel
theorem dL_law_448 : decode cL_law 448 = .ok (.iaload, 1) := by decide +kernel
theorem dL_law_449 : decode cL_law 449 = .ok (.aload_n 0, 1) := by decide +kernel
theorem dL_law_450 : decode cL_law 450 = .ok (.iload_n 3, 1) := by decide +kernel
theorem dL_law_451 : decode cL_law 451 = .ok (.iconst 2, 1) := by decide +kernel
theorem dL_law_452 : decode cL_law 452 = .ok (.iadd, 1) := by decide +kernel
theorem dL_law_453 : decode cL_law 453 = .ok (.iaload, 1) := by decide +kernel
theorem dL_law_454 : decode cL_law 454 = .ok (.invokevirtual 73, 3) := by decide +kernel
theorem dL_law_457 : decode cL_law 457 = .ok (.if_icmp .eq 163, 3) := by decide +kernel
theorem dL_law_460 : decode cL_law 460 = .ok (.iconst 0, 1) := by decide +kernel
theorem dL_law_461 : decode cL_law 461 = .ok (.ireturn, 1) := by decide +kernel
theorem dL_law_462 : decode cL_law 462 = .ok (.aload_n 1, 1) := by decide +kernel
theorem dL_law_463 : decode cL_law 463 = .ok (.aload_n 0, 1) := by decide +kernel
theorem dL_law_464 : decode cL_law 464 = .ok (.iload_n 3, 1) := by decide +kernel
theorem dL_law_465 : decode cL_law 465 = .ok (.iconst 1, 1) := by decide +kernel
theorem dL_law_466 : decode cL_law 466 = .ok (.iadd, 1) := by decide +kernel
theorem dL_law_467 : decode cL_law 467 = .ok (.iaload, 1) := by decide +kernel
theorem dL_law_468 : decode cL_law 468 = .ok (.invokevirtual 74, 3) := by decide +kernel
theorem dL_law_471 : decode cL_law 471 = .ok (.aload_n 2, 1) := by decide +kernel
theorem dL_law_472 : decode cL_law 472 = .ok (.aload_n 0, 1) := by decide +kernel
theorem dL_law_473 : decode cL_law 473 = .ok (.iload_n 3, 1) := by decide +kernel
theorem dL_law_474 : decode cL_law 474 = .ok (.iconst 1, 1) := by decide +kernel
theorem dL_law_475 : decode cL_law 475 = .ok (.iadd, 1) := by decide +kernel
theorem dL_law_476 : decode cL_law 476 = .ok (.iaload, 1) := by decide +kernel
theorem dL_law_477 : decode cL_law 477 = .ok (.invokevirtual 77, 3) := by decide +kernel
theorem dL_law_480 : decode cL_law 480 = .ok (.if_icmp .eq 140, 3) := by decide +kernel
theorem dL_law_483 : decode cL_law 483 = .ok (.iconst 0, 1) := by decide +kernel
theorem dL_law_484 : decode cL_law 484 = .ok (.ireturn, 1) := by decide +kernel
theorem dL_law_485 : decode cL_law 485 = .ok (.aload_n 1, 1) := by decide +kernel
theorem dL_law_486 : decode cL_law 486 = .ok (.aload_n 0, 1) := by decide +kernel
theorem dL_law_487 : decode cL_law 487 = .ok (.iload_n 3, 1) := by decide +kernel
theorem dL_law_488 : decode cL_law 488 = .ok (.iconst 1, 1) := by decide +kernel
theorem dL_law_489 : decode cL_law 489 = .ok (.iadd, 1) := by decide +kernel
theorem dL_law_490 : decode cL_law 490 = .ok (.iaload, 1) := by decide +kernel
theorem dL_law_491 : decode cL_law 491 = .ok (.aload_n 0, 1) := by decide +kernel
theorem dL_law_492 : decode cL_law 492 = .ok (.iload_n 3, 1) := by decide +kernel
theorem dL_law_493 : decode cL_law 493 = .ok (.iconst 2, 1) := by decide +kernel
theorem dL_law_494 : decode cL_law 494 = .ok (.iadd, 1) := by decide +kernel
theorem dL_law_495 : decode cL_law 495 = .ok (.iaload, 1) := by decide +kernel
theorem dL_law_496 : decode cL_law 496 = .ok (.invokevirtual 78, 3) := by decide +kernel
theorem dL_law_499 : decode cL_law 499 = .ok (.aload_n 2, 1) := by decide +kernel
theorem dL_law_500 : decode cL_law 500 = .ok (.aload_n 0, 1) := by decide +kernel
theorem dL_law_501 : decode cL_law 501 = .ok (.iload_n 3, 1) := by decide +kernel
theorem dL_law_502 : decode cL_law 502 = .ok (.iconst 1, 1) := by decide +kernel
theorem dL_law_503 : decode cL_law 503 = .ok (.iadd, 1) := by decide +kernel
theorem dL_law_504 : decode cL_law 504 = .ok (.iaload, 1) := by decide +kernel
theorem dL_law_505 : decode cL_law 505 = .ok (.aload_n 0, 1) := by decide +kernel
theorem dL_law_506 : decode cL_law 506 = .ok (.iload_n 3, 1) := by decide +kernel
theorem dL_law_507 : decode cL_law 507 = .ok (.iconst 2, 1) := by decide +kernel
theorem dL_law_508 : decode cL_law 508 = .ok (.iadd, 1) := by decide +kernel
theorem dL_law_509 : decode cL_law 509 = .ok (.iaload, 1) := by decide +kernel
theorem dL_law_510 : decode cL_law 510 = .ok (.invokevirtual 81, 3) := by decide +kernel
theorem dL_law_513 : decode cL_law 513 = .ok (.if_icmp .eq 107, 3) := by decide +kernel
theorem dL_law_516 : decode cL_law 516 = .ok (.iconst 0, 1) := by decide +kernel
theorem dL_law_517 : decode cL_law 517 = .ok (.ireturn, 1) := by decide +kernel
theorem dL_law_518 : decode cL_law 518 = .ok (.aload_n 1, 1) := by decide +kernel
theorem dL_law_519 : decode cL_law 519 = .ok (.aload_n 0, 1) := by decide +kernel
theorem dL_law_520 : decode cL_law 520 = .ok (.iload_n 3, 1) := by decide +kernel
theorem dL_law_521 : decode cL_law 521 = .ok (.iconst 1, 1) := by decide +kernel
theorem dL_law_522 : decode cL_law 522 = .ok (.iadd, 1) := by decide +kernel
theorem dL_law_523 : decode cL_law 523 = .ok (.iaload, 1) := by decide +kernel
theorem dL_law_524 : decode cL_law 524 = .ok (.invokevirtual 82, 3) := by decide +kernel
theorem dL_law_527 : decode cL_law 527 = .ok (.aload_n 2, 1) := by decide +kernel
theorem dL_law_528 : decode cL_law 528 = .ok (.aload_n 0, 1) := by decide +kernel
theorem dL_law_529 : decode cL_law 529 = .ok (.iload_n 3, 1) := by decide +kernel
theorem dL_law_530 : decode cL_law 530 = .ok (.iconst 1, 1) := by decide +kernel
theorem dL_law_531 : decode cL_law 531 = .ok (.iadd, 1) := by decide +kernel
theorem dL_law_532 : decode cL_law 532 = .ok (.iaload, 1) := by decide +kernel
theorem dL_law_533 : decode cL_law 533 = .ok (.invokevirtual 85, 3) := by decide +kernel
theorem dL_law_536 : decode cL_law 536 = .ok (.if_icmp .eq 84, 3) := by decide +kernel
theorem dL_law_539 : decode cL_law 539 = .ok (.iconst 0, 1) := by decide +kernel
theorem dL_law_540 : decode cL_law 540 = .ok (.ireturn, 1) := by decide +kernel
theorem dL_law_541 : decode cL_law 541 = .ok (.aload_n 1, 1) := by decide +kernel
theorem dL_law_542 : decode cL_law 542 = .ok (.aload_n 0, 1) := by decide +kernel
theorem dL_law_543 : decode cL_law 543 = .ok (.iload_n 3, 1) := by decide +kernel
theorem dL_law_544 : decode cL_law 544 = .ok (.iconst 1, 1) := by decide +kernel
theorem dL_law_545 : decode cL_law 545 = .ok (.iadd, 1) := by decide +kernel
theorem dL_law_546 : decode cL_law 546 = .ok (.iaload, 1) := by decide +kernel
theorem dL_law_547 : decode cL_law 547 = .ok (.invokevirtual 86, 3) := by decide +kernel
theorem dL_law_550 : decode cL_law 550 = .ok (.aload_n 2, 1) := by decide +kernel
theorem dL_law_551 : decode cL_law 551 = .ok (.aload_n 0, 1) := by decide +kernel
theorem dL_law_552 : decode cL_law 552 = .ok (.iload_n 3, 1) := by decide +kernel
theorem dL_law_553 : decode cL_law 553 = .ok (.iconst 1, 1) := by decide +kernel
theorem dL_law_554 : decode cL_law 554 = .ok (.iadd, 1) := by decide +kernel
theorem dL_law_555 : decode cL_law 555 = .ok (.iaload, 1) := by decide +kernel
theorem dL_law_556 : decode cL_law 556 = .ok (.invokevirtual 89, 3) := by decide +kernel
theorem dL_law_559 : decode cL_law 559 = .ok (.if_icmp .eq 61, 3) := by decide +kernel
theorem dL_law_562 : decode cL_law 562 = .ok (.iconst 0, 1) := by decide +kernel
theorem dL_law_563 : decode cL_law 563 = .ok (.ireturn, 1) := by decide +kernel
theorem dL_law_564 : decode cL_law 564 = .ok (.aload_n 1, 1) := by decide +kernel
theorem dL_law_565 : decode cL_law 565 = .ok (.aload_n 0, 1) := by decide +kernel
theorem dL_law_566 : decode cL_law 566 = .ok (.iload_n 3, 1) := by decide +kernel
theorem dL_law_567 : decode cL_law 567 = .ok (.iconst 1, 1) := by decide +kernel
theorem dL_law_568 : decode cL_law 568 = .ok (.iadd, 1) := by decide +kernel
theorem dL_law_569 : decode cL_law 569 = .ok (.iaload, 1) := by decide +kernel
theorem dL_law_570 : decode cL_law 570 = .ok (.aload_n 0, 1) := by decide +kernel
theorem dL_law_571 : decode cL_law 571 = .ok (.iload_n 3, 1) := by decide +kernel
theorem dL_law_572 : decode cL_law 572 = .ok (.iconst 2, 1) := by decide +kernel
theorem dL_law_573 : decode cL_law 573 = .ok (.iadd, 1) := by decide +kernel
theorem dL_law_574 : decode cL_law 574 = .ok (.iaload, 1) := by decide +kernel
theorem dL_law_575 : decode cL_law 575 = .ok (.invokevirtual 90, 3) := by decide +kernel
theorem dL_law_578 : decode cL_law 578 = .ok (.aload_n 2, 1) := by decide +kernel
theorem dL_law_579 : decode cL_law 579 = .ok (.aload_n 0, 1) := by decide +kernel
theorem dL_law_580 : decode cL_law 580 = .ok (.iload_n 3, 1) := by decide +kernel
theorem dL_law_581 : decode cL_law 581 = .ok (.iconst 1, 1) := by decide +kernel
theorem dL_law_582 : decode cL_law 582 = .ok (.iadd, 1) := by decide +kernel
theorem dL_law_583 : decode cL_law 583 = .ok (.iaload, 1) := by decide +kernel
theorem dL_law_584 : decode cL_law 584 = .ok (.aload_n 0, 1) := by decide +kernel
theorem dL_law_585 : decode cL_law 585 = .ok (.iload_n 3, 1) := by decide +kernel
theorem dL_law_586 : decode cL_law 586 = .ok (.iconst 2, 1) := by decide +kernel
theorem dL_law_587 : decode cL_law 587 = .ok (.iadd, 1) := by decide +kernel
theorem dL_law_588 : decode cL_law 588 = .ok (.iaload, 1) := by decide +kernel
theorem dL_law_589 : decode cL_law 589 = .ok (.invokevirtual 93, 3) := by decide +kernel
theorem dL_law_592 : decode cL_law 592 = .ok (.if_icmp .eq 28, 3) := by decide +kernel
theorem dL_law_595 : decode cL_law 595 = .ok (.iconst 0, 1) := by decide +kernel
theorem dL_law_596 : decode cL_law 596 = .ok (.ireturn, 1) := by decide +kernel
theorem dL_law_597 : decode cL_law 597 = .ok (.aload_n 1, 1) := by decide +kernel
theorem dL_law_598 : decode cL_law 598 = .ok (.aload_n 0, 1) := by decide +kernel
theorem dL_law_599 : decode cL_law 599 = .ok (.iload_n 3, 1) := by decide +kernel
theorem dL_law_600 : decode cL_law 600 = .ok (.iconst 1, 1) := by decide +kernel
theorem dL_law_601 : decode cL_law 601 = .ok (.iadd, 1) := by decide +kernel
theorem dL_law_602 : decode cL_law 602 = .ok (.iaload, 1) := by decide +kernel
theorem dL_law_603 : decode cL_law 603 = .ok (.invokevirtual 94, 3) := by decide +kernel
theorem dL_law_606 : decode cL_law 606 = .ok (.aload_n 2, 1) := by decide +kernel
theorem dL_law_607 : decode cL_law 607 = .ok (.aload_n 0, 1) := by decide +kernel
theorem dL_law_608 : decode cL_law 608 = .ok (.iload_n 3, 1) := by decide +kernel
theorem dL_law_609 : decode cL_law 609 = .ok (.iconst 1, 1) := by decide +kernel
theorem dL_law_610 : decode cL_law 610 = .ok (.iadd, 1) := by decide +kernel
theorem dL_law_611 : decode cL_law 611 = .ok (.iaload, 1) := by decide +kernel
theorem dL_law_612 : decode cL_law 612 = .ok (.invokevirtual 97, 3) := by decide +kernel
theorem dL_law_615 : decode cL_law 615 = .ok (.if_icmp .eq 5, 3) := by decide +kernel
theorem dL_law_618 : decode cL_law 618 = .ok (.iconst 0, 1) := by decide +kernel
theorem dL_law_619 : decode cL_law 619 = .ok (.ireturn, 1) := by decide +kernel
theorem dL_law_620 : decode cL_law 620 = .ok (.iinc 3 4, 3) := by decide +kernel
theorem dL_law_623 : decode cL_law 623 = .ok (.goto (-605), 3) := by decide +kernel
theorem dL_law_626 : decode cL_law 626 = .ok (.iconst 1, 1) := by decide +kernel
theorem dL_law_627 : decode cL_law 627 = .ok (.ireturn, 1) := by decide +kernel
end
section

/-! THE SMALL MACHINE: a memory is one function of ints by cell and place, and the one row of references; a judgement VV over it, rule by rule from the kit's rows -/
/-- the table's words that every method may carry along -/
def mm_tb : List Cond := lw_tbl.filter goodWord
theorem mm_in {w : Cond} (i : Nat) (h : lw_tbl[i]? = some w) (hg : goodWord w = true) : w ∈ mm_tb := List.mem_filter.mpr ⟨List.mem_of_getElem? h, hg⟩
theorem mm_inU {C : String} {T : u_T} {N : Nat} (h : ∀ w ∈ u_ws C T N, w ∈ lw_tbl) (hg : ∀ w ∈ u_ws C T N, goodWord w = true) : ∀ w ∈ u_ws C T N, w ∈ mm_tb := fun w hw => List.mem_filter.mpr ⟨h w hw, hg w hw⟩
abbrev Mem : Type := (Nat → Nat → Int) × (Nat → Option Nat)
abbrev inR (x : Int) : Prop := -2147483648 ≤ x ∧ x ≤ 2147483647
abbrev inL (x : Int) : Prop := -9223372036854775808 ≤ x ∧ x ≤ 9223372036854775807
def mwr (m : Mem) (c k : Nat) (v : Int) : Mem := (fun j => if j = c then fun q => if q = k then v else m.1 c q else m.1 j, m.2)
def mwq (m : Mem) (k : Nat) (v : Nat) : Mem := (m.1, va_up m.2 k (some v))
def mcp (m : Mem) (src sp dst dp n : Nat) : Mem := (fun j => if j = dst then va_cpy (m.1 src) (m.1 dst) sp dp n else m.1 j, m.2)
def mmR (m : Mem) : Prop := ∀ c k, inR (m.1 c k)
def mmCmp (x y : Int) : Int := if y < x then 1 else if x = y then 0 else -1
abbrev vi (x : Int) : Value := .int (Int32.ofInt x)
abbrev vl (x : Int) : Value := .long (Int64.ofInt x)
def mmSt (i : Nat) : List (Nat ⊕ (Nat × Nat)) := if i = 0 then [.inl 2, .inr (0, 24), .inr (0, 24), .inr (0, 24), .inr (0, 24), .inr (0, 24)] else []
/-- which cell is what: objects by their class, rows by their kind and length -/
def mmSh : List (Nat ⊕ (Nat × Nat)) :=
  [.inl 3] ++ (mmSt 0 ++ (mmSt 0 ++ (mmSt 0 ++ ([.inl 0, .inr (2, 4)] ++ (mmSt 0 ++ (mmSt 0 ++ (mmSt 0 ++ (mmSt 0 ++
  ([.inl 1, .inr (1, 60), .inr (0, 12), .inr (0, 12), .inr (0, 12), .inr (0, 12)] ++
  [.inl 4, .inr (0, 149), .inr (0, 149), .inr (0, 596), .inr (0, 149), .inr (0, 6), .inr (0, 60)])))))))))
/-- an object's fields: a reference to the cell so far on, or an int -/
def mmOff : Nat → List (Option Nat)
  | 0 => [some 1, none]
  | 1 => [some 1, none, some 2, some 3, some 4, some 5, none, none]
  | 2 => [some 1, some 2, some 3, some 4, some 5, none, none, none, none, none]
  | 3 => [some 1, some 7, some 13, none, some 19, some 45]
  | _ => [some 1, some 2, some 3, none, some 4, none, some 5, some 6, none, none, none, none]
def mmK2 : Option (Nat ⊕ (Nat × Nat)) → Bool
  | some (.inr (2, _)) => false
  | _ => true
def mmKd : Option (Nat ⊕ (Nat × Nat)) → Bool
  | some (.inr (t, _)) => t == 0 || (t == 1 || t == 2)
  | _ => true
def mmFv (ad : Nat → Nat) (m : Mem) (i : Nat) (k : Nat) (o : Option Nat) : Value := match o with
  | some d => .ref (ad (i + d))
  | none => vi (m.1 i k)
def mmF (ad : Nat → Nat) (m : Mem) (i ci : Nat) : List Value := (mmOff ci).mapIdx (mmFv ad m i)
def mmRow (m : Mem) (i : Nat) : Nat → Int32 := fun k => Int32.ofInt (m.1 i k)
def mmCell (cy : ClassId × ClassId × ClassId) (ad : Nat → Nat) (m : Mem) (i : Nat) : va_E := match mmSh[i]? with
  | some (.inl ci) => .inr (ci, mmF ad m i ci)
  | some (.inr (0, n)) => .inl (cy.1, n, .inl (mmRow m i))
  | some (.inr (1, n)) => .inl (cy.2.1, n, .inl (mmRow m i))
  | some (.inr (_, n)) => .inl (cy.2.2, n, .inr (.inr (.inr (.inr (fun k => (m.2 k).map ad)))))
  | none => .inl (cy.1, 0, .inl (mmRow m i))
def mmW (cy : ClassId × ClassId × ClassId) (ad : Nat → Nat) (m : Mem) : va_W := (List.range 58).map fun i => (ad i, mmCell cy ad m i)
abbrev mmT (cy : ClassId × ClassId × ClassId) : List (ClassId × FieldType) := [(cy.1, .int), (cy.2.1, .char), (cy.2.2, .object RX2)]
def mmV (ad : Nat → Nat) (v : Value) : Value := match v with
  | .ref i => .ref (ad i)
  | w => w
theorem mmV_cat (ad : Nat → Nat) (v : Value) : (mmV ad v).category = v.category := by cases v <;> rfl
theorem mmV_cats (ad : Nat → Nat) (st : List Value) : ((st.map (mmV ad)).map fun v => v.category).sum = (st.map fun v => v.category).sum := by
  rw [List.map_map]
  exact congrArg List.sum (List.map_congr_left fun v _ => mmV_cat ad v)
theorem mmSh_len : mmSh.length = 58 := by decide +kernel
theorem mmSh_lt {i : Nat} {x : Nat ⊕ (Nat × Nat)} (h : mmSh[i]? = some x) : i < 58 := by
  have := (List.getElem?_eq_some_iff.mp h).1
  rw [mmSh_len] at this
  exact this
theorem mmW_at (cy : ClassId × ClassId × ClassId) (ad : Nat → Nat) (m : Mem) {i : Nat} (h : i < 58) : (mmW cy ad m)[i]? = some (ad i, mmCell cy ad m i) := by
  simp [mmW, List.getElem?_map, List.getElem?_range, h]
theorem mmW_len (cy : ClassId × ClassId × ClassId) (ad : Nat → Nat) (m : Mem) : (mmW cy ad m).length = 58 := by simp [mmW]
theorem mmW_set (cy : ClassId × ClassId × ClassId) (ad : Nat → Nat) (m m' : Mem) {i : Nat} (h : i < 58) {e : va_E} (he : mmCell cy ad m' i = e) (ho : ∀ j, j < 58 → j ≠ i → mmCell cy ad m' j = mmCell cy ad m j) : (mmW cy ad m).set i (ad i, e) = mmW cy ad m' := by
  apply List.ext_getElem?
  intro j
  by_cases hj : j = i
  · subst hj
    rw [List.getElem?_set_self (by rw [mmW_len]; exact h), mmW_at cy ad m' h, he]
  · rw [List.getElem?_set_ne (Ne.symm hj)]
    by_cases hl : j < 58
    · rw [mmW_at cy ad m hl, mmW_at cy ad m' hl, ho j hl hj]
    · rw [List.getElem?_eq_none (by rw [mmW_len]; omega), List.getElem?_eq_none (by rw [mmW_len]; omega)]
theorem mmCell_obj {cy : ClassId × ClassId × ClassId} {ad : Nat → Nat} {m : Mem} {i ci : Nat} (h : mmSh[i]? = some (.inl ci)) : mmCell cy ad m i = .inr (ci, mmF ad m i ci) := by simp only [mmCell, h]
theorem mmCell_int {cy : ClassId × ClassId × ClassId} {ad : Nat → Nat} {m : Mem} {i n : Nat} (h : mmSh[i]? = some (.inr (0, n))) : mmCell cy ad m i = .inl (cy.1, n, .inl (mmRow m i)) := by simp only [mmCell, h]
theorem mmCell_chr {cy : ClassId × ClassId × ClassId} {ad : Nat → Nat} {m : Mem} {i n : Nat} (h : mmSh[i]? = some (.inr (1, n))) : mmCell cy ad m i = .inl (cy.2.1, n, .inl (mmRow m i)) := by simp only [mmCell, h]
theorem mmCell_ref {cy : ClassId × ClassId × ClassId} {ad : Nat → Nat} {m : Mem} {i n : Nat} (h : mmSh[i]? = some (.inr (2, n))) : mmCell cy ad m i = .inl (cy.2.2, n, .inr (.inr (.inr (.inr (fun k => (m.2 k).map ad))))) := by simp only [mmCell, h]
theorem mmF_at {ad : Nat → Nat} {m : Mem} {i ci k : Nat} {o : Option Nat} (h : (mmOff ci)[k]? = some o) : (mmF ad m i ci)[k]? = some (mmFv ad m i k o) := by
  simp [mmF, List.getElem?_mapIdx, h]
/-- a cell that a write doesn't touch -/
theorem mmCell_same {cy : ClassId × ClassId × ClassId} {ad : Nat → Nat} {m m' : Mem} {j : Nat} (h1 : m'.1 j = m.1 j) (h2 : m'.2 = m.2) : mmCell cy ad m' j = mmCell cy ad m j := by
  have e1 : ∀ ci, mmF ad m' j ci = mmF ad m j ci := fun ci => by
    unfold mmF
    congr 1
    funext k o
    cases o <;> simp [mmFv, h1]
  have e2 : mmRow m' j = mmRow m j := by funext k; simp [mmRow, h1]
  unfold mmCell
  split <;> simp only [e1, e2, h2]
theorem mwr_ne {m : Mem} {c k j : Nat} {v : Int} (h : j ≠ c) : (mwr m c k v).1 j = m.1 j := by simp [mwr, h]
theorem mwr_self {m : Mem} {c k q : Nat} {v : Int} : (mwr m c k v).1 c q = if q = k then v else m.1 c q := by simp [mwr]
theorem mwr_R {m : Mem} {c k : Nat} {v : Int} (h : mmR m) (hv : inR v) : mmR (mwr m c k v) := by
  intro j q
  by_cases hj : j = c
  · subst hj
    rw [mwr_self]
    split
    · exact hv
    · exact h _ _
  · rw [mwr_ne hj]; exact h _ _
theorem mcp_R {m : Mem} {src sp dst dp n : Nat} (h : mmR m) : mmR (mcp m src sp dst dp n) := by
  intro j q
  unfold mcp va_cpy
  by_cases hj : j = dst
  · simp only [hj, if_pos]
    split
    · exact h _ _
    · exact h _ _
  · simp only [hj, if_false]
    exact h _ _
theorem mmF_set {ad : Nat → Nat} {m : Mem} {i ci k : Nat} {v : Int} (h : (mmOff ci)[k]? = some none) : (mmF ad m i ci).set k (vi v) = mmF ad (mwr m i k v) i ci := by
  have hl := (List.getElem?_eq_some_iff.mp h).1
  apply List.ext_getElem?
  intro j
  by_cases hj : j = k
  · subst hj
    rw [List.getElem?_set_self (by simpa [mmF] using hl), mmF_at h]
    simp [mmFv, mwr_self]
  · rw [List.getElem?_set_ne (Ne.symm hj)]
    cases ho : (mmOff ci)[j]? with
    | none =>
      have : (mmOff ci).length ≤ j := List.getElem?_eq_none_iff.mp ho
      rw [List.getElem?_eq_none (by simpa [mmF] using this), List.getElem?_eq_none (by simpa [mmF] using this)]
    | some o =>
      rw [mmF_at ho, mmF_at ho]
      cases o with
      | none => simp [mmFv, mwr_self, hj]
      | some d => rfl
theorem mmRow_wr {m : Mem} {i k : Nat} {v : Int} : upd (mmRow m i) k (Int32.ofInt v) = mmRow (mwr m i k v) i := by
  funext q
  by_cases hq : q = k
  · subst hq; simp [upd, mmRow, mwr_self]
  · simp [upd, mmRow, mwr_self, hq]
theorem mmRow_cp {m : Mem} {src sp dst dp n : Nat} : va_cpy (mmRow m src) (mmRow m dst) sp dp n = mmRow (mcp m src sp dst dp n) dst := by
  funext q
  simp only [va_cpy, mmRow, mcp, if_pos]
  split <;> rfl
theorem inR_lo {x : Int} (h : inR x) : -2 ^ 31 ≤ x ∧ x < 2 ^ 31 := by have := h.1; have := h.2; omega
theorem oi_lt {x y : Int} (hx : inR x) (hy : inR y) : Int32.ofInt x < Int32.ofInt y ↔ x < y := by
  rw [Int32.lt_iff_toInt_lt, Int32.toInt_ofInt_of_le (inR_lo hx).1 (inR_lo hx).2, Int32.toInt_ofInt_of_le (inR_lo hy).1 (inR_lo hy).2]
theorem oi_le {x y : Int} (hx : inR x) (hy : inR y) : Int32.ofInt x ≤ Int32.ofInt y ↔ x ≤ y := by
  rw [Int32.le_iff_toInt_le, Int32.toInt_ofInt_of_le (inR_lo hx).1 (inR_lo hx).2, Int32.toInt_ofInt_of_le (inR_lo hy).1 (inR_lo hy).2]
theorem oi_eq {x y : Int} (hx : inR x) (hy : inR y) : Int32.ofInt x = Int32.ofInt y ↔ x = y := by
  rw [← Int32.toInt_inj, Int32.toInt_ofInt_of_le (inR_lo hx).1 (inR_lo hx).2, Int32.toInt_ofInt_of_le (inR_lo hy).1 (inR_lo hy).2]
theorem inR0 : inR 0 := by decide
theorem oi_0 : (0 : Int32) = Int32.ofInt 0 := by decide
theorem oi_cl {x : Int} (h : inR x) : (Int32.ofInt x).toNatClampNeg = x.toNat := Int32.toNatClampNeg_ofInt_of_le (inR_lo h).1 (inR_lo h).2
theorem oi_in {x : Int} {n : Nat} (hx : inR x) (h : 0 ≤ x ∧ x < n) : vp_in (Int32.ofInt x) n := by
  unfold vp_in
  rw [oi_cl hx, oi_0, oi_lt hx inR0]
  omega
theorem ol_i2l {x : Int} (h : inR x) : (Int32.ofInt x).toInt64 = Int64.ofInt x := by
  rw [← Int32.ofInt_toInt (Int32.ofInt x), Int32.toInt_ofInt_of_le (inR_lo h).1 (inR_lo h).2, ← Int64.ofInt_int32ToInt, Int32.toInt_ofInt_of_le (inR_lo h).1 (inR_lo h).2]
theorem ol_t {x : Int} (h : inL x) : (Int64.ofInt x).toInt = x := Int64.toInt_ofInt_of_le (by have := h.1; omega) (by have := h.2; omega)
theorem ol_cmp {x y : Int} (hx : inL x) (hy : inL y) : lg_cmp (Int64.ofInt x) (Int64.ofInt y) = Int32.ofInt (mmCmp x y) := by
  unfold lg_cmp mmCmp
  simp only [gt_iff_lt, Int64.lt_iff_toInt_lt, ← Int64.toInt_inj, ol_t hx, ol_t hy]
  split
  · decide
  · split <;> decide
theorem mmCmp_R (x y : Int) : inR (mmCmp x y) := by
  unfold mmCmp
  split
  · decide
  · split <;> decide
theorem oi_div {x y : Int} (hx : inR x) (hy : inR y) (h : 0 ≤ x ∧ 0 < y) : Int32.ofInt x / Int32.ofInt y = Int32.ofInt (x / y) := by
  apply Int32.toInt_inj.mp
  have e1 := Int32.toInt_ofInt_of_le (inR_lo hx).1 (inR_lo hx).2
  have e2 := Int32.toInt_ofInt_of_le (inR_lo hy).1 (inR_lo hy).2
  have h1 : 0 ≤ x / y := Int.ediv_nonneg h.1 (by omega)
  have h2 : x / y ≤ x := Int.ediv_le_self _ h.1
  have hx2 := hx.2
  rw [lg_idiv_nonneg (by rw [e1]; exact h.1) (by rw [e2]; exact h.2), e1, e2, Int32.toInt_ofInt_of_le (by omega) (by omega)]
def mmK {α : Type} (c : Prop) [Decidable c] (X : Option α) : Option α := if c then X else none
theorem mmK_e {α : Type} {c : Prop} [Decidable c] {X : Option α} {r : α} (h : mmK c X = some r) : c ∧ X = some r := by
  unfold mmK at h
  split at h
  · exact ⟨by assumption, h⟩
  · cases h
theorem mmK_p {α : Type} {c : Prop} [Decidable c] {X : Option α} (h : c) : mmK c X = X := if_pos h
theorem mmI_t {α : Type} {c : Prop} [Decidable c] {X Y : Option α} {r : α} (hc : c) (h : (if c then X else Y) = some r) : X = some r := by rwa [if_pos hc] at h
theorem mmI_f {α : Type} {c : Prop} [Decidable c] {X Y : Option α} {r : α} (hc : ¬ c) (h : (if c then X else Y) = some r) : Y = some r := by rwa [if_neg hc] at h
theorem mmB_e {α β : Type} {X : Option α} {K : α → Option β} {r : β} (h : X.bind K = some r) : ∃ q, X = some q ∧ K q = some r := by
  cases X with
  | none => cases h
  | some q => exact ⟨q, rfl, h⟩
/-- the fuel of the loops -/
def mmFU : Nat := 1000
def mmG0 : State → (Nat → Prop) → (Nat → Nat) → Prop := fun _ _ _ => True
def mmRet (cc : ByteArray) (pc : Nat) (v : Option Value) : Prop := (∃ x : Int, v = some (vi x) ∧ decode cc pc = .ok (.ireturn, 1)) ∨ (v = none ∧ decode cc pc = .ok (.return_, 1))
/-- what stands through a method -/
def mmC (own : String) (cc : ByteArray) (nL : Nat) (R : Room) (G : State → (Nat → Prop) → (Nat → Nat) → Prop) (Po : Option Value → Mem → Prop) (p : Program) (l : Launch) (e : Env) (s : State) (mi : MethodId) (args : Array Value) (below : List Frame) (meth : Method) (c : Code) (cells slots : Nat) (Q : State → Prop) (D : va_G) (cy : ClassId × ClassId × ClassId) (ad : Nat → Nat) (A : Nat → Prop) : Prop :=
  p.tables.exec = Jvm.exec ∧ c.code = cc ∧ c.maxLocals = nL ∧ s.vm.findClass own = some mi.cls ∧ (∀ w ∈ mm_tb, w.before args s = true) ∧ (cells ≤ R.cells ∧ slots ≤ R.slots) ∧ (∀ q, s.heap.size ≤ q → A q) ∧ va_K D vwCl (mmT cy) s ∧ (∀ m, va_D A (mmW cy ad m)) ∧ G s A ad ∧
  (∀ (v : Option Value) (m' : Mem) (H' : Heap) (locs' : List Loc) (ls' : Array Slot) (pc' : Nat), Po v m' → mmR m' → mmRet cc pc' v → va_P D vwCl (mmW cy ad m') H' → va_S A s.heap H' locs' → W p l e R s mi args below meth c H' locs' cells slots Q (F0 mi pc' ls' (v.toList.map (mmV ad))))
def mmL (ad : Nat → Nat) (lv : List (Nat × Value)) : List (Nat × Value) := lv.map fun q => (q.1, mmV ad q.2)
def VV (own : String) (cc : ByteArray) (nL : Nat) (R : Room) (G : State → (Nat → Prop) → (Nat → Nat) → Prop) (Po : Option Value → Mem → Prop) (pc : Nat) (lv : List (Nat × Value)) (st : List Value) (m : Mem) : Prop :=
  ∀ ⦃p : Program⦄ ⦃l : Launch⦄ ⦃e : Env⦄ ⦃s : State⦄ ⦃mi : MethodId⦄ ⦃args : Array Value⦄ ⦃below : List Frame⦄ ⦃meth : Method⦄ ⦃c : Code⦄ {cells slots : Nat} ⦃Q : State → Prop⦄ ⦃D : va_G⦄ ⦃cy : ClassId × ClassId × ClassId⦄ ⦃ad : Nat → Nat⦄ ⦃A : Nat → Prop⦄,
    mmC own cc nL R G Po p l e s mi args below meth c cells slots Q D cy ad A → ∀ ⦃H : Heap⦄ ⦃locs : List Loc⦄ ⦃ls : Array Slot⦄, mmR m → va_P D vwCl (mmW cy ad m) H → va_S A s.heap H locs → lv_has ls nL (mmL ad lv) →
    W p l e R s mi args below meth c H locs cells slots Q (F0 mi pc ls (st.map (mmV ad)))
theorem mmL_at {ad : Nat → Nat} {lv : List (Nat × Value)} {k i : Nat} {v : Value} (h : lv[k]? = some (i, v)) : (mmL ad lv)[k]? = some (i, mmV ad v) := by
  simp [mmL, List.getElem?_map, h]
/-- the list of locals behind a store: in the order of their places -/
def mmIns (i : Nat) (v : Value) : List (Nat × Value) → List (Nat × Value)
  | [] => [(i, v)]
  | q :: r => if i < q.1 then (i, v) :: q :: r else if i = q.1 then (i, v) :: r else q :: mmIns i v r
theorem mmIns_mem {i : Nat} {v : Value} {lv : List (Nat × Value)} {q : Nat × Value} (h : q ∈ mmIns i v lv) : q = (i, v) ∨ q ∈ lv := by
  induction lv with
  | nil => exact Or.inl (List.mem_singleton.mp h)
  | cons a r ih =>
    unfold mmIns at h
    split at h
    · rcases List.mem_cons.mp h with h | h
      · exact Or.inl h
      · exact Or.inr h
    · split at h
      · rcases List.mem_cons.mp h with h | h
        · exact Or.inl h
        · exact Or.inr (List.mem_cons_of_mem _ h)
      · rcases List.mem_cons.mp h with h | h
        · exact Or.inr (by rw [h]; exact List.mem_cons_self)
        · rcases ih h with h | h
          · exact Or.inl h
          · exact Or.inr (List.mem_cons_of_mem _ h)
/-- places in order -/
def mmOrd : List (Nat × Value) → Bool
  | [] => true
  | q :: r => (r.all fun z => decide (q.1 < z.1)) && mmOrd r
def mmOne (lv : List (Nat × Value)) : Bool := lv.all fun q => q.2.category == 1
theorem mmIns_pl {i : Nat} {v : Value} {lv : List (Nat × Value)} (ho : mmOrd lv = true) {q : Nat × Value} (h : q ∈ mmIns i v lv) : q = (i, v) ∨ (q ∈ lv ∧ q.1 ≠ i) := by
  induction lv with
  | nil => exact Or.inl (List.mem_singleton.mp h)
  | cons a r ih =>
    simp only [mmOrd, Bool.and_eq_true, List.all_eq_true, decide_eq_true_eq] at ho
    unfold mmIns at h
    split at h
    · rcases List.mem_cons.mp h with h | h
      · exact Or.inl h
      · refine Or.inr ⟨h, ?_⟩
        rcases List.mem_cons.mp h with h | h
        · subst h; omega
        · have := ho.1 q h; omega
    · split at h
      · rcases List.mem_cons.mp h with h | h
        · exact Or.inl h
        · refine Or.inr ⟨List.mem_cons_of_mem _ h, ?_⟩
          have := ho.1 q h; omega
      · rcases List.mem_cons.mp h with h | h
        · subst h
          exact Or.inr ⟨List.mem_cons_self, fun z => by omega⟩
        · rcases ih ho.2 h with h | h
          · exact Or.inl h
          · exact Or.inr ⟨List.mem_cons_of_mem _ h.1, h.2⟩
theorem mmL_store {ad : Nat → Nat} {lv : List (Nat × Value)} {i nL : Nat} {v : Value} {ls : Array Slot} (ho : mmOrd lv = true) (h1 : mmOne lv = true)
    (h : lv_has ls nL ((i, mmV ad v) :: (mmL ad lv).filter (fun q => !(q.1 == i) && !(q.1 + 1 == i && q.2.category == 2)))) : lv_has ls nL (mmL ad (mmIns i v lv)) := by
  refine ⟨h.1, h.2.1, fun q hq => ?_⟩
  obtain ⟨z, hz, rfl⟩ := List.mem_map.mp hq
  rcases mmIns_pl ho hz with rfl | ⟨h2, h3⟩
  · exact h.2.2 _ List.mem_cons_self
  · refine h.2.2 _ (List.mem_cons_of_mem _ (List.mem_filter.mpr ⟨List.mem_map.mpr ⟨z, h2, rfl⟩, ?_⟩))
    have h4 := List.all_eq_true.mp h1 z h2
    simp only [beq_iff_eq] at h4
    simp [h3, mmV_cat, h4]
theorem mmL_pick {ad : Nat → Nat} {lv lv' : List (Nat × Value)} (ks : List Nat) (h : lv_pick lv ks = lv') : lv_pick (mmL ad lv) ks = mmL ad lv' := by
  subst h
  unfold lv_pick mmL
  rw [List.map_filterMap]
  congr 1
  funext k
  rw [List.getElem?_map]
section RULES
variable {own : String} {cc : ByteArray} {nL : Nat} {R : Room} {G : State → (Nat → Prop) → (Nat → Nat) → Prop} {Po : Option Value → Mem → Prop} {pc : Nat} {lv : List (Nat × Value)} {st : List Value} {m : Mem}
theorem V_iconst {n : Int} {v : Int} (hd : decode cc pc = .ok (.iconst n, 1)) (hv : n = v) (k : VV own cc nL R G Po (pc + 1) lv (vi v :: st) m) : VV own cc nL R G Po pc lv st m := by
  intro p l e s mi args below meth c cells slots Q D cy ad A C H locs ls hR hP hS hl
  subst hv
  exact lv_iconst C.1 C.2.1 hd rfl (k C hR hP hS hl)
theorem V_bipush {n : Int} {v : Int} (hd : decode cc pc = .ok (.bipush n, 2)) (hv : (Int8.ofInt n).toInt32 = Int32.ofInt v) (k : VV own cc nL R G Po (pc + 2) lv (vi v :: st) m) : VV own cc nL R G Po pc lv st m := by
  intro p l e s mi args below meth c cells slots Q D cy ad A C H locs ls hR hP hS hl
  exact lv_bipush C.1 C.2.1 hd hv (k C hR hP hS hl)
theorem V_sipush {n : Int} {v : Int} (hd : decode cc pc = .ok (.sipush n, 3)) (hv : (Int16.ofInt n).toInt32 = Int32.ofInt v) (k : VV own cc nL R G Po (pc + 3) lv (vi v :: st) m) : VV own cc nL R G Po pc lv st m := by
  intro p l e s mi args below meth c cells slots Q D cy ad A C H locs ls hR hP hS hl
  exact lv_sipush C.1 C.2.1 hd hv (k C hR hP hS hl)
theorem V_lconst {n : Fin 2} {v : Int} (hd : decode cc pc = .ok (.lconst n, 1)) (hv : Int64.ofNat (n : Nat) = Int64.ofInt v) (k : VV own cc nL R G Po (pc + 1) lv (vl v :: st) m) : VV own cc nL R G Po pc lv st m := by
  intro p l e s mi args below meth c cells slots Q D cy ad A C H locs ls hR hP hS hl
  exact lv_lconst C.1 C.2.1 hd hv (k C hR hP hS hl)
theorem V_ldc2 {index : Nat} {z : Int64} {v : Int} (hd : decode cc pc = .ok (.ldc2_w index, 3)) (hw : Jvm.Cond.constantLong own index z ∈ mm_tb) (hv : z = Int64.ofInt v) (k : VV own cc nL R G Po (pc + 3) lv (vl v :: st) m) : VV own cc nL R G Po pc lv st m := by
  intro p l e s mi args below meth c cells slots Q D cy ad A C H locs ls hR hP hS hl
  subst hv
  exact lv_ldc2 C.1 C.2.1 C.2.2.2.1 (C.2.2.2.2.1 _ hw) hd (k C hR hP hS hl)
theorem V_iload_n {k' : Fin 4} {x : Int} (j : Nat) (hd : decode cc pc = .ok (.iload_n k', 1)) (hk : lv[j]? = some ((k' : Nat), vi x)) (k : VV own cc nL R G Po (pc + 1) lv (vi x :: st) m) : VV own cc nL R G Po pc lv st m := by
  intro p l e s mi args below meth c cells slots Q D cy ad A C H locs ls hR hP hS hl
  exact lv_iload_n C.1 C.2.1 hd rfl (lv_at hl j (mmL_at hk)) (k C hR hP hS hl)
theorem V_iload {i : Nat} {x : Int} (j : Nat) (hd : decode cc pc = .ok (.iload i, 2)) (hk : lv[j]? = some (i, vi x)) (k : VV own cc nL R G Po (pc + 2) lv (vi x :: st) m) : VV own cc nL R G Po pc lv st m := by
  intro p l e s mi args below meth c cells slots Q D cy ad A C H locs ls hR hP hS hl
  exact lv_iload C.1 C.2.1 hd (lv_at hl j (mmL_at hk)) (k C hR hP hS hl)
theorem V_lload_n {k' : Fin 4} {x : Int} (j : Nat) (hd : decode cc pc = .ok (.lload_n k', 1)) (hk : lv[j]? = some ((k' : Nat), vl x)) (k : VV own cc nL R G Po (pc + 1) lv (vl x :: st) m) : VV own cc nL R G Po pc lv st m := by
  intro p l e s mi args below meth c cells slots Q D cy ad A C H locs ls hR hP hS hl
  exact lv_lload_n C.1 C.2.1 hd rfl (lv_at hl j (mmL_at hk)) (k C hR hP hS hl)
theorem V_lload {i : Nat} {x : Int} (j : Nat) (hd : decode cc pc = .ok (.lload i, 2)) (hk : lv[j]? = some (i, vl x)) (k : VV own cc nL R G Po (pc + 2) lv (vl x :: st) m) : VV own cc nL R G Po pc lv st m := by
  intro p l e s mi args below meth c cells slots Q D cy ad A C H locs ls hR hP hS hl
  exact lv_lload C.1 C.2.1 hd (lv_at hl j (mmL_at hk)) (k C hR hP hS hl)
theorem V_aload_n {k' : Fin 4} {x : Nat} (j : Nat) (hd : decode cc pc = .ok (.aload_n k', 1)) (hk : lv[j]? = some ((k' : Nat), .ref x)) (k : VV own cc nL R G Po (pc + 1) lv (.ref x :: st) m) : VV own cc nL R G Po pc lv st m := by
  intro p l e s mi args below meth c cells slots Q D cy ad A C H locs ls hR hP hS hl
  exact lv_aload_n C.1 C.2.1 hd rfl (lv_at hl j (mmL_at hk)) (k C hR hP hS hl)
theorem V_aload {i : Nat} {x : Nat} (j : Nat) (hd : decode cc pc = .ok (.aload i, 2)) (hk : lv[j]? = some (i, .ref x)) (k : VV own cc nL R G Po (pc + 2) lv (.ref x :: st) m) : VV own cc nL R G Po pc lv st m := by
  intro p l e s mi args below meth c cells slots Q D cy ad A C H locs ls hR hP hS hl
  exact lv_aload C.1 C.2.1 hd (lv_at hl j (mmL_at hk)) (k C hR hP hS hl)
theorem V_istore_n {k' : Fin 4} {i : Nat} {x : Int} {lv' : List (Nat × Value)} (hd : decode cc pc = .ok (.istore_n k', 1)) (hi : (k' : Nat) = i) (ho : (mmOrd lv && (mmOne lv && decide (i < nL))) = true) (hl' : mmIns i (vi x) lv = lv') (k : VV own cc nL R G Po (pc + 1) lv' st m) : VV own cc nL R G Po pc lv (vi x :: st) m := by
  intro p l e s mi args below meth c cells slots Q D cy ad A C H locs ls hR hP hS hl
  subst hl'
  simp only [Bool.and_eq_true, decide_eq_true_eq] at ho
  exact lv_istore_n C.1 C.2.1 hd hi hl ho.2.2 rfl (fun ls2 hl2 => k C hR hP hS (mmL_store ho.1 ho.2.1 hl2))
theorem V_istore {i : Nat} {x : Int} {lv' : List (Nat × Value)} (hd : decode cc pc = .ok (.istore i, 2)) (ho : (mmOrd lv && (mmOne lv && decide (i < nL))) = true) (hl' : mmIns i (vi x) lv = lv') (k : VV own cc nL R G Po (pc + 2) lv' st m) : VV own cc nL R G Po pc lv (vi x :: st) m := by
  intro p l e s mi args below meth c cells slots Q D cy ad A C H locs ls hR hP hS hl
  subst hl'
  simp only [Bool.and_eq_true, decide_eq_true_eq] at ho
  exact lv_istore C.1 C.2.1 hd hl ho.2.2 rfl (fun ls2 hl2 => k C hR hP hS (mmL_store ho.1 ho.2.1 hl2))
theorem V_astore_n {k' : Fin 4} {i : Nat} {x : Nat} {lv' : List (Nat × Value)} (hd : decode cc pc = .ok (.astore_n k', 1)) (hi : (k' : Nat) = i) (ho : (mmOrd lv && (mmOne lv && decide (i < nL))) = true) (hl' : mmIns i (.ref x) lv = lv') (k : VV own cc nL R G Po (pc + 1) lv' st m) : VV own cc nL R G Po pc lv (.ref x :: st) m := by
  intro p l e s mi args below meth c cells slots Q D cy ad A C H locs ls hR hP hS hl
  subst hl'
  simp only [Bool.and_eq_true, decide_eq_true_eq] at ho
  exact lv_astore_n C.1 C.2.1 hd hi hl ho.2.2 rfl (fun ls2 hl2 => k C hR hP hS (mmL_store ho.1 ho.2.1 hl2))
theorem V_astore {i : Nat} {x : Nat} {lv' : List (Nat × Value)} (hd : decode cc pc = .ok (.astore i, 2)) (ho : (mmOrd lv && (mmOne lv && decide (i < nL))) = true) (hl' : mmIns i (.ref x) lv = lv') (k : VV own cc nL R G Po (pc + 2) lv' st m) : VV own cc nL R G Po pc lv (.ref x :: st) m := by
  intro p l e s mi args below meth c cells slots Q D cy ad A C H locs ls hR hP hS hl
  subst hl'
  simp only [Bool.and_eq_true, decide_eq_true_eq] at ho
  exact lv_astore C.1 C.2.1 hd hl ho.2.2 rfl (fun ls2 hl2 => k C hR hP hS (mmL_store ho.1 ho.2.1 hl2))
theorem V_iinc {i : Nat} {n : Int} {x v : Int} {lv' : List (Nat × Value)} (j : Nat) (hd : decode cc pc = .ok (.iinc i n, 3)) (hk : lv[j]? = some (i, vi x)) (hv : x + n = v) (ho : (mmOrd lv && (mmOne lv && decide (i < nL))) = true) (hl' : mmIns i (vi v) lv = lv') (k : VV own cc nL R G Po (pc + 3) lv' st m) : VV own cc nL R G Po pc lv st m := by
  intro p l e s mi args below meth c cells slots Q D cy ad A C H locs ls hR hP hS hl
  subst hl' hv
  simp only [Bool.and_eq_true, decide_eq_true_eq] at ho
  exact lv_iinc C.1 C.2.1 hd hl (k := j) (v := Int32.ofInt (x + n)) (mmL_at hk) (by rw [Int32.ofInt_add]) ho.2.2 rfl (fun ls2 hl2 => k C hR hP hS (mmL_store (v := vi (x + n)) ho.1 ho.2.1 hl2))
theorem V_sub {lv' : List (Nat × Value)} (ks : List Nat) (hl' : lv_pick lv ks = lv') (k : VV own cc nL R G Po pc lv' st m) : VV own cc nL R G Po pc lv st m := by
  intro p l e s mi args below meth c cells slots Q D cy ad A C H locs ls hR hP hS hl
  exact k C hR hP hS (lv_sub hl ks (mmL_pick ks hl'))
theorem V_iadd {x y : Int} (hd : decode cc pc = .ok (.iadd, 1)) (k : VV own cc nL R G Po (pc + 1) lv (vi (x + y) :: st) m) : VV own cc nL R G Po pc lv (vi y :: vi x :: st) m := by
  intro p l e s mi args below meth c cells slots Q D cy ad A C H locs ls hR hP hS hl
  refine lv_iadd C.1 C.2.1 hd ?_
  rw [← Int32.ofInt_add]
  exact k C hR hP hS hl
theorem V_isub {x y : Int} (hd : decode cc pc = .ok (.isub, 1)) (k : VV own cc nL R G Po (pc + 1) lv (vi (x - y) :: st) m) : VV own cc nL R G Po pc lv (vi y :: vi x :: st) m := by
  intro p l e s mi args below meth c cells slots Q D cy ad A C H locs ls hR hP hS hl
  refine lv_isub C.1 C.2.1 hd ?_
  rw [← Int32.ofInt_sub]
  exact k C hR hP hS hl
theorem V_imul {x y : Int} (hd : decode cc pc = .ok (.imul, 1)) (k : VV own cc nL R G Po (pc + 1) lv (vi (x * y) :: st) m) : VV own cc nL R G Po pc lv (vi y :: vi x :: st) m := by
  intro p l e s mi args below meth c cells slots Q D cy ad A C H locs ls hR hP hS hl
  refine lv_imul C.1 C.2.1 hd ?_
  rw [← Int32.ofInt_mul]
  exact k C hR hP hS hl
theorem V_lsub {x y : Int} (hd : decode cc pc = .ok (.lsub, 1)) (k : VV own cc nL R G Po (pc + 1) lv (vl (x - y) :: st) m) : VV own cc nL R G Po pc lv (vl y :: vl x :: st) m := by
  intro p l e s mi args below meth c cells slots Q D cy ad A C H locs ls hR hP hS hl
  refine lv_lsub C.1 C.2.1 hd ?_
  rw [← Int64.ofInt_sub]
  exact k C hR hP hS hl
theorem V_idiv {x y : Int} (hd : decode cc pc = .ok (.idiv, 1)) (hx : inR x) (hy : inR y) (h : 0 ≤ x ∧ 0 < y) (k : VV own cc nL R G Po (pc + 1) lv (vi (x / y) :: st) m) : VV own cc nL R G Po pc lv (vi y :: vi x :: st) m := by
  intro p l e s mi args below meth c cells slots Q D cy ad A C H locs ls hR hP hS hl
  refine lv_idiv C.1 C.2.1 hd (by rw [oi_0, oi_eq hy inR0]; omega) ?_
  rw [oi_div hx hy h]
  exact k C hR hP hS hl
theorem V_i2l {x : Int} (hd : decode cc pc = .ok (.i2l, 1)) (hx : inR x) (k : VV own cc nL R G Po (pc + 1) lv (vl x :: st) m) : VV own cc nL R G Po pc lv (vi x :: st) m := by
  intro p l e s mi args below meth c cells slots Q D cy ad A C H locs ls hR hP hS hl
  exact lv_i2l C.1 C.2.1 hd (ol_i2l hx) (k C hR hP hS hl)
theorem V_lcmp {x y : Int} (hd : decode cc pc = .ok (.lcmp, 1)) (hx : inL x) (hy : inL y) (k : VV own cc nL R G Po (pc + 1) lv (vi (mmCmp x y) :: st) m) : VV own cc nL R G Po pc lv (vl y :: vl x :: st) m := by
  intro p l e s mi args below meth c cells slots Q D cy ad A C H locs ls hR hP hS hl
  refine W.lcmp C.1 C.2.1 hd ?_
  rw [ol_cmp hx hy]
  exact k C hR hP hS hl
theorem V_dupi {x : Int} (hd : decode cc pc = .ok (.dup, 1)) (k : VV own cc nL R G Po (pc + 1) lv (vi x :: vi x :: st) m) : VV own cc nL R G Po pc lv (vi x :: st) m := by
  intro p l e s mi args below meth c cells slots Q D cy ad A C H locs ls hR hP hS hl
  exact lv_dup C.1 C.2.1 hd rfl (k C hR hP hS hl)
theorem V_dupa {x : Nat} (hd : decode cc pc = .ok (.dup, 1)) (k : VV own cc nL R G Po (pc + 1) lv (.ref x :: .ref x :: st) m) : VV own cc nL R G Po pc lv (.ref x :: st) m := by
  intro p l e s mi args below meth c cells slots Q D cy ad A C H locs ls hR hP hS hl
  exact lv_dup C.1 C.2.1 hd rfl (k C hR hP hS hl)
theorem V_dup2 {x : Int} {a : Nat} (hd : decode cc pc = .ok (.dup2, 1)) (k : VV own cc nL R G Po (pc + 1) lv (vi x :: .ref a :: vi x :: .ref a :: st) m) : VV own cc nL R G Po pc lv (vi x :: .ref a :: st) m := by
  intro p l e s mi args below meth c cells slots Q D cy ad A C H locs ls hR hP hS hl
  exact lv_dup2_11 C.1 C.2.1 hd rfl rfl (k C hR hP hS hl)
theorem V_popi {x : Int} (hd : decode cc pc = .ok (.pop, 1)) (k : VV own cc nL R G Po (pc + 1) lv st m) : VV own cc nL R G Po pc lv (vi x :: st) m := by
  intro p l e s mi args below meth c cells slots Q D cy ad A C H locs ls hR hP hS hl
  exact lv_pop C.1 C.2.1 hd rfl (k C hR hP hS hl)
theorem V_goto {off : Int} (tgt : Nat) (hd : decode cc pc = .ok (.goto off, 3)) (ht : (pc : Int) + off = (tgt : Int)) (k : VV own cc nL R G Po tgt lv st m) : VV own cc nL R G Po pc lv st m := by
  intro p l e s mi args below meth c cells slots Q D cy ad A C H locs ls hR hP hS hl
  exact lv_goto C.1 C.2.1 hd ht (k C hR hP hS hl)
theorem V_ifnull {x : Nat} {off : Int} (hd : decode cc pc = .ok (.ifnull off, 3)) (k : VV own cc nL R G Po (pc + 3) lv st m) : VV own cc nL R G Po pc lv (.ref x :: st) m := by
  intro p l e s mi args below meth c cells slots Q D cy ad A C H locs ls hR hP hS hl
  exact lv_ifnull C.1 C.2.1 hd (k C hR hP hS hl)
theorem V_ifnonnull {x : Nat} {off : Int} (tgt : Nat) (hd : decode cc pc = .ok (.ifnonnull off, 3)) (ht : (pc : Int) + off = (tgt : Int)) (k : VV own cc nL R G Po tgt lv st m) : VV own cc nL R G Po pc lv (.ref x :: st) m := by
  intro p l e s mi args below meth c cells slots Q D cy ad A C H locs ls hR hP hS hl
  exact lv_ifnonnull C.1 C.2.1 hd ht (k C hR hP hS hl)
theorem V_icmp_eq {x y : Int} {off : Int} (tgt : Nat) (hd : decode cc pc = .ok (.if_icmp .eq off, 3)) (ht : (pc : Int) + off = (tgt : Int)) (hx : inR x) (hy : inR y) (kt : x = y → VV own cc nL R G Po tgt lv st m) (kf : ¬ x = y → VV own cc nL R G Po (pc + 3) lv st m) : VV own cc nL R G Po pc lv (vi y :: vi x :: st) m := by
  intro p l e s mi args below meth c cells slots Q D cy ad A C H locs ls hR hP hS hl
  exact lv_icmp_eq C.1 C.2.1 hd ht (fun z => kt ((oi_eq hx hy).mp z) C hR hP hS hl) (fun z => kf (fun q => z ((oi_eq hx hy).mpr q)) C hR hP hS hl)
theorem V_if_eq {x : Int} {off : Int} (tgt : Nat) (hd : decode cc pc = .ok (.ifCond .eq off, 3)) (ht : (pc : Int) + off = (tgt : Int)) (hx : inR x) (kt : x = 0 → VV own cc nL R G Po tgt lv st m) (kf : ¬ x = 0 → VV own cc nL R G Po (pc + 3) lv st m) : VV own cc nL R G Po pc lv (vi x :: st) m := by
  intro p l e s mi args below meth c cells slots Q D cy ad A C H locs ls hR hP hS hl
  exact lv_if_eq C.1 C.2.1 hd ht (fun z => kt ((oi_eq hx inR0).mp z) C hR hP hS hl) (fun z => kf (fun q => z ((oi_eq hx inR0).mpr q)) C hR hP hS hl)
theorem V_icmp_ne {x y : Int} {off : Int} (tgt : Nat) (hd : decode cc pc = .ok (.if_icmp .ne off, 3)) (ht : (pc : Int) + off = (tgt : Int)) (hx : inR x) (hy : inR y) (kt : ¬ x = y → VV own cc nL R G Po tgt lv st m) (kf : x = y → VV own cc nL R G Po (pc + 3) lv st m) : VV own cc nL R G Po pc lv (vi y :: vi x :: st) m := by
  intro p l e s mi args below meth c cells slots Q D cy ad A C H locs ls hR hP hS hl
  exact lv_icmp_ne C.1 C.2.1 hd ht (fun z => kt (fun q => z ((oi_eq hx hy).mpr q)) C hR hP hS hl) (fun z => kf ((oi_eq hx hy).mp (z)) C hR hP hS hl)
theorem V_if_ne {x : Int} {off : Int} (tgt : Nat) (hd : decode cc pc = .ok (.ifCond .ne off, 3)) (ht : (pc : Int) + off = (tgt : Int)) (hx : inR x) (kt : ¬ x = 0 → VV own cc nL R G Po tgt lv st m) (kf : x = 0 → VV own cc nL R G Po (pc + 3) lv st m) : VV own cc nL R G Po pc lv (vi x :: st) m := by
  intro p l e s mi args below meth c cells slots Q D cy ad A C H locs ls hR hP hS hl
  exact lv_if_ne C.1 C.2.1 hd ht (fun z => kt (fun q => z ((oi_eq hx inR0).mpr q)) C hR hP hS hl) (fun z => kf ((oi_eq hx inR0).mp (z)) C hR hP hS hl)
theorem V_icmp_lt {x y : Int} {off : Int} (tgt : Nat) (hd : decode cc pc = .ok (.if_icmp .lt off, 3)) (ht : (pc : Int) + off = (tgt : Int)) (hx : inR x) (hy : inR y) (kt : x < y → VV own cc nL R G Po tgt lv st m) (kf : ¬ x < y → VV own cc nL R G Po (pc + 3) lv st m) : VV own cc nL R G Po pc lv (vi y :: vi x :: st) m := by
  intro p l e s mi args below meth c cells slots Q D cy ad A C H locs ls hR hP hS hl
  exact lv_icmp_lt C.1 C.2.1 hd ht (fun z => kt ((oi_lt hx hy).mp z) C hR hP hS hl) (fun z => kf (fun q => z ((oi_lt hx hy).mpr q)) C hR hP hS hl)
theorem V_if_lt {x : Int} {off : Int} (tgt : Nat) (hd : decode cc pc = .ok (.ifCond .lt off, 3)) (ht : (pc : Int) + off = (tgt : Int)) (hx : inR x) (kt : x < 0 → VV own cc nL R G Po tgt lv st m) (kf : ¬ x < 0 → VV own cc nL R G Po (pc + 3) lv st m) : VV own cc nL R G Po pc lv (vi x :: st) m := by
  intro p l e s mi args below meth c cells slots Q D cy ad A C H locs ls hR hP hS hl
  exact lv_if_lt C.1 C.2.1 hd ht (fun z => kt ((oi_lt hx inR0).mp z) C hR hP hS hl) (fun z => kf (fun q => z ((oi_lt hx inR0).mpr q)) C hR hP hS hl)
theorem V_icmp_ge {x y : Int} {off : Int} (tgt : Nat) (hd : decode cc pc = .ok (.if_icmp .ge off, 3)) (ht : (pc : Int) + off = (tgt : Int)) (hx : inR x) (hy : inR y) (kt : y ≤ x → VV own cc nL R G Po tgt lv st m) (kf : ¬ y ≤ x → VV own cc nL R G Po (pc + 3) lv st m) : VV own cc nL R G Po pc lv (vi y :: vi x :: st) m := by
  intro p l e s mi args below meth c cells slots Q D cy ad A C H locs ls hR hP hS hl
  exact lv_icmp_ge C.1 C.2.1 hd ht (fun z => kt ((oi_le hy hx).mp z) C hR hP hS hl) (fun z => kf (fun q => z ((oi_le hy hx).mpr q)) C hR hP hS hl)
theorem V_if_ge {x : Int} {off : Int} (tgt : Nat) (hd : decode cc pc = .ok (.ifCond .ge off, 3)) (ht : (pc : Int) + off = (tgt : Int)) (hx : inR x) (kt : 0 ≤ x → VV own cc nL R G Po tgt lv st m) (kf : ¬ 0 ≤ x → VV own cc nL R G Po (pc + 3) lv st m) : VV own cc nL R G Po pc lv (vi x :: st) m := by
  intro p l e s mi args below meth c cells slots Q D cy ad A C H locs ls hR hP hS hl
  exact lv_if_ge C.1 C.2.1 hd ht (fun z => kt ((oi_le inR0 hx).mp z) C hR hP hS hl) (fun z => kf (fun q => z ((oi_le inR0 hx).mpr q)) C hR hP hS hl)
theorem V_icmp_gt {x y : Int} {off : Int} (tgt : Nat) (hd : decode cc pc = .ok (.if_icmp .gt off, 3)) (ht : (pc : Int) + off = (tgt : Int)) (hx : inR x) (hy : inR y) (kt : y < x → VV own cc nL R G Po tgt lv st m) (kf : ¬ y < x → VV own cc nL R G Po (pc + 3) lv st m) : VV own cc nL R G Po pc lv (vi y :: vi x :: st) m := by
  intro p l e s mi args below meth c cells slots Q D cy ad A C H locs ls hR hP hS hl
  exact lv_icmp_gt C.1 C.2.1 hd ht (fun z => kt ((oi_lt hy hx).mp z) C hR hP hS hl) (fun z => kf (fun q => z ((oi_lt hy hx).mpr q)) C hR hP hS hl)
theorem V_if_gt {x : Int} {off : Int} (tgt : Nat) (hd : decode cc pc = .ok (.ifCond .gt off, 3)) (ht : (pc : Int) + off = (tgt : Int)) (hx : inR x) (kt : 0 < x → VV own cc nL R G Po tgt lv st m) (kf : ¬ 0 < x → VV own cc nL R G Po (pc + 3) lv st m) : VV own cc nL R G Po pc lv (vi x :: st) m := by
  intro p l e s mi args below meth c cells slots Q D cy ad A C H locs ls hR hP hS hl
  exact lv_if_gt C.1 C.2.1 hd ht (fun z => kt ((oi_lt inR0 hx).mp z) C hR hP hS hl) (fun z => kf (fun q => z ((oi_lt inR0 hx).mpr q)) C hR hP hS hl)
theorem V_icmp_le {x y : Int} {off : Int} (tgt : Nat) (hd : decode cc pc = .ok (.if_icmp .le off, 3)) (ht : (pc : Int) + off = (tgt : Int)) (hx : inR x) (hy : inR y) (kt : x ≤ y → VV own cc nL R G Po tgt lv st m) (kf : ¬ x ≤ y → VV own cc nL R G Po (pc + 3) lv st m) : VV own cc nL R G Po pc lv (vi y :: vi x :: st) m := by
  intro p l e s mi args below meth c cells slots Q D cy ad A C H locs ls hR hP hS hl
  exact lv_icmp_le C.1 C.2.1 hd ht (fun z => kt ((oi_le hx hy).mp z) C hR hP hS hl) (fun z => kf (fun q => z ((oi_le hx hy).mpr q)) C hR hP hS hl)
theorem V_if_le {x : Int} {off : Int} (tgt : Nat) (hd : decode cc pc = .ok (.ifCond .le off, 3)) (ht : (pc : Int) + off = (tgt : Int)) (hx : inR x) (kt : x ≤ 0 → VV own cc nL R G Po tgt lv st m) (kf : ¬ x ≤ 0 → VV own cc nL R G Po (pc + 3) lv st m) : VV own cc nL R G Po pc lv (vi x :: st) m := by
  intro p l e s mi args below meth c cells slots Q D cy ad A C H locs ls hR hP hS hl
  exact lv_if_le C.1 C.2.1 hd ht (fun z => kt ((oi_le hx inR0).mp z) C hR hP hS hl) (fun z => kf (fun q => z ((oi_le hx inR0).mpr q)) C hR hP hS hl)
theorem V_tableOut {dflt lo hi : Int} {offs : Array Int} {len : Nat} {x : Int} (tgt : Nat) (hd : decode cc pc = .ok (.tableswitch dflt lo hi offs, len)) (hx : inR x) (h : x < lo ∨ hi < x) (ht : (pc : Int) + dflt = (tgt : Int)) (k : VV own cc nL R G Po tgt lv st m) : VV own cc nL R G Po pc lv (vi x :: st) m := by
  intro p l e s mi args below meth c cells slots Q D cy ad A C H locs ls hR hP hS hl
  exact lv_tableOut C.1 C.2.1 hd (by rw [Int32.toInt_ofInt_of_le (inR_lo hx).1 (inR_lo hx).2]; exact h) ht (k C hR hP hS hl)
theorem V_tableIn {dflt lo hi : Int} {offs : Array Int} {len : Nat} {x : Int} {off : Int} (v : Int) (tgt : Nat) (hd : decode cc pc = .ok (.tableswitch dflt lo hi offs, len)) (hx : x = v) (hv : inR v) (h : lo ≤ v ∧ v ≤ hi) (ho : offs[(v - lo).toNat]? = some off) (ht : (pc : Int) + off = (tgt : Int)) (k : VV own cc nL R G Po tgt lv st m) : VV own cc nL R G Po pc lv (vi x :: st) m := by
  intro p l e s mi args below meth c cells slots Q D cy ad A C H locs ls hR hP hS hl
  subst hx
  have e := Int32.toInt_ofInt_of_le (inR_lo hv).1 (inR_lo hv).2
  exact lv_tableIn C.1 C.2.1 hd (by rw [e]; omega) (by rw [e]; omega) (by rw [e]; exact ho) ht (k C hR hP hS hl)
theorem V_lookup {dflt : Int} {ps : Array (Int × Int)} {len : Nat} {x : Int} {off : Int} (tgt : Nat) (hd : decode cc pc = .ok (.lookupswitch dflt ps, len)) (hx : inR x) (hp : (ps.toList.zip (ps.toList.drop 1)).all (fun (a, next) => a.1 < next.1) = true) (ho : Op.lookupswitch.offset ps.toList dflt x = off) (ht : (pc : Int) + off = (tgt : Int)) (k : VV own cc nL R G Po tgt lv st m) : VV own cc nL R G Po pc lv (vi x :: st) m := by
  intro p l e s mi args below meth c cells slots Q D cy ad A C H locs ls hR hP hS hl
  exact lv_lookup C.1 C.2.1 hd hp (by rw [Int32.toInt_ofInt_of_le (inR_lo hx).1 (inR_lo hx).2]; exact ho) ht (k C hR hP hS hl)
theorem V_geti {index ci k N : Nat} {T : u_T} {Cn : String} {o : Nat} (hd : decode cc pc = .ok (.getfield index, 3)) (hin : ∀ w ∈ u_ws Cn T N, w ∈ mm_tb) (hw : Cond.fieldLink own index (T k).1 (T k).2.1 (T k).2.2.1 ∈ mm_tb) (hc : vwCl[ci]? = some (Cn, T, N)) (hk : k < N) (hf : (mmOff ci)[k]? = some none) (hs : mmSh[o]? = some (.inl ci)) (kk : inR (m.1 o k) → VV own cc nL R G Po (pc + 3) lv (vi (m.1 o k) :: st) m) : VV own cc nL R G Po pc lv (.ref o :: st) m := by
  intro p l e s mi args below meth c cells slots Q D cy ad A C H locs ls hR hP hS hl
  exact va_get (D := D) (ci := ci) C.1 C.2.1 C.2.2.2.2.1 hin C.2.2.2.1 C.2.2.2.2.2.2.2.1 hP o ((mmW_at cy ad m (mmSh_lt hs)).trans (by rw [mmCell_obj hs])) hc k hk (C.2.2.2.2.1 _ hw) (fun _ h9 => h9) (mmF_at hf) hd (kk (hR o k) C hR hP hS hl)
theorem V_geta {index ci k N d : Nat} {T : u_T} {Cn : String} {o : Nat} (hd : decode cc pc = .ok (.getfield index, 3)) (hin : ∀ w ∈ u_ws Cn T N, w ∈ mm_tb) (hw : Cond.fieldLink own index (T k).1 (T k).2.1 (T k).2.2.1 ∈ mm_tb) (hc : vwCl[ci]? = some (Cn, T, N)) (hk : k < N) (hf : (mmOff ci)[k]? = some (some d)) (hs : mmSh[o]? = some (.inl ci)) {o' : Nat} (ho : o + d = o') (kk : VV own cc nL R G Po (pc + 3) lv (.ref o' :: st) m) : VV own cc nL R G Po pc lv (.ref o :: st) m := by
  intro p l e s mi args below meth c cells slots Q D cy ad A C H locs ls hR hP hS hl
  exact va_get (D := D) (ci := ci) C.1 C.2.1 C.2.2.2.2.1 hin C.2.2.2.1 C.2.2.2.2.2.2.2.1 hP o ((mmW_at cy ad m (mmSh_lt hs)).trans (by rw [mmCell_obj hs])) hc k hk (C.2.2.2.2.1 _ hw) (fun _ h9 => h9) (mmF_at hf) hd (by subst ho; exact kk C hR hP hS hl)
theorem V_put {index ci k N : Nat} {T : u_T} {Cn : String} {o : Nat} {x : Int} {ty : FieldType} (ty0 : Nat → FieldType) (hd : decode cc pc = .ok (.putfield index, 3)) (hin : ∀ w ∈ u_ws Cn T N, w ∈ mm_tb) (hty : ∀ k, k < N → parseFieldDescriptor (T k).2.2.1 = some (ty0 k)) (hnm : ∀ a, a < N → ∀ b, b < N → a ≠ b → (T a).2.1 ≠ (T b).2.1) (hw : Cond.fieldLink own index (T k).1 (T k).2.1 (T k).2.2.1 ∈ mm_tb) (hc : vwCl[ci]? = some (Cn, T, N)) (hk : k < N) (hf : (mmOff ci)[k]? = some none) (hs : mmSh[o]? = some (.inl ci)) (hfin : (T k).2.2.2 = false) (hpd : parseFieldDescriptor (T k).2.2.1 = some ty) (hn : narrow ty (vi x) = vi x) (hfit : fits ty (vi x) = true) (hx : inR x) (kk : VV own cc nL R G Po (pc + 3) lv st (mwr m o k x)) : VV own cc nL R G Po pc lv (vi x :: .ref o :: st) m := by
  intro p l e s mi args below meth c cells slots Q D cy ad A C H locs ls hR hP hS hl
  have he := (mmW_at cy ad m (mmSh_lt hs)).trans (by rw [mmCell_obj hs])
  refine va_put (D := D) (ci := ci) C.1 C.2.1 C.2.2.2.2.1 hin ty0 hty hnm C.2.2.2.1 C.2.2.2.2.2.2.2.1 hP (C.2.2.2.2.2.2.2.2.1 m) hS o he hc k hk (C.2.2.2.2.1 _ hw) (fun _ h9 => h9) hfin hpd hn hfit (by have := (List.getElem?_eq_some_iff.mp hf).1; simpa [mmF] using this) hd (fun H1 locs1 hP1 _ hS1 => ?_)
  rw [show mmV ad (vi x) = vi x from rfl, mmF_set hf, mmW_set cy ad m (mwr m o k x) (mmSh_lt hs) (mmCell_obj hs) (fun j _ hj => mmCell_same (mwr_ne hj) rfl)] at hP1
  exact kk C (mwr_R hR hx) hP1 hS1 hl
theorem V_iald {n a : Nat} {i : Int} (hd : decode cc pc = .ok (.iaload, 1)) (hs : mmSh[a]? = some (.inr (0, n))) (hi : inR i) (hin : 0 ≤ i ∧ i < n) {j : Nat} (hj : i.toNat = j) (kk : inR (m.1 a j) → VV own cc nL R G Po (pc + 1) lv (vi (m.1 a j) :: st) m) : VV own cc nL R G Po pc lv (vi i :: .ref a :: st) m := by
  intro p l e s mi args below meth c cells slots Q D cy ad A C H locs ls hR hP hS hl
  subst hj
  refine va_iald C.1 C.2.1 C.2.2.2.2.2.2.2.1 hP a 0 ((mmW_at cy ad m (mmSh_lt hs)).trans (by rw [mmCell_int hs])) rfl (oi_in hi hin) hd ?_
  rw [oi_cl hi]
  exact kk (hR a i.toNat) C hR hP hS hl
theorem V_cald {n a : Nat} {i : Int} (hd : decode cc pc = .ok (.caload, 1)) (hs : mmSh[a]? = some (.inr (1, n))) (hi : inR i) (hin : 0 ≤ i ∧ i < n) {j : Nat} (hj : i.toNat = j) (kk : inR (m.1 a j) → VV own cc nL R G Po (pc + 1) lv (vi (m.1 a j) :: st) m) : VV own cc nL R G Po pc lv (vi i :: .ref a :: st) m := by
  intro p l e s mi args below meth c cells slots Q D cy ad A C H locs ls hR hP hS hl
  subst hj
  refine va_cald C.1 C.2.1 C.2.2.2.2.2.2.2.1 hP a 1 ((mmW_at cy ad m (mmSh_lt hs)).trans (by rw [mmCell_chr hs])) rfl (oi_in hi hin) hd ?_
  rw [oi_cl hi]
  exact kk (hR a i.toNat) C hR hP hS hl
theorem V_iast {n a : Nat} {i x : Int} (hd : decode cc pc = .ok (.iastore, 1)) (hs : mmSh[a]? = some (.inr (0, n))) (hi : inR i) (hx : inR x) (hin : 0 ≤ i ∧ i < n) {j : Nat} (hj : i.toNat = j) (kk : VV own cc nL R G Po (pc + 1) lv st (mwr m a j x)) : VV own cc nL R G Po pc lv (vi x :: vi i :: .ref a :: st) m := by
  intro p l e s mi args below meth c cells slots Q D cy ad A C H locs ls hR hP hS hl
  subst hj
  refine va_iast C.1 C.2.1 C.2.2.2.2.2.2.2.1 hP (C.2.2.2.2.2.2.2.2.1 m) hS a 0 ((mmW_at cy ad m (mmSh_lt hs)).trans (by rw [mmCell_int hs])) rfl (oi_in hi hin) hd (fun H1 locs1 hP1 _ hS1 => ?_)
  rw [oi_cl hi, mmRow_wr, mmW_set cy ad m (mwr m a i.toNat x) (mmSh_lt hs) (mmCell_int hs) (fun j _ hj => mmCell_same (mwr_ne hj) rfl)] at hP1
  exact kk C (mwr_R hR hx) hP1 hS1 hl
theorem V_cast {n a : Nat} {i x : Int} (hd : decode cc pc = .ok (.castore, 1)) (hs : mmSh[a]? = some (.inr (1, n))) (hi : inR i) (hx : inR x) (hin : 0 ≤ i ∧ i < n) (hc : 0 ≤ x ∧ x ≤ 65535) {j : Nat} (hj : i.toNat = j) (kk : VV own cc nL R G Po (pc + 1) lv st (mwr m a j x)) : VV own cc nL R G Po pc lv (vi x :: vi i :: .ref a :: st) m := by
  intro p l e s mi args below meth c cells slots Q D cy ad A C H locs ls hR hP hS hl
  subst hj
  have e := Int32.toInt_ofInt_of_le (inR_lo hx).1 (inR_lo hx).2
  have hn : vp_nar .char (Int32.ofInt x) = Int32.ofInt x := by
    show (Int32.ofInt x).toUInt32.toUInt16.toUInt32.toInt32 = _
    exact lg_i2c_small (by rw [e]; exact hc.1) (by rw [e]; omega)
  refine va_cast C.1 C.2.1 C.2.2.2.2.2.2.2.1 hP (C.2.2.2.2.2.2.2.2.1 m) hS a 1 ((mmW_at cy ad m (mmSh_lt hs)).trans (by rw [mmCell_chr hs])) rfl (oi_in hi hin) hd (fun H1 locs1 hP1 _ hS1 => ?_)
  rw [hn, oi_cl hi, mmRow_wr, mmW_set cy ad m (mwr m a i.toNat x) (mmSh_lt hs) (mmCell_chr hs) (fun j _ hj => mmCell_same (mwr_ne hj) rfl)] at hP1
  exact kk C (mwr_R hR hx) hP1 hS1 hl
theorem V_aald {n a q : Nat} {i : Int} (hd : decode cc pc = .ok (.aaload, 1)) (hs : mmSh[a]? = some (.inr (2, n))) (hi : inR i) (hin : 0 ≤ i ∧ i < n) {j : Nat} (hj : i.toNat = j) (hq : m.2 j = some q) (kk : VV own cc nL R G Po (pc + 1) lv (.ref q :: st) m) : VV own cc nL R G Po pc lv (vi i :: .ref a :: st) m := by
  intro p l e s mi args below meth c cells slots Q D cy ad A C H locs ls hR hP hS hl
  subst hj
  refine va_aldq C.1 C.2.1 C.2.2.2.2.2.2.2.1 hP a 2 ((mmW_at cy ad m (mmSh_lt hs)).trans (by rw [mmCell_ref hs])) rfl (oi_in hi hin) hd ?_
  rw [oi_cl hi, hq]
  exact kk C hR hP hS hl
/-- the one row of references is at the cell 20 -/
theorem V_aast {q : Nat} {i : Int} (hd : decode cc pc = .ok (.aastore, 1)) (hi : inR i) (hin : 0 ≤ i ∧ i < 4) (hs : mmSh[q]? = some (.inl 2)) {j : Nat} (hj : i.toNat = j) (kk : VV own cc nL R G Po (pc + 1) lv st (mwq m j q)) : VV own cc nL R G Po pc lv (.ref q :: vi i :: .ref 20 :: st) m := by
  intro p l e s mi args below meth c cells slots Q D cy ad A C H locs ls hR hP hS hl
  subst hj
  have h20 : mmSh[20]? = some (.inr (2, 4)) := by decide +kernel
  refine va_astq C.1 C.2.1 C.2.2.2.2.2.2.2.1 hP (C.2.2.2.2.2.2.2.2.1 m) hS 20 2 q 2 (r := (RX2, TX2, 10)) ((mmW_at cy ad m (mmSh_lt h20)).trans (by rw [mmCell_ref h20])) rfl ((mmW_at cy ad m (mmSh_lt hs)).trans (by rw [mmCell_obj hs])) rfl (oi_in hi hin) hd (fun H1 locs1 hP1 _ hS1 => ?_)
  have e : va_up (fun k => (m.2 k).map ad) i.toNat (some (ad q)) = fun k => ((mwq m i.toNat q).2 k).map ad := by
    funext k
    by_cases hk : k = i.toNat
    · simp [va_up, mwq, hk]
    · simp [va_up, mwq, hk]
  have h58 : ∀ j, j < 58 → j ≠ 20 → ∀ n, mmSh[j]? ≠ some (.inr (2, n)) := by
    intro j hj hne n hn
    have h2 : ∀ j, j < 58 → j ≠ 20 → mmK2 mmSh[j]? = true := by decide +kernel
    have h3 := h2 j hj hne
    rw [hn] at h3
    cases h3
  rw [oi_cl hi, e, mmW_set cy ad m (mwq m i.toNat q) (mmSh_lt h20) (mmCell_ref h20) (fun j hj hne => ?_)] at hP1
  · exact kk C hR hP1 hS1 hl
  · have hh := h58 j hj hne
    have h3 : ∀ j, j < 58 → ∀ t n, mmSh[j]? = some (.inr (t, n)) → t = 0 ∨ t = 1 ∨ t = 2 := by
      intro j hj t n hn
      have h4 : ∀ j, j < 58 → mmKd mmSh[j]? = true := by decide +kernel
      have h5 := h4 j hj
      rw [hn] at h5
      simpa [mmKd, or_assoc] using h5
    cases hz : mmSh[j]? with
    | none => exact absurd hz (by rw [List.getElem?_eq_some_iff.mpr ⟨by rw [mmSh_len]; exact hj, rfl⟩]; exact fun h => by cases h)
    | some z =>
      cases z with
      | inl ci => rw [mmCell_obj hz, mmCell_obj hz]; rfl
      | inr tn =>
        obtain ⟨t, n⟩ := tn
        rcases h3 j hj t n hz with rfl | rfl | rfl
        · rw [mmCell_int hz, mmCell_int hz]; rfl
        · rw [mmCell_chr hz, mmCell_chr hz]; rfl
        · exact absurd hz (hh n)
theorem V_ret {v : Option Value} (hr : mmRet cc pc v) (hq : Po v m) : VV own cc nL R G Po pc lv v.toList m := by
  intro p l e s mi args below meth c cells slots Q D cy ad A C H locs ls hR hP hS hl
  exact C.2.2.2.2.2.2.2.2.2.2 v m H locs ls pc hq hR hr hP hS
theorem V_reti {x : Int} (hd : decode cc pc = .ok (.ireturn, 1)) (hq : Po (some (vi x)) m) : VV own cc nL R G Po pc lv [vi x] m := V_ret (v := some (vi x)) (Or.inl ⟨x, rfl, hd⟩) hq
theorem V_retv (hd : decode cc pc = .ok (.return_, 1)) (hq : Po none m) : VV own cc nL R G Po pc lv [] m := V_ret (v := none) (Or.inr ⟨rfl, hd⟩) hq
/-- an exact contract over the whole memory: an int, or nothing, is answered -/
def mmPre (D : va_G) (cy : ClassId × ClassId × ClassId) (ad : Nat → Nat) (as : List Value) (m : Mem) (sz : Nat) : Array Value → State → Prop := va_Pc (as.map (mmV ad)) (fun U => U.heap.size = sz ∧ va_P D vwCl (mmW cy ad m) U.heap ∧ va_K D vwCl (mmT cy) U ∧ va_D (fun _ => True) (mmW cy ad m))
def mmWs (y : MethodName) (cc : ByteArray) (nL : Nat) (ret : Option FieldType) : List Cond := Cond.code y cc nL ret :: mm_tb
def CTi (y : MethodName) (cc : ByteArray) (nL : Nat) (ret : Option FieldType) (rm : Room) (as : List Value) (m : Mem) (r : Int × Mem) : Prop := mmR m → ∀ (l : Launch) (D : va_G) (cy : ClassId × ClassId × ClassId) (ad : Nat → Nat) (sz : Nat),
  Met l y (mmWs y cc nL ret) rm (mmPre D cy ad as m sz) (va_Qi (fun (r2 : Int32) (_ : Unit) => r2 = Int32.ofInt r.1 ∧ inR r.1 ∧ mmR r.2) (fun _ t => va_P D vwCl (mmW cy ad r.2) t.heap) (va_A (mmW cy ad m) sz)) 0 0 (va_A (mmW cy ad m) sz)
def CTv (y : MethodName) (cc : ByteArray) (nL : Nat) (rm : Room) (as : List Value) (m : Mem) (m' : Mem) : Prop := mmR m → ∀ (l : Launch) (D : va_G) (cy : ClassId × ClassId × ClassId) (ad : Nat → Nat) (sz : Nat),
  Met l y (mmWs y cc nL none) rm (mmPre D cy ad as m sz) (va_Qv (fun (_ : Unit) => mmR m') (fun _ t => va_P D vwCl (mmW cy ad m') t.heap) (va_A (mmW cy ad m) sz)) 0 0 (va_A (mmW cy ad m) sz)
theorem mmA_in {cy : ClassId × ClassId × ClassId} {ad : Nat → Nat} {m : Mem} {A : Nat → Prop} {H0 H : Heap} {locs : List Loc} (hD : va_D A (mmW cy ad m)) (hS : va_S A H0 H locs) (hA : ∀ q, H0.size ≤ q → A q) : ∀ q, va_A (mmW cy ad m) H.size q → A q := by
  intro q h
  rcases h with ⟨k, e, h⟩ | h
  · exact hD.2 k (q, e) h
  · exact hA q (Nat.le_trans hS.1 h)
theorem mmBlind (D : va_G) (cy : ClassId × ClassId × ClassId) (ad : Nat → Nat) (as : List Value) (m : Mem) (sz : Nat) : FrameBlind (mmPre D cy ad as m sz) := fun a U g mk q => by
  obtain ⟨q0, q1, qP, qK, qD⟩ := q
  exact ⟨q0, q1, qP, va_K.moved (u := U) (U := U.calling g mk a) (Vm.Alike.refl U.vm) qK, qD⟩
theorem mm_ok {w : Cond} (h : w ∈ mm_tb) : (w.onTables && w.keeps) = true ∨ ∃ ty, w = .arrayClass ty := good_of_word (List.mem_filter.mp h).2
theorem mmGV {own Cn : String} {index : Nat} {y : MethodName} {cc : ByteArray} {nL : Nat} {ret : Option FieldType} (gl : Cond.methodLink own index y ∈ mm_tb) (gi : Cond.instanceMethod y ∈ mm_tb) (gs : Cond.selects Cn y y ∈ mm_tb) (gt : Cond.initialized Cn ∈ mm_tb) (gc : Cond.code y cc nL ret ∈ mm_tb) : GoodIn mm_tb (wsV own index Cn y (mmWs y cc nL ret)) := by
  intro w hw
  have hm : w ∈ mm_tb := by
    simp only [wsV, mmWs, List.cons_append, List.nil_append, List.mem_cons] at hw
    rcases hw with rfl | rfl | rfl | rfl | rfl | hw <;> assumption
  exact ⟨hm, mm_ok hm⟩
theorem mmGS {own : String} {index : Nat} {y : MethodName} {cc : ByteArray} {nL : Nat} {ret : Option FieldType} (gl : Cond.methodLink own index y ∈ mm_tb) (gi : Cond.static y ∈ mm_tb) (gt : Cond.initialized y.cls ∈ mm_tb) (gc : Cond.code y cc nL ret ∈ mm_tb) : GoodIn mm_tb (va_wsS own index y (mmWs y cc nL ret)) := by
  intro w hw
  have hm : w ∈ mm_tb := by
    simp only [va_wsS, mmWs, List.cons_append, List.nil_append, List.mem_cons] at hw
    rcases hw with rfl | rfl | rfl | rfl | hw <;> assumption
  exact ⟨hm, mm_ok hm⟩
theorem V_callV {y : MethodName} {rm : Room} {as st0 : List Value} {r : Int × Mem} {bytes : ByteArray} {maxL index ci : Nat} {ret : Option FieldType} {Cn : String} {q : vw_C} {o : Nat} (n : Nat)
    (hd : decode cc pc = .ok (.invokevirtual index, 3)) (hM : CTi y bytes maxL ret rm (.ref o :: as) m r) (gl : Cond.methodLink own index y ∈ mm_tb) (gi : Cond.instanceMethod y ∈ mm_tb) (gs : Cond.selects Cn y y ∈ mm_tb) (gt : Cond.initialized Cn ∈ mm_tb) (gc : Cond.code y bytes maxL ret ∈ mm_tb)
    (hy : y.cls = Cn ∧ y.cls ≠ "java/lang/invoke/MethodHandle" ∧ y.cls ≠ "java/lang/invoke/VarHandle" ∧ (parseMethodDescriptor y.desc).map (fun d => d.parameters.length) = some n)
    (hrm : rm.cells = 0 ∧ rm.slots = 0 ∧ rm.frames + 1 ≤ R.frames ∧ 8 + (maxL + 11) + rm.locals ≤ R.locals) (hs : mmSh[o]? = some (.inl ci)) (hc : vwCl[ci]? = some q) (hq : q.1 = Cn) (hn : as.length = n)
    (hst : st0 = as.reverse ++ .ref o :: st) (hcat : (st.map fun v => v.category).sum ≤ 8) (kk : inR r.1 → VV own cc nL R G Po (pc + 3) lv (vi r.1 :: st) r.2) : VV own cc nL R G Po pc lv st0 m := by
  intro p l e s mi args below meth c cells slots Q D cy ad A C H locs ls hR hP hS hl
  subst hst
  obtain ⟨hx, hb, hml, hown, hts, hcs, hA, hK, hD, hG, hfin⟩ := id C
  have hFc := mmA_in (hD m) hS hA
  have he := (mmW_at cy ad m (mmSh_lt hs)).trans (by rw [mmCell_obj hs])
  have hrun := va_runV (As := as.map (mmV ad)) (rest := st.map (mmV ad)) (b := ad o) (C := Cn) (H := H) (locs := locs) (cells := cells) (slots := slots) (p := p) (e := e) (below := below) (meth := meth) (R := R) (g := F0 mi pc ls ((as.reverse ++ Value.ref o :: st).map (mmV ad))) ⟨hx, hb, hml, hown, hts⟩ (hM hR l D cy ad H.size) (cwV n hts (mmGV gl gi gs gt gc) rfl hrm.1 hrm.2.1 hy ⟨hrm.2.2.1, hrm.2.2.2⟩)
    ⟨mmBlind D cy ad _ m H.size, by rw [← hq]; exact va_recv hK hP hc he, fun U hU hW => ⟨rfl, by rw [hU], by rw [hU]; exact hP, va_K.moved hW.alike hK, (hD m).weaken (fun _ _ _ _ => trivial)⟩⟩
    rfl (by rw [List.length_map]; exact hn) hl.1 (by simp [mmV]) (lv_room (by rw [mmV_cats]; exact hcat)) hd ⟨by omega, by omega⟩
  refine va_calli hrun hS (fun q _ h => hFc q h) hFc (fun r1 u t H1 locs1 ht hvm hpo hB hz1 hk1 hS1 => ?_)
  obtain ⟨rfl, hr1, hr2⟩ := hpo
  rw [ht] at hB
  exact kk hr1 C hr2 hB hS1 hl
theorem V_callVv {y : MethodName} {rm : Room} {as st0 : List Value} {m' : Mem} {bytes : ByteArray} {maxL index ci : Nat} {Cn : String} {q : vw_C} {o : Nat} (n : Nat)
    (hd : decode cc pc = .ok (.invokevirtual index, 3)) (hM : CTv y bytes maxL rm (.ref o :: as) m m') (gl : Cond.methodLink own index y ∈ mm_tb) (gi : Cond.instanceMethod y ∈ mm_tb) (gs : Cond.selects Cn y y ∈ mm_tb) (gt : Cond.initialized Cn ∈ mm_tb) (gc : Cond.code y bytes maxL none ∈ mm_tb)
    (hy : y.cls = Cn ∧ y.cls ≠ "java/lang/invoke/MethodHandle" ∧ y.cls ≠ "java/lang/invoke/VarHandle" ∧ (parseMethodDescriptor y.desc).map (fun d => d.parameters.length) = some n)
    (hrm : rm.cells = 0 ∧ rm.slots = 0 ∧ rm.frames + 1 ≤ R.frames ∧ 8 + (maxL + 11) + rm.locals ≤ R.locals) (hs : mmSh[o]? = some (.inl ci)) (hc : vwCl[ci]? = some q) (hq : q.1 = Cn) (hn : as.length = n)
    (hst : st0 = as.reverse ++ .ref o :: st) (hcat : (st.map fun v => v.category).sum ≤ 8) (kk : VV own cc nL R G Po (pc + 3) lv st m') : VV own cc nL R G Po pc lv st0 m := by
  intro p l e s mi args below meth c cells slots Q D cy ad A C H locs ls hR hP hS hl
  subst hst
  obtain ⟨hx, hb, hml, hown, hts, hcs, hA, hK, hD, hG, hfin⟩ := id C
  have hFc := mmA_in (hD m) hS hA
  have he := (mmW_at cy ad m (mmSh_lt hs)).trans (by rw [mmCell_obj hs])
  have hrun := va_runV (As := as.map (mmV ad)) (rest := st.map (mmV ad)) (b := ad o) (C := Cn) (H := H) (locs := locs) (cells := cells) (slots := slots) (p := p) (e := e) (below := below) (meth := meth) (R := R) (g := F0 mi pc ls ((as.reverse ++ Value.ref o :: st).map (mmV ad))) ⟨hx, hb, hml, hown, hts⟩ (hM hR l D cy ad H.size) (cwV n hts (mmGV gl gi gs gt gc) rfl hrm.1 hrm.2.1 hy ⟨hrm.2.2.1, hrm.2.2.2⟩)
    ⟨mmBlind D cy ad _ m H.size, by rw [← hq]; exact va_recv hK hP hc he, fun U hU hW => ⟨rfl, by rw [hU], by rw [hU]; exact hP, va_K.moved hW.alike hK, (hD m).weaken (fun _ _ _ _ => trivial)⟩⟩
    rfl (by rw [List.length_map]; exact hn) hl.1 (by simp [mmV]) (lv_room (by rw [mmV_cats]; exact hcat)) hd ⟨by omega, by omega⟩
  refine va_callv hrun hS (fun q _ h => hFc q h) hFc (fun u t H1 locs1 ht hvm hpo hB hz1 hk1 hS1 => ?_)
  rw [ht] at hB
  exact kk C hpo hB hS1 hl
theorem V_callS {y : MethodName} {rm : Room} {as st0 : List Value} {r : Int × Mem} {bytes : ByteArray} {maxL index : Nat} {ret : Option FieldType} (n : Nat)
    (hd : decode cc pc = .ok (.invokestatic index, 3)) (hM : CTi y bytes maxL ret rm as m r) (gl : Cond.methodLink own index y ∈ mm_tb) (gi : Cond.static y ∈ mm_tb) (gt : Cond.initialized y.cls ∈ mm_tb) (gc : Cond.code y bytes maxL ret ∈ mm_tb)
    (hy : y.cls ≠ "java/lang/invoke/MethodHandle" ∧ y.cls ≠ "java/lang/invoke/VarHandle" ∧ (parseMethodDescriptor y.desc).map (fun d => d.parameters.length) = some n)
    (hrm : rm.cells = 0 ∧ rm.slots = 0 ∧ rm.frames + 1 ≤ R.frames ∧ 8 + (maxL + 11) + rm.locals ≤ R.locals) (hn : as.length = n)
    (hst : st0 = as.reverse ++ st) (hcat : (st.map fun v => v.category).sum ≤ 8) (kk : inR r.1 → VV own cc nL R G Po (pc + 3) lv (vi r.1 :: st) r.2) : VV own cc nL R G Po pc lv st0 m := by
  intro p l e s mi args below meth c cells slots Q D cy ad A C H locs ls hR hP hS hl
  subst hst
  obtain ⟨hx, hb, hml, hown, hts, hcs, hA, hK, hD, hG, hfin⟩ := id C
  have hFc := mmA_in (hD m) hS hA
  have hrun := va_runS (As := as.map (mmV ad)) (rest := st.map (mmV ad)) (H := H) (locs := locs) (cells := cells) (slots := slots) (p := p) (e := e) (below := below) (meth := meth) (R := R) (g := F0 mi pc ls ((as.reverse ++ st).map (mmV ad))) ⟨hx, hb, hml, hown, hts⟩ (hM hR l D cy ad H.size) (va_cwS n hts (mmGS gl gi gt gc) rfl hrm.1 hrm.2.1 hy ⟨hrm.2.2.1, hrm.2.2.2⟩)
    ⟨mmBlind D cy ad _ m H.size, fun U hU hW => ⟨rfl, by rw [hU], by rw [hU]; exact hP, va_K.moved hW.alike hK, (hD m).weaken (fun _ _ _ _ => trivial)⟩⟩
    rfl (by rw [List.length_map]; exact hn) hl.1 (by simp) (lv_room (by rw [mmV_cats]; exact hcat)) hd ⟨by omega, by omega⟩
  refine va_calli hrun hS (fun q _ h => hFc q h) hFc (fun r1 u t H1 locs1 ht hvm hpo hB hz1 hk1 hS1 => ?_)
  obtain ⟨rfl, hr1, hr2⟩ := hpo
  rw [ht] at hB
  exact kk hr1 C hr2 hB hS1 hl
theorem V_max {index : Nat} {x y : Int} (hd : decode cc pc = .ok (.invokestatic index, 3)) (hl1 : Cond.methodLink own index Lib.Math.max.name ∈ mm_tb) (hl2 : Cond.static Lib.Math.max.name ∈ mm_tb) (hl3 : Cond.initialized "java/lang/Math" ∈ mm_tb) (hl4 : Cond.code Lib.Math.max.name Lib.Math.max.code 2 (some .int) ∈ mm_tb) (hx : inR x) (hy : inR y) (hrm : 1 ≤ R.frames ∧ 21 ≤ R.locals) (hcat : (st.map fun v => v.category).sum ≤ 8) (kk : VV own cc nL R G Po (pc + 3) lv (vi (max x y) :: st) m) : VV own cc nL R G Po pc lv (vi y :: vi x :: st) m := by
  intro p l e s mi args below meth c cells slots Q D cy ad A C H locs ls hR hP hS hl
  refine va_mmax C.1 C.2.1 (C.2.2.1.trans hl.1.symm) C.2.2.2.1 (C.2.2.2.2.1 _ hl1) (C.2.2.2.2.1 _ hl2) (C.2.2.2.2.1 _ hl3) (C.2.2.2.2.1 _ hl4) hrm.1 (by rw [mmV_cats]; omega) C.2.2.2.2.2.1.1 C.2.2.2.2.2.1.2 hd ?_
  have e : (if Int32.ofInt x < Int32.ofInt y then Int32.ofInt y else Int32.ofInt x) = Int32.ofInt (max x y) := by
    by_cases h : x < y
    · rw [show max x y = y by omega, if_pos ((oi_lt hx hy).mpr h)]
    · rw [show max x y = x by omega, if_neg (fun z => h ((oi_lt hx hy).mp z))]
  rw [e]
  exact kk C hR hP hS hl
theorem V_min {index : Nat} {x y : Int} (hd : decode cc pc = .ok (.invokestatic index, 3)) (hl1 : Cond.methodLink own index Lib.Math.min.name ∈ mm_tb) (hl2 : Cond.static Lib.Math.min.name ∈ mm_tb) (hl3 : Cond.initialized "java/lang/Math" ∈ mm_tb) (hl4 : Cond.code Lib.Math.min.name Lib.Math.min.code 2 (some .int) ∈ mm_tb) (hx : inR x) (hy : inR y) (hrm : 1 ≤ R.frames ∧ 21 ≤ R.locals) (hcat : (st.map fun v => v.category).sum ≤ 8) (kk : VV own cc nL R G Po (pc + 3) lv (vi (min x y) :: st) m) : VV own cc nL R G Po pc lv (vi y :: vi x :: st) m := by
  intro p l e s mi args below meth c cells slots Q D cy ad A C H locs ls hR hP hS hl
  refine va_mmin C.1 C.2.1 (C.2.2.1.trans hl.1.symm) C.2.2.2.1 (C.2.2.2.2.1 _ hl1) (C.2.2.2.2.1 _ hl2) (C.2.2.2.2.1 _ hl3) (C.2.2.2.2.1 _ hl4) hrm.1 (by rw [mmV_cats]; omega) C.2.2.2.2.2.1.1 C.2.2.2.2.2.1.2 hd ?_
  have e : (if Int32.ofInt y < Int32.ofInt x then Int32.ofInt y else Int32.ofInt x) = Int32.ofInt (min x y) := by
    by_cases h : y < x
    · rw [show min x y = y by omega, if_pos ((oi_lt hy hx).mpr h)]
    · rw [show min x y = x by omega, if_neg (fun z => h ((oi_lt hy hx).mp z))]
  rw [e]
  exact kk C hR hP hS hl
theorem V_copy {index : Nat} {a0 a n0 n1 : Nat} {sp dp n : Int} (hd : decode cc pc = .ok (.invokestatic index, 3)) (hl1 : Cond.methodLink own index arraycopyName ∈ mm_tb) (hl2 : Cond.native arraycopyName ∈ mm_tb) (hl3 : Cond.static arraycopyName ∈ mm_tb) (hl4 : Cond.initialized "java/lang/System" ∈ mm_tb) (hs0 : mmSh[a0]? = some (.inr (0, n0))) (hs1 : mmSh[a]? = some (.inr (0, n1))) (h1 : inR sp) (h2 : inR dp) (h3 : inR n) (h4 : 0 ≤ sp ∧ 0 ≤ dp ∧ 0 ≤ n ∧ sp + n ≤ n0 ∧ dp + n ≤ n1) (hrm : 1 ≤ R.frames ∧ nativeFrameWords "java/lang/System" "arraycopy" 5 + 19 ≤ R.locals) (hcat : (st.map fun v => v.category).sum ≤ 8) {js jd jn : Nat} (hjs : sp.toNat = js) (hjd : dp.toNat = jd) (hjn : n.toNat = jn) (kk : VV own cc nL R G Po (pc + 3) lv st (mcp m a0 js a jd jn)) : VV own cc nL R G Po pc lv (vi n :: vi dp :: .ref a :: vi sp :: .ref a0 :: st) m := by
  intro p l e s mi args below meth c cells slots Q D cy ad A C H locs ls hR hP hS hl
  subst hjs hjd hjn
  have nn : ∀ z : Int, inR z → 0 ≤ z → ¬ Int32.ofInt z < 0 := fun z hz h => by rw [oi_0, oi_lt hz inR0]; omega
  refine va_copyi C.1 C.2.1 (C.2.2.1.trans hl.1.symm) C.2.2.2.1 (C.2.2.2.2.1 _ hl1) (C.2.2.2.2.1 _ hl2) (C.2.2.2.2.1 _ hl3) (C.2.2.2.2.1 _ hl4) C.2.2.2.2.2.2.2.1 hP (C.2.2.2.2.2.2.2.2.1 m) hS a0 a 0 0 ((mmW_at cy ad m (mmSh_lt hs0)).trans (by rw [mmCell_int hs0])) ((mmW_at cy ad m (mmSh_lt hs1)).trans (by rw [mmCell_int hs1])) rfl rfl rfl (nn _ h1 h4.1) (nn _ h2 h4.2.1) (nn _ h3 h4.2.2.1) (by rw [oi_cl h1, oi_cl h3]; omega) (by rw [oi_cl h2, oi_cl h3]; omega) (fun _ _ => rfl) hrm.1 (by rw [mmV_cats]; omega) hd (fun H1 locs1 hP1 _ hS1 => ?_)
  rw [oi_cl h1, oi_cl h2, oi_cl h3, mmRow_cp, mmW_set cy ad m (mcp m a0 sp.toNat a dp.toNat n.toNat) (mmSh_lt hs1) (mmCell_int hs1) (fun j _ hj => mmCell_same (by simp [mcp, hj]) rfl)] at hP1
  exact kk C (mcp_R hR) hP1 hS1 hl
end RULES

/-- a contract out of a judgement at the entry -/
theorem mm_narZ {x : Int} (h : x = 0 ∨ x = 1) : narrow .boolean (vi x) = vi x := by rcases h with rfl | rfl <;> decide +kernel
def mmPi (r : Int × Mem) : Option Value → Mem → Prop := fun v m' => v = some (vi r.1) ∧ m' = r.2 ∧ inR r.1
def mmPz (r : Int × Mem) : Option Value → Mem → Prop := fun v m' => v = some (vi r.1) ∧ m' = r.2 ∧ (r.1 = 0 ∨ r.1 = 1)
def mmPv (r : Mem) : Option Value → Mem → Prop := fun v m' => v = none ∧ m' = r
theorem mm_args (ad : Nat → Nat) (as : List Value) : ∀ i, lv_args i (as.map (mmV ad)) = mmL ad (lv_args i as) := by
  induction as with
  | nil => intro i; rfl
  | cons a t ih =>
    intro i
    simp only [List.map_cons, lv_args, mmL, mmV_cat]
    rw [ih]
    rfl
theorem mm_slots (ad : Nat → Nat) (as : List Value) : (lg_sl (as.map (mmV ad))).length = (lg_sl as).length := by
  induction as with
  | nil => rfl
  | cons a t ih =>
    simp only [lg_sl, List.map_cons, List.flatMap_cons, List.length_append, mmV_cat] at ih ⊢
    rw [ih]
    split <;> rfl
theorem CT_i {y : MethodName} {rm : Room} {as : List Value} {m : Mem} {r : Int × Mem} {cc : ByteArray} {nL : Nat} {own : String} (hy : plainName y.cls = true) (hown : y.cls = own) (hn : (lg_sl as).length ≤ nL) (h : VV own cc nL rm mmG0 (mmPi r) 0 (lv_args 0 as) [] m) : CTi y cc nL (some .int) rm as m r := by
  intro hmR l D cy ad sz
  refine Met.ofW (cc := cc) (maxL := nL) (ret := some .int) hy rfl ?_
  intro p e s mi args below meth c s₁ B hml hv
  obtain ⟨rfl, hsz, hP, hK, hD0⟩ := hv
  subst hsz hown
  have hD : ∀ m2, va_D (va_A (mmW cy ad m) s.heap.size) (mmW cy ad m2) := fun m2 => ⟨fun i j p q hi hj hpq => by
      have hi2 := (List.getElem?_eq_some_iff.mp hi).1
      have hj2 := (List.getElem?_eq_some_iff.mp hj).1
      rw [mmW_len] at hi2 hj2
      rw [mmW_at cy ad m2 hi2] at hi
      rw [mmW_at cy ad m2 hj2] at hj
      cases hi; cases hj
      exact hD0.1 i j _ _ (mmW_at cy ad m hi2) (mmW_at cy ad m hj2) hpq, fun k q hk => by
      have hk2 := (List.getElem?_eq_some_iff.mp hk).1
      rw [mmW_len] at hk2
      rw [mmW_at cy ad m2 hk2] at hk
      cases hk
      exact Or.inl ⟨k, _, mmW_at cy ad m hk2⟩⟩
  rw [lg_entry_eq]
  refine h (ad := ad) (cy := cy) (D := D) (A := va_A (mmW cy ad m) s.heap.size) ⟨B.exec, B.bytes, hml, findClass_of_methodNamed B.named, fun w hw => atoms_spec (ws := mmWs y cc nL (some .int)) B.pre w (List.mem_cons_of_mem _ hw), ⟨Nat.zero_le _, Nat.zero_le _⟩, fun q hq => Or.inr hq, hK, hD, trivial, ?_⟩ hmR hP va_S.rf ?_
  · intro v m' H' locs' ls' pc' hpo hR' hret hP' hS'
    obtain ⟨rfl, rfl, hr⟩ := hpo
    rcases hret with ⟨x, hx, hdg⟩ | ⟨hx, _⟩
    · exact W.iret B.exec B.bytes B.returns (fun t ht hW => ⟨⟨_, (), rfl, ⟨rfl, hr, hR'⟩, by show va_P _ _ _ _; rw [ht]; exact hP'⟩, hS'.F ht⟩) hS'.2.2 hdg B.notSynchronized
    · cases hx
  · have := lv_entry (as.map (mmV ad)) (n := nL) (by rw [mm_slots]; exact hn)
    rw [mm_args] at this
    exact this
theorem CT_z {y : MethodName} {rm : Room} {as : List Value} {m : Mem} {r : Int × Mem} {cc : ByteArray} {nL : Nat} {own : String} (hy : plainName y.cls = true) (hown : y.cls = own) (hn : (lg_sl as).length ≤ nL) (h : VV own cc nL rm mmG0 (mmPz r) 0 (lv_args 0 as) [] m) : CTi y cc nL (some .boolean) rm as m r := by
  intro hmR l D cy ad sz
  refine Met.ofW (cc := cc) (maxL := nL) (ret := some .boolean) hy rfl ?_
  intro p e s mi args below meth c s₁ B hml hv
  obtain ⟨rfl, hsz, hP, hK, hD0⟩ := hv
  subst hsz hown
  have hD : ∀ m2, va_D (va_A (mmW cy ad m) s.heap.size) (mmW cy ad m2) := fun m2 => ⟨fun i j p q hi hj hpq => by
      have hi2 := (List.getElem?_eq_some_iff.mp hi).1
      have hj2 := (List.getElem?_eq_some_iff.mp hj).1
      rw [mmW_len] at hi2 hj2
      rw [mmW_at cy ad m2 hi2] at hi
      rw [mmW_at cy ad m2 hj2] at hj
      cases hi; cases hj
      exact hD0.1 i j _ _ (mmW_at cy ad m hi2) (mmW_at cy ad m hj2) hpq, fun k q hk => by
      have hk2 := (List.getElem?_eq_some_iff.mp hk).1
      rw [mmW_len] at hk2
      rw [mmW_at cy ad m2 hk2] at hk
      cases hk
      exact Or.inl ⟨k, _, mmW_at cy ad m hk2⟩⟩
  rw [lg_entry_eq]
  refine h (ad := ad) (cy := cy) (D := D) (A := va_A (mmW cy ad m) s.heap.size) ⟨B.exec, B.bytes, hml, findClass_of_methodNamed B.named, fun w hw => atoms_spec (ws := mmWs y cc nL (some .boolean)) B.pre w (List.mem_cons_of_mem _ hw), ⟨Nat.zero_le _, Nat.zero_le _⟩, fun q hq => Or.inr hq, hK, hD, trivial, ?_⟩ hmR hP va_S.rf ?_
  · intro v m' H' locs' ls' pc' hpo hR' hret hP' hS'
    obtain ⟨rfl, rfl, hr⟩ := hpo
    rcases hret with ⟨x, hx, hdg⟩ | ⟨hx, _⟩
    · exact W.zret B.exec B.bytes B.returns (mm_narZ hr) (fun t ht hW => ⟨⟨_, (), rfl, ⟨rfl, by rcases hr with hr | hr <;> rw [hr] <;> decide, hR'⟩, by show va_P _ _ _ _; rw [ht]; exact hP'⟩, hS'.F ht⟩) hS'.2.2 hdg B.notSynchronized
    · cases hx
  · have := lv_entry (as.map (mmV ad)) (n := nL) (by rw [mm_slots]; exact hn)
    rw [mm_args] at this
    exact this
theorem CT_v {y : MethodName} {rm : Room} {as : List Value} {m : Mem} {r : Mem} {cc : ByteArray} {nL : Nat} {own : String} (hy : plainName y.cls = true) (hown : y.cls = own) (hn : (lg_sl as).length ≤ nL) (h : VV own cc nL rm mmG0 (mmPv r) 0 (lv_args 0 as) [] m) : CTv y cc nL rm as m r := by
  intro hmR l D cy ad sz
  refine Met.ofW (cc := cc) (maxL := nL) (ret := none) hy rfl ?_
  intro p e s mi args below meth c s₁ B hml hv
  obtain ⟨rfl, hsz, hP, hK, hD0⟩ := hv
  subst hsz hown
  have hD : ∀ m2, va_D (va_A (mmW cy ad m) s.heap.size) (mmW cy ad m2) := fun m2 => ⟨fun i j p q hi hj hpq => by
      have hi2 := (List.getElem?_eq_some_iff.mp hi).1
      have hj2 := (List.getElem?_eq_some_iff.mp hj).1
      rw [mmW_len] at hi2 hj2
      rw [mmW_at cy ad m2 hi2] at hi
      rw [mmW_at cy ad m2 hj2] at hj
      cases hi; cases hj
      exact hD0.1 i j _ _ (mmW_at cy ad m hi2) (mmW_at cy ad m hj2) hpq, fun k q hk => by
      have hk2 := (List.getElem?_eq_some_iff.mp hk).1
      rw [mmW_len] at hk2
      rw [mmW_at cy ad m2 hk2] at hk
      cases hk
      exact Or.inl ⟨k, _, mmW_at cy ad m hk2⟩⟩
  rw [lg_entry_eq]
  refine h (ad := ad) (cy := cy) (D := D) (A := va_A (mmW cy ad m) s.heap.size) ⟨B.exec, B.bytes, hml, findClass_of_methodNamed B.named, fun w hw => atoms_spec (ws := mmWs y cc nL none) B.pre w (List.mem_cons_of_mem _ hw), ⟨Nat.zero_le _, Nat.zero_le _⟩, fun q hq => Or.inr hq, hK, hD, trivial, ?_⟩ hmR hP va_S.rf ?_
  · intro v m' H' locs' ls' pc' hpo hR' hret hP' hS'
    obtain ⟨rfl, rfl⟩ := hpo
    rcases hret with ⟨x, hx, _⟩ | ⟨hx, hdg⟩
    · cases hx
    · exact W.vret B.exec B.bytes B.returns (fun t ht hW => ⟨⟨(), rfl, hR', by show va_P _ _ _ _; rw [ht]; exact hP'⟩, hS'.F ht⟩) hS'.2.2 hdg B.notSynchronized
  · have := lv_entry (as.map (mmV ad)) (n := nL) (by rw [mm_slots]; exact hn)
    rw [mm_args] at this
    exact this
end
section
theorem iuX0 : ∀ w ∈ u_ws RX0 TX0 2, w ∈ mm_tb := mm_inU inX0 (by decide +kernel)
theorem iuX1 : ∀ w ∈ u_ws RX1 TX1 8, w ∈ mm_tb := mm_inU inX1 (by decide +kernel)
theorem iuX2 : ∀ w ∈ u_ws RX2 TX2 10, w ∈ mm_tb := mm_inU inX2 (by decide +kernel)
theorem iuX3 : ∀ w ∈ u_ws RX3 TX3 6, w ∈ mm_tb := mm_inU inX3 (by decide +kernel)
theorem iuX4 : ∀ w ∈ u_ws RX4 TX4 12, w ∈ mm_tb := mm_inU inX4 (by decide +kernel)
theorem mmS1 {o : Nat} (h : mmSh[o]? = some (.inl 2)) : mmSh[o + 1]? = some (.inr (0, 24)) := by
  have hh : ∀ o, o < 58 → mmSh[o]? = some (.inl 2) → mmSh[o + 1]? = some (.inr (0, 24)) := by decide +kernel
  exact hh o (mmSh_lt h) h
theorem mmS2 {o : Nat} (h : mmSh[o]? = some (.inl 2)) : mmSh[o + 2]? = some (.inr (0, 24)) := by
  have hh : ∀ o, o < 58 → mmSh[o]? = some (.inl 2) → mmSh[o + 2]? = some (.inr (0, 24)) := by decide +kernel
  exact hh o (mmSh_lt h) h
theorem mmS3 {o : Nat} (h : mmSh[o]? = some (.inl 2)) : mmSh[o + 3]? = some (.inr (0, 24)) := by
  have hh : ∀ o, o < 58 → mmSh[o]? = some (.inl 2) → mmSh[o + 3]? = some (.inr (0, 24)) := by decide +kernel
  exact hh o (mmSh_lt h) h
theorem mmS4 {o : Nat} (h : mmSh[o]? = some (.inl 2)) : mmSh[o + 4]? = some (.inr (0, 24)) := by
  have hh : ∀ o, o < 58 → mmSh[o]? = some (.inl 2) → mmSh[o + 4]? = some (.inr (0, 24)) := by decide +kernel
  exact hh o (mmSh_lt h) h
theorem mmS5 {o : Nat} (h : mmSh[o]? = some (.inl 2)) : mmSh[o + 5]? = some (.inr (0, 24)) := by
  have hh : ∀ o, o < 58 → mmSh[o]? = some (.inl 2) → mmSh[o + 5]? = some (.inr (0, 24)) := by decide +kernel
  exact hh o (mmSh_lt h) h
theorem sh_0 : mmSh[0]? = some (.inl 3) := by decide +kernel
theorem sh_1 : mmSh[1]? = some (.inl 2) := by decide +kernel
theorem sh_7 : mmSh[7]? = some (.inl 2) := by decide +kernel
theorem sh_13 : mmSh[13]? = some (.inl 2) := by decide +kernel
theorem sh_19 : mmSh[19]? = some (.inl 0) := by decide +kernel
theorem sh_20 : mmSh[20]? = some (.inr (2, 4)) := by decide +kernel
theorem sh_45 : mmSh[45]? = some (.inl 1) := by decide +kernel
theorem sh_46 : mmSh[46]? = some (.inr (1, 60)) := by decide +kernel
theorem sh_47 : mmSh[47]? = some (.inr (0, 12)) := by decide +kernel
theorem sh_48 : mmSh[48]? = some (.inr (0, 12)) := by decide +kernel
theorem sh_49 : mmSh[49]? = some (.inr (0, 12)) := by decide +kernel
theorem sh_50 : mmSh[50]? = some (.inr (0, 12)) := by decide +kernel
theorem sh_51 : mmSh[51]? = some (.inl 4) := by decide +kernel
theorem sh_52 : mmSh[52]? = some (.inr (0, 149)) := by decide +kernel
theorem sh_53 : mmSh[53]? = some (.inr (0, 149)) := by decide +kernel
theorem sh_54 : mmSh[54]? = some (.inr (0, 596)) := by decide +kernel
theorem sh_55 : mmSh[55]? = some (.inr (0, 149)) := by decide +kernel
theorem sh_56 : mmSh[56]? = some (.inr (0, 6)) := by decide +kernel
theorem sh_57 : mmSh[57]? = some (.inr (0, 60)) := by decide +kernel
theorem ir_0 : inR 0 := by decide
theorem ir_1 : inR 1 := by decide
theorem ir_10 : inR 10 := by decide
theorem ir_100 : inR 100 := by decide
theorem ir_1000 : inR 1000 := by decide
theorem ir_12 : inR 12 := by decide
theorem ir_149 : inR 149 := by decide
theorem ir_2 : inR 2 := by decide
theorem ir_24 : inR 24 := by decide
theorem ir_26 : inR 26 := by decide
theorem ir_3 : inR 3 := by decide
theorem ir_4 : inR 4 := by decide
theorem ir_40 : inR 40 := by decide
theorem ir_44 : inR 44 := by decide
theorem ir_447 : inR 447 := by decide
theorem ir_48 : inR 48 := by decide
theorem ir_5 : inR 5 := by decide
theorem ir_57 : inR 57 := by decide
theorem ir_59 : inR 59 := by decide
theorem ir_6 : inR 6 := by decide
theorem ir_60 : inR 60 := by decide
theorem ir_61 : inR 61 := by decide
theorem ir_62 : inR 62 := by decide
theorem ir_65 : inR 65 := by decide
theorem ir_676 : inR 676 := by decide
theorem ir_90 : inR 90 := by decide
theorem ir_9999 : inR 9999 := by decide
theorem ir_m1 : inR (-1) := by decide
theorem ir_m100 : inR (-100) := by decide
theorem ir_m2 : inR (-2) := by decide
theorem ir_m3 : inR (-3) := by decide
theorem ir_m5 : inR (-5) := by decide
theorem ir_m6 : inR (-6) := by decide
theorem ir_m7 : inR (-7) := by decide
theorem inRL {x : Int} (h : inR x) : inL x := by have := h.1; have := h.2; constructor <;> omega
theorem inR_max {x y : Int} (hx : inR x) (hy : inR y) : inR (max x y) := by have := hx.1; have := hx.2; have := hy.1; have := hy.2; constructor <;> omega
theorem inR_min {x y : Int} (hx : inR x) (hy : inR y) : inR (min x y) := by have := hx.1; have := hx.2; have := hy.1; have := hy.2; constructor <;> omega
theorem fl_X0_17 : Cond.fieldLink RX0 17 (TX0 1).1 (TX0 1).2.1 (TX0 1).2.2.1 ∈ mm_tb := mm_in 124 (by decide +kernel) (by decide +kernel)
theorem fl_X0_11 : Cond.fieldLink RX0 11 (TX0 0).1 (TX0 0).2.1 (TX0 0).2.2.1 ∈ mm_tb := mm_in 123 (by decide +kernel) (by decide +kernel)
theorem fl_X2_9 : Cond.fieldLink RX2 9 (TX2 0).1 (TX2 0).2.1 (TX2 0).2.2.1 ∈ mm_tb := mm_in 82 (by decide +kernel) (by decide +kernel)
theorem ml_X2_43 : Cond.methodLink RX2 43 arraycopyName ∈ mm_tb := mm_in 189 (by decide +kernel) (by decide +kernel)
theorem na_copy : Cond.native arraycopyName ∈ mm_tb := mm_in 191 (by decide +kernel) (by decide +kernel)
theorem st_copy : Cond.static arraycopyName ∈ mm_tb := mm_in 190 (by decide +kernel) (by decide +kernel)
theorem it_System : Cond.initialized "java/lang/System" ∈ mm_tb := mm_in 66 (by decide +kernel) (by decide +kernel)
theorem fl_X2_15 : Cond.fieldLink RX2 15 (TX2 1).1 (TX2 1).2.1 (TX2 1).2.2.1 ∈ mm_tb := mm_in 83 (by decide +kernel) (by decide +kernel)
theorem fl_X2_18 : Cond.fieldLink RX2 18 (TX2 2).1 (TX2 2).2.1 (TX2 2).2.2.1 ∈ mm_tb := mm_in 84 (by decide +kernel) (by decide +kernel)
theorem fl_X2_21 : Cond.fieldLink RX2 21 (TX2 3).1 (TX2 3).2.1 (TX2 3).2.2.1 ∈ mm_tb := mm_in 85 (by decide +kernel) (by decide +kernel)
theorem fl_X2_24 : Cond.fieldLink RX2 24 (TX2 4).1 (TX2 4).2.1 (TX2 4).2.2.1 ∈ mm_tb := mm_in 86 (by decide +kernel) (by decide +kernel)
theorem fl_X2_27 : Cond.fieldLink RX2 27 (TX2 5).1 (TX2 5).2.1 (TX2 5).2.2.1 ∈ mm_tb := mm_in 87 (by decide +kernel) (by decide +kernel)
theorem fl_X2_31 : Cond.fieldLink RX2 31 (TX2 6).1 (TX2 6).2.1 (TX2 6).2.2.1 ∈ mm_tb := mm_in 88 (by decide +kernel) (by decide +kernel)
theorem fl_X2_34 : Cond.fieldLink RX2 34 (TX2 7).1 (TX2 7).2.1 (TX2 7).2.2.1 ∈ mm_tb := mm_in 89 (by decide +kernel) (by decide +kernel)
theorem fl_X2_37 : Cond.fieldLink RX2 37 (TX2 8).1 (TX2 8).2.1 (TX2 8).2.2.1 ∈ mm_tb := mm_in 90 (by decide +kernel) (by decide +kernel)
theorem fl_X2_40 : Cond.fieldLink RX2 40 (TX2 9).1 (TX2 9).2.1 (TX2 9).2.2.1 ∈ mm_tb := mm_in 91 (by decide +kernel) (by decide +kernel)
theorem ml_X0_25 : Cond.methodLink RX0 25 yX2_copyFrom ∈ mm_tb := mm_in 256 (by decide +kernel) (by decide +kernel)
theorem cd_X2_copyFrom : Cond.code yX2_copyFrom cX2_copyFrom 2 none ∈ mm_tb := mm_in 188 (by decide +kernel) (by decide +kernel)
theorem im_X2_copyFrom : Cond.instanceMethod yX2_copyFrom ∈ mm_tb := mm_in 186 (by decide +kernel) (by decide +kernel)
theorem sl_X2_copyFrom : Cond.selects RX2 yX2_copyFrom yX2_copyFrom ∈ mm_tb := mm_in 187 (by decide +kernel) (by decide +kernel)
theorem it_X2 : Cond.initialized RX2 ∈ mm_tb := mm_in 62 (by decide +kernel) (by decide +kernel)
theorem ml_X0_22 : Cond.methodLink RX0 22 yX0_dropOldest ∈ mm_tb := mm_in 252 (by decide +kernel) (by decide +kernel)
theorem cd_X0_dropOldest : Cond.code yX0_dropOldest cX0_dropOldest 3 none ∈ mm_tb := mm_in 255 (by decide +kernel) (by decide +kernel)
theorem im_X0_dropOldest : Cond.instanceMethod yX0_dropOldest ∈ mm_tb := mm_in 254 (by decide +kernel) (by decide +kernel)
theorem sl_X0_dropOldest : Cond.selects RX0 yX0_dropOldest yX0_dropOldest ∈ mm_tb := mm_in 10 (by decide +kernel) (by decide +kernel)
theorem it_X0 : Cond.initialized RX0 ∈ mm_tb := mm_in 63 (by decide +kernel) (by decide +kernel)
theorem fl_X1_15 : Cond.fieldLink RX1 15 (TX1 1).1 (TX1 1).2.1 (TX1 1).2.2.1 ∈ mm_tb := mm_in 137 (by decide +kernel) (by decide +kernel)
theorem fl_X1_9 : Cond.fieldLink RX1 9 (TX1 0).1 (TX1 0).2.1 (TX1 0).2.2.1 ∈ mm_tb := mm_in 136 (by decide +kernel) (by decide +kernel)
theorem fl_X1_35 : Cond.fieldLink RX1 35 (TX1 7).1 (TX1 7).2.1 (TX1 7).2.2.1 ∈ mm_tb := mm_in 143 (by decide +kernel) (by decide +kernel)
theorem ml_X1_77 : Cond.methodLink RX1 77 yX1_next ∈ mm_tb := mm_in 321 (by decide +kernel) (by decide +kernel)
theorem cd_X1_next : Cond.code yX1_next cX1_next 1 (some .int) ∈ mm_tb := mm_in 324 (by decide +kernel) (by decide +kernel)
theorem im_X1_next : Cond.instanceMethod yX1_next ∈ mm_tb := mm_in 323 (by decide +kernel) (by decide +kernel)
theorem sl_X1_next : Cond.selects RX1 yX1_next yX1_next ∈ mm_tb := mm_in 17 (by decide +kernel) (by decide +kernel)
theorem it_X1 : Cond.initialized RX1 ∈ mm_tb := mm_in 64 (by decide +kernel) (by decide +kernel)
theorem ml_X1_74 : Cond.methodLink RX1 74 yX1_readLetter ∈ mm_tb := mm_in 317 (by decide +kernel) (by decide +kernel)
theorem cd_X1_readLetter : Cond.code yX1_readLetter cX1_readLetter 2 (some .int) ∈ mm_tb := mm_in 320 (by decide +kernel) (by decide +kernel)
theorem im_X1_readLetter : Cond.instanceMethod yX1_readLetter ∈ mm_tb := mm_in 319 (by decide +kernel) (by decide +kernel)
theorem sl_X1_readLetter : Cond.selects RX1 yX1_readLetter yX1_readLetter ∈ mm_tb := mm_in 16 (by decide +kernel) (by decide +kernel)
theorem ml_X1_80 : Cond.methodLink RX1 80 yX1_nextDigit ∈ mm_tb := mm_in 337 (by decide +kernel) (by decide +kernel)
theorem cd_X1_nextDigit : Cond.code yX1_nextDigit cX1_nextDigit 2 (some .int) ∈ mm_tb := mm_in 340 (by decide +kernel) (by decide +kernel)
theorem im_X1_nextDigit : Cond.instanceMethod yX1_nextDigit ∈ mm_tb := mm_in 339 (by decide +kernel) (by decide +kernel)
theorem sl_X1_nextDigit : Cond.selects RX1 yX1_nextDigit yX1_nextDigit ∈ mm_tb := mm_in 21 (by decide +kernel) (by decide +kernel)
theorem fl_X1_32 : Cond.fieldLink RX1 32 (TX1 6).1 (TX1 6).2.1 (TX1 6).2.2.1 ∈ mm_tb := mm_in 142 (by decide +kernel) (by decide +kernel)
theorem fl_X1_19 : Cond.fieldLink RX1 19 (TX1 2).1 (TX1 2).2.1 (TX1 2).2.2.1 ∈ mm_tb := mm_in 138 (by decide +kernel) (by decide +kernel)
theorem fl_X1_23 : Cond.fieldLink RX1 23 (TX1 3).1 (TX1 3).2.1 (TX1 3).2.2.1 ∈ mm_tb := mm_in 139 (by decide +kernel) (by decide +kernel)
theorem fl_X1_26 : Cond.fieldLink RX1 26 (TX1 4).1 (TX1 4).2.1 (TX1 4).2.2.1 ∈ mm_tb := mm_in 140 (by decide +kernel) (by decide +kernel)
theorem fl_X1_29 : Cond.fieldLink RX1 29 (TX1 5).1 (TX1 5).2.1 (TX1 5).2.2.1 ∈ mm_tb := mm_in 141 (by decide +kernel) (by decide +kernel)
theorem ml_X1_67 : Cond.methodLink RX1 67 yX1_readNumber ∈ mm_tb := mm_in 333 (by decide +kernel) (by decide +kernel)
theorem cd_X1_readNumber : Cond.code yX1_readNumber cX1_readNumber 6 (some .int) ∈ mm_tb := mm_in 336 (by decide +kernel) (by decide +kernel)
theorem im_X1_readNumber : Cond.instanceMethod yX1_readNumber ∈ mm_tb := mm_in 335 (by decide +kernel) (by decide +kernel)
theorem sl_X1_readNumber : Cond.selects RX1 yX1_readNumber yX1_readNumber ∈ mm_tb := mm_in 20 (by decide +kernel) (by decide +kernel)
theorem ml_X1_42 : Cond.methodLink RX1 42 yX1_takes ∈ mm_tb := mm_in 325 (by decide +kernel) (by decide +kernel)
theorem cd_X1_takes : Cond.code yX1_takes cX1_takes 2 (some .boolean) ∈ mm_tb := mm_in 328 (by decide +kernel) (by decide +kernel)
theorem im_X1_takes : Cond.instanceMethod yX1_takes ∈ mm_tb := mm_in 327 (by decide +kernel) (by decide +kernel)
theorem sl_X1_takes : Cond.selects RX1 yX1_takes yX1_takes ∈ mm_tb := mm_in 18 (by decide +kernel) (by decide +kernel)
theorem ml_X1_70 : Cond.methodLink RX1 70 yX1_noteAddition ∈ mm_tb := mm_in 341 (by decide +kernel) (by decide +kernel)
theorem cd_X1_noteAddition : Cond.code yX1_noteAddition cX1_noteAddition 5 (some .boolean) ∈ mm_tb := mm_in 344 (by decide +kernel) (by decide +kernel)
theorem im_X1_noteAddition : Cond.instanceMethod yX1_noteAddition ∈ mm_tb := mm_in 343 (by decide +kernel) (by decide +kernel)
theorem sl_X1_noteAddition : Cond.selects RX1 yX1_noteAddition yX1_noteAddition ∈ mm_tb := mm_in 22 (by decide +kernel) (by decide +kernel)
theorem ml_X1_56 : Cond.methodLink RX1 56 yX1_readName ∈ mm_tb := mm_in 313 (by decide +kernel) (by decide +kernel)
theorem cd_X1_readName : Cond.code yX1_readName cX1_readName 3 (some .int) ∈ mm_tb := mm_in 316 (by decide +kernel) (by decide +kernel)
theorem im_X1_readName : Cond.instanceMethod yX1_readName ∈ mm_tb := mm_in 315 (by decide +kernel) (by decide +kernel)
theorem sl_X1_readName : Cond.selects RX1 yX1_readName yX1_readName ∈ mm_tb := mm_in 15 (by decide +kernel) (by decide +kernel)
theorem ml_X1_64 : Cond.methodLink RX1 64 yX1_readAlias ∈ mm_tb := mm_in 345 (by decide +kernel) (by decide +kernel)
theorem cd_X1_readAlias : Cond.code yX1_readAlias cX1_readAlias 3 (some .boolean) ∈ mm_tb := mm_in 348 (by decide +kernel) (by decide +kernel)
theorem im_X1_readAlias : Cond.instanceMethod yX1_readAlias ∈ mm_tb := mm_in 347 (by decide +kernel) (by decide +kernel)
theorem sl_X1_readAlias : Cond.selects RX1 yX1_readAlias yX1_readAlias ∈ mm_tb := mm_in 23 (by decide +kernel) (by decide +kernel)
theorem ml_X1_60 : Cond.methodLink RX1 60 yX1_readMember ∈ mm_tb := mm_in 329 (by decide +kernel) (by decide +kernel)
theorem cd_X1_readMember : Cond.code yX1_readMember cX1_readMember 4 (some .boolean) ∈ mm_tb := mm_in 332 (by decide +kernel) (by decide +kernel)
theorem im_X1_readMember : Cond.instanceMethod yX1_readMember ∈ mm_tb := mm_in 331 (by decide +kernel) (by decide +kernel)
theorem sl_X1_readMember : Cond.selects RX1 yX1_readMember yX1_readMember ∈ mm_tb := mm_in 19 (by decide +kernel) (by decide +kernel)
theorem ml_X1_38 : Cond.methodLink RX1 38 yX1_readAddition ∈ mm_tb := mm_in 309 (by decide +kernel) (by decide +kernel)
theorem cd_X1_readAddition : Cond.code yX1_readAddition cX1_readAddition 2 (some .boolean) ∈ mm_tb := mm_in 312 (by decide +kernel) (by decide +kernel)
theorem im_X1_readAddition : Cond.instanceMethod yX1_readAddition ∈ mm_tb := mm_in 311 (by decide +kernel) (by decide +kernel)
theorem sl_X1_readAddition : Cond.selects RX1 yX1_readAddition yX1_readAddition ∈ mm_tb := mm_in 14 (by decide +kernel) (by decide +kernel)
theorem ml_X2_114 : Cond.methodLink RX2 114 Lib.Math.max.name ∈ mm_tb := mm_in 237 (by decide +kernel) (by decide +kernel)
theorem st_max : Cond.static Lib.Math.max.name ∈ mm_tb := mm_in 238 (by decide +kernel) (by decide +kernel)
theorem it_Math : Cond.initialized "java/lang/Math" ∈ mm_tb := mm_in 67 (by decide +kernel) (by decide +kernel)
theorem cd_max : Cond.code Lib.Math.max.name Lib.Math.max.code 2 (some .int) ∈ mm_tb := mm_in 239 (by decide +kernel) (by decide +kernel)
theorem ml_X2_63 : Cond.methodLink RX2 63 yX2_isRank ∈ mm_tb := mm_in 209 (by decide +kernel) (by decide +kernel)
theorem cd_X2_isRank : Cond.code yX2_isRank cX2_isRank 2 (some .boolean) ∈ mm_tb := mm_in 212 (by decide +kernel) (by decide +kernel)
theorem im_X2_isRank : Cond.instanceMethod yX2_isRank ∈ mm_tb := mm_in 211 (by decide +kernel) (by decide +kernel)
theorem sl_X2_isRank : Cond.selects RX2 yX2_isRank yX2_isRank ∈ mm_tb := mm_in 1 (by decide +kernel) (by decide +kernel)
theorem ml_X2_66 : Cond.methodLink RX2 66 yX2_isDirectoryFull ∈ mm_tb := mm_in 213 (by decide +kernel) (by decide +kernel)
theorem cd_X2_isDirectoryFull : Cond.code yX2_isDirectoryFull cX2_isDirectoryFull 1 (some .boolean) ∈ mm_tb := mm_in 216 (by decide +kernel) (by decide +kernel)
theorem im_X2_isDirectoryFull : Cond.instanceMethod yX2_isDirectoryFull ∈ mm_tb := mm_in 215 (by decide +kernel) (by decide +kernel)
theorem sl_X2_isDirectoryFull : Cond.selects RX2 yX2_isDirectoryFull yX2_isDirectoryFull ∈ mm_tb := mm_in 2 (by decide +kernel) (by decide +kernel)
theorem ml_X2_123 : Cond.methodLink RX2 123 yX2_namesBelow ∈ mm_tb := mm_in 229 (by decide +kernel) (by decide +kernel)
theorem cd_X2_namesBelow : Cond.code yX2_namesBelow cX2_namesBelow 4 (some .int) ∈ mm_tb := mm_in 232 (by decide +kernel) (by decide +kernel)
theorem im_X2_namesBelow : Cond.instanceMethod yX2_namesBelow ∈ mm_tb := mm_in 231 (by decide +kernel) (by decide +kernel)
theorem sl_X2_namesBelow : Cond.selects RX2 yX2_namesBelow yX2_namesBelow ∈ mm_tb := mm_in 6 (by decide +kernel) (by decide +kernel)
theorem ml_X2_138 : Cond.methodLink RX2 138 yX2_moveEntries ∈ mm_tb := mm_in 233 (by decide +kernel) (by decide +kernel)
theorem cd_X2_moveEntries : Cond.code yX2_moveEntries cX2_moveEntries 4 none ∈ mm_tb := mm_in 236 (by decide +kernel) (by decide +kernel)
theorem im_X2_moveEntries : Cond.instanceMethod yX2_moveEntries ∈ mm_tb := mm_in 235 (by decide +kernel) (by decide +kernel)
theorem sl_X2_moveEntries : Cond.selects RX2 yX2_moveEntries yX2_moveEntries ∈ mm_tb := mm_in 7 (by decide +kernel) (by decide +kernel)
theorem ml_X2_83 : Cond.methodLink RX2 83 yX2_setEntry ∈ mm_tb := mm_in 240 (by decide +kernel) (by decide +kernel)
theorem cd_X2_setEntry : Cond.code yX2_setEntry cX2_setEntry 7 none ∈ mm_tb := mm_in 243 (by decide +kernel) (by decide +kernel)
theorem im_X2_setEntry : Cond.instanceMethod yX2_setEntry ∈ mm_tb := mm_in 242 (by decide +kernel) (by decide +kernel)
theorem sl_X2_setEntry : Cond.selects RX2 yX2_setEntry yX2_setEntry ∈ mm_tb := mm_in 8 (by decide +kernel) (by decide +kernel)
theorem ml_X2_49 : Cond.methodLink RX2 49 yX2_isName ∈ mm_tb := mm_in 196 (by decide +kernel) (by decide +kernel)
theorem cd_X2_isName : Cond.code yX2_isName cX2_isName 1 (some .boolean) ∈ mm_tb := mm_in 198 (by decide +kernel) (by decide +kernel)
theorem st_X2_isName : Cond.static yX2_isName ∈ mm_tb := mm_in 197 (by decide +kernel) (by decide +kernel)
theorem ml_X2_53 : Cond.methodLink RX2 53 yX2_isLength ∈ mm_tb := mm_in 199 (by decide +kernel) (by decide +kernel)
theorem cd_X2_isLength : Cond.code yX2_isLength cX2_isLength 1 (some .boolean) ∈ mm_tb := mm_in 201 (by decide +kernel) (by decide +kernel)
theorem st_X2_isLength : Cond.static yX2_isLength ∈ mm_tb := mm_in 200 (by decide +kernel) (by decide +kernel)
theorem ml_X2_56 : Cond.methodLink RX2 56 yX2_isMark ∈ mm_tb := mm_in 202 (by decide +kernel) (by decide +kernel)
theorem cd_X2_isMark : Cond.code yX2_isMark cX2_isMark 1 (some .boolean) ∈ mm_tb := mm_in 204 (by decide +kernel) (by decide +kernel)
theorem st_X2_isMark : Cond.static yX2_isMark ∈ mm_tb := mm_in 203 (by decide +kernel) (by decide +kernel)
theorem ml_X2_59 : Cond.methodLink RX2 59 yX2_rankOf ∈ mm_tb := mm_in 205 (by decide +kernel) (by decide +kernel)
theorem cd_X2_rankOf : Cond.code yX2_rankOf cX2_rankOf 3 (some .int) ∈ mm_tb := mm_in 208 (by decide +kernel) (by decide +kernel)
theorem im_X2_rankOf : Cond.instanceMethod yX2_rankOf ∈ mm_tb := mm_in 207 (by decide +kernel) (by decide +kernel)
theorem sl_X2_rankOf : Cond.selects RX2 yX2_rankOf yX2_rankOf ∈ mm_tb := mm_in 0 (by decide +kernel) (by decide +kernel)
theorem ml_X2_70 : Cond.methodLink RX2 70 yX2_hasRoom ∈ mm_tb := mm_in 217 (by decide +kernel) (by decide +kernel)
theorem cd_X2_hasRoom : Cond.code yX2_hasRoom cX2_hasRoom 2 (some .boolean) ∈ mm_tb := mm_in 220 (by decide +kernel) (by decide +kernel)
theorem im_X2_hasRoom : Cond.instanceMethod yX2_hasRoom ∈ mm_tb := mm_in 219 (by decide +kernel) (by decide +kernel)
theorem sl_X2_hasRoom : Cond.selects RX2 yX2_hasRoom yX2_hasRoom ∈ mm_tb := mm_in 3 (by decide +kernel) (by decide +kernel)
theorem ml_X2_73 : Cond.methodLink RX2 73 yX2_layText ∈ mm_tb := mm_in 221 (by decide +kernel) (by decide +kernel)
theorem cd_X2_layText : Cond.code yX2_layText cX2_layText 3 (some .int) ∈ mm_tb := mm_in 224 (by decide +kernel) (by decide +kernel)
theorem im_X2_layText : Cond.instanceMethod yX2_layText ∈ mm_tb := mm_in 223 (by decide +kernel) (by decide +kernel)
theorem sl_X2_layText : Cond.selects RX2 yX2_layText yX2_layText ∈ mm_tb := mm_in 4 (by decide +kernel) (by decide +kernel)
theorem ml_X2_76 : Cond.methodLink RX2 76 yX2_insertEntry ∈ mm_tb := mm_in 225 (by decide +kernel) (by decide +kernel)
theorem cd_X2_insertEntry : Cond.code yX2_insertEntry cX2_insertEntry 7 (some .int) ∈ mm_tb := mm_in 228 (by decide +kernel) (by decide +kernel)
theorem im_X2_insertEntry : Cond.instanceMethod yX2_insertEntry ∈ mm_tb := mm_in 227 (by decide +kernel) (by decide +kernel)
theorem sl_X2_insertEntry : Cond.selects RX2 yX2_insertEntry yX2_insertEntry ∈ mm_tb := mm_in 5 (by decide +kernel) (by decide +kernel)
theorem ml_X2_80 : Cond.methodLink RX2 80 yX2_isMember ∈ mm_tb := mm_in 265 (by decide +kernel) (by decide +kernel)
theorem cd_X2_isMember : Cond.code yX2_isMember cX2_isMember 2 (some .boolean) ∈ mm_tb := mm_in 268 (by decide +kernel) (by decide +kernel)
theorem im_X2_isMember : Cond.instanceMethod yX2_isMember ∈ mm_tb := mm_in 267 (by decide +kernel) (by decide +kernel)
theorem sl_X2_isMember : Cond.selects RX2 yX2_isMember yX2_isMember ∈ mm_tb := mm_in 11 (by decide +kernel) (by decide +kernel)
theorem ml_X1_52 : Cond.methodLink RX1 52 yX2_giveAlias ∈ mm_tb := mm_in 354 (by decide +kernel) (by decide +kernel)
theorem cd_X2_giveAlias : Cond.code yX2_giveAlias cX2_giveAlias 6 (some .int) ∈ mm_tb := mm_in 300 (by decide +kernel) (by decide +kernel)
theorem im_X2_giveAlias : Cond.instanceMethod yX2_giveAlias ∈ mm_tb := mm_in 298 (by decide +kernel) (by decide +kernel)
theorem sl_X2_giveAlias : Cond.selects RX2 yX2_giveAlias yX2_giveAlias ∈ mm_tb := mm_in 299 (by decide +kernel) (by decide +kernel)
theorem ml_X1_46 : Cond.methodLink RX1 46 yX2_addMember ∈ mm_tb := mm_in 353 (by decide +kernel) (by decide +kernel)
theorem cd_X2_addMember : Cond.code yX2_addMember cX2_addMember 5 (some .int) ∈ mm_tb := mm_in 195 (by decide +kernel) (by decide +kernel)
theorem im_X2_addMember : Cond.instanceMethod yX2_addMember ∈ mm_tb := mm_in 193 (by decide +kernel) (by decide +kernel)
theorem sl_X2_addMember : Cond.selects RX2 yX2_addMember yX2_addMember ∈ mm_tb := mm_in 194 (by decide +kernel) (by decide +kernel)
theorem ml_X2_87 : Cond.methodLink RX2 87 yX2_takeOut ∈ mm_tb := mm_in 277 (by decide +kernel) (by decide +kernel)
theorem cd_X2_takeOut : Cond.code yX2_takeOut cX2_takeOut 2 none ∈ mm_tb := mm_in 280 (by decide +kernel) (by decide +kernel)
theorem im_X2_takeOut : Cond.instanceMethod yX2_takeOut ∈ mm_tb := mm_in 279 (by decide +kernel) (by decide +kernel)
theorem sl_X2_takeOut : Cond.selects RX2 yX2_takeOut yX2_takeOut ∈ mm_tb := mm_in 12 (by decide +kernel) (by decide +kernel)
theorem ml_X2_91 : Cond.methodLink RX2 91 yX2_tellAliases ∈ mm_tb := mm_in 289 (by decide +kernel) (by decide +kernel)
theorem cd_X2_tellAliases : Cond.code yX2_tellAliases cX2_tellAliases 4 none ∈ mm_tb := mm_in 292 (by decide +kernel) (by decide +kernel)
theorem im_X2_tellAliases : Cond.instanceMethod yX2_tellAliases ∈ mm_tb := mm_in 291 (by decide +kernel) (by decide +kernel)
theorem sl_X2_tellAliases : Cond.selects RX2 yX2_tellAliases yX2_tellAliases ∈ mm_tb := mm_in 13 (by decide +kernel) (by decide +kernel)
theorem ml_X2_135 : Cond.methodLink RX2 135 yX2_isFirstOfText ∈ mm_tb := mm_in 371 (by decide +kernel) (by decide +kernel)
theorem cd_X2_isFirstOfText : Cond.code yX2_isFirstOfText cX2_isFirstOfText 3 (some .boolean) ∈ mm_tb := mm_in 374 (by decide +kernel) (by decide +kernel)
theorem im_X2_isFirstOfText : Cond.instanceMethod yX2_isFirstOfText ∈ mm_tb := mm_in 373 (by decide +kernel) (by decide +kernel)
theorem sl_X2_isFirstOfText : Cond.selects RX2 yX2_isFirstOfText yX2_isFirstOfText ∈ mm_tb := mm_in 26 (by decide +kernel) (by decide +kernel)
theorem ml_X2_120 : Cond.methodLink RX2 120 yX2_livingUnits ∈ mm_tb := mm_in 367 (by decide +kernel) (by decide +kernel)
theorem cd_X2_livingUnits : Cond.code yX2_livingUnits cX2_livingUnits 3 (some .int) ∈ mm_tb := mm_in 370 (by decide +kernel) (by decide +kernel)
theorem im_X2_livingUnits : Cond.instanceMethod yX2_livingUnits ∈ mm_tb := mm_in 369 (by decide +kernel) (by decide +kernel)
theorem sl_X2_livingUnits : Cond.selects RX2 yX2_livingUnits yX2_livingUnits ∈ mm_tb := mm_in 25 (by decide +kernel) (by decide +kernel)
theorem ml_X2_142 : Cond.methodLink RX2 142 yX2_moveText ∈ mm_tb := mm_in 379 (by decide +kernel) (by decide +kernel)
theorem cd_X2_moveText : Cond.code yX2_moveText cX2_moveText 5 (some .int) ∈ mm_tb := mm_in 382 (by decide +kernel) (by decide +kernel)
theorem im_X2_moveText : Cond.instanceMethod yX2_moveText ∈ mm_tb := mm_in 381 (by decide +kernel) (by decide +kernel)
theorem sl_X2_moveText : Cond.selects RX2 yX2_moveText yX2_moveText ∈ mm_tb := mm_in 28 (by decide +kernel) (by decide +kernel)
theorem ml_X2_95 : Cond.methodLink RX2 95 yX2_deadUnits ∈ mm_tb := mm_in 363 (by decide +kernel) (by decide +kernel)
theorem cd_X2_deadUnits : Cond.code yX2_deadUnits cX2_deadUnits 1 (some .int) ∈ mm_tb := mm_in 366 (by decide +kernel) (by decide +kernel)
theorem im_X2_deadUnits : Cond.instanceMethod yX2_deadUnits ∈ mm_tb := mm_in 365 (by decide +kernel) (by decide +kernel)
theorem sl_X2_deadUnits : Cond.selects RX2 yX2_deadUnits yX2_deadUnits ∈ mm_tb := mm_in 24 (by decide +kernel) (by decide +kernel)
theorem ml_X2_99 : Cond.methodLink RX2 99 yX2_closeUp ∈ mm_tb := mm_in 375 (by decide +kernel) (by decide +kernel)
theorem cd_X2_closeUp : Cond.code yX2_closeUp cX2_closeUp 3 (some .int) ∈ mm_tb := mm_in 378 (by decide +kernel) (by decide +kernel)
theorem im_X2_closeUp : Cond.instanceMethod yX2_closeUp ∈ mm_tb := mm_in 377 (by decide +kernel) (by decide +kernel)
theorem sl_X2_closeUp : Cond.selects RX2 yX2_closeUp yX2_closeUp ∈ mm_tb := mm_in 27 (by decide +kernel) (by decide +kernel)
theorem ml_X2_102 : Cond.methodLink RX2 102 yX2_aliasesOf ∈ mm_tb := mm_in 439 (by decide +kernel) (by decide +kernel)
theorem cd_X2_aliasesOf : Cond.code yX2_aliasesOf cX2_aliasesOf 4 (some .int) ∈ mm_tb := mm_in 442 (by decide +kernel) (by decide +kernel)
theorem im_X2_aliasesOf : Cond.instanceMethod yX2_aliasesOf ∈ mm_tb := mm_in 441 (by decide +kernel) (by decide +kernel)
theorem sl_X2_aliasesOf : Cond.selects RX2 yX2_aliasesOf yX2_aliasesOf ∈ mm_tb := mm_in 29 (by decide +kernel) (by decide +kernel)
theorem ml_X2_105 : Cond.methodLink RX2 105 yX2_isLost ∈ mm_tb := mm_in 443 (by decide +kernel) (by decide +kernel)
theorem cd_X2_isLost : Cond.code yX2_isLost cX2_isLost 3 (some .boolean) ∈ mm_tb := mm_in 446 (by decide +kernel) (by decide +kernel)
theorem im_X2_isLost : Cond.instanceMethod yX2_isLost ∈ mm_tb := mm_in 445 (by decide +kernel) (by decide +kernel)
theorem sl_X2_isLost : Cond.selects RX2 yX2_isLost yX2_isLost ∈ mm_tb := mm_in 30 (by decide +kernel) (by decide +kernel)
theorem ml_X2_108 : Cond.methodLink RX2 108 Lib.Math.min.name ∈ mm_tb := mm_in 463 (by decide +kernel) (by decide +kernel)
theorem st_min : Cond.static Lib.Math.min.name ∈ mm_tb := mm_in 464 (by decide +kernel) (by decide +kernel)
theorem cd_min : Cond.code Lib.Math.min.name Lib.Math.min.code 2 (some .int) ∈ mm_tb := mm_in 465 (by decide +kernel) (by decide +kernel)
theorem ml_X2_117 : Cond.methodLink RX2 117 yX2_tellName ∈ mm_tb := mm_in 466 (by decide +kernel) (by decide +kernel)
theorem cd_X2_tellName : Cond.code yX2_tellName cX2_tellName 2 (some .int) ∈ mm_tb := mm_in 454 (by decide +kernel) (by decide +kernel)
theorem im_X2_tellName : Cond.instanceMethod yX2_tellName ∈ mm_tb := mm_in 452 (by decide +kernel) (by decide +kernel)
theorem sl_X2_tellName : Cond.selects RX2 yX2_tellName yX2_tellName ∈ mm_tb := mm_in 453 (by decide +kernel) (by decide +kernel)
theorem ml_X2_126 : Cond.methodLink RX2 126 yX2_aliases ∈ mm_tb := mm_in 503 (by decide +kernel) (by decide +kernel)
theorem cd_X2_aliases : Cond.code yX2_aliases cX2_aliases 3 (some .int) ∈ mm_tb := mm_in 506 (by decide +kernel) (by decide +kernel)
theorem im_X2_aliases : Cond.instanceMethod yX2_aliases ∈ mm_tb := mm_in 505 (by decide +kernel) (by decide +kernel)
theorem sl_X2_aliases : Cond.selects RX2 yX2_aliases yX2_aliases ∈ mm_tb := mm_in 31 (by decide +kernel) (by decide +kernel)
theorem ml_X2_129 : Cond.methodLink RX2 129 yX2_lostAliases ∈ mm_tb := mm_in 507 (by decide +kernel) (by decide +kernel)
theorem cd_X2_lostAliases : Cond.code yX2_lostAliases cX2_lostAliases 3 (some .int) ∈ mm_tb := mm_in 510 (by decide +kernel) (by decide +kernel)
theorem im_X2_lostAliases : Cond.instanceMethod yX2_lostAliases ∈ mm_tb := mm_in 509 (by decide +kernel) (by decide +kernel)
theorem sl_X2_lostAliases : Cond.selects RX2 yX2_lostAliases yX2_lostAliases ∈ mm_tb := mm_in 32 (by decide +kernel) (by decide +kernel)
theorem ml_X2_132 : Cond.methodLink RX2 132 yX2_livingTexts ∈ mm_tb := mm_in 511 (by decide +kernel) (by decide +kernel)
theorem cd_X2_livingTexts : Cond.code yX2_livingTexts cX2_livingTexts 3 (some .int) ∈ mm_tb := mm_in 514 (by decide +kernel) (by decide +kernel)
theorem im_X2_livingTexts : Cond.instanceMethod yX2_livingTexts ∈ mm_tb := mm_in 513 (by decide +kernel) (by decide +kernel)
theorem sl_X2_livingTexts : Cond.selects RX2 yX2_livingTexts yX2_livingTexts ∈ mm_tb := mm_in 33 (by decide +kernel) (by decide +kernel)
theorem fl_X3_29 : Cond.fieldLink RX3 29 (TX3 4).1 (TX3 4).2.1 (TX3 4).2.2.1 ∈ mm_tb := mm_in 166 (by decide +kernel) (by decide +kernel)
theorem fl_X3_12 : Cond.fieldLink RX3 12 (TX3 0).1 (TX3 0).2.1 (TX3 0).2.2.1 ∈ mm_tb := mm_in 162 (by decide +kernel) (by decide +kernel)
theorem ml_X3_118 : Cond.methodLink RX3 118 yX0_keepState ∈ mm_tb := mm_in 248 (by decide +kernel) (by decide +kernel)
theorem cd_X0_keepState : Cond.code yX0_keepState cX0_keepState 3 none ∈ mm_tb := mm_in 251 (by decide +kernel) (by decide +kernel)
theorem im_X0_keepState : Cond.instanceMethod yX0_keepState ∈ mm_tb := mm_in 249 (by decide +kernel) (by decide +kernel)
theorem sl_X0_keepState : Cond.selects RX0 yX0_keepState yX0_keepState ∈ mm_tb := mm_in 250 (by decide +kernel) (by decide +kernel)
theorem fl_X3_16 : Cond.fieldLink RX3 16 (TX3 1).1 (TX3 1).2.1 (TX3 1).2.2.1 ∈ mm_tb := mm_in 163 (by decide +kernel) (by decide +kernel)
theorem ml_X3_40 : Cond.methodLink RX3 40 yX2_copyFrom ∈ mm_tb := mm_in 185 (by decide +kernel) (by decide +kernel)
theorem ml_X3_44 : Cond.methodLink RX3 44 yX2_addMember ∈ mm_tb := mm_in 192 (by decide +kernel) (by decide +kernel)
theorem ml_X3_48 : Cond.methodLink RX3 48 yX3_settle ∈ mm_tb := mm_in 244 (by decide +kernel) (by decide +kernel)
theorem cd_X3_settle : Cond.code yX3_settle cX3_settle 2 (some .int) ∈ mm_tb := mm_in 247 (by decide +kernel) (by decide +kernel)
theorem im_X3_settle : Cond.instanceMethod yX3_settle ∈ mm_tb := mm_in 246 (by decide +kernel) (by decide +kernel)
theorem sl_X3_settle : Cond.selects RX3 yX3_settle yX3_settle ∈ mm_tb := mm_in 9 (by decide +kernel) (by decide +kernel)
theorem it_X3 : Cond.initialized RX3 ∈ mm_tb := mm_in 61 (by decide +kernel) (by decide +kernel)
theorem ml_X3_52 : Cond.methodLink RX3 52 yX2_replaceText ∈ mm_tb := mm_in 261 (by decide +kernel) (by decide +kernel)
theorem cd_X2_replaceText : Cond.code yX2_replaceText cX2_replaceText 6 (some .int) ∈ mm_tb := mm_in 264 (by decide +kernel) (by decide +kernel)
theorem im_X2_replaceText : Cond.instanceMethod yX2_replaceText ∈ mm_tb := mm_in 262 (by decide +kernel) (by decide +kernel)
theorem sl_X2_replaceText : Cond.selects RX2 yX2_replaceText yX2_replaceText ∈ mm_tb := mm_in 263 (by decide +kernel) (by decide +kernel)
theorem ml_X3_55 : Cond.methodLink RX3 55 yX2_removeEntry ∈ mm_tb := mm_in 273 (by decide +kernel) (by decide +kernel)
theorem cd_X2_removeEntry : Cond.code yX2_removeEntry cX2_removeEntry 3 (some .int) ∈ mm_tb := mm_in 276 (by decide +kernel) (by decide +kernel)
theorem im_X2_removeEntry : Cond.instanceMethod yX2_removeEntry ∈ mm_tb := mm_in 274 (by decide +kernel) (by decide +kernel)
theorem sl_X2_removeEntry : Cond.selects RX2 yX2_removeEntry yX2_removeEntry ∈ mm_tb := mm_in 275 (by decide +kernel) (by decide +kernel)
theorem ml_X3_58 : Cond.methodLink RX3 58 yX2_renameEntry ∈ mm_tb := mm_in 285 (by decide +kernel) (by decide +kernel)
theorem cd_X2_renameEntry : Cond.code yX2_renameEntry cX2_renameEntry 9 (some .int) ∈ mm_tb := mm_in 288 (by decide +kernel) (by decide +kernel)
theorem im_X2_renameEntry : Cond.instanceMethod yX2_renameEntry ∈ mm_tb := mm_in 286 (by decide +kernel) (by decide +kernel)
theorem sl_X2_renameEntry : Cond.selects RX2 yX2_renameEntry yX2_renameEntry ∈ mm_tb := mm_in 287 (by decide +kernel) (by decide +kernel)
theorem ml_X3_62 : Cond.methodLink RX3 62 yX2_giveAlias ∈ mm_tb := mm_in 297 (by decide +kernel) (by decide +kernel)
theorem fl_X3_36 : Cond.fieldLink RX3 36 (TX3 5).1 (TX3 5).2.1 (TX3 5).2.2.1 ∈ mm_tb := mm_in 167 (by decide +kernel) (by decide +kernel)
theorem ml_X3_65 : Cond.methodLink RX3 65 yX1_readAdditions ∈ mm_tb := mm_in 305 (by decide +kernel) (by decide +kernel)
theorem cd_X1_readAdditions : Cond.code yX1_readAdditions cX1_readAdditions 2 (some .int) ∈ mm_tb := mm_in 308 (by decide +kernel) (by decide +kernel)
theorem im_X1_readAdditions : Cond.instanceMethod yX1_readAdditions ∈ mm_tb := mm_in 306 (by decide +kernel) (by decide +kernel)
theorem sl_X1_readAdditions : Cond.selects RX1 yX1_readAdditions yX1_readAdditions ∈ mm_tb := mm_in 307 (by decide +kernel) (by decide +kernel)
theorem ml_X3_69 : Cond.methodLink RX3 69 yX1_makeAdditions ∈ mm_tb := mm_in 349 (by decide +kernel) (by decide +kernel)
theorem cd_X1_makeAdditions : Cond.code yX1_makeAdditions cX1_makeAdditions 4 (some .int) ∈ mm_tb := mm_in 352 (by decide +kernel) (by decide +kernel)
theorem im_X1_makeAdditions : Cond.instanceMethod yX1_makeAdditions ∈ mm_tb := mm_in 350 (by decide +kernel) (by decide +kernel)
theorem sl_X1_makeAdditions : Cond.selects RX1 yX1_makeAdditions yX1_makeAdditions ∈ mm_tb := mm_in 351 (by decide +kernel) (by decide +kernel)
theorem ml_X3_73 : Cond.methodLink RX3 73 yX2_giveBackDeadRoom ∈ mm_tb := mm_in 359 (by decide +kernel) (by decide +kernel)
theorem cd_X2_giveBackDeadRoom : Cond.code yX2_giveBackDeadRoom cX2_giveBackDeadRoom 1 (some .int) ∈ mm_tb := mm_in 362 (by decide +kernel) (by decide +kernel)
theorem im_X2_giveBackDeadRoom : Cond.instanceMethod yX2_giveBackDeadRoom ∈ mm_tb := mm_in 360 (by decide +kernel) (by decide +kernel)
theorem sl_X2_giveBackDeadRoom : Cond.selects RX2 yX2_giveBackDeadRoom yX2_giveBackDeadRoom ∈ mm_tb := mm_in 361 (by decide +kernel) (by decide +kernel)
theorem ml_X3_76 : Cond.methodLink RX3 76 yX2_changeBlocks ∈ mm_tb := mm_in 387 (by decide +kernel) (by decide +kernel)
theorem cd_X2_changeBlocks : Cond.code yX2_changeBlocks cX2_changeBlocks 3 (some .int) ∈ mm_tb := mm_in 390 (by decide +kernel) (by decide +kernel)
theorem im_X2_changeBlocks : Cond.instanceMethod yX2_changeBlocks ∈ mm_tb := mm_in 388 (by decide +kernel) (by decide +kernel)
theorem sl_X2_changeBlocks : Cond.selects RX2 yX2_changeBlocks yX2_changeBlocks ∈ mm_tb := mm_in 389 (by decide +kernel) (by decide +kernel)
theorem ml_X3_79 : Cond.methodLink RX3 79 yX1_append ∈ mm_tb := mm_in 395 (by decide +kernel) (by decide +kernel)
theorem cd_X1_append : Cond.code yX1_append cX1_append 2 (some .int) ∈ mm_tb := mm_in 398 (by decide +kernel) (by decide +kernel)
theorem im_X1_append : Cond.instanceMethod yX1_append ∈ mm_tb := mm_in 396 (by decide +kernel) (by decide +kernel)
theorem sl_X1_append : Cond.selects RX1 yX1_append yX1_append ∈ mm_tb := mm_in 397 (by decide +kernel) (by decide +kernel)
theorem ml_X3_83 : Cond.methodLink RX3 83 yX1_empty ∈ mm_tb := mm_in 403 (by decide +kernel) (by decide +kernel)
theorem cd_X1_empty : Cond.code yX1_empty cX1_empty 2 (some .int) ∈ mm_tb := mm_in 406 (by decide +kernel) (by decide +kernel)
theorem im_X1_empty : Cond.instanceMethod yX1_empty ∈ mm_tb := mm_in 404 (by decide +kernel) (by decide +kernel)
theorem sl_X1_empty : Cond.selects RX1 yX1_empty yX1_empty ∈ mm_tb := mm_in 405 (by decide +kernel) (by decide +kernel)
theorem ml_X3_86 : Cond.methodLink RX3 86 yX0_giveLatestTo ∈ mm_tb := mm_in 411 (by decide +kernel) (by decide +kernel)
theorem cd_X0_giveLatestTo : Cond.code yX0_giveLatestTo cX0_giveLatestTo 3 (some .boolean) ∈ mm_tb := mm_in 414 (by decide +kernel) (by decide +kernel)
theorem im_X0_giveLatestTo : Cond.instanceMethod yX0_giveLatestTo ∈ mm_tb := mm_in 412 (by decide +kernel) (by decide +kernel)
theorem sl_X0_giveLatestTo : Cond.selects RX0 yX0_giveLatestTo yX0_giveLatestTo ∈ mm_tb := mm_in 413 (by decide +kernel) (by decide +kernel)
theorem ml_X3_90 : Cond.methodLink RX3 90 yX0_size ∈ mm_tb := mm_in 415 (by decide +kernel) (by decide +kernel)
theorem cd_X0_size : Cond.code yX0_size cX0_size 1 (some .int) ∈ mm_tb := mm_in 418 (by decide +kernel) (by decide +kernel)
theorem im_X0_size : Cond.instanceMethod yX0_size ∈ mm_tb := mm_in 416 (by decide +kernel) (by decide +kernel)
theorem sl_X0_size : Cond.selects RX0 yX0_size yX0_size ∈ mm_tb := mm_in 417 (by decide +kernel) (by decide +kernel)
theorem fl_X3_19 : Cond.fieldLink RX3 19 (TX3 2).1 (TX3 2).2.1 (TX3 2).2.2.1 ∈ mm_tb := mm_in 164 (by decide +kernel) (by decide +kernel)
theorem fl_X3_22 : Cond.fieldLink RX3 22 (TX3 3).1 (TX3 3).2.1 (TX3 3).2.2.1 ∈ mm_tb := mm_in 165 (by decide +kernel) (by decide +kernel)
theorem ml_X3_93 : Cond.methodLink RX3 93 yX2_size ∈ mm_tb := mm_in 423 (by decide +kernel) (by decide +kernel)
theorem cd_X2_size : Cond.code yX2_size cX2_size 1 (some .int) ∈ mm_tb := mm_in 426 (by decide +kernel) (by decide +kernel)
theorem im_X2_size : Cond.instanceMethod yX2_size ∈ mm_tb := mm_in 424 (by decide +kernel) (by decide +kernel)
theorem sl_X2_size : Cond.selects RX2 yX2_size yX2_size ∈ mm_tb := mm_in 425 (by decide +kernel) (by decide +kernel)
theorem ml_X3_94 : Cond.methodLink RX3 94 yX2_tellEntry ∈ mm_tb := mm_in 435 (by decide +kernel) (by decide +kernel)
theorem cd_X2_tellEntry : Cond.code yX2_tellEntry cX2_tellEntry 4 (some .int) ∈ mm_tb := mm_in 438 (by decide +kernel) (by decide +kernel)
theorem im_X2_tellEntry : Cond.instanceMethod yX2_tellEntry ∈ mm_tb := mm_in 436 (by decide +kernel) (by decide +kernel)
theorem sl_X2_tellEntry : Cond.selects RX2 yX2_tellEntry yX2_tellEntry ∈ mm_tb := mm_in 437 (by decide +kernel) (by decide +kernel)
theorem ml_X3_97 : Cond.methodLink RX3 97 yX2_tellName ∈ mm_tb := mm_in 451 (by decide +kernel) (by decide +kernel)
theorem ml_X3_100 : Cond.methodLink RX3 100 yX2_tellBlock ∈ mm_tb := mm_in 459 (by decide +kernel) (by decide +kernel)
theorem cd_X2_tellBlock : Cond.code yX2_tellBlock cX2_tellBlock 5 (some .int) ∈ mm_tb := mm_in 462 (by decide +kernel) (by decide +kernel)
theorem im_X2_tellBlock : Cond.instanceMethod yX2_tellBlock ∈ mm_tb := mm_in 460 (by decide +kernel) (by decide +kernel)
theorem sl_X2_tellBlock : Cond.selects RX2 yX2_tellBlock yX2_tellBlock ∈ mm_tb := mm_in 461 (by decide +kernel) (by decide +kernel)
theorem ml_X3_103 : Cond.methodLink RX3 103 yX2_tellUnit ∈ mm_tb := mm_in 471 (by decide +kernel) (by decide +kernel)
theorem cd_X2_tellUnit : Cond.code yX2_tellUnit cX2_tellUnit 3 (some .int) ∈ mm_tb := mm_in 474 (by decide +kernel) (by decide +kernel)
theorem im_X2_tellUnit : Cond.instanceMethod yX2_tellUnit ∈ mm_tb := mm_in 472 (by decide +kernel) (by decide +kernel)
theorem sl_X2_tellUnit : Cond.selects RX2 yX2_tellUnit yX2_tellUnit ∈ mm_tb := mm_in 473 (by decide +kernel) (by decide +kernel)
theorem ml_X3_106 : Cond.methodLink RX3 106 yX2_tellFit ∈ mm_tb := mm_in 479 (by decide +kernel) (by decide +kernel)
theorem cd_X2_tellFit : Cond.code yX2_tellFit cX2_tellFit 2 (some .int) ∈ mm_tb := mm_in 482 (by decide +kernel) (by decide +kernel)
theorem im_X2_tellFit : Cond.instanceMethod yX2_tellFit ∈ mm_tb := mm_in 480 (by decide +kernel) (by decide +kernel)
theorem sl_X2_tellFit : Cond.selects RX2 yX2_tellFit yX2_tellFit ∈ mm_tb := mm_in 481 (by decide +kernel) (by decide +kernel)
theorem ml_X3_109 : Cond.methodLink RX3 109 yX2_tellBeginning ∈ mm_tb := mm_in 487 (by decide +kernel) (by decide +kernel)
theorem cd_X2_tellBeginning : Cond.code yX2_tellBeginning cX2_tellBeginning 5 (some .int) ∈ mm_tb := mm_in 490 (by decide +kernel) (by decide +kernel)
theorem im_X2_tellBeginning : Cond.instanceMethod yX2_tellBeginning ∈ mm_tb := mm_in 488 (by decide +kernel) (by decide +kernel)
theorem sl_X2_tellBeginning : Cond.selects RX2 yX2_tellBeginning yX2_tellBeginning ∈ mm_tb := mm_in 489 (by decide +kernel) (by decide +kernel)
theorem ml_X3_112 : Cond.methodLink RX3 112 yX1_length ∈ mm_tb := mm_in 495 (by decide +kernel) (by decide +kernel)
theorem cd_X1_length : Cond.code yX1_length cX1_length 1 (some .int) ∈ mm_tb := mm_in 498 (by decide +kernel) (by decide +kernel)
theorem im_X1_length : Cond.instanceMethod yX1_length ∈ mm_tb := mm_in 496 (by decide +kernel) (by decide +kernel)
theorem sl_X1_length : Cond.selects RX1 yX1_length yX1_length ∈ mm_tb := mm_in 497 (by decide +kernel) (by decide +kernel)
theorem ml_X3_115 : Cond.methodLink RX3 115 yX2_tellCount ∈ mm_tb := mm_in 499 (by decide +kernel) (by decide +kernel)
theorem cd_X2_tellCount : Cond.code yX2_tellCount cX2_tellCount 2 (some .int) ∈ mm_tb := mm_in 502 (by decide +kernel) (by decide +kernel)
theorem im_X2_tellCount : Cond.instanceMethod yX2_tellCount ∈ mm_tb := mm_in 500 (by decide +kernel) (by decide +kernel)
theorem sl_X2_tellCount : Cond.selects RX2 yX2_tellCount yX2_tellCount ∈ mm_tb := mm_in 501 (by decide +kernel) (by decide +kernel)
theorem fl_X4_13 : Cond.fieldLink RX4 13 (TX4 1).1 (TX4 1).2.1 (TX4 1).2.2.1 ∈ mm_tb := mm_in 522 (by decide +kernel) (by decide +kernel)
theorem fl_X4_7 : Cond.fieldLink RX4 7 (TX4 0).1 (TX4 0).2.1 (TX4 0).2.2.1 ∈ mm_tb := mm_in 521 (by decide +kernel) (by decide +kernel)
theorem fl_X4_28 : Cond.fieldLink RX4 28 (TX4 3).1 (TX4 3).2.1 (TX4 3).2.2.1 ∈ mm_tb := mm_in 524 (by decide +kernel) (by decide +kernel)
theorem fl_X4_16 : Cond.fieldLink RX4 16 (TX4 2).1 (TX4 2).2.1 (TX4 2).2.2.1 ∈ mm_tb := mm_in 523 (by decide +kernel) (by decide +kernel)
theorem kl_X4_32 : Jvm.Cond.constantLong RX4 32 (675 : Int64) ∈ mm_tb := mm_in 573 (by decide +kernel) (by decide +kernel)
theorem ml_X4_34 : Cond.methodLink RX4 34 yX4_in ∈ mm_tb := mm_in 574 (by decide +kernel) (by decide +kernel)
theorem cd_X4_in : Cond.code yX4_in cX4_in 6 (some .boolean) ∈ mm_tb := mm_in 576 (by decide +kernel) (by decide +kernel)
theorem st_X4_in : Cond.static yX4_in ∈ mm_tb := mm_in 575 (by decide +kernel) (by decide +kernel)
theorem it_X4 : Cond.initialized RX4 ∈ mm_tb := mm_in 65 (by decide +kernel) (by decide +kernel)
theorem ml_X4_38 : Cond.methodLink RX4 38 yX4_of ∈ mm_tb := mm_in 583 (by decide +kernel) (by decide +kernel)
theorem cd_X4_of : Cond.code yX4_of cX4_of 3 (some .int) ∈ mm_tb := mm_in 586 (by decide +kernel) (by decide +kernel)
theorem im_X4_of : Cond.instanceMethod yX4_of ∈ mm_tb := mm_in 585 (by decide +kernel) (by decide +kernel)
theorem sl_X4_of : Cond.selects RX4 yX4_of yX4_of ∈ mm_tb := mm_in 37 (by decide +kernel) (by decide +kernel)
theorem fl_X4_22 : Cond.fieldLink RX4 22 (TX4 6).1 (TX4 6).2.1 (TX4 6).2.2.1 ∈ mm_tb := mm_in 527 (by decide +kernel) (by decide +kernel)
theorem ml_X4_42 : Cond.methodLink RX4 42 yX4_sets ∈ mm_tb := mm_in 599 (by decide +kernel) (by decide +kernel)
theorem cd_X4_sets : Cond.code yX4_sets cX4_sets 4 none ∈ mm_tb := mm_in 602 (by decide +kernel) (by decide +kernel)
theorem im_X4_sets : Cond.instanceMethod yX4_sets ∈ mm_tb := mm_in 601 (by decide +kernel) (by decide +kernel)
theorem sl_X4_sets : Cond.selects RX4 yX4_sets yX4_sets ∈ mm_tb := mm_in 41 (by decide +kernel) (by decide +kernel)
theorem ml_X4_46 : Cond.methodLink RX4 46 yX4_nextText ∈ mm_tb := mm_in 683 (by decide +kernel) (by decide +kernel)
theorem cd_X4_nextText : Cond.code yX4_nextText cX4_nextText 5 (some .int) ∈ mm_tb := mm_in 686 (by decide +kernel) (by decide +kernel)
theorem im_X4_nextText : Cond.instanceMethod yX4_nextText ∈ mm_tb := mm_in 685 (by decide +kernel) (by decide +kernel)
theorem sl_X4_nextText : Cond.selects RX4 yX4_nextText yX4_nextText ∈ mm_tb := mm_in 54 (by decide +kernel) (by decide +kernel)
theorem ml_X4_50 : Cond.methodLink RX4 50 yX4_rankOf ∈ mm_tb := mm_in 579 (by decide +kernel) (by decide +kernel)
theorem cd_X4_rankOf : Cond.code yX4_rankOf cX4_rankOf 3 (some .int) ∈ mm_tb := mm_in 582 (by decide +kernel) (by decide +kernel)
theorem im_X4_rankOf : Cond.instanceMethod yX4_rankOf ∈ mm_tb := mm_in 581 (by decide +kernel) (by decide +kernel)
theorem sl_X4_rankOf : Cond.selects RX4 yX4_rankOf yX4_rankOf ∈ mm_tb := mm_in 36 (by decide +kernel) (by decide +kernel)
theorem ml_X4_53 : Cond.methodLink RX4 53 yX4_isMember ∈ mm_tb := mm_in 615 (by decide +kernel) (by decide +kernel)
theorem cd_X4_isMember : Cond.code yX4_isMember cX4_isMember 2 (some .boolean) ∈ mm_tb := mm_in 618 (by decide +kernel) (by decide +kernel)
theorem im_X4_isMember : Cond.instanceMethod yX4_isMember ∈ mm_tb := mm_in 617 (by decide +kernel) (by decide +kernel)
theorem sl_X4_isMember : Cond.selects RX4 yX4_isMember yX4_isMember ∈ mm_tb := mm_in 44 (by decide +kernel) (by decide +kernel)
theorem ml_X4_57 : Cond.methodLink RX4 57 yX4_isName ∈ mm_tb := mm_in 570 (by decide +kernel) (by decide +kernel)
theorem cd_X4_isName : Cond.code yX4_isName cX4_isName 1 (some .boolean) ∈ mm_tb := mm_in 572 (by decide +kernel) (by decide +kernel)
theorem st_X4_isName : Cond.static yX4_isName ∈ mm_tb := mm_in 571 (by decide +kernel) (by decide +kernel)
theorem kl_X4_60 : Jvm.Cond.constantLong RX4 60 (40 : Int64) ∈ mm_tb := mm_in 577 (by decide +kernel) (by decide +kernel)
theorem kl_X4_62 : Jvm.Cond.constantLong RX4 62 (9999 : Int64) ∈ mm_tb := mm_in 578 (by decide +kernel) (by decide +kernel)
theorem ml_X4_64 : Cond.methodLink RX4 64 yX4_isDirectoryFull ∈ mm_tb := mm_in 587 (by decide +kernel) (by decide +kernel)
theorem cd_X4_isDirectoryFull : Cond.code yX4_isDirectoryFull cX4_isDirectoryFull 1 (some .boolean) ∈ mm_tb := mm_in 590 (by decide +kernel) (by decide +kernel)
theorem im_X4_isDirectoryFull : Cond.instanceMethod yX4_isDirectoryFull ∈ mm_tb := mm_in 589 (by decide +kernel) (by decide +kernel)
theorem sl_X4_isDirectoryFull : Cond.selects RX4 yX4_isDirectoryFull yX4_isDirectoryFull ∈ mm_tb := mm_in 38 (by decide +kernel) (by decide +kernel)
theorem ml_X4_68 : Cond.methodLink RX4 68 yX4_isRoomFor ∈ mm_tb := mm_in 591 (by decide +kernel) (by decide +kernel)
theorem cd_X4_isRoomFor : Cond.code yX4_isRoomFor cX4_isRoomFor 2 (some .boolean) ∈ mm_tb := mm_in 594 (by decide +kernel) (by decide +kernel)
theorem im_X4_isRoomFor : Cond.instanceMethod yX4_isRoomFor ∈ mm_tb := mm_in 593 (by decide +kernel) (by decide +kernel)
theorem sl_X4_isRoomFor : Cond.selects RX4 yX4_isRoomFor yX4_isRoomFor ∈ mm_tb := mm_in 39 (by decide +kernel) (by decide +kernel)
theorem ml_X4_71 : Cond.methodLink RX4 71 yX4_putsIn ∈ mm_tb := mm_in 595 (by decide +kernel) (by decide +kernel)
theorem cd_X4_putsIn : Cond.code yX4_putsIn cX4_putsIn 3 (some .int) ∈ mm_tb := mm_in 598 (by decide +kernel) (by decide +kernel)
theorem im_X4_putsIn : Cond.instanceMethod yX4_putsIn ∈ mm_tb := mm_in 597 (by decide +kernel) (by decide +kernel)
theorem sl_X4_putsIn : Cond.selects RX4 yX4_putsIn yX4_putsIn ∈ mm_tb := mm_in 40 (by decide +kernel) (by decide +kernel)
theorem ml_X4_75 : Cond.methodLink RX4 75 yX4_laysText ∈ mm_tb := mm_in 603 (by decide +kernel) (by decide +kernel)
theorem cd_X4_laysText : Cond.code yX4_laysText cX4_laysText 4 none ∈ mm_tb := mm_in 606 (by decide +kernel) (by decide +kernel)
theorem im_X4_laysText : Cond.instanceMethod yX4_laysText ∈ mm_tb := mm_in 605 (by decide +kernel) (by decide +kernel)
theorem sl_X4_laysText : Cond.selects RX4 yX4_laysText yX4_laysText ∈ mm_tb := mm_in 42 (by decide +kernel) (by decide +kernel)
theorem ml_X4_78 : Cond.methodLink RX4 78 yX4_takesOut ∈ mm_tb := mm_in 623 (by decide +kernel) (by decide +kernel)
theorem cd_X4_takesOut : Cond.code yX4_takesOut cX4_takesOut 3 none ∈ mm_tb := mm_in 626 (by decide +kernel) (by decide +kernel)
theorem im_X4_takesOut : Cond.instanceMethod yX4_takesOut ∈ mm_tb := mm_in 625 (by decide +kernel) (by decide +kernel)
theorem sl_X4_takesOut : Cond.selects RX4 yX4_takesOut yX4_takesOut ∈ mm_tb := mm_in 45 (by decide +kernel) (by decide +kernel)
theorem ml_X4_82 : Cond.methodLink RX4 82 yX4_remember ∈ mm_tb := mm_in 562 (by decide +kernel) (by decide +kernel)
theorem cd_X4_remember : Cond.code yX4_remember cX4_remember 2 none ∈ mm_tb := mm_in 565 (by decide +kernel) (by decide +kernel)
theorem im_X4_remember : Cond.instanceMethod yX4_remember ∈ mm_tb := mm_in 564 (by decide +kernel) (by decide +kernel)
theorem sl_X4_remember : Cond.selects RX4 yX4_remember yX4_remember ∈ mm_tb := mm_in 34 (by decide +kernel) (by decide +kernel)
theorem ml_X4_85 : Cond.methodLink RX4 85 yX4_doAdd ∈ mm_tb := mm_in 566 (by decide +kernel) (by decide +kernel)
theorem cd_X4_doAdd : Cond.code yX4_doAdd cX4_doAdd 5 (some .int) ∈ mm_tb := mm_in 569 (by decide +kernel) (by decide +kernel)
theorem im_X4_doAdd : Cond.instanceMethod yX4_doAdd ∈ mm_tb := mm_in 568 (by decide +kernel) (by decide +kernel)
theorem sl_X4_doAdd : Cond.selects RX4 yX4_doAdd yX4_doAdd ∈ mm_tb := mm_in 35 (by decide +kernel) (by decide +kernel)
theorem ml_X4_89 : Cond.methodLink RX4 89 yX4_acted ∈ mm_tb := mm_in 607 (by decide +kernel) (by decide +kernel)
theorem cd_X4_acted : Cond.code yX4_acted cX4_acted 3 (some .int) ∈ mm_tb := mm_in 610 (by decide +kernel) (by decide +kernel)
theorem im_X4_acted : Cond.instanceMethod yX4_acted ∈ mm_tb := mm_in 609 (by decide +kernel) (by decide +kernel)
theorem sl_X4_acted : Cond.selects RX4 yX4_acted yX4_acted ∈ mm_tb := mm_in 43 (by decide +kernel) (by decide +kernel)
theorem ml_X4_92 : Cond.methodLink RX4 92 yX4_doAlias ∈ mm_tb := mm_in 635 (by decide +kernel) (by decide +kernel)
theorem cd_X4_doAlias : Cond.code yX4_doAlias cX4_doAlias 9 (some .int) ∈ mm_tb := mm_in 638 (by decide +kernel) (by decide +kernel)
theorem im_X4_doAlias : Cond.instanceMethod yX4_doAlias ∈ mm_tb := mm_in 637 (by decide +kernel) (by decide +kernel)
theorem sl_X4_doAlias : Cond.selects RX4 yX4_doAlias yX4_doAlias ∈ mm_tb := mm_in 46 (by decide +kernel) (by decide +kernel)
theorem fl_X4_95 : Cond.fieldLink RX4 95 (TX4 8).1 (TX4 8).2.1 (TX4 8).2.2.1 ∈ mm_tb := mm_in 529 (by decide +kernel) (by decide +kernel)
theorem fl_X4_25 : Cond.fieldLink RX4 25 (TX4 7).1 (TX4 7).2.1 (TX4 7).2.2.1 ∈ mm_tb := mm_in 528 (by decide +kernel) (by decide +kernel)
theorem fl_X4_98 : Cond.fieldLink RX4 98 (TX4 9).1 (TX4 9).2.1 (TX4 9).2.2.1 ∈ mm_tb := mm_in 530 (by decide +kernel) (by decide +kernel)
theorem ml_X4_101 : Cond.methodLink RX4 101 yX4_isHere ∈ mm_tb := mm_in 663 (by decide +kernel) (by decide +kernel)
theorem cd_X4_isHere : Cond.code yX4_isHere cX4_isHere 3 (some .boolean) ∈ mm_tb := mm_in 666 (by decide +kernel) (by decide +kernel)
theorem im_X4_isHere : Cond.instanceMethod yX4_isHere ∈ mm_tb := mm_in 665 (by decide +kernel) (by decide +kernel)
theorem sl_X4_isHere : Cond.selects RX4 yX4_isHere yX4_isHere ∈ mm_tb := mm_in 50 (by decide +kernel) (by decide +kernel)
theorem fl_X4_105 : Cond.fieldLink RX4 105 (TX4 10).1 (TX4 10).2.1 (TX4 10).2.2.1 ∈ mm_tb := mm_in 531 (by decide +kernel) (by decide +kernel)
theorem ml_X4_108 : Cond.methodLink RX4 108 yX4_readsName ∈ mm_tb := mm_in 659 (by decide +kernel) (by decide +kernel)
theorem cd_X4_readsName : Cond.code yX4_readsName cX4_readsName 2 (some .boolean) ∈ mm_tb := mm_in 662 (by decide +kernel) (by decide +kernel)
theorem im_X4_readsName : Cond.instanceMethod yX4_readsName ∈ mm_tb := mm_in 661 (by decide +kernel) (by decide +kernel)
theorem sl_X4_readsName : Cond.selects RX4 yX4_readsName yX4_readsName ∈ mm_tb := mm_in 49 (by decide +kernel) (by decide +kernel)
theorem ml_X4_111 : Cond.methodLink RX4 111 yX4_takes ∈ mm_tb := mm_in 667 (by decide +kernel) (by decide +kernel)
theorem cd_X4_takes : Cond.code yX4_takes cX4_takes 3 (some .boolean) ∈ mm_tb := mm_in 670 (by decide +kernel) (by decide +kernel)
theorem im_X4_takes : Cond.instanceMethod yX4_takes ∈ mm_tb := mm_in 669 (by decide +kernel) (by decide +kernel)
theorem sl_X4_takes : Cond.selects RX4 yX4_takes yX4_takes ∈ mm_tb := mm_in 51 (by decide +kernel) (by decide +kernel)
theorem ml_X4_117 : Cond.methodLink RX4 117 yX4_readsNumber ∈ mm_tb := mm_in 671 (by decide +kernel) (by decide +kernel)
theorem cd_X4_readsNumber : Cond.code yX4_readsNumber cX4_readsNumber 3 (some .boolean) ∈ mm_tb := mm_in 674 (by decide +kernel) (by decide +kernel)
theorem im_X4_readsNumber : Cond.instanceMethod yX4_readsNumber ∈ mm_tb := mm_in 673 (by decide +kernel) (by decide +kernel)
theorem sl_X4_readsNumber : Cond.selects RX4 yX4_readsNumber yX4_readsNumber ∈ mm_tb := mm_in 52 (by decide +kernel) (by decide +kernel)
theorem fl_X4_114 : Cond.fieldLink RX4 114 (TX4 11).1 (TX4 11).2.1 (TX4 11).2.2.1 ∈ mm_tb := mm_in 532 (by decide +kernel) (by decide +kernel)
theorem ml_X4_120 : Cond.methodLink RX4 120 yX4_readsAddition ∈ mm_tb := mm_in 655 (by decide +kernel) (by decide +kernel)
theorem cd_X4_readsAddition : Cond.code yX4_readsAddition cX4_readsAddition 5 (some .boolean) ∈ mm_tb := mm_in 658 (by decide +kernel) (by decide +kernel)
theorem im_X4_readsAddition : Cond.instanceMethod yX4_readsAddition ∈ mm_tb := mm_in 657 (by decide +kernel) (by decide +kernel)
theorem sl_X4_readsAddition : Cond.selects RX4 yX4_readsAddition yX4_readsAddition ∈ mm_tb := mm_in 48 (by decide +kernel) (by decide +kernel)
theorem ml_X4_124 : Cond.methodLink RX4 124 yX4_fault ∈ mm_tb := mm_in 651 (by decide +kernel) (by decide +kernel)
theorem cd_X4_fault : Cond.code yX4_fault cX4_fault 2 (some .int) ∈ mm_tb := mm_in 654 (by decide +kernel) (by decide +kernel)
theorem im_X4_fault : Cond.instanceMethod yX4_fault ∈ mm_tb := mm_in 653 (by decide +kernel) (by decide +kernel)
theorem sl_X4_fault : Cond.selects RX4 yX4_fault yX4_fault ∈ mm_tb := mm_in 47 (by decide +kernel) (by decide +kernel)
theorem ml_X4_127 : Cond.methodLink RX4 127 yX4_living ∈ mm_tb := mm_in 679 (by decide +kernel) (by decide +kernel)
theorem cd_X4_living : Cond.code yX4_living cX4_living 4 (some .int) ∈ mm_tb := mm_in 682 (by decide +kernel) (by decide +kernel)
theorem im_X4_living : Cond.instanceMethod yX4_living ∈ mm_tb := mm_in 681 (by decide +kernel) (by decide +kernel)
theorem sl_X4_living : Cond.selects RX4 yX4_living yX4_living ∈ mm_tb := mm_in 53 (by decide +kernel) (by decide +kernel)
theorem ml_X4_131 : Cond.methodLink RX4 131 yX4_squeezes ∈ mm_tb := mm_in 687 (by decide +kernel) (by decide +kernel)
theorem cd_X4_squeezes : Cond.code yX4_squeezes cX4_squeezes 7 (some .int) ∈ mm_tb := mm_in 690 (by decide +kernel) (by decide +kernel)
theorem im_X4_squeezes : Cond.instanceMethod yX4_squeezes ∈ mm_tb := mm_in 689 (by decide +kernel) (by decide +kernel)
theorem sl_X4_squeezes : Cond.selects RX4 yX4_squeezes yX4_squeezes ∈ mm_tb := mm_in 55 (by decide +kernel) (by decide +kernel)
theorem kl_X4_134 : Jvm.Cond.constantLong RX4 134 (6 : Int64) ∈ mm_tb := mm_in 695 (by decide +kernel) (by decide +kernel)
theorem fl_X4_136 : Cond.fieldLink RX4 136 (TX4 5).1 (TX4 5).2.1 (TX4 5).2.2.1 ∈ mm_tb := mm_in 526 (by decide +kernel) (by decide +kernel)
theorem fl_X4_19 : Cond.fieldLink RX4 19 (TX4 4).1 (TX4 4).2.1 (TX4 4).2.2.1 ∈ mm_tb := mm_in 525 (by decide +kernel) (by decide +kernel)
theorem ml_X4_139 : Cond.methodLink RX4 139 yX4_aliasesOf ∈ mm_tb := mm_in 712 (by decide +kernel) (by decide +kernel)
theorem cd_X4_aliasesOf : Cond.code yX4_aliasesOf cX4_aliasesOf 4 (some .int) ∈ mm_tb := mm_in 715 (by decide +kernel) (by decide +kernel)
theorem im_X4_aliasesOf : Cond.instanceMethod yX4_aliasesOf ∈ mm_tb := mm_in 714 (by decide +kernel) (by decide +kernel)
theorem sl_X4_aliasesOf : Cond.selects RX4 yX4_aliasesOf yX4_aliasesOf ∈ mm_tb := mm_in 56 (by decide +kernel) (by decide +kernel)
theorem ml_X4_142 : Cond.methodLink RX4 142 yX4_isLost ∈ mm_tb := mm_in 716 (by decide +kernel) (by decide +kernel)
theorem cd_X4_isLost : Cond.code yX4_isLost cX4_isLost 3 (some .boolean) ∈ mm_tb := mm_in 719 (by decide +kernel) (by decide +kernel)
theorem im_X4_isLost : Cond.instanceMethod yX4_isLost ∈ mm_tb := mm_in 718 (by decide +kernel) (by decide +kernel)
theorem sl_X4_isLost : Cond.selects RX4 yX4_isLost yX4_isLost ∈ mm_tb := mm_in 57 (by decide +kernel) (by decide +kernel)
theorem kl_X4_145 : Jvm.Cond.constantLong RX4 145 (2 : Int64) ∈ mm_tb := mm_in 728 (by decide +kernel) (by decide +kernel)
theorem kl_X4_147 : Jvm.Cond.constantLong RX4 147 (99 : Int64) ∈ mm_tb := mm_in 733 (by decide +kernel) (by decide +kernel)
theorem kl_X4_149 : Jvm.Cond.constantLong RX4 149 (25 : Int64) ∈ mm_tb := mm_in 742 (by decide +kernel) (by decide +kernel)
theorem ml_X4_151 : Cond.methodLink RX4 151 yX4_members ∈ mm_tb := mm_in 747 (by decide +kernel) (by decide +kernel)
theorem cd_X4_members : Cond.code yX4_members cX4_members 3 (some .int) ∈ mm_tb := mm_in 750 (by decide +kernel) (by decide +kernel)
theorem im_X4_members : Cond.instanceMethod yX4_members ∈ mm_tb := mm_in 749 (by decide +kernel) (by decide +kernel)
theorem sl_X4_members : Cond.selects RX4 yX4_members yX4_members ∈ mm_tb := mm_in 58 (by decide +kernel) (by decide +kernel)
theorem ml_X4_154 : Cond.methodLink RX4 154 yX4_lostOnes ∈ mm_tb := mm_in 751 (by decide +kernel) (by decide +kernel)
theorem cd_X4_lostOnes : Cond.code yX4_lostOnes cX4_lostOnes 3 (some .int) ∈ mm_tb := mm_in 754 (by decide +kernel) (by decide +kernel)
theorem im_X4_lostOnes : Cond.instanceMethod yX4_lostOnes ∈ mm_tb := mm_in 753 (by decide +kernel) (by decide +kernel)
theorem sl_X4_lostOnes : Cond.selects RX4 yX4_lostOnes yX4_lostOnes ∈ mm_tb := mm_in 59 (by decide +kernel) (by decide +kernel)
end
section
abbrev rm_X0_size : Room := { frames := 0, cells := 0, slots := 0, locals := 0 }
def f_X0_size (m : Mem) : Option (Int × Mem) :=
  some ((m.1 19 1), m)
set_option maxRecDepth 100000 in
set_option maxHeartbeats 4000000 in
theorem ok_X0_size {r : Int × Mem} : ∀ (m : Mem), f_X0_size m = some r → VV RX0 cX0_size 1 rm_X0_size mmG0 (mmPi r) 0 [(0, .ref 19)] [] m := by
  intro m E
  unfold f_X0_size at E
  refine V_aload_n 0 dX0_size_0 rfl ?_
  refine V_geti (ci := 0) (k := 1) (N := 2) (T := TX0) dX0_size_1 iuX0 fl_X0_17 rfl (by decide) rfl sh_19 (fun hv1 => ?_)
  obtain rfl := Option.some.inj E
  exact V_reti dX0_size_4 ⟨rfl, rfl, hv1⟩
theorem ct_X0_size {m : Mem} {r : Int × Mem} (E : f_X0_size m = some r) : CTi yX0_size cX0_size 1 (some .int) rm_X0_size [.ref 19] m r := CT_i (by decide +kernel) rfl (Nat.le_of_ble_eq_true rfl) (ok_X0_size  _  E)
theorem hy_X0_size : yX0_size.cls = RX0 ∧ yX0_size.cls ≠ "java/lang/invoke/MethodHandle" ∧ yX0_size.cls ≠ "java/lang/invoke/VarHandle" ∧ (parseMethodDescriptor yX0_size.desc).map (fun d => d.parameters.length) = some 0 := by decide +kernel
abbrev rm_X0_dropOldest : Room := { frames := 0, cells := 0, slots := 0, locals := 0 }
def f_X0_dropOldest_L9 : Nat → Nat → Int → Mem → Option (Mem)
  | 0, _, _, _ => none
  | n + 1, l1, l2, m =>
    if 4 ≤ l2 then
(some (mwr (mwq m 3 l1) 19 1 3))
else
(mmK (inR (l2 - 1)) (mmK (0 ≤ l2 ∧ l2 < 4) ((m.2 (l2).toNat).bind (fun q7 => mmK (mmSh[q7]? = some (.inl 2)) (mmK (0 ≤ (l2 - 1) ∧ (l2 - 1) < 4) (mmK (inR (l2 + 1)) (f_X0_dropOldest_L9 n l1 (l2 + 1) (mwq m ((l2 - 1)).toNat q7))))))))
set_option maxRecDepth 100000 in
set_option maxHeartbeats 4000000 in
theorem ok_X0_dropOldest_L9 {r : Mem} : ∀ (n : Nat), ∀ (l1 : Nat) (l2 : Int) (m : Mem), mmSh[l1]? = some (.inl 2) → inR l2 → f_X0_dropOldest_L9 n l1 l2 m = some r → VV RX0 cX0_dropOldest 3 rm_X0_dropOldest mmG0 (mmPv r) 9 [(0, .ref 19), (1, .ref l1), (2, vi l2)] [] m := by
  intro n
  induction n with
  | zero =>
    intro l1 l2 m hs1 hr2 E
    cases E
  | succ n ih =>
    intro l1 l2 m hs1 hr2 E
    rw [f_X0_dropOldest_L9] at E
    refine V_iload_n 2 dX0_dropOldest_9 rfl ?_
    refine V_iconst dX0_dropOldest_10 rfl ?_
    refine V_icmp_ge 34 dX0_dropOldest_11 (by decide) hr2 ir_4 (fun c3 => ?_) (fun c3 => ?_)
    · replace E := mmI_t c3 E
      refine V_aload_n 0 dX0_dropOldest_34 rfl ?_
      refine V_geta (ci := 0) (k := 0) (N := 2) (T := TX0) (o' := 20) dX0_dropOldest_35 iuX0 fl_X0_11 rfl (by decide) rfl sh_19 rfl ?_
      refine V_iconst dX0_dropOldest_38 rfl ?_
      refine V_aload_n 1 dX0_dropOldest_39 rfl ?_
      refine V_aast (j := 3) dX0_dropOldest_40 ir_3 (by decide) hs1 rfl ?_
      refine V_aload_n 0 dX0_dropOldest_41 rfl ?_
      refine V_iconst dX0_dropOldest_42 rfl ?_
      refine V_put (ci := 0) (k := 1) (N := 2) (T := TX0) (x := 3) (ty := .int) tyX0 dX0_dropOldest_43 iuX0 tyX0_ok nmX0 fl_X0_17 rfl (by decide) rfl sh_19 rfl (by decide +kernel) rfl rfl ir_3 ?_
      obtain rfl := Option.some.inj E
      exact V_retv dX0_dropOldest_46 ⟨rfl, rfl⟩
    · replace E := mmI_f c3 E
      refine V_aload_n 0 dX0_dropOldest_14 rfl ?_
      refine V_geta (ci := 0) (k := 0) (N := 2) (T := TX0) (o' := 20) dX0_dropOldest_15 iuX0 fl_X0_11 rfl (by decide) rfl sh_19 rfl ?_
      refine V_iload_n 2 dX0_dropOldest_18 rfl ?_
      refine V_iconst dX0_dropOldest_19 rfl ?_
      obtain ⟨hv5, E⟩ := mmK_e E
      refine V_isub dX0_dropOldest_20 ?_
      refine V_aload_n 0 dX0_dropOldest_21 rfl ?_
      refine V_geta (ci := 0) (k := 0) (N := 2) (T := TX0) (o' := 20) dX0_dropOldest_22 iuX0 fl_X0_11 rfl (by decide) rfl sh_19 rfl ?_
      refine V_iload_n 2 dX0_dropOldest_25 rfl ?_
      obtain ⟨hv6, E⟩ := mmK_e E
      obtain ⟨q7, hq7, E⟩ := mmB_e E
      obtain ⟨hsq7, E⟩ := mmK_e E
      refine V_aald (n := 4) (j := (l2).toNat) dX0_dropOldest_26 sh_20 hr2 hv6 rfl hq7 ?_
      obtain ⟨hv8, E⟩ := mmK_e E
      refine V_aast (j := ((l2 - 1)).toNat) dX0_dropOldest_27 hv5 hv8 hsq7 rfl ?_
      obtain ⟨hv9, E⟩ := mmK_e E
      refine V_iinc (v := (l2 + 1)) (lv' := [(0, .ref 19), (1, .ref l1), (2, vi (l2 + 1))]) 2 dX0_dropOldest_28 rfl rfl rfl rfl ?_
      refine V_goto 9 dX0_dropOldest_31 (by decide) ?_
      exact ih _ _ _ hs1 hv9 E
def f_X0_dropOldest (m : Mem) : Option (Mem) :=
  (m.2 0).bind (fun q2 => mmK (mmSh[q2]? = some (.inl 2)) (f_X0_dropOldest_L9 mmFU q2 1 m))
set_option maxRecDepth 100000 in
set_option maxHeartbeats 4000000 in
theorem ok_X0_dropOldest {r : Mem} : ∀ (m : Mem), f_X0_dropOldest m = some r → VV RX0 cX0_dropOldest 3 rm_X0_dropOldest mmG0 (mmPv r) 0 [(0, .ref 19)] [] m := by
  intro m E
  unfold f_X0_dropOldest at E
  refine V_aload_n 0 dX0_dropOldest_0 rfl ?_
  refine V_geta (ci := 0) (k := 0) (N := 2) (T := TX0) (o' := 20) dX0_dropOldest_1 iuX0 fl_X0_11 rfl (by decide) rfl sh_19 rfl ?_
  refine V_iconst dX0_dropOldest_4 rfl ?_
  obtain ⟨q2, hq2, E⟩ := mmB_e E
  obtain ⟨hsq2, E⟩ := mmK_e E
  refine V_aald (n := 4) (j := 0) dX0_dropOldest_5 sh_20 ir_0 (by decide) rfl hq2 ?_
  refine V_astore_n (i := 1) (lv' := [(0, .ref 19), (1, .ref q2)]) dX0_dropOldest_6 rfl rfl rfl ?_
  refine V_iconst dX0_dropOldest_7 rfl ?_
  refine V_istore_n (i := 2) (lv' := [(0, .ref 19), (1, .ref q2), (2, vi 1)]) dX0_dropOldest_8 rfl rfl rfl ?_
  exact ok_X0_dropOldest_L9 mmFU _ _ _ hsq2 ir_1 E
theorem ct_X0_dropOldest {m : Mem} {r : Mem} (E : f_X0_dropOldest m = some r) : CTv yX0_dropOldest cX0_dropOldest 3 rm_X0_dropOldest [.ref 19] m r := CT_v (by decide +kernel) rfl (Nat.le_of_ble_eq_true rfl) (ok_X0_dropOldest  _  E)
theorem hy_X0_dropOldest : yX0_dropOldest.cls = RX0 ∧ yX0_dropOldest.cls ≠ "java/lang/invoke/MethodHandle" ∧ yX0_dropOldest.cls ≠ "java/lang/invoke/VarHandle" ∧ (parseMethodDescriptor yX0_dropOldest.desc).map (fun d => d.parameters.length) = some 0 := by decide +kernel
abbrev rm_X2_copyFrom : Room := { frames := 1, cells := 0, slots := 0, locals := 26 }
def f_X2_copyFrom (l0 : Nat) (l1 : Nat) (m : Mem) : Option (Mem) :=
  some (mwr (mwr (mwr (mwr (mwr (mcp (mcp (mcp (mcp (mcp m (l1 + 1) 0 (l0 + 1) 0 24) (l1 + 2) 0 (l0 + 2) 0 24) (l1 + 3) 0 (l0 + 3) 0 24) (l1 + 4) 0 (l0 + 4) 0 24) (l1 + 5) 0 (l0 + 5) 0 24) l0 5 ((mcp (mcp (mcp (mcp (mcp m (l1 + 1) 0 (l0 + 1) 0 24) (l1 + 2) 0 (l0 + 2) 0 24) (l1 + 3) 0 (l0 + 3) 0 24) (l1 + 4) 0 (l0 + 4) 0 24) (l1 + 5) 0 (l0 + 5) 0 24).1 l1 5)) l0 6 ((mwr (mcp (mcp (mcp (mcp (mcp m (l1 + 1) 0 (l0 + 1) 0 24) (l1 + 2) 0 (l0 + 2) 0 24) (l1 + 3) 0 (l0 + 3) 0 24) (l1 + 4) 0 (l0 + 4) 0 24) (l1 + 5) 0 (l0 + 5) 0 24) l0 5 ((mcp (mcp (mcp (mcp (mcp m (l1 + 1) 0 (l0 + 1) 0 24) (l1 + 2) 0 (l0 + 2) 0 24) (l1 + 3) 0 (l0 + 3) 0 24) (l1 + 4) 0 (l0 + 4) 0 24) (l1 + 5) 0 (l0 + 5) 0 24).1 l1 5)).1 l1 6)) l0 7 ((mwr (mwr (mcp (mcp (mcp (mcp (mcp m (l1 + 1) 0 (l0 + 1) 0 24) (l1 + 2) 0 (l0 + 2) 0 24) (l1 + 3) 0 (l0 + 3) 0 24) (l1 + 4) 0 (l0 + 4) 0 24) (l1 + 5) 0 (l0 + 5) 0 24) l0 5 ((mcp (mcp (mcp (mcp (mcp m (l1 + 1) 0 (l0 + 1) 0 24) (l1 + 2) 0 (l0 + 2) 0 24) (l1 + 3) 0 (l0 + 3) 0 24) (l1 + 4) 0 (l0 + 4) 0 24) (l1 + 5) 0 (l0 + 5) 0 24).1 l1 5)) l0 6 ((mwr (mcp (mcp (mcp (mcp (mcp m (l1 + 1) 0 (l0 + 1) 0 24) (l1 + 2) 0 (l0 + 2) 0 24) (l1 + 3) 0 (l0 + 3) 0 24) (l1 + 4) 0 (l0 + 4) 0 24) (l1 + 5) 0 (l0 + 5) 0 24) l0 5 ((mcp (mcp (mcp (mcp (mcp m (l1 + 1) 0 (l0 + 1) 0 24) (l1 + 2) 0 (l0 + 2) 0 24) (l1 + 3) 0 (l0 + 3) 0 24) (l1 + 4) 0 (l0 + 4) 0 24) (l1 + 5) 0 (l0 + 5) 0 24).1 l1 5)).1 l1 6)).1 l1 7)) l0 8 ((mwr (mwr (mwr (mcp (mcp (mcp (mcp (mcp m (l1 + 1) 0 (l0 + 1) 0 24) (l1 + 2) 0 (l0 + 2) 0 24) (l1 + 3) 0 (l0 + 3) 0 24) (l1 + 4) 0 (l0 + 4) 0 24) (l1 + 5) 0 (l0 + 5) 0 24) l0 5 ((mcp (mcp (mcp (mcp (mcp m (l1 + 1) 0 (l0 + 1) 0 24) (l1 + 2) 0 (l0 + 2) 0 24) (l1 + 3) 0 (l0 + 3) 0 24) (l1 + 4) 0 (l0 + 4) 0 24) (l1 + 5) 0 (l0 + 5) 0 24).1 l1 5)) l0 6 ((mwr (mcp (mcp (mcp (mcp (mcp m (l1 + 1) 0 (l0 + 1) 0 24) (l1 + 2) 0 (l0 + 2) 0 24) (l1 + 3) 0 (l0 + 3) 0 24) (l1 + 4) 0 (l0 + 4) 0 24) (l1 + 5) 0 (l0 + 5) 0 24) l0 5 ((mcp (mcp (mcp (mcp (mcp m (l1 + 1) 0 (l0 + 1) 0 24) (l1 + 2) 0 (l0 + 2) 0 24) (l1 + 3) 0 (l0 + 3) 0 24) (l1 + 4) 0 (l0 + 4) 0 24) (l1 + 5) 0 (l0 + 5) 0 24).1 l1 5)).1 l1 6)) l0 7 ((mwr (mwr (mcp (mcp (mcp (mcp (mcp m (l1 + 1) 0 (l0 + 1) 0 24) (l1 + 2) 0 (l0 + 2) 0 24) (l1 + 3) 0 (l0 + 3) 0 24) (l1 + 4) 0 (l0 + 4) 0 24) (l1 + 5) 0 (l0 + 5) 0 24) l0 5 ((mcp (mcp (mcp (mcp (mcp m (l1 + 1) 0 (l0 + 1) 0 24) (l1 + 2) 0 (l0 + 2) 0 24) (l1 + 3) 0 (l0 + 3) 0 24) (l1 + 4) 0 (l0 + 4) 0 24) (l1 + 5) 0 (l0 + 5) 0 24).1 l1 5)) l0 6 ((mwr (mcp (mcp (mcp (mcp (mcp m (l1 + 1) 0 (l0 + 1) 0 24) (l1 + 2) 0 (l0 + 2) 0 24) (l1 + 3) 0 (l0 + 3) 0 24) (l1 + 4) 0 (l0 + 4) 0 24) (l1 + 5) 0 (l0 + 5) 0 24) l0 5 ((mcp (mcp (mcp (mcp (mcp m (l1 + 1) 0 (l0 + 1) 0 24) (l1 + 2) 0 (l0 + 2) 0 24) (l1 + 3) 0 (l0 + 3) 0 24) (l1 + 4) 0 (l0 + 4) 0 24) (l1 + 5) 0 (l0 + 5) 0 24).1 l1 5)).1 l1 6)).1 l1 7)).1 l1 8)) l0 9 ((mwr (mwr (mwr (mwr (mcp (mcp (mcp (mcp (mcp m (l1 + 1) 0 (l0 + 1) 0 24) (l1 + 2) 0 (l0 + 2) 0 24) (l1 + 3) 0 (l0 + 3) 0 24) (l1 + 4) 0 (l0 + 4) 0 24) (l1 + 5) 0 (l0 + 5) 0 24) l0 5 ((mcp (mcp (mcp (mcp (mcp m (l1 + 1) 0 (l0 + 1) 0 24) (l1 + 2) 0 (l0 + 2) 0 24) (l1 + 3) 0 (l0 + 3) 0 24) (l1 + 4) 0 (l0 + 4) 0 24) (l1 + 5) 0 (l0 + 5) 0 24).1 l1 5)) l0 6 ((mwr (mcp (mcp (mcp (mcp (mcp m (l1 + 1) 0 (l0 + 1) 0 24) (l1 + 2) 0 (l0 + 2) 0 24) (l1 + 3) 0 (l0 + 3) 0 24) (l1 + 4) 0 (l0 + 4) 0 24) (l1 + 5) 0 (l0 + 5) 0 24) l0 5 ((mcp (mcp (mcp (mcp (mcp m (l1 + 1) 0 (l0 + 1) 0 24) (l1 + 2) 0 (l0 + 2) 0 24) (l1 + 3) 0 (l0 + 3) 0 24) (l1 + 4) 0 (l0 + 4) 0 24) (l1 + 5) 0 (l0 + 5) 0 24).1 l1 5)).1 l1 6)) l0 7 ((mwr (mwr (mcp (mcp (mcp (mcp (mcp m (l1 + 1) 0 (l0 + 1) 0 24) (l1 + 2) 0 (l0 + 2) 0 24) (l1 + 3) 0 (l0 + 3) 0 24) (l1 + 4) 0 (l0 + 4) 0 24) (l1 + 5) 0 (l0 + 5) 0 24) l0 5 ((mcp (mcp (mcp (mcp (mcp m (l1 + 1) 0 (l0 + 1) 0 24) (l1 + 2) 0 (l0 + 2) 0 24) (l1 + 3) 0 (l0 + 3) 0 24) (l1 + 4) 0 (l0 + 4) 0 24) (l1 + 5) 0 (l0 + 5) 0 24).1 l1 5)) l0 6 ((mwr (mcp (mcp (mcp (mcp (mcp m (l1 + 1) 0 (l0 + 1) 0 24) (l1 + 2) 0 (l0 + 2) 0 24) (l1 + 3) 0 (l0 + 3) 0 24) (l1 + 4) 0 (l0 + 4) 0 24) (l1 + 5) 0 (l0 + 5) 0 24) l0 5 ((mcp (mcp (mcp (mcp (mcp m (l1 + 1) 0 (l0 + 1) 0 24) (l1 + 2) 0 (l0 + 2) 0 24) (l1 + 3) 0 (l0 + 3) 0 24) (l1 + 4) 0 (l0 + 4) 0 24) (l1 + 5) 0 (l0 + 5) 0 24).1 l1 5)).1 l1 6)).1 l1 7)) l0 8 ((mwr (mwr (mwr (mcp (mcp (mcp (mcp (mcp m (l1 + 1) 0 (l0 + 1) 0 24) (l1 + 2) 0 (l0 + 2) 0 24) (l1 + 3) 0 (l0 + 3) 0 24) (l1 + 4) 0 (l0 + 4) 0 24) (l1 + 5) 0 (l0 + 5) 0 24) l0 5 ((mcp (mcp (mcp (mcp (mcp m (l1 + 1) 0 (l0 + 1) 0 24) (l1 + 2) 0 (l0 + 2) 0 24) (l1 + 3) 0 (l0 + 3) 0 24) (l1 + 4) 0 (l0 + 4) 0 24) (l1 + 5) 0 (l0 + 5) 0 24).1 l1 5)) l0 6 ((mwr (mcp (mcp (mcp (mcp (mcp m (l1 + 1) 0 (l0 + 1) 0 24) (l1 + 2) 0 (l0 + 2) 0 24) (l1 + 3) 0 (l0 + 3) 0 24) (l1 + 4) 0 (l0 + 4) 0 24) (l1 + 5) 0 (l0 + 5) 0 24) l0 5 ((mcp (mcp (mcp (mcp (mcp m (l1 + 1) 0 (l0 + 1) 0 24) (l1 + 2) 0 (l0 + 2) 0 24) (l1 + 3) 0 (l0 + 3) 0 24) (l1 + 4) 0 (l0 + 4) 0 24) (l1 + 5) 0 (l0 + 5) 0 24).1 l1 5)).1 l1 6)) l0 7 ((mwr (mwr (mcp (mcp (mcp (mcp (mcp m (l1 + 1) 0 (l0 + 1) 0 24) (l1 + 2) 0 (l0 + 2) 0 24) (l1 + 3) 0 (l0 + 3) 0 24) (l1 + 4) 0 (l0 + 4) 0 24) (l1 + 5) 0 (l0 + 5) 0 24) l0 5 ((mcp (mcp (mcp (mcp (mcp m (l1 + 1) 0 (l0 + 1) 0 24) (l1 + 2) 0 (l0 + 2) 0 24) (l1 + 3) 0 (l0 + 3) 0 24) (l1 + 4) 0 (l0 + 4) 0 24) (l1 + 5) 0 (l0 + 5) 0 24).1 l1 5)) l0 6 ((mwr (mcp (mcp (mcp (mcp (mcp m (l1 + 1) 0 (l0 + 1) 0 24) (l1 + 2) 0 (l0 + 2) 0 24) (l1 + 3) 0 (l0 + 3) 0 24) (l1 + 4) 0 (l0 + 4) 0 24) (l1 + 5) 0 (l0 + 5) 0 24) l0 5 ((mcp (mcp (mcp (mcp (mcp m (l1 + 1) 0 (l0 + 1) 0 24) (l1 + 2) 0 (l0 + 2) 0 24) (l1 + 3) 0 (l0 + 3) 0 24) (l1 + 4) 0 (l0 + 4) 0 24) (l1 + 5) 0 (l0 + 5) 0 24).1 l1 5)).1 l1 6)).1 l1 7)).1 l1 8)).1 l1 9))
set_option maxRecDepth 100000 in
set_option maxHeartbeats 4000000 in
theorem ok_X2_copyFrom {r : Mem} : ∀ (l0 : Nat) (l1 : Nat) (m : Mem), mmSh[l0]? = some (.inl 2) → mmSh[l1]? = some (.inl 2) → f_X2_copyFrom l0 l1 m = some r → VV RX2 cX2_copyFrom 2 rm_X2_copyFrom mmG0 (mmPv r) 0 [(0, .ref l0), (1, .ref l1)] [] m := by
  intro l0 l1 m hs0 hs1 E
  unfold f_X2_copyFrom at E
  refine V_aload_n 1 dX2_copyFrom_0 rfl ?_
  refine V_geta (ci := 2) (k := 0) (N := 10) (T := TX2) (o' := (l1 + 1)) dX2_copyFrom_1 iuX2 fl_X2_9 rfl (by decide) rfl hs1 rfl ?_
  refine V_iconst dX2_copyFrom_4 rfl ?_
  refine V_aload_n 0 dX2_copyFrom_5 rfl ?_
  refine V_geta (ci := 2) (k := 0) (N := 10) (T := TX2) (o' := (l0 + 1)) dX2_copyFrom_6 iuX2 fl_X2_9 rfl (by decide) rfl hs0 rfl ?_
  refine V_iconst dX2_copyFrom_9 rfl ?_
  refine V_bipush (v := 24) dX2_copyFrom_10 (by decide) ?_
  refine V_copy (n0 := 24) (n1 := 24) (js := 0) (jd := 0) (jn := 24) dX2_copyFrom_12 ml_X2_43 na_copy st_copy it_System (mmS1 hs1) (mmS1 hs0) ir_0 ir_0 ir_24 (by decide) ⟨by decide, by decide⟩ (Nat.le_of_ble_eq_true rfl) rfl rfl rfl ?_
  refine V_aload_n 1 dX2_copyFrom_15 rfl ?_
  refine V_geta (ci := 2) (k := 1) (N := 10) (T := TX2) (o' := (l1 + 2)) dX2_copyFrom_16 iuX2 fl_X2_15 rfl (by decide) rfl hs1 rfl ?_
  refine V_iconst dX2_copyFrom_19 rfl ?_
  refine V_aload_n 0 dX2_copyFrom_20 rfl ?_
  refine V_geta (ci := 2) (k := 1) (N := 10) (T := TX2) (o' := (l0 + 2)) dX2_copyFrom_21 iuX2 fl_X2_15 rfl (by decide) rfl hs0 rfl ?_
  refine V_iconst dX2_copyFrom_24 rfl ?_
  refine V_bipush (v := 24) dX2_copyFrom_25 (by decide) ?_
  refine V_copy (n0 := 24) (n1 := 24) (js := 0) (jd := 0) (jn := 24) dX2_copyFrom_27 ml_X2_43 na_copy st_copy it_System (mmS2 hs1) (mmS2 hs0) ir_0 ir_0 ir_24 (by decide) ⟨by decide, by decide⟩ (Nat.le_of_ble_eq_true rfl) rfl rfl rfl ?_
  refine V_aload_n 1 dX2_copyFrom_30 rfl ?_
  refine V_geta (ci := 2) (k := 2) (N := 10) (T := TX2) (o' := (l1 + 3)) dX2_copyFrom_31 iuX2 fl_X2_18 rfl (by decide) rfl hs1 rfl ?_
  refine V_iconst dX2_copyFrom_34 rfl ?_
  refine V_aload_n 0 dX2_copyFrom_35 rfl ?_
  refine V_geta (ci := 2) (k := 2) (N := 10) (T := TX2) (o' := (l0 + 3)) dX2_copyFrom_36 iuX2 fl_X2_18 rfl (by decide) rfl hs0 rfl ?_
  refine V_iconst dX2_copyFrom_39 rfl ?_
  refine V_bipush (v := 24) dX2_copyFrom_40 (by decide) ?_
  refine V_copy (n0 := 24) (n1 := 24) (js := 0) (jd := 0) (jn := 24) dX2_copyFrom_42 ml_X2_43 na_copy st_copy it_System (mmS3 hs1) (mmS3 hs0) ir_0 ir_0 ir_24 (by decide) ⟨by decide, by decide⟩ (Nat.le_of_ble_eq_true rfl) rfl rfl rfl ?_
  refine V_aload_n 1 dX2_copyFrom_45 rfl ?_
  refine V_geta (ci := 2) (k := 3) (N := 10) (T := TX2) (o' := (l1 + 4)) dX2_copyFrom_46 iuX2 fl_X2_21 rfl (by decide) rfl hs1 rfl ?_
  refine V_iconst dX2_copyFrom_49 rfl ?_
  refine V_aload_n 0 dX2_copyFrom_50 rfl ?_
  refine V_geta (ci := 2) (k := 3) (N := 10) (T := TX2) (o' := (l0 + 4)) dX2_copyFrom_51 iuX2 fl_X2_21 rfl (by decide) rfl hs0 rfl ?_
  refine V_iconst dX2_copyFrom_54 rfl ?_
  refine V_bipush (v := 24) dX2_copyFrom_55 (by decide) ?_
  refine V_copy (n0 := 24) (n1 := 24) (js := 0) (jd := 0) (jn := 24) dX2_copyFrom_57 ml_X2_43 na_copy st_copy it_System (mmS4 hs1) (mmS4 hs0) ir_0 ir_0 ir_24 (by decide) ⟨by decide, by decide⟩ (Nat.le_of_ble_eq_true rfl) rfl rfl rfl ?_
  refine V_aload_n 1 dX2_copyFrom_60 rfl ?_
  refine V_geta (ci := 2) (k := 4) (N := 10) (T := TX2) (o' := (l1 + 5)) dX2_copyFrom_61 iuX2 fl_X2_24 rfl (by decide) rfl hs1 rfl ?_
  refine V_iconst dX2_copyFrom_64 rfl ?_
  refine V_aload_n 0 dX2_copyFrom_65 rfl ?_
  refine V_geta (ci := 2) (k := 4) (N := 10) (T := TX2) (o' := (l0 + 5)) dX2_copyFrom_66 iuX2 fl_X2_24 rfl (by decide) rfl hs0 rfl ?_
  refine V_iconst dX2_copyFrom_69 rfl ?_
  refine V_bipush (v := 24) dX2_copyFrom_70 (by decide) ?_
  refine V_copy (n0 := 24) (n1 := 24) (js := 0) (jd := 0) (jn := 24) dX2_copyFrom_72 ml_X2_43 na_copy st_copy it_System (mmS5 hs1) (mmS5 hs0) ir_0 ir_0 ir_24 (by decide) ⟨by decide, by decide⟩ (Nat.le_of_ble_eq_true rfl) rfl rfl rfl ?_
  refine V_aload_n 0 dX2_copyFrom_75 rfl ?_
  refine V_aload_n 1 dX2_copyFrom_76 rfl ?_
  refine V_geti (ci := 2) (k := 5) (N := 10) (T := TX2) dX2_copyFrom_77 iuX2 fl_X2_27 rfl (by decide) rfl hs1 (fun hv6 => ?_)
  refine V_put (ci := 2) (k := 5) (N := 10) (T := TX2) (x := ((mcp (mcp (mcp (mcp (mcp m (l1 + 1) 0 (l0 + 1) 0 24) (l1 + 2) 0 (l0 + 2) 0 24) (l1 + 3) 0 (l0 + 3) 0 24) (l1 + 4) 0 (l0 + 4) 0 24) (l1 + 5) 0 (l0 + 5) 0 24).1 l1 5)) (ty := .int) tyX2 dX2_copyFrom_80 iuX2 tyX2_ok nmX2 fl_X2_27 rfl (by decide) rfl hs0 rfl (by decide +kernel) rfl rfl hv6 ?_
  refine V_aload_n 0 dX2_copyFrom_83 rfl ?_
  refine V_aload_n 1 dX2_copyFrom_84 rfl ?_
  refine V_geti (ci := 2) (k := 6) (N := 10) (T := TX2) dX2_copyFrom_85 iuX2 fl_X2_31 rfl (by decide) rfl hs1 (fun hv7 => ?_)
  refine V_put (ci := 2) (k := 6) (N := 10) (T := TX2) (x := ((mwr (mcp (mcp (mcp (mcp (mcp m (l1 + 1) 0 (l0 + 1) 0 24) (l1 + 2) 0 (l0 + 2) 0 24) (l1 + 3) 0 (l0 + 3) 0 24) (l1 + 4) 0 (l0 + 4) 0 24) (l1 + 5) 0 (l0 + 5) 0 24) l0 5 ((mcp (mcp (mcp (mcp (mcp m (l1 + 1) 0 (l0 + 1) 0 24) (l1 + 2) 0 (l0 + 2) 0 24) (l1 + 3) 0 (l0 + 3) 0 24) (l1 + 4) 0 (l0 + 4) 0 24) (l1 + 5) 0 (l0 + 5) 0 24).1 l1 5)).1 l1 6)) (ty := .int) tyX2 dX2_copyFrom_88 iuX2 tyX2_ok nmX2 fl_X2_31 rfl (by decide) rfl hs0 rfl (by decide +kernel) rfl rfl hv7 ?_
  refine V_aload_n 0 dX2_copyFrom_91 rfl ?_
  refine V_aload_n 1 dX2_copyFrom_92 rfl ?_
  refine V_geti (ci := 2) (k := 7) (N := 10) (T := TX2) dX2_copyFrom_93 iuX2 fl_X2_34 rfl (by decide) rfl hs1 (fun hv8 => ?_)
  refine V_put (ci := 2) (k := 7) (N := 10) (T := TX2) (x := ((mwr (mwr (mcp (mcp (mcp (mcp (mcp m (l1 + 1) 0 (l0 + 1) 0 24) (l1 + 2) 0 (l0 + 2) 0 24) (l1 + 3) 0 (l0 + 3) 0 24) (l1 + 4) 0 (l0 + 4) 0 24) (l1 + 5) 0 (l0 + 5) 0 24) l0 5 ((mcp (mcp (mcp (mcp (mcp m (l1 + 1) 0 (l0 + 1) 0 24) (l1 + 2) 0 (l0 + 2) 0 24) (l1 + 3) 0 (l0 + 3) 0 24) (l1 + 4) 0 (l0 + 4) 0 24) (l1 + 5) 0 (l0 + 5) 0 24).1 l1 5)) l0 6 ((mwr (mcp (mcp (mcp (mcp (mcp m (l1 + 1) 0 (l0 + 1) 0 24) (l1 + 2) 0 (l0 + 2) 0 24) (l1 + 3) 0 (l0 + 3) 0 24) (l1 + 4) 0 (l0 + 4) 0 24) (l1 + 5) 0 (l0 + 5) 0 24) l0 5 ((mcp (mcp (mcp (mcp (mcp m (l1 + 1) 0 (l0 + 1) 0 24) (l1 + 2) 0 (l0 + 2) 0 24) (l1 + 3) 0 (l0 + 3) 0 24) (l1 + 4) 0 (l0 + 4) 0 24) (l1 + 5) 0 (l0 + 5) 0 24).1 l1 5)).1 l1 6)).1 l1 7)) (ty := .int) tyX2 dX2_copyFrom_96 iuX2 tyX2_ok nmX2 fl_X2_34 rfl (by decide) rfl hs0 rfl (by decide +kernel) rfl rfl hv8 ?_
  refine V_aload_n 0 dX2_copyFrom_99 rfl ?_
  refine V_aload_n 1 dX2_copyFrom_100 rfl ?_
  refine V_geti (ci := 2) (k := 8) (N := 10) (T := TX2) dX2_copyFrom_101 iuX2 fl_X2_37 rfl (by decide) rfl hs1 (fun hv9 => ?_)
  refine V_put (ci := 2) (k := 8) (N := 10) (T := TX2) (x := ((mwr (mwr (mwr (mcp (mcp (mcp (mcp (mcp m (l1 + 1) 0 (l0 + 1) 0 24) (l1 + 2) 0 (l0 + 2) 0 24) (l1 + 3) 0 (l0 + 3) 0 24) (l1 + 4) 0 (l0 + 4) 0 24) (l1 + 5) 0 (l0 + 5) 0 24) l0 5 ((mcp (mcp (mcp (mcp (mcp m (l1 + 1) 0 (l0 + 1) 0 24) (l1 + 2) 0 (l0 + 2) 0 24) (l1 + 3) 0 (l0 + 3) 0 24) (l1 + 4) 0 (l0 + 4) 0 24) (l1 + 5) 0 (l0 + 5) 0 24).1 l1 5)) l0 6 ((mwr (mcp (mcp (mcp (mcp (mcp m (l1 + 1) 0 (l0 + 1) 0 24) (l1 + 2) 0 (l0 + 2) 0 24) (l1 + 3) 0 (l0 + 3) 0 24) (l1 + 4) 0 (l0 + 4) 0 24) (l1 + 5) 0 (l0 + 5) 0 24) l0 5 ((mcp (mcp (mcp (mcp (mcp m (l1 + 1) 0 (l0 + 1) 0 24) (l1 + 2) 0 (l0 + 2) 0 24) (l1 + 3) 0 (l0 + 3) 0 24) (l1 + 4) 0 (l0 + 4) 0 24) (l1 + 5) 0 (l0 + 5) 0 24).1 l1 5)).1 l1 6)) l0 7 ((mwr (mwr (mcp (mcp (mcp (mcp (mcp m (l1 + 1) 0 (l0 + 1) 0 24) (l1 + 2) 0 (l0 + 2) 0 24) (l1 + 3) 0 (l0 + 3) 0 24) (l1 + 4) 0 (l0 + 4) 0 24) (l1 + 5) 0 (l0 + 5) 0 24) l0 5 ((mcp (mcp (mcp (mcp (mcp m (l1 + 1) 0 (l0 + 1) 0 24) (l1 + 2) 0 (l0 + 2) 0 24) (l1 + 3) 0 (l0 + 3) 0 24) (l1 + 4) 0 (l0 + 4) 0 24) (l1 + 5) 0 (l0 + 5) 0 24).1 l1 5)) l0 6 ((mwr (mcp (mcp (mcp (mcp (mcp m (l1 + 1) 0 (l0 + 1) 0 24) (l1 + 2) 0 (l0 + 2) 0 24) (l1 + 3) 0 (l0 + 3) 0 24) (l1 + 4) 0 (l0 + 4) 0 24) (l1 + 5) 0 (l0 + 5) 0 24) l0 5 ((mcp (mcp (mcp (mcp (mcp m (l1 + 1) 0 (l0 + 1) 0 24) (l1 + 2) 0 (l0 + 2) 0 24) (l1 + 3) 0 (l0 + 3) 0 24) (l1 + 4) 0 (l0 + 4) 0 24) (l1 + 5) 0 (l0 + 5) 0 24).1 l1 5)).1 l1 6)).1 l1 7)).1 l1 8)) (ty := .int) tyX2 dX2_copyFrom_104 iuX2 tyX2_ok nmX2 fl_X2_37 rfl (by decide) rfl hs0 rfl (by decide +kernel) rfl rfl hv9 ?_
  refine V_aload_n 0 dX2_copyFrom_107 rfl ?_
  refine V_aload_n 1 dX2_copyFrom_108 rfl ?_
  refine V_geti (ci := 2) (k := 9) (N := 10) (T := TX2) dX2_copyFrom_109 iuX2 fl_X2_40 rfl (by decide) rfl hs1 (fun hv10 => ?_)
  refine V_put (ci := 2) (k := 9) (N := 10) (T := TX2) (x := ((mwr (mwr (mwr (mwr (mcp (mcp (mcp (mcp (mcp m (l1 + 1) 0 (l0 + 1) 0 24) (l1 + 2) 0 (l0 + 2) 0 24) (l1 + 3) 0 (l0 + 3) 0 24) (l1 + 4) 0 (l0 + 4) 0 24) (l1 + 5) 0 (l0 + 5) 0 24) l0 5 ((mcp (mcp (mcp (mcp (mcp m (l1 + 1) 0 (l0 + 1) 0 24) (l1 + 2) 0 (l0 + 2) 0 24) (l1 + 3) 0 (l0 + 3) 0 24) (l1 + 4) 0 (l0 + 4) 0 24) (l1 + 5) 0 (l0 + 5) 0 24).1 l1 5)) l0 6 ((mwr (mcp (mcp (mcp (mcp (mcp m (l1 + 1) 0 (l0 + 1) 0 24) (l1 + 2) 0 (l0 + 2) 0 24) (l1 + 3) 0 (l0 + 3) 0 24) (l1 + 4) 0 (l0 + 4) 0 24) (l1 + 5) 0 (l0 + 5) 0 24) l0 5 ((mcp (mcp (mcp (mcp (mcp m (l1 + 1) 0 (l0 + 1) 0 24) (l1 + 2) 0 (l0 + 2) 0 24) (l1 + 3) 0 (l0 + 3) 0 24) (l1 + 4) 0 (l0 + 4) 0 24) (l1 + 5) 0 (l0 + 5) 0 24).1 l1 5)).1 l1 6)) l0 7 ((mwr (mwr (mcp (mcp (mcp (mcp (mcp m (l1 + 1) 0 (l0 + 1) 0 24) (l1 + 2) 0 (l0 + 2) 0 24) (l1 + 3) 0 (l0 + 3) 0 24) (l1 + 4) 0 (l0 + 4) 0 24) (l1 + 5) 0 (l0 + 5) 0 24) l0 5 ((mcp (mcp (mcp (mcp (mcp m (l1 + 1) 0 (l0 + 1) 0 24) (l1 + 2) 0 (l0 + 2) 0 24) (l1 + 3) 0 (l0 + 3) 0 24) (l1 + 4) 0 (l0 + 4) 0 24) (l1 + 5) 0 (l0 + 5) 0 24).1 l1 5)) l0 6 ((mwr (mcp (mcp (mcp (mcp (mcp m (l1 + 1) 0 (l0 + 1) 0 24) (l1 + 2) 0 (l0 + 2) 0 24) (l1 + 3) 0 (l0 + 3) 0 24) (l1 + 4) 0 (l0 + 4) 0 24) (l1 + 5) 0 (l0 + 5) 0 24) l0 5 ((mcp (mcp (mcp (mcp (mcp m (l1 + 1) 0 (l0 + 1) 0 24) (l1 + 2) 0 (l0 + 2) 0 24) (l1 + 3) 0 (l0 + 3) 0 24) (l1 + 4) 0 (l0 + 4) 0 24) (l1 + 5) 0 (l0 + 5) 0 24).1 l1 5)).1 l1 6)).1 l1 7)) l0 8 ((mwr (mwr (mwr (mcp (mcp (mcp (mcp (mcp m (l1 + 1) 0 (l0 + 1) 0 24) (l1 + 2) 0 (l0 + 2) 0 24) (l1 + 3) 0 (l0 + 3) 0 24) (l1 + 4) 0 (l0 + 4) 0 24) (l1 + 5) 0 (l0 + 5) 0 24) l0 5 ((mcp (mcp (mcp (mcp (mcp m (l1 + 1) 0 (l0 + 1) 0 24) (l1 + 2) 0 (l0 + 2) 0 24) (l1 + 3) 0 (l0 + 3) 0 24) (l1 + 4) 0 (l0 + 4) 0 24) (l1 + 5) 0 (l0 + 5) 0 24).1 l1 5)) l0 6 ((mwr (mcp (mcp (mcp (mcp (mcp m (l1 + 1) 0 (l0 + 1) 0 24) (l1 + 2) 0 (l0 + 2) 0 24) (l1 + 3) 0 (l0 + 3) 0 24) (l1 + 4) 0 (l0 + 4) 0 24) (l1 + 5) 0 (l0 + 5) 0 24) l0 5 ((mcp (mcp (mcp (mcp (mcp m (l1 + 1) 0 (l0 + 1) 0 24) (l1 + 2) 0 (l0 + 2) 0 24) (l1 + 3) 0 (l0 + 3) 0 24) (l1 + 4) 0 (l0 + 4) 0 24) (l1 + 5) 0 (l0 + 5) 0 24).1 l1 5)).1 l1 6)) l0 7 ((mwr (mwr (mcp (mcp (mcp (mcp (mcp m (l1 + 1) 0 (l0 + 1) 0 24) (l1 + 2) 0 (l0 + 2) 0 24) (l1 + 3) 0 (l0 + 3) 0 24) (l1 + 4) 0 (l0 + 4) 0 24) (l1 + 5) 0 (l0 + 5) 0 24) l0 5 ((mcp (mcp (mcp (mcp (mcp m (l1 + 1) 0 (l0 + 1) 0 24) (l1 + 2) 0 (l0 + 2) 0 24) (l1 + 3) 0 (l0 + 3) 0 24) (l1 + 4) 0 (l0 + 4) 0 24) (l1 + 5) 0 (l0 + 5) 0 24).1 l1 5)) l0 6 ((mwr (mcp (mcp (mcp (mcp (mcp m (l1 + 1) 0 (l0 + 1) 0 24) (l1 + 2) 0 (l0 + 2) 0 24) (l1 + 3) 0 (l0 + 3) 0 24) (l1 + 4) 0 (l0 + 4) 0 24) (l1 + 5) 0 (l0 + 5) 0 24) l0 5 ((mcp (mcp (mcp (mcp (mcp m (l1 + 1) 0 (l0 + 1) 0 24) (l1 + 2) 0 (l0 + 2) 0 24) (l1 + 3) 0 (l0 + 3) 0 24) (l1 + 4) 0 (l0 + 4) 0 24) (l1 + 5) 0 (l0 + 5) 0 24).1 l1 5)).1 l1 6)).1 l1 7)).1 l1 8)).1 l1 9)) (ty := .int) tyX2 dX2_copyFrom_112 iuX2 tyX2_ok nmX2 fl_X2_40 rfl (by decide) rfl hs0 rfl (by decide +kernel) rfl rfl hv10 ?_
  obtain rfl := Option.some.inj E
  exact V_retv dX2_copyFrom_115 ⟨rfl, rfl⟩
theorem ct_X2_copyFrom {l0 : Nat} {l1 : Nat} {m : Mem} {r : Mem} (hs0 : mmSh[l0]? = some (.inl 2)) (hs1 : mmSh[l1]? = some (.inl 2)) (E : f_X2_copyFrom l0 l1 m = some r) : CTv yX2_copyFrom cX2_copyFrom 2 rm_X2_copyFrom [.ref l0, .ref l1] m r := CT_v (by decide +kernel) rfl (Nat.le_of_ble_eq_true rfl) (ok_X2_copyFrom _ _ _ hs0 hs1 E)
theorem hy_X2_copyFrom : yX2_copyFrom.cls = RX2 ∧ yX2_copyFrom.cls ≠ "java/lang/invoke/MethodHandle" ∧ yX2_copyFrom.cls ≠ "java/lang/invoke/VarHandle" ∧ (parseMethodDescriptor yX2_copyFrom.desc).map (fun d => d.parameters.length) = some 1 := by decide +kernel
abbrev rm_X0_keepState : Room := { frames := 2, cells := 0, slots := 0, locals := 47 }
def f_X0_keepState_L12 (l1 : Nat) (m : Mem) : Option (Mem) :=
  mmK (0 ≤ (m.1 19 1) ∧ (m.1 19 1) < 4) ((m.2 ((m.1 19 1)).toNat).bind (fun q5 => mmK (mmSh[q5]? = some (.inl 2)) ((f_X2_copyFrom q5 l1 m).bind (fun q6 => mmK (inR ((q6.1 19 1) + 1)) (some (mwr q6 19 1 ((q6.1 19 1) + 1)))))))
set_option maxRecDepth 100000 in
set_option maxHeartbeats 4000000 in
theorem ok_X0_keepState_L12 {r : Mem} : ∀ (l1 : Nat) (m : Mem), mmSh[l1]? = some (.inl 2) → f_X0_keepState_L12 l1 m = some r → VV RX0 cX0_keepState 3 rm_X0_keepState mmG0 (mmPv r) 12 [(0, .ref 19), (1, .ref l1)] [] m := by
  intro l1 m hs1 E
  unfold f_X0_keepState_L12 at E
  refine V_aload_n 0 dX0_keepState_12 rfl ?_
  refine V_geta (ci := 0) (k := 0) (N := 2) (T := TX0) (o' := 20) dX0_keepState_13 iuX0 fl_X0_11 rfl (by decide) rfl sh_19 rfl ?_
  refine V_aload_n 0 dX0_keepState_16 rfl ?_
  refine V_geti (ci := 0) (k := 1) (N := 2) (T := TX0) dX0_keepState_17 iuX0 fl_X0_17 rfl (by decide) rfl sh_19 (fun hv3 => ?_)
  obtain ⟨hv4, E⟩ := mmK_e E
  obtain ⟨q5, hq5, E⟩ := mmB_e E
  obtain ⟨hsq5, E⟩ := mmK_e E
  refine V_aald (n := 4) (j := ((m.1 19 1)).toNat) dX0_keepState_20 sh_20 hv3 hv4 rfl hq5 ?_
  refine V_astore_n (i := 2) (lv' := [(0, .ref 19), (1, .ref l1), (2, .ref q5)]) dX0_keepState_21 rfl rfl rfl ?_
  refine V_aload_n 2 dX0_keepState_22 rfl ?_
  refine V_ifnull dX0_keepState_23 ?_
  refine V_aload_n 2 dX0_keepState_26 rfl ?_
  refine V_aload_n 1 dX0_keepState_27 rfl ?_
  obtain ⟨q6, hq6, E⟩ := mmB_e E
  refine V_callVv (ci := 2) (q := (RX2, TX2, 10)) (Cn := RX2) (st := []) 1 dX0_keepState_28 (ct_X2_copyFrom hsq5 hs1 hq6) ml_X0_25 im_X2_copyFrom sl_X2_copyFrom it_X2 cd_X2_copyFrom hy_X2_copyFrom ⟨rfl, rfl, by decide, by decide⟩ hsq5 rfl rfl rfl rfl (Nat.le_of_ble_eq_true rfl) ?_
  refine V_aload_n 0 dX0_keepState_31 rfl ?_
  refine V_dupa dX0_keepState_32 ?_
  refine V_geti (ci := 0) (k := 1) (N := 2) (T := TX0) dX0_keepState_33 iuX0 fl_X0_17 rfl (by decide) rfl sh_19 (fun hv8 => ?_)
  refine V_iconst dX0_keepState_36 rfl ?_
  obtain ⟨hv9, E⟩ := mmK_e E
  refine V_iadd dX0_keepState_37 ?_
  refine V_put (ci := 0) (k := 1) (N := 2) (T := TX0) (x := ((q6.1 19 1) + 1)) (ty := .int) tyX0 dX0_keepState_38 iuX0 tyX0_ok nmX0 fl_X0_17 rfl (by decide) rfl sh_19 rfl (by decide +kernel) rfl rfl hv9 ?_
  obtain rfl := Option.some.inj E
  exact V_retv dX0_keepState_41 ⟨rfl, rfl⟩
def f_X0_keepState (l1 : Nat) (m : Mem) : Option (Mem) :=
  if (m.1 19 1) < 4 then
(f_X0_keepState_L12 l1 m)
else
((f_X0_dropOldest m).bind (fun q10 => f_X0_keepState_L12 l1 q10))
set_option maxRecDepth 100000 in
set_option maxHeartbeats 4000000 in
theorem ok_X0_keepState {r : Mem} : ∀ (l1 : Nat) (m : Mem), mmSh[l1]? = some (.inl 2) → f_X0_keepState l1 m = some r → VV RX0 cX0_keepState 3 rm_X0_keepState mmG0 (mmPv r) 0 [(0, .ref 19), (1, .ref l1)] [] m := by
  intro l1 m hs1 E
  unfold f_X0_keepState at E
  refine V_aload_n 0 dX0_keepState_0 rfl ?_
  refine V_geti (ci := 0) (k := 1) (N := 2) (T := TX0) dX0_keepState_1 iuX0 fl_X0_17 rfl (by decide) rfl sh_19 (fun hv1 => ?_)
  refine V_iconst dX0_keepState_4 rfl ?_
  refine V_icmp_lt 12 dX0_keepState_5 (by decide) hv1 ir_4 (fun c2 => ?_) (fun c2 => ?_)
  · replace E := mmI_t c2 E
    exact ok_X0_keepState_L12 _ _ hs1 E
  · replace E := mmI_f c2 E
    refine V_aload_n 0 dX0_keepState_8 rfl ?_
    obtain ⟨q10, hq10, E⟩ := mmB_e E
    refine V_callVv (ci := 0) (q := (RX0, TX0, 2)) (Cn := RX0) (st := []) 0 dX0_keepState_9 (ct_X0_dropOldest hq10) ml_X0_22 im_X0_dropOldest sl_X0_dropOldest it_X0 cd_X0_dropOldest hy_X0_dropOldest ⟨rfl, rfl, by decide, by decide⟩ sh_19 rfl rfl rfl rfl (Nat.le_of_ble_eq_true rfl) ?_
    exact ok_X0_keepState_L12 _ _ hs1 E
theorem ct_X0_keepState {l1 : Nat} {m : Mem} {r : Mem} (hs1 : mmSh[l1]? = some (.inl 2)) (E : f_X0_keepState l1 m = some r) : CTv yX0_keepState cX0_keepState 3 rm_X0_keepState [.ref 19, .ref l1] m r := CT_v (by decide +kernel) rfl (Nat.le_of_ble_eq_true rfl) (ok_X0_keepState _ _ hs1 E)
theorem hy_X0_keepState : yX0_keepState.cls = RX0 ∧ yX0_keepState.cls ≠ "java/lang/invoke/MethodHandle" ∧ yX0_keepState.cls ≠ "java/lang/invoke/VarHandle" ∧ (parseMethodDescriptor yX0_keepState.desc).map (fun d => d.parameters.length) = some 1 := by decide +kernel
abbrev rm_X0_giveLatestTo : Room := { frames := 2, cells := 0, slots := 0, locals := 47 }
def f_X0_giveLatestTo (l1 : Nat) (m : Mem) : Option (Int × Mem) :=
  if (m.1 19 1) ≤ 0 then
(some (0, m))
else
(if (m.1 19 1) ≤ 4 then
(mmK (inR ((m.1 19 1) - 1)) (mmK (0 ≤ ((m.1 19 1) - 1) ∧ ((m.1 19 1) - 1) < 4) ((m.2 (((m.1 19 1) - 1)).toNat).bind (fun q8 => mmK (mmSh[q8]? = some (.inl 2)) ((f_X2_copyFrom l1 q8 m).bind (fun q9 => mmK (inR ((q9.1 19 1) - 1)) (some (1, (mwr q9 19 1 ((q9.1 19 1) - 1))))))))))
else
(some (0, m)))
set_option maxRecDepth 100000 in
set_option maxHeartbeats 4000000 in
theorem ok_X0_giveLatestTo {r : Int × Mem} : ∀ (l1 : Nat) (m : Mem), mmSh[l1]? = some (.inl 2) → f_X0_giveLatestTo l1 m = some r → VV RX0 cX0_giveLatestTo 3 rm_X0_giveLatestTo mmG0 (mmPz r) 0 [(0, .ref 19), (1, .ref l1)] [] m := by
  intro l1 m hs1 E
  unfold f_X0_giveLatestTo at E
  refine V_aload_n 0 dX0_giveLatestTo_0 rfl ?_
  refine V_geti (ci := 0) (k := 1) (N := 2) (T := TX0) dX0_giveLatestTo_1 iuX0 fl_X0_17 rfl (by decide) rfl sh_19 (fun hv1 => ?_)
  refine V_if_le 15 dX0_giveLatestTo_4 (by decide) hv1 (fun c2 => ?_) (fun c2 => ?_)
  · replace E := mmI_t c2 E
    refine V_iconst dX0_giveLatestTo_15 rfl ?_
    obtain rfl := Option.some.inj E
    exact V_reti dX0_giveLatestTo_16 ⟨rfl, rfl, (Or.inl rfl)⟩
  · replace E := mmI_f c2 E
    refine V_aload_n 0 dX0_giveLatestTo_7 rfl ?_
    refine V_geti (ci := 0) (k := 1) (N := 2) (T := TX0) dX0_giveLatestTo_8 iuX0 fl_X0_17 rfl (by decide) rfl sh_19 (fun hv3 => ?_)
    refine V_iconst dX0_giveLatestTo_11 rfl ?_
    refine V_icmp_le 17 dX0_giveLatestTo_12 (by decide) hv3 ir_4 (fun c4 => ?_) (fun c4 => ?_)
    · replace E := mmI_t c4 E
      refine V_aload_n 0 dX0_giveLatestTo_17 rfl ?_
      refine V_geta (ci := 0) (k := 0) (N := 2) (T := TX0) (o' := 20) dX0_giveLatestTo_18 iuX0 fl_X0_11 rfl (by decide) rfl sh_19 rfl ?_
      refine V_aload_n 0 dX0_giveLatestTo_21 rfl ?_
      refine V_geti (ci := 0) (k := 1) (N := 2) (T := TX0) dX0_giveLatestTo_22 iuX0 fl_X0_17 rfl (by decide) rfl sh_19 (fun hv5 => ?_)
      refine V_iconst dX0_giveLatestTo_25 rfl ?_
      obtain ⟨hv6, E⟩ := mmK_e E
      refine V_isub dX0_giveLatestTo_26 ?_
      obtain ⟨hv7, E⟩ := mmK_e E
      obtain ⟨q8, hq8, E⟩ := mmB_e E
      obtain ⟨hsq8, E⟩ := mmK_e E
      refine V_aald (n := 4) (j := (((m.1 19 1) - 1)).toNat) dX0_giveLatestTo_27 sh_20 hv6 hv7 rfl hq8 ?_
      refine V_astore_n (i := 2) (lv' := [(0, .ref 19), (1, .ref l1), (2, .ref q8)]) dX0_giveLatestTo_28 rfl rfl rfl ?_
      refine V_aload_n 2 dX0_giveLatestTo_29 rfl ?_
      refine V_ifnonnull 35 dX0_giveLatestTo_30 (by decide) ?_
      refine V_aload_n 1 dX0_giveLatestTo_35 rfl ?_
      refine V_aload_n 2 dX0_giveLatestTo_36 rfl ?_
      obtain ⟨q9, hq9, E⟩ := mmB_e E
      refine V_callVv (ci := 2) (q := (RX2, TX2, 10)) (Cn := RX2) (st := []) 1 dX0_giveLatestTo_37 (ct_X2_copyFrom hs1 hsq8 hq9) ml_X0_25 im_X2_copyFrom sl_X2_copyFrom it_X2 cd_X2_copyFrom hy_X2_copyFrom ⟨rfl, rfl, by decide, by decide⟩ hs1 rfl rfl rfl rfl (Nat.le_of_ble_eq_true rfl) ?_
      refine V_aload_n 0 dX0_giveLatestTo_40 rfl ?_
      refine V_dupa dX0_giveLatestTo_41 ?_
      refine V_geti (ci := 0) (k := 1) (N := 2) (T := TX0) dX0_giveLatestTo_42 iuX0 fl_X0_17 rfl (by decide) rfl sh_19 (fun hv11 => ?_)
      refine V_iconst dX0_giveLatestTo_45 rfl ?_
      obtain ⟨hv12, E⟩ := mmK_e E
      refine V_isub dX0_giveLatestTo_46 ?_
      refine V_put (ci := 0) (k := 1) (N := 2) (T := TX0) (x := ((q9.1 19 1) - 1)) (ty := .int) tyX0 dX0_giveLatestTo_47 iuX0 tyX0_ok nmX0 fl_X0_17 rfl (by decide) rfl sh_19 rfl (by decide +kernel) rfl rfl hv12 ?_
      refine V_iconst dX0_giveLatestTo_50 rfl ?_
      obtain rfl := Option.some.inj E
      exact V_reti dX0_giveLatestTo_51 ⟨rfl, rfl, (Or.inr rfl)⟩
    · replace E := mmI_f c4 E
      refine V_iconst dX0_giveLatestTo_15 rfl ?_
      obtain rfl := Option.some.inj E
      exact V_reti dX0_giveLatestTo_16 ⟨rfl, rfl, (Or.inl rfl)⟩
theorem ct_X0_giveLatestTo {l1 : Nat} {m : Mem} {r : Int × Mem} (hs1 : mmSh[l1]? = some (.inl 2)) (E : f_X0_giveLatestTo l1 m = some r) : CTi yX0_giveLatestTo cX0_giveLatestTo 3 (some .boolean) rm_X0_giveLatestTo [.ref 19, .ref l1] m r := CT_z (by decide +kernel) rfl (Nat.le_of_ble_eq_true rfl) (ok_X0_giveLatestTo _ _ hs1 E)
theorem hy_X0_giveLatestTo : yX0_giveLatestTo.cls = RX0 ∧ yX0_giveLatestTo.cls ≠ "java/lang/invoke/MethodHandle" ∧ yX0_giveLatestTo.cls ≠ "java/lang/invoke/VarHandle" ∧ (parseMethodDescriptor yX0_giveLatestTo.desc).map (fun d => d.parameters.length) = some 1 := by decide +kernel
abbrev rm_X1_length : Room := { frames := 0, cells := 0, slots := 0, locals := 0 }
def f_X1_length (m : Mem) : Option (Int × Mem) :=
  some ((m.1 45 1), m)
set_option maxRecDepth 100000 in
set_option maxHeartbeats 4000000 in
theorem ok_X1_length {r : Int × Mem} : ∀ (m : Mem), f_X1_length m = some r → VV RX1 cX1_length 1 rm_X1_length mmG0 (mmPi r) 0 [(0, .ref 45)] [] m := by
  intro m E
  unfold f_X1_length at E
  refine V_aload_n 0 dX1_length_0 rfl ?_
  refine V_geti (ci := 1) (k := 1) (N := 8) (T := TX1) dX1_length_1 iuX1 fl_X1_15 rfl (by decide) rfl sh_45 (fun hv1 => ?_)
  obtain rfl := Option.some.inj E
  exact V_reti dX1_length_4 ⟨rfl, rfl, hv1⟩
theorem ct_X1_length {m : Mem} {r : Int × Mem} (E : f_X1_length m = some r) : CTi yX1_length cX1_length 1 (some .int) rm_X1_length [.ref 45] m r := CT_i (by decide +kernel) rfl (Nat.le_of_ble_eq_true rfl) (ok_X1_length  _  E)
theorem hy_X1_length : yX1_length.cls = RX1 ∧ yX1_length.cls ≠ "java/lang/invoke/MethodHandle" ∧ yX1_length.cls ≠ "java/lang/invoke/VarHandle" ∧ (parseMethodDescriptor yX1_length.desc).map (fun d => d.parameters.length) = some 0 := by decide +kernel
abbrev rm_X1_append : Room := { frames := 0, cells := 0, slots := 0, locals := 0 }
def f_X1_append (l1 : Int) (m : Mem) : Option (Int × Mem) :=
  if (m.1 45 1) < 60 then
(mmK (0 ≤ (m.1 45 1) ∧ (m.1 45 1) < 60) (mmK (0 ≤ l1 ∧ l1 ≤ 65535) (mmK (inR (((mwr m 46 ((m.1 45 1)).toNat l1).1 45 1) + 1)) (some (((mwr (mwr m 46 ((m.1 45 1)).toNat l1) 45 1 (((mwr m 46 ((m.1 45 1)).toNat l1).1 45 1) + 1)).1 45 1), (mwr (mwr m 46 ((m.1 45 1)).toNat l1) 45 1 (((mwr m 46 ((m.1 45 1)).toNat l1).1 45 1) + 1)))))))
else
(some ((-3), m))
set_option maxRecDepth 100000 in
set_option maxHeartbeats 4000000 in
theorem ok_X1_append {r : Int × Mem} : ∀ (l1 : Int) (m : Mem), inR l1 → f_X1_append l1 m = some r → VV RX1 cX1_append 2 rm_X1_append mmG0 (mmPi r) 0 [(0, .ref 45), (1, vi l1)] [] m := by
  intro l1 m hr1 E
  unfold f_X1_append at E
  refine V_aload_n 0 dX1_append_0 rfl ?_
  refine V_geti (ci := 1) (k := 1) (N := 8) (T := TX1) dX1_append_1 iuX1 fl_X1_15 rfl (by decide) rfl sh_45 (fun hv1 => ?_)
  refine V_bipush (v := 60) dX1_append_4 (by decide) ?_
  refine V_icmp_lt 12 dX1_append_6 (by decide) hv1 ir_60 (fun c2 => ?_) (fun c2 => ?_)
  · replace E := mmI_t c2 E
    refine V_aload_n 0 dX1_append_12 rfl ?_
    refine V_geta (ci := 1) (k := 0) (N := 8) (T := TX1) (o' := 46) dX1_append_13 iuX1 fl_X1_9 rfl (by decide) rfl sh_45 rfl ?_
    refine V_aload_n 0 dX1_append_16 rfl ?_
    refine V_geti (ci := 1) (k := 1) (N := 8) (T := TX1) dX1_append_17 iuX1 fl_X1_15 rfl (by decide) rfl sh_45 (fun hv3 => ?_)
    refine V_iload_n 1 dX1_append_20 rfl ?_
    obtain ⟨hv4, E⟩ := mmK_e E
    obtain ⟨hv5, E⟩ := mmK_e E
    refine V_cast (n := 60) (j := ((m.1 45 1)).toNat) dX1_append_21 sh_46 hv3 hr1 hv4 hv5 rfl ?_
    refine V_aload_n 0 dX1_append_22 rfl ?_
    refine V_dupa dX1_append_23 ?_
    refine V_geti (ci := 1) (k := 1) (N := 8) (T := TX1) dX1_append_24 iuX1 fl_X1_15 rfl (by decide) rfl sh_45 (fun hv6 => ?_)
    refine V_iconst dX1_append_27 rfl ?_
    obtain ⟨hv7, E⟩ := mmK_e E
    refine V_iadd dX1_append_28 ?_
    refine V_put (ci := 1) (k := 1) (N := 8) (T := TX1) (x := (((mwr m 46 ((m.1 45 1)).toNat l1).1 45 1) + 1)) (ty := .int) tyX1 dX1_append_29 iuX1 tyX1_ok nmX1 fl_X1_15 rfl (by decide) rfl sh_45 rfl (by decide +kernel) rfl rfl hv7 ?_
    refine V_aload_n 0 dX1_append_32 rfl ?_
    refine V_geti (ci := 1) (k := 1) (N := 8) (T := TX1) dX1_append_33 iuX1 fl_X1_15 rfl (by decide) rfl sh_45 (fun hv8 => ?_)
    obtain rfl := Option.some.inj E
    exact V_reti dX1_append_36 ⟨rfl, rfl, hv8⟩
  · replace E := mmI_f c2 E
    refine V_bipush (v := (-3)) dX1_append_9 (by decide) ?_
    obtain rfl := Option.some.inj E
    exact V_reti dX1_append_11 ⟨rfl, rfl, ir_m3⟩
theorem ct_X1_append {l1 : Int} {m : Mem} {r : Int × Mem} (hr1 : inR l1) (E : f_X1_append l1 m = some r) : CTi yX1_append cX1_append 2 (some .int) rm_X1_append [.ref 45, vi l1] m r := CT_i (by decide +kernel) rfl (Nat.le_of_ble_eq_true rfl) (ok_X1_append _ _ hr1 E)
theorem hy_X1_append : yX1_append.cls = RX1 ∧ yX1_append.cls ≠ "java/lang/invoke/MethodHandle" ∧ yX1_append.cls ≠ "java/lang/invoke/VarHandle" ∧ (parseMethodDescriptor yX1_append.desc).map (fun d => d.parameters.length) = some 1 := by decide +kernel
abbrev rm_X1_empty : Room := { frames := 0, cells := 0, slots := 0, locals := 0 }
def f_X1_empty (m : Mem) : Option (Int × Mem) :=
  some ((m.1 45 1), (mwr m 45 1 0))
set_option maxRecDepth 100000 in
set_option maxHeartbeats 4000000 in
theorem ok_X1_empty {r : Int × Mem} : ∀ (m : Mem), f_X1_empty m = some r → VV RX1 cX1_empty 2 rm_X1_empty mmG0 (mmPi r) 0 [(0, .ref 45)] [] m := by
  intro m E
  unfold f_X1_empty at E
  refine V_aload_n 0 dX1_empty_0 rfl ?_
  refine V_geti (ci := 1) (k := 1) (N := 8) (T := TX1) dX1_empty_1 iuX1 fl_X1_15 rfl (by decide) rfl sh_45 (fun hv1 => ?_)
  refine V_istore_n (i := 1) (lv' := [(0, .ref 45), (1, vi (m.1 45 1))]) dX1_empty_4 rfl rfl rfl ?_
  refine V_aload_n 0 dX1_empty_5 rfl ?_
  refine V_iconst dX1_empty_6 rfl ?_
  refine V_put (ci := 1) (k := 1) (N := 8) (T := TX1) (x := 0) (ty := .int) tyX1 dX1_empty_7 iuX1 tyX1_ok nmX1 fl_X1_15 rfl (by decide) rfl sh_45 rfl (by decide +kernel) rfl rfl ir_0 ?_
  refine V_iload_n 1 dX1_empty_10 rfl ?_
  obtain rfl := Option.some.inj E
  exact V_reti dX1_empty_11 ⟨rfl, rfl, hv1⟩
theorem ct_X1_empty {m : Mem} {r : Int × Mem} (E : f_X1_empty m = some r) : CTi yX1_empty cX1_empty 2 (some .int) rm_X1_empty [.ref 45] m r := CT_i (by decide +kernel) rfl (Nat.le_of_ble_eq_true rfl) (ok_X1_empty  _  E)
theorem hy_X1_empty : yX1_empty.cls = RX1 ∧ yX1_empty.cls ≠ "java/lang/invoke/MethodHandle" ∧ yX1_empty.cls ≠ "java/lang/invoke/VarHandle" ∧ (parseMethodDescriptor yX1_empty.desc).map (fun d => d.parameters.length) = some 0 := by decide +kernel
abbrev rm_X1_next : Room := { frames := 0, cells := 0, slots := 0, locals := 0 }
def f_X1_next (m : Mem) : Option (Int × Mem) :=
  if (m.1 45 7) < 0 then
(some ((-1), m))
else
(if (m.1 45 1) ≤ (m.1 45 7) then
(some ((-1), m))
else
(mmK (0 ≤ (m.1 45 7) ∧ (m.1 45 7) < 60) (some ((m.1 46 ((m.1 45 7)).toNat), m))))
set_option maxRecDepth 100000 in
set_option maxHeartbeats 4000000 in
theorem ok_X1_next {r : Int × Mem} : ∀ (m : Mem), f_X1_next m = some r → VV RX1 cX1_next 1 rm_X1_next mmG0 (mmPi r) 0 [(0, .ref 45)] [] m := by
  intro m E
  unfold f_X1_next at E
  refine V_aload_n 0 dX1_next_0 rfl ?_
  refine V_geti (ci := 1) (k := 7) (N := 8) (T := TX1) dX1_next_1 iuX1 fl_X1_35 rfl (by decide) rfl sh_45 (fun hv1 => ?_)
  refine V_if_lt 30 dX1_next_4 (by decide) hv1 (fun c2 => ?_) (fun c2 => ?_)
  · replace E := mmI_t c2 E
    refine V_iconst dX1_next_30 rfl ?_
    obtain rfl := Option.some.inj E
    exact V_reti dX1_next_31 ⟨rfl, rfl, ir_m1⟩
  · replace E := mmI_f c2 E
    refine V_aload_n 0 dX1_next_7 rfl ?_
    refine V_geti (ci := 1) (k := 7) (N := 8) (T := TX1) dX1_next_8 iuX1 fl_X1_35 rfl (by decide) rfl sh_45 (fun hv3 => ?_)
    refine V_aload_n 0 dX1_next_11 rfl ?_
    refine V_geti (ci := 1) (k := 1) (N := 8) (T := TX1) dX1_next_12 iuX1 fl_X1_15 rfl (by decide) rfl sh_45 (fun hv4 => ?_)
    refine V_icmp_ge 30 dX1_next_15 (by decide) hv3 hv4 (fun c5 => ?_) (fun c5 => ?_)
    · replace E := mmI_t c5 E
      refine V_iconst dX1_next_30 rfl ?_
      obtain rfl := Option.some.inj E
      exact V_reti dX1_next_31 ⟨rfl, rfl, ir_m1⟩
    · replace E := mmI_f c5 E
      refine V_aload_n 0 dX1_next_18 rfl ?_
      refine V_geta (ci := 1) (k := 0) (N := 8) (T := TX1) (o' := 46) dX1_next_19 iuX1 fl_X1_9 rfl (by decide) rfl sh_45 rfl ?_
      refine V_aload_n 0 dX1_next_22 rfl ?_
      refine V_geti (ci := 1) (k := 7) (N := 8) (T := TX1) dX1_next_23 iuX1 fl_X1_35 rfl (by decide) rfl sh_45 (fun hv6 => ?_)
      obtain ⟨hv7, E⟩ := mmK_e E
      refine V_cald (n := 60) (j := ((m.1 45 7)).toNat) dX1_next_26 sh_46 hv6 hv7 rfl (fun hv8 => ?_)
      refine V_goto 31 dX1_next_27 (by decide) ?_
      obtain rfl := Option.some.inj E
      exact V_reti dX1_next_31 ⟨rfl, rfl, hv8⟩
theorem ct_X1_next {m : Mem} {r : Int × Mem} (E : f_X1_next m = some r) : CTi yX1_next cX1_next 1 (some .int) rm_X1_next [.ref 45] m r := CT_i (by decide +kernel) rfl (Nat.le_of_ble_eq_true rfl) (ok_X1_next  _  E)
theorem hy_X1_next : yX1_next.cls = RX1 ∧ yX1_next.cls ≠ "java/lang/invoke/MethodHandle" ∧ yX1_next.cls ≠ "java/lang/invoke/VarHandle" ∧ (parseMethodDescriptor yX1_next.desc).map (fun d => d.parameters.length) = some 0 := by decide +kernel
abbrev rm_X1_readLetter : Room := { frames := 1, cells := 0, slots := 0, locals := 20 }
def f_X1_readLetter (m : Mem) : Option (Int × Mem) :=
  (f_X1_next m).bind (fun q1 => if q1.1 < 65 then
(some ((-1), q1.2))
else
(if q1.1 ≤ 90 then
(mmK (inR ((q1.2.1 45 7) + 1)) (mmK (inR (q1.1 - 65)) (some ((q1.1 - 65), (mwr q1.2 45 7 ((q1.2.1 45 7) + 1))))))
else
(some ((-1), q1.2))))
set_option maxRecDepth 100000 in
set_option maxHeartbeats 4000000 in
theorem ok_X1_readLetter {r : Int × Mem} : ∀ (m : Mem), f_X1_readLetter m = some r → VV RX1 cX1_readLetter 2 rm_X1_readLetter mmG0 (mmPi r) 0 [(0, .ref 45)] [] m := by
  intro m E
  unfold f_X1_readLetter at E
  refine V_aload_n 0 dX1_readLetter_0 rfl ?_
  obtain ⟨q1, hq1, E⟩ := mmB_e E
  refine V_callV (ci := 1) (q := (RX1, TX1, 8)) (Cn := RX1) (st := []) 0 dX1_readLetter_1 (ct_X1_next hq1) ml_X1_77 im_X1_next sl_X1_next it_X1 cd_X1_next hy_X1_next ⟨rfl, rfl, by decide, by decide⟩ sh_45 rfl rfl rfl rfl (Nat.le_of_ble_eq_true rfl) (fun hv2 => ?_)
  refine V_istore_n (i := 1) (lv' := [(0, .ref 45), (1, vi q1.1)]) dX1_readLetter_4 rfl rfl rfl ?_
  refine V_iload_n 1 dX1_readLetter_5 rfl ?_
  refine V_bipush (v := 65) dX1_readLetter_6 (by decide) ?_
  refine V_icmp_lt 17 dX1_readLetter_8 (by decide) hv2 ir_65 (fun c3 => ?_) (fun c3 => ?_)
  · replace E := mmI_t c3 E
    refine V_iconst dX1_readLetter_17 rfl ?_
    obtain rfl := Option.some.inj E
    exact V_reti dX1_readLetter_18 ⟨rfl, rfl, ir_m1⟩
  · replace E := mmI_f c3 E
    refine V_iload_n 1 dX1_readLetter_11 rfl ?_
    refine V_bipush (v := 90) dX1_readLetter_12 (by decide) ?_
    refine V_icmp_le 19 dX1_readLetter_14 (by decide) hv2 ir_90 (fun c4 => ?_) (fun c4 => ?_)
    · replace E := mmI_t c4 E
      refine V_aload_n 0 dX1_readLetter_19 rfl ?_
      refine V_dupa dX1_readLetter_20 ?_
      refine V_geti (ci := 1) (k := 7) (N := 8) (T := TX1) dX1_readLetter_21 iuX1 fl_X1_35 rfl (by decide) rfl sh_45 (fun hv5 => ?_)
      refine V_iconst dX1_readLetter_24 rfl ?_
      obtain ⟨hv6, E⟩ := mmK_e E
      refine V_iadd dX1_readLetter_25 ?_
      refine V_put (ci := 1) (k := 7) (N := 8) (T := TX1) (x := ((q1.2.1 45 7) + 1)) (ty := .int) tyX1 dX1_readLetter_26 iuX1 tyX1_ok nmX1 fl_X1_35 rfl (by decide) rfl sh_45 rfl (by decide +kernel) rfl rfl hv6 ?_
      refine V_iload_n 1 dX1_readLetter_29 rfl ?_
      refine V_bipush (v := 65) dX1_readLetter_30 (by decide) ?_
      obtain ⟨hv7, E⟩ := mmK_e E
      refine V_isub dX1_readLetter_32 ?_
      obtain rfl := Option.some.inj E
      exact V_reti dX1_readLetter_33 ⟨rfl, rfl, hv7⟩
    · replace E := mmI_f c4 E
      refine V_iconst dX1_readLetter_17 rfl ?_
      obtain rfl := Option.some.inj E
      exact V_reti dX1_readLetter_18 ⟨rfl, rfl, ir_m1⟩
theorem ct_X1_readLetter {m : Mem} {r : Int × Mem} (E : f_X1_readLetter m = some r) : CTi yX1_readLetter cX1_readLetter 2 (some .int) rm_X1_readLetter [.ref 45] m r := CT_i (by decide +kernel) rfl (Nat.le_of_ble_eq_true rfl) (ok_X1_readLetter  _  E)
theorem hy_X1_readLetter : yX1_readLetter.cls = RX1 ∧ yX1_readLetter.cls ≠ "java/lang/invoke/MethodHandle" ∧ yX1_readLetter.cls ≠ "java/lang/invoke/VarHandle" ∧ (parseMethodDescriptor yX1_readLetter.desc).map (fun d => d.parameters.length) = some 0 := by decide +kernel
abbrev rm_X1_readName : Room := { frames := 2, cells := 0, slots := 0, locals := 41 }
def f_X1_readName (m : Mem) : Option (Int × Mem) :=
  (f_X1_readLetter m).bind (fun q1 => if q1.1 = (-1) then
(some ((-1), q1.2))
else
((f_X1_readLetter q1.2).bind (fun q4 => if q4.1 = (-1) then
(some ((-1), q4.2))
else
(mmK (inR (q1.1 * 26)) (mmK (inR ((q1.1 * 26) + q4.1)) (some (((q1.1 * 26) + q4.1), q4.2)))))))
set_option maxRecDepth 100000 in
set_option maxHeartbeats 4000000 in
theorem ok_X1_readName {r : Int × Mem} : ∀ (m : Mem), f_X1_readName m = some r → VV RX1 cX1_readName 3 rm_X1_readName mmG0 (mmPi r) 0 [(0, .ref 45)] [] m := by
  intro m E
  unfold f_X1_readName at E
  refine V_aload_n 0 dX1_readName_0 rfl ?_
  obtain ⟨q1, hq1, E⟩ := mmB_e E
  refine V_callV (ci := 1) (q := (RX1, TX1, 8)) (Cn := RX1) (st := []) 0 dX1_readName_1 (ct_X1_readLetter hq1) ml_X1_74 im_X1_readLetter sl_X1_readLetter it_X1 cd_X1_readLetter hy_X1_readLetter ⟨rfl, rfl, by decide, by decide⟩ sh_45 rfl rfl rfl rfl (Nat.le_of_ble_eq_true rfl) (fun hv2 => ?_)
  refine V_istore_n (i := 1) (lv' := [(0, .ref 45), (1, vi q1.1)]) dX1_readName_4 rfl rfl rfl ?_
  refine V_iload_n 1 dX1_readName_5 rfl ?_
  refine V_iconst dX1_readName_6 rfl ?_
  refine V_icmp_ne 12 dX1_readName_7 (by decide) hv2 ir_m1 (fun c3 => ?_) (fun c3 => ?_)
  · replace E := mmI_f c3 E
    refine V_aload_n 0 dX1_readName_12 rfl ?_
    obtain ⟨q4, hq4, E⟩ := mmB_e E
    refine V_callV (ci := 1) (q := (RX1, TX1, 8)) (Cn := RX1) (st := []) 0 dX1_readName_13 (ct_X1_readLetter hq4) ml_X1_74 im_X1_readLetter sl_X1_readLetter it_X1 cd_X1_readLetter hy_X1_readLetter ⟨rfl, rfl, by decide, by decide⟩ sh_45 rfl rfl rfl rfl (Nat.le_of_ble_eq_true rfl) (fun hv5 => ?_)
    refine V_istore_n (i := 2) (lv' := [(0, .ref 45), (1, vi q1.1), (2, vi q4.1)]) dX1_readName_16 rfl rfl rfl ?_
    refine V_iload_n 2 dX1_readName_17 rfl ?_
    refine V_iconst dX1_readName_18 rfl ?_
    refine V_icmp_ne 24 dX1_readName_19 (by decide) hv5 ir_m1 (fun c6 => ?_) (fun c6 => ?_)
    · replace E := mmI_f c6 E
      refine V_iload_n 1 dX1_readName_24 rfl ?_
      refine V_bipush (v := 26) dX1_readName_25 (by decide) ?_
      obtain ⟨hv7, E⟩ := mmK_e E
      refine V_imul dX1_readName_27 ?_
      refine V_iload_n 2 dX1_readName_28 rfl ?_
      obtain ⟨hv8, E⟩ := mmK_e E
      refine V_iadd dX1_readName_29 ?_
      obtain rfl := Option.some.inj E
      exact V_reti dX1_readName_30 ⟨rfl, rfl, hv8⟩
    · replace E := mmI_t c6 E
      refine V_iconst dX1_readName_22 rfl ?_
      obtain rfl := Option.some.inj E
      exact V_reti dX1_readName_23 ⟨rfl, rfl, ir_m1⟩
  · replace E := mmI_t c3 E
    refine V_iconst dX1_readName_10 rfl ?_
    obtain rfl := Option.some.inj E
    exact V_reti dX1_readName_11 ⟨rfl, rfl, ir_m1⟩
theorem ct_X1_readName {m : Mem} {r : Int × Mem} (E : f_X1_readName m = some r) : CTi yX1_readName cX1_readName 3 (some .int) rm_X1_readName [.ref 45] m r := CT_i (by decide +kernel) rfl (Nat.le_of_ble_eq_true rfl) (ok_X1_readName  _  E)
theorem hy_X1_readName : yX1_readName.cls = RX1 ∧ yX1_readName.cls ≠ "java/lang/invoke/MethodHandle" ∧ yX1_readName.cls ≠ "java/lang/invoke/VarHandle" ∧ (parseMethodDescriptor yX1_readName.desc).map (fun d => d.parameters.length) = some 0 := by decide +kernel
abbrev rm_X1_takes : Room := { frames := 1, cells := 0, slots := 0, locals := 20 }
def f_X1_takes (l1 : Int) (m : Mem) : Option (Int × Mem) :=
  (f_X1_next m).bind (fun q1 => if q1.1 = l1 then
(mmK (inR ((q1.2.1 45 7) + 1)) (some (1, (mwr q1.2 45 7 ((q1.2.1 45 7) + 1)))))
else
(some (0, q1.2)))
set_option maxRecDepth 100000 in
set_option maxHeartbeats 4000000 in
theorem ok_X1_takes {r : Int × Mem} : ∀ (l1 : Int) (m : Mem), inR l1 → f_X1_takes l1 m = some r → VV RX1 cX1_takes 2 rm_X1_takes mmG0 (mmPz r) 0 [(0, .ref 45), (1, vi l1)] [] m := by
  intro l1 m hr1 E
  unfold f_X1_takes at E
  refine V_aload_n 0 dX1_takes_0 rfl ?_
  obtain ⟨q1, hq1, E⟩ := mmB_e E
  refine V_callV (ci := 1) (q := (RX1, TX1, 8)) (Cn := RX1) (st := []) 0 dX1_takes_1 (ct_X1_next hq1) ml_X1_77 im_X1_next sl_X1_next it_X1 cd_X1_next hy_X1_next ⟨rfl, rfl, by decide, by decide⟩ sh_45 rfl rfl rfl rfl (Nat.le_of_ble_eq_true rfl) (fun hv2 => ?_)
  refine V_iload_n 1 dX1_takes_4 rfl ?_
  refine V_icmp_eq 10 dX1_takes_5 (by decide) hv2 hr1 (fun c3 => ?_) (fun c3 => ?_)
  · replace E := mmI_t c3 E
    refine V_aload_n 0 dX1_takes_10 rfl ?_
    refine V_dupa dX1_takes_11 ?_
    refine V_geti (ci := 1) (k := 7) (N := 8) (T := TX1) dX1_takes_12 iuX1 fl_X1_35 rfl (by decide) rfl sh_45 (fun hv4 => ?_)
    refine V_iconst dX1_takes_15 rfl ?_
    obtain ⟨hv5, E⟩ := mmK_e E
    refine V_iadd dX1_takes_16 ?_
    refine V_put (ci := 1) (k := 7) (N := 8) (T := TX1) (x := ((q1.2.1 45 7) + 1)) (ty := .int) tyX1 dX1_takes_17 iuX1 tyX1_ok nmX1 fl_X1_35 rfl (by decide) rfl sh_45 rfl (by decide +kernel) rfl rfl hv5 ?_
    refine V_iconst dX1_takes_20 rfl ?_
    obtain rfl := Option.some.inj E
    exact V_reti dX1_takes_21 ⟨rfl, rfl, (Or.inr rfl)⟩
  · replace E := mmI_f c3 E
    refine V_iconst dX1_takes_8 rfl ?_
    obtain rfl := Option.some.inj E
    exact V_reti dX1_takes_9 ⟨rfl, rfl, (Or.inl rfl)⟩
theorem ct_X1_takes {l1 : Int} {m : Mem} {r : Int × Mem} (hr1 : inR l1) (E : f_X1_takes l1 m = some r) : CTi yX1_takes cX1_takes 2 (some .boolean) rm_X1_takes [.ref 45, vi l1] m r := CT_z (by decide +kernel) rfl (Nat.le_of_ble_eq_true rfl) (ok_X1_takes _ _ hr1 E)
theorem hy_X1_takes : yX1_takes.cls = RX1 ∧ yX1_takes.cls ≠ "java/lang/invoke/MethodHandle" ∧ yX1_takes.cls ≠ "java/lang/invoke/VarHandle" ∧ (parseMethodDescriptor yX1_takes.desc).map (fun d => d.parameters.length) = some 1 := by decide +kernel
abbrev rm_X1_nextDigit : Room := { frames := 1, cells := 0, slots := 0, locals := 20 }
def f_X1_nextDigit (m : Mem) : Option (Int × Mem) :=
  (f_X1_next m).bind (fun q1 => if q1.1 < 48 then
(some ((-1), q1.2))
else
(if 57 < q1.1 then
(some ((-1), q1.2))
else
(mmK (inR (q1.1 - 48)) (some ((q1.1 - 48), q1.2)))))
set_option maxRecDepth 100000 in
set_option maxHeartbeats 4000000 in
theorem ok_X1_nextDigit {r : Int × Mem} : ∀ (m : Mem), f_X1_nextDigit m = some r → VV RX1 cX1_nextDigit 2 rm_X1_nextDigit mmG0 (mmPi r) 0 [(0, .ref 45)] [] m := by
  intro m E
  unfold f_X1_nextDigit at E
  refine V_aload_n 0 dX1_nextDigit_0 rfl ?_
  obtain ⟨q1, hq1, E⟩ := mmB_e E
  refine V_callV (ci := 1) (q := (RX1, TX1, 8)) (Cn := RX1) (st := []) 0 dX1_nextDigit_1 (ct_X1_next hq1) ml_X1_77 im_X1_next sl_X1_next it_X1 cd_X1_next hy_X1_next ⟨rfl, rfl, by decide, by decide⟩ sh_45 rfl rfl rfl rfl (Nat.le_of_ble_eq_true rfl) (fun hv2 => ?_)
  refine V_istore_n (i := 1) (lv' := [(0, .ref 45), (1, vi q1.1)]) dX1_nextDigit_4 rfl rfl rfl ?_
  refine V_iload_n 1 dX1_nextDigit_5 rfl ?_
  refine V_bipush (v := 48) dX1_nextDigit_6 (by decide) ?_
  refine V_icmp_lt 24 dX1_nextDigit_8 (by decide) hv2 ir_48 (fun c3 => ?_) (fun c3 => ?_)
  · replace E := mmI_t c3 E
    refine V_iconst dX1_nextDigit_24 rfl ?_
    obtain rfl := Option.some.inj E
    exact V_reti dX1_nextDigit_25 ⟨rfl, rfl, ir_m1⟩
  · replace E := mmI_f c3 E
    refine V_iload_n 1 dX1_nextDigit_11 rfl ?_
    refine V_bipush (v := 57) dX1_nextDigit_12 (by decide) ?_
    refine V_icmp_gt 24 dX1_nextDigit_14 (by decide) hv2 ir_57 (fun c4 => ?_) (fun c4 => ?_)
    · replace E := mmI_t c4 E
      refine V_iconst dX1_nextDigit_24 rfl ?_
      obtain rfl := Option.some.inj E
      exact V_reti dX1_nextDigit_25 ⟨rfl, rfl, ir_m1⟩
    · replace E := mmI_f c4 E
      refine V_iload_n 1 dX1_nextDigit_17 rfl ?_
      refine V_bipush (v := 48) dX1_nextDigit_18 (by decide) ?_
      obtain ⟨hv5, E⟩ := mmK_e E
      refine V_isub dX1_nextDigit_20 ?_
      refine V_goto 25 dX1_nextDigit_21 (by decide) ?_
      obtain rfl := Option.some.inj E
      exact V_reti dX1_nextDigit_25 ⟨rfl, rfl, hv5⟩
theorem ct_X1_nextDigit {m : Mem} {r : Int × Mem} (E : f_X1_nextDigit m = some r) : CTi yX1_nextDigit cX1_nextDigit 2 (some .int) rm_X1_nextDigit [.ref 45] m r := CT_i (by decide +kernel) rfl (Nat.le_of_ble_eq_true rfl) (ok_X1_nextDigit  _  E)
theorem hy_X1_nextDigit : yX1_nextDigit.cls = RX1 ∧ yX1_nextDigit.cls ≠ "java/lang/invoke/MethodHandle" ∧ yX1_nextDigit.cls ≠ "java/lang/invoke/VarHandle" ∧ (parseMethodDescriptor yX1_nextDigit.desc).map (fun d => d.parameters.length) = some 0 := by decide +kernel
abbrev rm_X1_readNumber : Room := { frames := 2, cells := 0, slots := 0, locals := 41 }
def f_X1_readNumber_L25 : Nat → Int → Int → Int → Mem → Option (Int × Mem)
  | 0, _, _, _, _ => none
  | n + 1, l2, l3, l4, m =>
    if 4 ≤ l4 then
(some (l3, m))
else
((f_X1_nextDigit m).bind (fun q7 => if l3 = 0 then
(some (l3, q7.2))
else
(if q7.1 = (-1) then
(some (l3, q7.2))
else
(mmK (inR (l3 * 10)) (mmK (inR ((l3 * 10) + q7.1)) (if ((l3 * 10) + q7.1) ≤ l2 then
(mmK (inR (l3 * 10)) (mmK (inR ((l3 * 10) + q7.1)) (mmK (inR ((q7.2.1 45 7) + 1)) (mmK (inR (l4 + 1)) (f_X1_readNumber_L25 n l2 ((l3 * 10) + q7.1) (l4 + 1) (mwr q7.2 45 7 ((q7.2.1 45 7) + 1)))))))
else
(some (l3, q7.2))))))))
set_option maxRecDepth 100000 in
set_option maxHeartbeats 4000000 in
theorem ok_X1_readNumber_L25 {r : Int × Mem} : ∀ (n : Nat), ∀ (l2 : Int) (l3 : Int) (l4 : Int) (m : Mem), inR l2 → inR l3 → inR l4 → f_X1_readNumber_L25 n l2 l3 l4 m = some r → VV RX1 cX1_readNumber 6 rm_X1_readNumber mmG0 (mmPi r) 25 [(0, .ref 45), (2, vi l2), (3, vi l3), (4, vi l4)] [] m := by
  intro n
  induction n with
  | zero =>
    intro l2 l3 l4 m hr2 hr3 hr4 E
    cases E
  | succ n ih =>
    intro l2 l3 l4 m hr2 hr3 hr4 E
    rw [f_X1_readNumber_L25] at E
    refine V_iload 3 dX1_readNumber_25 rfl ?_
    refine V_iconst dX1_readNumber_27 rfl ?_
    refine V_icmp_ge 84 dX1_readNumber_28 (by decide) hr4 ir_4 (fun c6 => ?_) (fun c6 => ?_)
    · replace E := mmI_t c6 E
      refine V_iload_n 2 dX1_readNumber_84 rfl ?_
      obtain rfl := Option.some.inj E
      exact V_reti dX1_readNumber_85 ⟨rfl, rfl, hr3⟩
    · replace E := mmI_f c6 E
      refine V_aload_n 0 dX1_readNumber_31 rfl ?_
      obtain ⟨q7, hq7, E⟩ := mmB_e E
      refine V_callV (ci := 1) (q := (RX1, TX1, 8)) (Cn := RX1) (st := []) 0 dX1_readNumber_32 (ct_X1_nextDigit hq7) ml_X1_80 im_X1_nextDigit sl_X1_nextDigit it_X1 cd_X1_nextDigit hy_X1_nextDigit ⟨rfl, rfl, by decide, by decide⟩ sh_45 rfl rfl rfl rfl (Nat.le_of_ble_eq_true rfl) (fun hv8 => ?_)
      refine V_istore (lv' := [(0, .ref 45), (2, vi l2), (3, vi l3), (4, vi l4), (5, vi q7.1)]) dX1_readNumber_35 rfl rfl ?_
      refine V_iload_n 2 dX1_readNumber_37 rfl ?_
      refine V_if_eq 58 dX1_readNumber_38 (by decide) hr3 (fun c9 => ?_) (fun c9 => ?_)
      · replace E := mmI_t c9 E
        refine V_iload_n 2 dX1_readNumber_58 rfl ?_
        obtain rfl := Option.some.inj E
        exact V_reti dX1_readNumber_59 ⟨rfl, rfl, hr3⟩
      · replace E := mmI_f c9 E
        refine V_iload 4 dX1_readNumber_41 rfl ?_
        refine V_iconst dX1_readNumber_43 rfl ?_
        refine V_icmp_eq 58 dX1_readNumber_44 (by decide) hv8 ir_m1 (fun c10 => ?_) (fun c10 => ?_)
        · replace E := mmI_t c10 E
          refine V_iload_n 2 dX1_readNumber_58 rfl ?_
          obtain rfl := Option.some.inj E
          exact V_reti dX1_readNumber_59 ⟨rfl, rfl, hr3⟩
        · replace E := mmI_f c10 E
          refine V_iload_n 2 dX1_readNumber_47 rfl ?_
          refine V_bipush (v := 10) dX1_readNumber_48 (by decide) ?_
          obtain ⟨hv11, E⟩ := mmK_e E
          refine V_imul dX1_readNumber_50 ?_
          refine V_iload 4 dX1_readNumber_51 rfl ?_
          obtain ⟨hv12, E⟩ := mmK_e E
          refine V_iadd dX1_readNumber_53 ?_
          refine V_iload_n 1 dX1_readNumber_54 rfl ?_
          refine V_icmp_le 60 dX1_readNumber_55 (by decide) hv12 hr2 (fun c13 => ?_) (fun c13 => ?_)
          · replace E := mmI_t c13 E
            refine V_iload_n 2 dX1_readNumber_60 rfl ?_
            refine V_bipush (v := 10) dX1_readNumber_61 (by decide) ?_
            obtain ⟨hv14, E⟩ := mmK_e E
            refine V_imul dX1_readNumber_63 ?_
            refine V_iload 4 dX1_readNumber_64 rfl ?_
            obtain ⟨hv15, E⟩ := mmK_e E
            refine V_iadd dX1_readNumber_66 ?_
            refine V_istore_n (i := 3) (lv' := [(0, .ref 45), (2, vi l2), (3, vi ((l3 * 10) + q7.1)), (4, vi l4), (5, vi q7.1)]) dX1_readNumber_67 rfl rfl rfl ?_
            refine V_aload_n 0 dX1_readNumber_68 rfl ?_
            refine V_dupa dX1_readNumber_69 ?_
            refine V_geti (ci := 1) (k := 7) (N := 8) (T := TX1) dX1_readNumber_70 iuX1 fl_X1_35 rfl (by decide) rfl sh_45 (fun hv16 => ?_)
            refine V_iconst dX1_readNumber_73 rfl ?_
            obtain ⟨hv17, E⟩ := mmK_e E
            refine V_iadd dX1_readNumber_74 ?_
            refine V_put (ci := 1) (k := 7) (N := 8) (T := TX1) (x := ((q7.2.1 45 7) + 1)) (ty := .int) tyX1 dX1_readNumber_75 iuX1 tyX1_ok nmX1 fl_X1_35 rfl (by decide) rfl sh_45 rfl (by decide +kernel) rfl rfl hv17 ?_
            obtain ⟨hv18, E⟩ := mmK_e E
            refine V_iinc (v := (l4 + 1)) (lv' := [(0, .ref 45), (2, vi l2), (3, vi ((l3 * 10) + q7.1)), (4, vi (l4 + 1)), (5, vi q7.1)]) 3 dX1_readNumber_78 rfl rfl rfl rfl ?_
            refine V_goto 25 dX1_readNumber_81 (by decide) ?_
            refine V_sub [0, 1, 2, 3] rfl ?_
            exact ih _ _ _ _ hr2 hv15 hv18 E
          · replace E := mmI_f c13 E
            refine V_iload_n 2 dX1_readNumber_58 rfl ?_
            obtain rfl := Option.some.inj E
            exact V_reti dX1_readNumber_59 ⟨rfl, rfl, hr3⟩
def f_X1_readNumber (l1 : Int) (l2 : Int) (m : Mem) : Option (Int × Mem) :=
  (f_X1_nextDigit m).bind (fun q1 => if l1 ≤ q1.1 then
(mmK (inR ((q1.2.1 45 7) + 1)) (f_X1_readNumber_L25 mmFU l2 q1.1 1 (mwr q1.2 45 7 ((q1.2.1 45 7) + 1))))
else
(some ((-1), q1.2)))
set_option maxRecDepth 100000 in
set_option maxHeartbeats 4000000 in
theorem ok_X1_readNumber {r : Int × Mem} : ∀ (l1 : Int) (l2 : Int) (m : Mem), inR l1 → inR l2 → f_X1_readNumber l1 l2 m = some r → VV RX1 cX1_readNumber 6 rm_X1_readNumber mmG0 (mmPi r) 0 [(0, .ref 45), (1, vi l1), (2, vi l2)] [] m := by
  intro l1 l2 m hr1 hr2 E
  unfold f_X1_readNumber at E
  refine V_aload_n 0 dX1_readNumber_0 rfl ?_
  obtain ⟨q1, hq1, E⟩ := mmB_e E
  refine V_callV (ci := 1) (q := (RX1, TX1, 8)) (Cn := RX1) (st := []) 0 dX1_readNumber_1 (ct_X1_nextDigit hq1) ml_X1_80 im_X1_nextDigit sl_X1_nextDigit it_X1 cd_X1_nextDigit hy_X1_nextDigit ⟨rfl, rfl, by decide, by decide⟩ sh_45 rfl rfl rfl rfl (Nat.le_of_ble_eq_true rfl) (fun hv2 => ?_)
  refine V_istore_n (i := 3) (lv' := [(0, .ref 45), (1, vi l1), (2, vi l2), (3, vi q1.1)]) dX1_readNumber_4 rfl rfl rfl ?_
  refine V_iload_n 3 dX1_readNumber_5 rfl ?_
  refine V_iload_n 1 dX1_readNumber_6 rfl ?_
  refine V_icmp_ge 12 dX1_readNumber_7 (by decide) hv2 hr1 (fun c3 => ?_) (fun c3 => ?_)
  · replace E := mmI_t c3 E
    refine V_aload_n 0 dX1_readNumber_12 rfl ?_
    refine V_dupa dX1_readNumber_13 ?_
    refine V_geti (ci := 1) (k := 7) (N := 8) (T := TX1) dX1_readNumber_14 iuX1 fl_X1_35 rfl (by decide) rfl sh_45 (fun hv4 => ?_)
    refine V_iconst dX1_readNumber_17 rfl ?_
    obtain ⟨hv5, E⟩ := mmK_e E
    refine V_iadd dX1_readNumber_18 ?_
    refine V_put (ci := 1) (k := 7) (N := 8) (T := TX1) (x := ((q1.2.1 45 7) + 1)) (ty := .int) tyX1 dX1_readNumber_19 iuX1 tyX1_ok nmX1 fl_X1_35 rfl (by decide) rfl sh_45 rfl (by decide +kernel) rfl rfl hv5 ?_
    refine V_iconst dX1_readNumber_22 rfl ?_
    refine V_istore (lv' := [(0, .ref 45), (1, vi l1), (2, vi l2), (3, vi q1.1), (4, vi 1)]) dX1_readNumber_23 rfl rfl ?_
    refine V_sub [0, 2, 3, 4] rfl ?_
    exact ok_X1_readNumber_L25 mmFU _ _ _ _ hr2 hv2 ir_1 E
  · replace E := mmI_f c3 E
    refine V_iconst dX1_readNumber_10 rfl ?_
    obtain rfl := Option.some.inj E
    exact V_reti dX1_readNumber_11 ⟨rfl, rfl, ir_m1⟩
theorem ct_X1_readNumber {l1 : Int} {l2 : Int} {m : Mem} {r : Int × Mem} (hr1 : inR l1) (hr2 : inR l2) (E : f_X1_readNumber l1 l2 m = some r) : CTi yX1_readNumber cX1_readNumber 6 (some .int) rm_X1_readNumber [.ref 45, vi l1, vi l2] m r := CT_i (by decide +kernel) rfl (Nat.le_of_ble_eq_true rfl) (ok_X1_readNumber _ _ _ hr1 hr2 E)
theorem hy_X1_readNumber : yX1_readNumber.cls = RX1 ∧ yX1_readNumber.cls ≠ "java/lang/invoke/MethodHandle" ∧ yX1_readNumber.cls ≠ "java/lang/invoke/VarHandle" ∧ (parseMethodDescriptor yX1_readNumber.desc).map (fun d => d.parameters.length) = some 2 := by decide +kernel
end
