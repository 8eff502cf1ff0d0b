-- ===== PART A: goes FIRST, ahead of the names: the tables' words, and 'selects' of the private methods out of them =====
/-- a private method of a class that the tables say can be made, by its rows of tables_1 -/
def lw_okq (q : MethodName × Nat) : Prop := (q.1.cls ≠ "java/lang/invoke/MethodHandle" ∧ q.1.cls ≠ "java/lang/invoke/VarHandle") ∧ Cond.instantiable q.1.cls q.2 ∈ tables_1 ∧ Cond.privateMethod q.1 ∈ tables_1 ∧ Cond.instanceMethod q.1 ∈ tables_1
theorem lw_p0 : lw_okq (⟨"MemberShelf$State", "aliases", "()I"⟩, 10) := ⟨⟨by decide +kernel, by decide +kernel⟩, List.mem_of_getElem? (i := 16) (by decide +kernel), List.mem_of_getElem? (i := 148) (by decide +kernel), List.mem_of_getElem? (i := 149) (by decide +kernel)⟩
theorem lw_p1 : lw_okq (⟨"MemberShelf$State", "isMember", "(I)Z"⟩, 10) := ⟨⟨by decide +kernel, by decide +kernel⟩, List.mem_of_getElem? (i := 16) (by decide +kernel), List.mem_of_getElem? (i := 152) (by decide +kernel), List.mem_of_getElem? (i := 153) (by decide +kernel)⟩
theorem lw_p2 : lw_okq (⟨"MemberShelf$State", "isRank", "(I)Z"⟩, 10) := ⟨⟨by decide +kernel, by decide +kernel⟩, List.mem_of_getElem? (i := 16) (by decide +kernel), List.mem_of_getElem? (i := 156) (by decide +kernel), List.mem_of_getElem? (i := 157) (by decide +kernel)⟩
theorem lw_p3 : lw_okq (⟨"MemberShelf$State", "lostAliases", "()I"⟩, 10) := ⟨⟨by decide +kernel, by decide +kernel⟩, List.mem_of_getElem? (i := 16) (by decide +kernel), List.mem_of_getElem? (i := 160) (by decide +kernel), List.mem_of_getElem? (i := 161) (by decide +kernel)⟩
theorem lw_p4 : lw_okq (⟨"MemberShelf$State", "isLost", "(I)Z"⟩, 10) := ⟨⟨by decide +kernel, by decide +kernel⟩, List.mem_of_getElem? (i := 16) (by decide +kernel), List.mem_of_getElem? (i := 164) (by decide +kernel), List.mem_of_getElem? (i := 165) (by decide +kernel)⟩
theorem lw_p5 : lw_okq (⟨"MemberShelf$State", "rankOf", "(I)I"⟩, 10) := ⟨⟨by decide +kernel, by decide +kernel⟩, List.mem_of_getElem? (i := 16) (by decide +kernel), List.mem_of_getElem? (i := 168) (by decide +kernel), List.mem_of_getElem? (i := 169) (by decide +kernel)⟩
theorem lw_p6 : lw_okq (⟨"MemberShelf$State", "livingUnits", "()I"⟩, 10) := ⟨⟨by decide +kernel, by decide +kernel⟩, List.mem_of_getElem? (i := 16) (by decide +kernel), List.mem_of_getElem? (i := 172) (by decide +kernel), List.mem_of_getElem? (i := 173) (by decide +kernel)⟩
theorem lw_p7 : lw_okq (⟨"MemberShelf$State", "isFirstOfText", "(I)Z"⟩, 10) := ⟨⟨by decide +kernel, by decide +kernel⟩, List.mem_of_getElem? (i := 16) (by decide +kernel), List.mem_of_getElem? (i := 176) (by decide +kernel), List.mem_of_getElem? (i := 177) (by decide +kernel)⟩
theorem lw_p8 : lw_okq (⟨"MemberShelf$State", "deadUnits", "()I"⟩, 10) := ⟨⟨by decide +kernel, by decide +kernel⟩, List.mem_of_getElem? (i := 16) (by decide +kernel), List.mem_of_getElem? (i := 180) (by decide +kernel), List.mem_of_getElem? (i := 181) (by decide +kernel)⟩
theorem lw_p9 : lw_okq (⟨"MemberShelf$State", "livingTexts", "()I"⟩, 10) := ⟨⟨by decide +kernel, by decide +kernel⟩, List.mem_of_getElem? (i := 16) (by decide +kernel), List.mem_of_getElem? (i := 184) (by decide +kernel), List.mem_of_getElem? (i := 185) (by decide +kernel)⟩
theorem lw_p10 : lw_okq (⟨"MemberShelf$State", "aliasesOf", "(I)I"⟩, 10) := ⟨⟨by decide +kernel, by decide +kernel⟩, List.mem_of_getElem? (i := 16) (by decide +kernel), List.mem_of_getElem? (i := 196) (by decide +kernel), List.mem_of_getElem? (i := 197) (by decide +kernel)⟩
theorem lw_p11 : lw_okq (⟨"MemberShelf$State", "isDirectoryFull", "()Z"⟩, 10) := ⟨⟨by decide +kernel, by decide +kernel⟩, List.mem_of_getElem? (i := 16) (by decide +kernel), List.mem_of_getElem? (i := 224) (by decide +kernel), List.mem_of_getElem? (i := 225) (by decide +kernel)⟩
theorem lw_p12 : lw_okq (⟨"MemberShelf$State", "hasRoom", "(I)Z"⟩, 10) := ⟨⟨by decide +kernel, by decide +kernel⟩, List.mem_of_getElem? (i := 16) (by decide +kernel), List.mem_of_getElem? (i := 228) (by decide +kernel), List.mem_of_getElem? (i := 229) (by decide +kernel)⟩
theorem lw_p13 : lw_okq (⟨"MemberShelf$State", "layText", "(I)I"⟩, 10) := ⟨⟨by decide +kernel, by decide +kernel⟩, List.mem_of_getElem? (i := 16) (by decide +kernel), List.mem_of_getElem? (i := 232) (by decide +kernel), List.mem_of_getElem? (i := 233) (by decide +kernel)⟩
theorem lw_p14 : lw_okq (⟨"MemberShelf$State", "insertEntry", "(IIIII)I"⟩, 10) := ⟨⟨by decide +kernel, by decide +kernel⟩, List.mem_of_getElem? (i := 16) (by decide +kernel), List.mem_of_getElem? (i := 236) (by decide +kernel), List.mem_of_getElem? (i := 237) (by decide +kernel)⟩
theorem lw_p15 : lw_okq (⟨"MemberShelf$State", "namesBelow", "(I)I"⟩, 10) := ⟨⟨by decide +kernel, by decide +kernel⟩, List.mem_of_getElem? (i := 16) (by decide +kernel), List.mem_of_getElem? (i := 240) (by decide +kernel), List.mem_of_getElem? (i := 241) (by decide +kernel)⟩
def lw_privs_1 : List (MethodName × Nat) := [(⟨"MemberShelf$State", "aliases", "()I"⟩, 10), (⟨"MemberShelf$State", "isMember", "(I)Z"⟩, 10), (⟨"MemberShelf$State", "isRank", "(I)Z"⟩, 10), (⟨"MemberShelf$State", "lostAliases", "()I"⟩, 10), (⟨"MemberShelf$State", "isLost", "(I)Z"⟩, 10), (⟨"MemberShelf$State", "rankOf", "(I)I"⟩, 10), (⟨"MemberShelf$State", "livingUnits", "()I"⟩, 10), (⟨"MemberShelf$State", "isFirstOfText", "(I)Z"⟩, 10), (⟨"MemberShelf$State", "deadUnits", "()I"⟩, 10), (⟨"MemberShelf$State", "livingTexts", "()I"⟩, 10), (⟨"MemberShelf$State", "aliasesOf", "(I)I"⟩, 10), (⟨"MemberShelf$State", "isDirectoryFull", "()Z"⟩, 10), (⟨"MemberShelf$State", "hasRoom", "(I)Z"⟩, 10), (⟨"MemberShelf$State", "layText", "(I)I"⟩, 10), (⟨"MemberShelf$State", "insertEntry", "(IIIII)I"⟩, 10), (⟨"MemberShelf$State", "namesBelow", "(I)I"⟩, 10)]
theorem lw_r1 : ∀ q ∈ lw_privs_1, lw_okq q := List.forall_mem_cons.mpr ⟨lw_p0, List.forall_mem_cons.mpr ⟨lw_p1, List.forall_mem_cons.mpr ⟨lw_p2, List.forall_mem_cons.mpr ⟨lw_p3, List.forall_mem_cons.mpr ⟨lw_p4, List.forall_mem_cons.mpr ⟨lw_p5, List.forall_mem_cons.mpr ⟨lw_p6, List.forall_mem_cons.mpr ⟨lw_p7, List.forall_mem_cons.mpr ⟨lw_p8, List.forall_mem_cons.mpr ⟨lw_p9, List.forall_mem_cons.mpr ⟨lw_p10, List.forall_mem_cons.mpr ⟨lw_p11, List.forall_mem_cons.mpr ⟨lw_p12, List.forall_mem_cons.mpr ⟨lw_p13, List.forall_mem_cons.mpr ⟨lw_p14, List.forall_mem_cons.mpr ⟨lw_p15, fun _ h => absurd h List.not_mem_nil⟩⟩⟩⟩⟩⟩⟩⟩⟩⟩⟩⟩⟩⟩⟩⟩
theorem lw_p16 : lw_okq (⟨"MemberShelf$State", "moveEntries", "(III)V"⟩, 10) := ⟨⟨by decide +kernel, by decide +kernel⟩, List.mem_of_getElem? (i := 16) (by decide +kernel), List.mem_of_getElem? (i := 244) (by decide +kernel), List.mem_of_getElem? (i := 245) (by decide +kernel)⟩
theorem lw_p17 : lw_okq (⟨"MemberShelf$State", "setEntry", "(IIIIII)V"⟩, 10) := ⟨⟨by decide +kernel, by decide +kernel⟩, List.mem_of_getElem? (i := 16) (by decide +kernel), List.mem_of_getElem? (i := 251) (by decide +kernel), List.mem_of_getElem? (i := 252) (by decide +kernel)⟩
theorem lw_p18 : lw_okq (⟨"MemberShelf", "settle", "(I)I"⟩, 6) := ⟨⟨by decide +kernel, by decide +kernel⟩, List.mem_of_getElem? (i := 8) (by decide +kernel), List.mem_of_getElem? (i := 255) (by decide +kernel), List.mem_of_getElem? (i := 256) (by decide +kernel)⟩
theorem lw_p19 : lw_okq (⟨"MemberShelf$History", "dropOldest", "()V"⟩, 2) := ⟨⟨by decide +kernel, by decide +kernel⟩, List.mem_of_getElem? (i := 54) (by decide +kernel), List.mem_of_getElem? (i := 263) (by decide +kernel), List.mem_of_getElem? (i := 264) (by decide +kernel)⟩
theorem lw_p20 : lw_okq (⟨"MemberShelf$Pad", "readAddition", "()Z"⟩, 8) := ⟨⟨by decide +kernel, by decide +kernel⟩, List.mem_of_getElem? (i := 70) (by decide +kernel), List.mem_of_getElem? (i := 301) (by decide +kernel), List.mem_of_getElem? (i := 302) (by decide +kernel)⟩
theorem lw_p21 : lw_okq (⟨"MemberShelf$Pad", "readName", "()I"⟩, 8) := ⟨⟨by decide +kernel, by decide +kernel⟩, List.mem_of_getElem? (i := 70) (by decide +kernel), List.mem_of_getElem? (i := 305) (by decide +kernel), List.mem_of_getElem? (i := 306) (by decide +kernel)⟩
theorem lw_p22 : lw_okq (⟨"MemberShelf$Pad", "readLetter", "()I"⟩, 8) := ⟨⟨by decide +kernel, by decide +kernel⟩, List.mem_of_getElem? (i := 70) (by decide +kernel), List.mem_of_getElem? (i := 309) (by decide +kernel), List.mem_of_getElem? (i := 310) (by decide +kernel)⟩
theorem lw_p23 : lw_okq (⟨"MemberShelf$Pad", "next", "()I"⟩, 8) := ⟨⟨by decide +kernel, by decide +kernel⟩, List.mem_of_getElem? (i := 70) (by decide +kernel), List.mem_of_getElem? (i := 313) (by decide +kernel), List.mem_of_getElem? (i := 314) (by decide +kernel)⟩
theorem lw_p24 : lw_okq (⟨"MemberShelf$Pad", "takes", "(C)Z"⟩, 8) := ⟨⟨by decide +kernel, by decide +kernel⟩, List.mem_of_getElem? (i := 70) (by decide +kernel), List.mem_of_getElem? (i := 317) (by decide +kernel), List.mem_of_getElem? (i := 318) (by decide +kernel)⟩
theorem lw_p25 : lw_okq (⟨"MemberShelf$Pad", "readMember", "(I)Z"⟩, 8) := ⟨⟨by decide +kernel, by decide +kernel⟩, List.mem_of_getElem? (i := 70) (by decide +kernel), List.mem_of_getElem? (i := 321) (by decide +kernel), List.mem_of_getElem? (i := 322) (by decide +kernel)⟩
theorem lw_p26 : lw_okq (⟨"MemberShelf$Pad", "readNumber", "(II)I"⟩, 8) := ⟨⟨by decide +kernel, by decide +kernel⟩, List.mem_of_getElem? (i := 70) (by decide +kernel), List.mem_of_getElem? (i := 325) (by decide +kernel), List.mem_of_getElem? (i := 326) (by decide +kernel)⟩
theorem lw_p27 : lw_okq (⟨"MemberShelf$Pad", "nextDigit", "()I"⟩, 8) := ⟨⟨by decide +kernel, by decide +kernel⟩, List.mem_of_getElem? (i := 70) (by decide +kernel), List.mem_of_getElem? (i := 329) (by decide +kernel), List.mem_of_getElem? (i := 330) (by decide +kernel)⟩
theorem lw_p28 : lw_okq (⟨"MemberShelf$Pad", "noteAddition", "(IIII)Z"⟩, 8) := ⟨⟨by decide +kernel, by decide +kernel⟩, List.mem_of_getElem? (i := 70) (by decide +kernel), List.mem_of_getElem? (i := 333) (by decide +kernel), List.mem_of_getElem? (i := 334) (by decide +kernel)⟩
theorem lw_p29 : lw_okq (⟨"MemberShelf$Pad", "readAlias", "(I)Z"⟩, 8) := ⟨⟨by decide +kernel, by decide +kernel⟩, List.mem_of_getElem? (i := 70) (by decide +kernel), List.mem_of_getElem? (i := 337) (by decide +kernel), List.mem_of_getElem? (i := 338) (by decide +kernel)⟩
theorem lw_p30 : lw_okq (⟨"MemberShelf$State", "takeOut", "(I)V"⟩, 10) := ⟨⟨by decide +kernel, by decide +kernel⟩, List.mem_of_getElem? (i := 16) (by decide +kernel), List.mem_of_getElem? (i := 374) (by decide +kernel), List.mem_of_getElem? (i := 375) (by decide +kernel)⟩
theorem lw_p31 : lw_okq (⟨"MemberShelf$State", "tellAliases", "(II)V"⟩, 10) := ⟨⟨by decide +kernel, by decide +kernel⟩, List.mem_of_getElem? (i := 16) (by decide +kernel), List.mem_of_getElem? (i := 386) (by decide +kernel), List.mem_of_getElem? (i := 387) (by decide +kernel)⟩
def lw_privs_2 : List (MethodName × Nat) := [(⟨"MemberShelf$State", "moveEntries", "(III)V"⟩, 10), (⟨"MemberShelf$State", "setEntry", "(IIIIII)V"⟩, 10), (⟨"MemberShelf", "settle", "(I)I"⟩, 6), (⟨"MemberShelf$History", "dropOldest", "()V"⟩, 2), (⟨"MemberShelf$Pad", "readAddition", "()Z"⟩, 8), (⟨"MemberShelf$Pad", "readName", "()I"⟩, 8), (⟨"MemberShelf$Pad", "readLetter", "()I"⟩, 8), (⟨"MemberShelf$Pad", "next", "()I"⟩, 8), (⟨"MemberShelf$Pad", "takes", "(C)Z"⟩, 8), (⟨"MemberShelf$Pad", "readMember", "(I)Z"⟩, 8), (⟨"MemberShelf$Pad", "readNumber", "(II)I"⟩, 8), (⟨"MemberShelf$Pad", "nextDigit", "()I"⟩, 8), (⟨"MemberShelf$Pad", "noteAddition", "(IIII)Z"⟩, 8), (⟨"MemberShelf$Pad", "readAlias", "(I)Z"⟩, 8), (⟨"MemberShelf$State", "takeOut", "(I)V"⟩, 10), (⟨"MemberShelf$State", "tellAliases", "(II)V"⟩, 10)]
theorem lw_r2 : ∀ q ∈ lw_privs_2, lw_okq q := List.forall_mem_cons.mpr ⟨lw_p16, List.forall_mem_cons.mpr ⟨lw_p17, List.forall_mem_cons.mpr ⟨lw_p18, List.forall_mem_cons.mpr ⟨lw_p19, List.forall_mem_cons.mpr ⟨lw_p20, List.forall_mem_cons.mpr ⟨lw_p21, List.forall_mem_cons.mpr ⟨lw_p22, List.forall_mem_cons.mpr ⟨lw_p23, List.forall_mem_cons.mpr ⟨lw_p24, List.forall_mem_cons.mpr ⟨lw_p25, List.forall_mem_cons.mpr ⟨lw_p26, List.forall_mem_cons.mpr ⟨lw_p27, List.forall_mem_cons.mpr ⟨lw_p28, List.forall_mem_cons.mpr ⟨lw_p29, List.forall_mem_cons.mpr ⟨lw_p30, List.forall_mem_cons.mpr ⟨lw_p31, fun _ h => absurd h List.not_mem_nil⟩⟩⟩⟩⟩⟩⟩⟩⟩⟩⟩⟩⟩⟩⟩⟩
theorem lw_p32 : lw_okq (⟨"MemberShelf$State", "closeUp", "()I"⟩, 10) := ⟨⟨by decide +kernel, by decide +kernel⟩, List.mem_of_getElem? (i := 16) (by decide +kernel), List.mem_of_getElem? (i := 403) (by decide +kernel), List.mem_of_getElem? (i := 404) (by decide +kernel)⟩
theorem lw_p33 : lw_okq (⟨"MemberShelf$State", "moveText", "(II)I"⟩, 10) := ⟨⟨by decide +kernel, by decide +kernel⟩, List.mem_of_getElem? (i := 16) (by decide +kernel), List.mem_of_getElem? (i := 407) (by decide +kernel), List.mem_of_getElem? (i := 408) (by decide +kernel)⟩
def lw_privs_3 : List (MethodName × Nat) := [(⟨"MemberShelf$State", "closeUp", "()I"⟩, 10), (⟨"MemberShelf$State", "moveText", "(II)I"⟩, 10)]
theorem lw_r3 : ∀ q ∈ lw_privs_3, lw_okq q := List.forall_mem_cons.mpr ⟨lw_p32, List.forall_mem_cons.mpr ⟨lw_p33, fun _ h => absurd h List.not_mem_nil⟩⟩
def lw_privs : List (MethodName × Nat) := lw_privs_1 ++ (lw_privs_2 ++ (lw_privs_3))
def lw_tbl : List Cond := k2_sels lw_privs ++ tables_1
theorem lw_privs_ok : ∀ q ∈ lw_privs, lw_okq q := by
  show ∀ q ∈ lw_privs_1 ++ (lw_privs_2 ++ (lw_privs_3)), lw_okq q
  exact List.forall_mem_append.mpr ⟨lw_r1, List.forall_mem_append.mpr ⟨lw_r2, lw_r3⟩⟩
def RX0 : String := "MemberShelf$History"
def TX0 : u_T := fun k => match k with
  | 0 => ("MemberShelf$History", "states", "[LMemberShelf$State;", true)
  | _ => ("MemberShelf$History", "size", "I", false)
def tyX0 : Nat → FieldType := fun k => match k with
  | 0 => .array (.object "MemberShelf$State")
  | _ => .int
abbrev wsX00 : List Cond := u_ws RX0 TX0 2
theorem nmX0 : ∀ a, a < 2 → ∀ b, b < 2 → a ≠ b → (TX0 a).2.1 ≠ (TX0 b).2.1 := by decide +kernel
theorem tyX0_ok : ∀ k, k < 2 → parseFieldDescriptor (TX0 k).2.2.1 = some (tyX0 k) := by decide +kernel
abbrev cX0_init : ByteArray := prog_2_method_1_code
def yX0_init : MethodName := ⟨RX0, "<init>", "()V"⟩
abbrev cX0_size : ByteArray := prog_2_method_2_code
def yX0_size : MethodName := ⟨RX0, "size", "()I"⟩
abbrev cX0_keepState : ByteArray := prog_2_method_3_code
def yX0_keepState : MethodName := ⟨RX0, "keepState", "(LMemberShelf$State;)V"⟩
abbrev cX0_giveLatestTo : ByteArray := prog_2_method_4_code
def yX0_giveLatestTo : MethodName := ⟨RX0, "giveLatestTo", "(LMemberShelf$State;)Z"⟩
abbrev cX0_dropOldest : ByteArray := prog_2_method_5_code
def yX0_dropOldest : MethodName := ⟨RX0, "dropOldest", "()V"⟩
def RX1 : String := "MemberShelf$Pad"
def TX1 : u_T := fun k => match k with
  | 0 => ("MemberShelf$Pad", "characters", "[C", true)
  | 1 => ("MemberShelf$Pad", "length", "I", false)
  | 2 => ("MemberShelf$Pad", "names", "[I", true)
  | 3 => ("MemberShelf$Pad", "givers", "[I", true)
  | 4 => ("MemberShelf$Pad", "lengths", "[I", true)
  | 5 => ("MemberShelf$Pad", "marks", "[I", true)
  | 6 => ("MemberShelf$Pad", "additions", "I", false)
  | _ => ("MemberShelf$Pad", "place", "I", false)
def tyX1 : Nat → FieldType := fun k => match k with
  | 0 => .array .char
  | 1 => .int
  | 2 => .array .int
  | 3 => .array .int
  | 4 => .array .int
  | 5 => .array .int
  | 6 => .int
  | _ => .int
abbrev wsX10 : List Cond := u_ws RX1 TX1 8
theorem nmX1 : ∀ a, a < 8 → ∀ b, b < 8 → a ≠ b → (TX1 a).2.1 ≠ (TX1 b).2.1 := by decide +kernel
theorem tyX1_ok : ∀ k, k < 8 → parseFieldDescriptor (TX1 k).2.2.1 = some (tyX1 k) := by decide +kernel
abbrev cX1_init : ByteArray := prog_3_method_1_code
def yX1_init : MethodName := ⟨RX1, "<init>", "()V"⟩
abbrev cX1_length : ByteArray := prog_3_method_2_code
def yX1_length : MethodName := ⟨RX1, "length", "()I"⟩
abbrev cX1_append : ByteArray := prog_3_method_3_code
def yX1_append : MethodName := ⟨RX1, "append", "(C)I"⟩
abbrev cX1_empty : ByteArray := prog_3_method_4_code
def yX1_empty : MethodName := ⟨RX1, "empty", "()I"⟩
abbrev cX1_readAdditions : ByteArray := prog_3_method_5_code
def yX1_readAdditions : MethodName := ⟨RX1, "readAdditions", "()I"⟩
abbrev cX1_makeAdditions : ByteArray := prog_3_method_6_code
def yX1_makeAdditions : MethodName := ⟨RX1, "makeAdditions", "(LMemberShelf$State;)I"⟩
abbrev cX1_readAddition : ByteArray := prog_3_method_7_code
def yX1_readAddition : MethodName := ⟨RX1, "readAddition", "()Z"⟩
abbrev cX1_readMember : ByteArray := prog_3_method_8_code
def yX1_readMember : MethodName := ⟨RX1, "readMember", "(I)Z"⟩
abbrev cX1_readAlias : ByteArray := prog_3_method_9_code
def yX1_readAlias : MethodName := ⟨RX1, "readAlias", "(I)Z"⟩
abbrev cX1_readName : ByteArray := prog_3_method_10_code
def yX1_readName : MethodName := ⟨RX1, "readName", "()I"⟩
abbrev cX1_readLetter : ByteArray := prog_3_method_11_code
def yX1_readLetter : MethodName := ⟨RX1, "readLetter", "()I"⟩
abbrev cX1_readNumber : ByteArray := prog_3_method_12_code
def yX1_readNumber : MethodName := ⟨RX1, "readNumber", "(II)I"⟩
abbrev cX1_nextDigit : ByteArray := prog_3_method_13_code
def yX1_nextDigit : MethodName := ⟨RX1, "nextDigit", "()I"⟩
abbrev cX1_takes : ByteArray := prog_3_method_14_code
def yX1_takes : MethodName := ⟨RX1, "takes", "(C)Z"⟩
abbrev cX1_next : ByteArray := prog_3_method_15_code
def yX1_next : MethodName := ⟨RX1, "next", "()I"⟩
abbrev cX1_noteAddition : ByteArray := prog_3_method_16_code
def yX1_noteAddition : MethodName := ⟨RX1, "noteAddition", "(IIII)Z"⟩
def RX2 : String := "MemberShelf$State"
def TX2 : u_T := fun k => match k with
  | 0 => ("MemberShelf$State", "names", "[I", true)
  | 1 => ("MemberShelf$State", "givers", "[I", true)
  | 2 => ("MemberShelf$State", "starts", "[I", true)
  | 3 => ("MemberShelf$State", "lengths", "[I", true)
  | 4 => ("MemberShelf$State", "marks", "[I", true)
  | 5 => ("MemberShelf$State", "size", "I", false)
  | 6 => ("MemberShelf$State", "blocks", "I", false)
  | 7 => ("MemberShelf$State", "end", "I", false)
  | 8 => ("MemberShelf$State", "squeezings", "I", false)
  | _ => ("MemberShelf$State", "unitsGivenBack", "I", false)
def tyX2 : Nat → FieldType := fun k => match k with
  | 0 => .array .int
  | 1 => .array .int
  | 2 => .array .int
  | 3 => .array .int
  | 4 => .array .int
  | 5 => .int
  | 6 => .int
  | 7 => .int
  | 8 => .int
  | _ => .int
abbrev wsX20 : List Cond := u_ws RX2 TX2 10
theorem nmX2 : ∀ a, a < 10 → ∀ b, b < 10 → a ≠ b → (TX2 a).2.1 ≠ (TX2 b).2.1 := by decide +kernel
theorem tyX2_ok : ∀ k, k < 10 → parseFieldDescriptor (TX2 k).2.2.1 = some (tyX2 k) := by decide +kernel
abbrev cX2_init : ByteArray := prog_4_method_1_code
def yX2_init : MethodName := ⟨RX2, "<init>", "()V"⟩
abbrev cX2_copyFrom : ByteArray := prog_4_method_2_code
def yX2_copyFrom : MethodName := ⟨RX2, "copyFrom", "(LMemberShelf$State;)V"⟩
abbrev cX2_addMember : ByteArray := prog_4_method_4_code
def yX2_addMember : MethodName := ⟨RX2, "addMember", "(III)I"⟩
abbrev cX2_replaceText : ByteArray := prog_4_method_5_code
def yX2_replaceText : MethodName := ⟨RX2, "replaceText", "(III)I"⟩
abbrev cX2_removeEntry : ByteArray := prog_4_method_6_code
def yX2_removeEntry : MethodName := ⟨RX2, "removeEntry", "(I)I"⟩
abbrev cX2_renameEntry : ByteArray := prog_4_method_7_code
def yX2_renameEntry : MethodName := ⟨RX2, "renameEntry", "(II)I"⟩
abbrev cX2_giveAlias : ByteArray := prog_4_method_8_code
def yX2_giveAlias : MethodName := ⟨RX2, "giveAlias", "(II)I"⟩
abbrev cX2_giveBackDeadRoom : ByteArray := prog_4_method_9_code
def yX2_giveBackDeadRoom : MethodName := ⟨RX2, "giveBackDeadRoom", "()I"⟩
abbrev cX2_changeBlocks : ByteArray := prog_4_method_10_code
def yX2_changeBlocks : MethodName := ⟨RX2, "changeBlocks", "(I)I"⟩
abbrev cX2_tellEntry : ByteArray := prog_4_method_11_code
def yX2_tellEntry : MethodName := ⟨RX2, "tellEntry", "(II)I"⟩
abbrev cX2_tellName : ByteArray := prog_4_method_12_code
def yX2_tellName : MethodName := ⟨RX2, "tellName", "(I)I"⟩
abbrev cX2_tellUnit : ByteArray := prog_4_method_14_code
def yX2_tellUnit : MethodName := ⟨RX2, "tellUnit", "(I)I"⟩
abbrev cX2_tellFit : ByteArray := prog_4_method_15_code
def yX2_tellFit : MethodName := ⟨RX2, "tellFit", "(I)I"⟩
abbrev cX2_tellBeginning : ByteArray := prog_4_method_16_code
def yX2_tellBeginning : MethodName := ⟨RX2, "tellBeginning", "(II)I"⟩
abbrev cX2_tellCount : ByteArray := prog_4_method_17_code
def yX2_tellCount : MethodName := ⟨RX2, "tellCount", "(I)I"⟩
abbrev cX2_isName : ByteArray := prog_4_method_18_code
def yX2_isName : MethodName := ⟨RX2, "isName", "(I)Z"⟩
abbrev cX2_isLength : ByteArray := prog_4_method_19_code
def yX2_isLength : MethodName := ⟨RX2, "isLength", "(I)Z"⟩
abbrev cX2_isMark : ByteArray := prog_4_method_20_code
def yX2_isMark : MethodName := ⟨RX2, "isMark", "(I)Z"⟩
abbrev cX2_isRank : ByteArray := prog_4_method_21_code
def yX2_isRank : MethodName := ⟨RX2, "isRank", "(I)Z"⟩
abbrev cX2_isMember : ByteArray := prog_4_method_22_code
def yX2_isMember : MethodName := ⟨RX2, "isMember", "(I)Z"⟩
abbrev cX2_isLost : ByteArray := prog_4_method_23_code
def yX2_isLost : MethodName := ⟨RX2, "isLost", "(I)Z"⟩
abbrev cX2_isFirstOfText : ByteArray := prog_4_method_24_code
def yX2_isFirstOfText : MethodName := ⟨RX2, "isFirstOfText", "(I)Z"⟩
abbrev cX2_isDirectoryFull : ByteArray := prog_4_method_25_code
def yX2_isDirectoryFull : MethodName := ⟨RX2, "isDirectoryFull", "()Z"⟩
abbrev cX2_hasRoom : ByteArray := prog_4_method_26_code
def yX2_hasRoom : MethodName := ⟨RX2, "hasRoom", "(I)Z"⟩
abbrev cX2_rankOf : ByteArray := prog_4_method_27_code
def yX2_rankOf : MethodName := ⟨RX2, "rankOf", "(I)I"⟩
abbrev cX2_namesBelow : ByteArray := prog_4_method_28_code
def yX2_namesBelow : MethodName := ⟨RX2, "namesBelow", "(I)I"⟩
abbrev cX2_aliases : ByteArray := prog_4_method_29_code
def yX2_aliases : MethodName := ⟨RX2, "aliases", "()I"⟩
abbrev cX2_lostAliases : ByteArray := prog_4_method_30_code
def yX2_lostAliases : MethodName := ⟨RX2, "lostAliases", "()I"⟩
abbrev cX2_aliasesOf : ByteArray := prog_4_method_31_code
def yX2_aliasesOf : MethodName := ⟨RX2, "aliasesOf", "(I)I"⟩
abbrev cX2_livingTexts : ByteArray := prog_4_method_32_code
def yX2_livingTexts : MethodName := ⟨RX2, "livingTexts", "()I"⟩
abbrev cX2_livingUnits : ByteArray := prog_4_method_33_code
def yX2_livingUnits : MethodName := ⟨RX2, "livingUnits", "()I"⟩
abbrev cX2_deadUnits : ByteArray := prog_4_method_34_code
def yX2_deadUnits : MethodName := ⟨RX2, "deadUnits", "()I"⟩
abbrev cX2_layText : ByteArray := prog_4_method_35_code
def yX2_layText : MethodName := ⟨RX2, "layText", "(I)I"⟩
abbrev cX2_tellAliases : ByteArray := prog_4_method_36_code
def yX2_tellAliases : MethodName := ⟨RX2, "tellAliases", "(II)V"⟩
abbrev cX2_insertEntry : ByteArray := prog_4_method_37_code
def yX2_insertEntry : MethodName := ⟨RX2, "insertEntry", "(IIIII)I"⟩
abbrev cX2_takeOut : ByteArray := prog_4_method_38_code
def yX2_takeOut : MethodName := ⟨RX2, "takeOut", "(I)V"⟩
abbrev cX2_setEntry : ByteArray := prog_4_method_39_code
def yX2_setEntry : MethodName := ⟨RX2, "setEntry", "(IIIIII)V"⟩
abbrev cX2_moveEntries : ByteArray := prog_4_method_40_code
def yX2_moveEntries : MethodName := ⟨RX2, "moveEntries", "(III)V"⟩
abbrev cX2_closeUp : ByteArray := prog_4_method_41_code
def yX2_closeUp : MethodName := ⟨RX2, "closeUp", "()I"⟩
abbrev cX2_moveText : ByteArray := prog_4_method_42_code
def yX2_moveText : MethodName := ⟨RX2, "moveText", "(II)I"⟩
def RX3 : String := "MemberShelf"
def TX3 : u_T := fun k => match k with
  | 0 => ("MemberShelf", "shelf", "LMemberShelf$State;", true)
  | 1 => ("MemberShelf", "trial", "LMemberShelf$State;", true)
  | 2 => ("MemberShelf", "snapshot", "LMemberShelf$State;", true)
  | 3 => ("MemberShelf", "hasSnapshot", "Z", false)
  | 4 => ("MemberShelf", "history", "LMemberShelf$History;", true)
  | _ => ("MemberShelf", "pad", "LMemberShelf$Pad;", true)
def tyX3 : Nat → FieldType := fun k => match k with
  | 0 => .object "MemberShelf$State"
  | 1 => .object "MemberShelf$State"
  | 2 => .object "MemberShelf$State"
  | 3 => .boolean
  | 4 => .object "MemberShelf$History"
  | _ => .object "MemberShelf$Pad"
abbrev wsX30 : List Cond := u_ws RX3 TX3 6
theorem nmX3 : ∀ a, a < 6 → ∀ b, b < 6 → a ≠ b → (TX3 a).2.1 ≠ (TX3 b).2.1 := by decide +kernel
theorem tyX3_ok : ∀ k, k < 6 → parseFieldDescriptor (TX3 k).2.2.1 = some (tyX3 k) := by decide +kernel
abbrev cX3_init : ByteArray := prog_1_method_1_code
def yX3_init : MethodName := ⟨RX3, "<init>", "()V"⟩
abbrev cX3_add : ByteArray := prog_1_method_2_code
def yX3_add : MethodName := ⟨RX3, "add", "(III)I"⟩
abbrev cX3_replace : ByteArray := prog_1_method_3_code
def yX3_replace : MethodName := ⟨RX3, "replace", "(III)I"⟩
abbrev cX3_remove : ByteArray := prog_1_method_4_code
def yX3_remove : MethodName := ⟨RX3, "remove", "(I)I"⟩
abbrev cX3_rename : ByteArray := prog_1_method_5_code
def yX3_rename : MethodName := ⟨RX3, "rename", "(II)I"⟩
abbrev cX3_alias : ByteArray := prog_1_method_6_code
def yX3_alias : MethodName := ⟨RX3, "alias", "(II)I"⟩
abbrev cX3_addAll : ByteArray := prog_1_method_7_code
def yX3_addAll : MethodName := ⟨RX3, "addAll", "()I"⟩
abbrev cX3_squeeze : ByteArray := prog_1_method_8_code
def yX3_squeeze : MethodName := ⟨RX3, "squeeze", "()I"⟩
abbrev cX3_makeAnew : ByteArray := prog_1_method_9_code
def yX3_makeAnew : MethodName := ⟨RX3, "makeAnew", "(I)I"⟩
abbrev cX3_type : ByteArray := prog_1_method_10_code
def yX3_type : MethodName := ⟨RX3, "type", "(C)I"⟩
abbrev cX3_clearPad : ByteArray := prog_1_method_11_code
def yX3_clearPad : MethodName := ⟨RX3, "clearPad", "()I"⟩
abbrev cX3_undo : ByteArray := prog_1_method_12_code
def yX3_undo : MethodName := ⟨RX3, "undo", "()I"⟩
abbrev cX3_entry : ByteArray := prog_1_method_15_code
def yX3_entry : MethodName := ⟨RX3, "entry", "(II)I"⟩
abbrev cX3_named : ByteArray := prog_1_method_16_code
def yX3_named : MethodName := ⟨RX3, "named", "(I)I"⟩
abbrev cX3_at : ByteArray := prog_1_method_18_code
def yX3_at : MethodName := ⟨RX3, "at", "(I)I"⟩
abbrev cX3_fits : ByteArray := prog_1_method_19_code
def yX3_fits : MethodName := ⟨RX3, "fits", "(I)I"⟩
abbrev cX3_beginning : ByteArray := prog_1_method_20_code
def yX3_beginning : MethodName := ⟨RX3, "beginning", "(II)I"⟩
abbrev cX3_count : ByteArray := prog_1_method_21_code
def yX3_count : MethodName := ⟨RX3, "count", "(I)I"⟩
abbrev cX3_settle : ByteArray := prog_1_method_22_code
def yX3_settle : MethodName := ⟨RX3, "settle", "(I)I"⟩
def RX4 : String := "MemberShelfModel"
def TX4 : u_T := fun k => match k with
  | _ => ("", "", "", false)
def tyX4 : Nat → FieldType := fun k => match k with
  | _ => .int
abbrev wsX40 : List Cond := u_ws RX4 TX4 0
theorem nmX4 : ∀ a, a < 0 → ∀ b, b < 0 → a ≠ b → (TX4 a).2.1 ≠ (TX4 b).2.1 := by decide +kernel
theorem tyX4_ok : ∀ k, k < 0 → parseFieldDescriptor (TX4 k).2.2.1 = some (tyX4 k) := by decide +kernel
def RJ9 : String := "java/lang/Math"
def TJ9 : u_T := fun k => match k with
  | _ => ("", "", "", false)
def tyJ9 : Nat → FieldType := fun k => match k with
  | _ => .int
abbrev wsJ90 : List Cond := u_ws RJ9 TJ9 0
theorem nmJ9 : ∀ a, a < 0 → ∀ b, b < 0 → a ≠ b → (TJ9 a).2.1 ≠ (TJ9 b).2.1 := by decide +kernel
theorem tyJ9_ok : ∀ k, k < 0 → parseFieldDescriptor (TJ9 k).2.2.1 = some (tyJ9 k) := by decide +kernel
abbrev cJ9_max_7cf53 : ByteArray := prog_7_method_65_code
def yJ9_max_7cf53 : MethodName := ⟨RJ9, "max", "(II)I"⟩
def RJ10 : String := "java/lang/System"
def TJ10 : u_T := fun k => match k with
  | _ => ("", "", "", false)
def tyJ10 : Nat → FieldType := fun k => match k with
  | _ => .int
abbrev wsJ100 : List Cond := u_ws RJ10 TJ10 0
theorem nmJ10 : ∀ a, a < 0 → ∀ b, b < 0 → a ≠ b → (TJ10 a).2.1 ≠ (TJ10 b).2.1 := by decide +kernel
theorem tyJ10_ok : ∀ k, k < 0 → parseFieldDescriptor (TJ10 k).2.2.1 = some (tyJ10 k) := by decide +kernel
def RL : String := "MemberShelfLaw"
abbrev cL_cell : ByteArray := method_2_code
def yL_cell : MethodName := ⟨RL, "cell", "([II)I"⟩
abbrev cL_up : ByteArray := method_3_code
def yL_up : MethodName := ⟨RL, "up", "(II)I"⟩
abbrev cL_there : ByteArray := method_4_code
def yL_there : MethodName := ⟨RL, "there", "(I)I"⟩
abbrev cL_name : ByteArray := method_5_code
def yL_name : MethodName := ⟨RL, "name", "(LMemberShelf;I)Z"⟩
abbrev cL_number : ByteArray := method_6_code
def yL_number : MethodName := ⟨RL, "number", "(LMemberShelf;I)Z"⟩
abbrev cL_isStep : ByteArray := method_7_code
def yL_isStep : MethodName := ⟨RL, "isStep", "(LMemberShelf;LMemberShelf;II)Z"⟩
abbrev cL_areAlike : ByteArray := method_8_code
def yL_areAlike : MethodName := ⟨RL, "areAlike", "(LMemberShelf;LMemberShelf;)Z"⟩
abbrev cL_isWell : ByteArray := method_9_code
def yL_isWell : MethodName := ⟨RL, "isWell", "(LMemberShelf;)Z"⟩
abbrev cL_law : ByteArray := code
def yL_law : MethodName := ⟨RL, "law", "([I)Z"⟩
theorem inJ9 : ∀ w ∈ wsJ90, w ∈ lw_tbl := by decide +kernel
theorem inJ10 : ∀ w ∈ wsJ100, w ∈ lw_tbl := by decide +kernel
abbrev vwCl : List vw_C := [(RX0, TX0, 2), (RX1, TX1, 8), (RX2, TX2, 10), (RX3, TX3, 6)]
theorem inX0 : ∀ w ∈ u_ws RX0 TX0 2, w ∈ lw_tbl := by decide +kernel
theorem inX1 : ∀ w ∈ u_ws RX1 TX1 8, w ∈ lw_tbl := by decide +kernel
theorem inX2 : ∀ w ∈ u_ws RX2 TX2 10, w ∈ lw_tbl := by decide +kernel
theorem inX3 : ∀ w ∈ u_ws RX3 TX3 6, w ∈ lw_tbl := by decide +kernel


